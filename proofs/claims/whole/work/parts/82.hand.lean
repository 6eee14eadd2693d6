/-! HANDING ON: the class's call, the reference -/
def haA (B : Option (Nat × Nat)) (w : Nat) : Int32 := match B with
  | none => -1
  | some b => if w = 0 then nI b.1 else nI b.2
def hER (σ : sMem) (B : Option (Nat × Nat)) : Prop := match B with
  | none => σ 0 0 50 = -1 ∧ σ 0 0 51 = -1
  | some b => σ 0 0 50 = nI b.1 ∧ σ 0 0 51 = nI b.2
def HG (σ σ' : sMem) : Prop := (∀ i, i ≠ 0 → σ' i = σ i) ∧ ∀ k, k ≠ 50 → k ≠ 51 → σ' 0 0 k = σ 0 0 k
theorem HG.rf (σ : sMem) : HG σ σ := ⟨fun _ _ => rfl, fun _ _ _ => rfl⟩
theorem HG.tr {a b c : sMem} (h : HG a b) (h' : HG b c) : HG a c := ⟨fun i hi => (h'.1 i hi).trans (h.1 i hi), fun k h1 h2 => (h'.2 k h1 h2).trans (h.2 k h1 h2)⟩
/-- the reference's people as nobody asks them -/
def gpQ (σ t : sMem) (P : Nat) : Prop := ∀ p, p < P → (fN t (pP t p) (pQ t p) < 1000000 → σ 20 0 p = nI (pl t (pQ t p) (pP t p) + 1) ∧ (∀ k, k ≤ pl t (pQ t p) (pP t p) → σ 18 p k = nI (pth t (pQ t p) k (pP t p, pT t p)).1 ∧ σ 19 p k = nI (pth t (pQ t p) k (pP t p, pT t p)).2) ∧ σ 22 0 p = nI (pT t p + fN t (pP t p) (pQ t p))) ∧ (¬ fN t (pP t p) (pQ t p) < 1000000 → σ 20 0 p = 0)
def HRr (σ t : sMem) (N P S : Nat) : Prop := TD σ N P S ∧ σ 6 = t 6 ∧ σ 14 = t 14 ∧ σ 15 = t 15 ∧ gpQ σ t P
theorem HRr.cg {σ σ' t : sMem} {N P S : Nat} (h : HRr σ t N P S) (hf : HG σ σ') : HRr σ' t N P S := by
  refine ⟨h.1.congr (hf.1 3 (by decide)) (hf.1 6 (by decide)) (hf.1 8 (by decide)) (hf.1 13 (by decide)) (hf.1 14 (by decide)) (hf.1 15 (by decide)), (hf.1 6 (by decide)).trans h.2.1, (hf.1 14 (by decide)).trans h.2.2.1, (hf.1 15 (by decide)).trans h.2.2.2.1, fun p hp => ?_⟩
  rw [hf.1 18 (by decide), hf.1 19 (by decide), hf.1 20 (by decide), hf.1 22 (by decide)]
  exact h.2.2.2.2 p hp
/-- entries of p up to the k-th, that are at x -/
def hdK (t : sMem) (y : Nat) (R : Nat → Nat → Nat → Nat → Nat × Nat → Prop) (x m U l p k : Nat) (o : Nat × Nat) : Prop := ∃ j, j < k ∧ (pth t (pQ t p) j (pP t p, pT t p)).1 = x ∧ m ≤ (pth t (pQ t p) j (pP t p, pT t p)).2 ∧ hdZ t y R x U l p (pth t (pQ t p) j (pP t p, pT t p)).2 o
theorem hdK_s {t : sMem} {y x m U l p k : Nat} {R : Nat → Nat → Nat → Nat → Nat × Nat → Prop} (o : Nat × Nat) : hdK t y R x m U l p (k + 1) o ↔ (hdK t y R x m U l p k o ∨ ((pth t (pQ t p) k (pP t p, pT t p)).1 = x ∧ m ≤ (pth t (pQ t p) k (pP t p, pT t p)).2 ∧ hdZ t y R x U l p (pth t (pQ t p) k (pP t p, pT t p)).2 o)) := by
  unfold hdK
  constructor
  · rintro ⟨j, h1, h⟩
    by_cases e : j = k
    · subst e; exact Or.inr h
    · exact Or.inl ⟨j, by omega, h⟩
  · rintro (⟨j, h1, h⟩ | h)
    · exact ⟨j, by omega, h⟩
    · exact ⟨k, Nat.lt_succ_self k, h⟩
theorem hdK_iff {t : sMem} {P y x m U l p : Nat} {R : Nat → Nat → Nat → Nat → Nat × Nat → Prop} (hp : p < P) (h1 : U.testBit p = false) (h2 : bt (t 6 p 4) y = true) (h3 : fN t x y < 1000000) (h4 : fN t y (pQ t p) < 1000000) (h5 : fN t (pP t p) (pQ t p) < 1000000) (o : Nat × Nat) : hdK t y R x m U l p (pl t (pQ t p) (pP t p) + 1) o ↔ hd1 t P y R x m U l p o := by
  constructor
  · rintro ⟨j, j1, j2, j3, j4⟩
    exact ⟨_, ⟨hp, h1, h2, h3, h4, ⟨h5, j, by omega, Prod.ext j2 rfl⟩, j3⟩, j4⟩
  · rintro ⟨w, ⟨-, -, -, -, -, ⟨-, j, j1, j2⟩, j3⟩, j4⟩
    refine ⟨j, by omega, by rw [j2], by rw [j2]; exact j3, ?_⟩
    rw [j2]
    exact j4
section
variable {l : Launch} {D0 : va_G} {b0 : Nat} {ty : Nat → ClassId} {ad av : Nat → Nat}
theorem c1_findU_36 (d : Nat) (σ t : sMem) (N P S G : Nat) (hC : CT σ t 36 N P S G) (hM : MI t N P S G) (x n : Nat) (hx : x < S) (hn : n ≤ 2) : yMet l D0 b0 ty ad av lay (d + 5) 0 mX1_find [aR 94, aR 36, aI (nI x), aI (nI n)] σ (fun r σ' => r = [] ∧ (∀ i, i ≠ 94 → i ≠ 95 → σ' i = σ i) ∧ ∃ B, LU none (hdN t P (sY t x) (n + 1) (sX t x) (sT t x) 0 0) B ∧ hE σ' B ∧ hOK B) (fun _ _ => False) := by
  rcases (show n = 0 ∨ n = 1 ∨ n = 2 by omega) with rfl | rfl | rfl
  · exact c1_find_36 (d + 2) σ t N P S G hC hM x 0 hx hn
  · exact c1_find_36 (d + 1) σ t N P S G hC hM x 1 hx hn
  · exact c1_find_36 d σ t N P S G hC hM x 2 hx hn
theorem c8_hand_36_x0 (d : Nat) (σ t : sMem) (N P S G : Nat) (h : HR σ t 36 N P S G) (x n w : Int32) (h0 : ¬ (0 ≤ x ∧ x ≤ nI S - 1)) : yMet l D0 b0 ty ad av lay (d + 7) 1 mX8_hand [aR 34, aI (x), aI (n), aI (w)] σ (fun _ _ => False) (fun e σ' => e = yNSE ∧ σ' = σ) := by
  refine yMet_intro lay_nd kX8_hand xX8_ok (yYX8_hand_ok) (by decide +kernel) rfl ?_
  intro K hK
  have hN := h.2.2.1.1.1.1.1
  have hP := h.2.2.1.1.1.2.2.2.1.2
  have hS8 := h.2.2.1.1.1.2.2.2.2.1.2
  iterate 3 refine hK _ _ _ _ _ ?_
  refine Or.inr (Or.inr ⟨0, 1, rfl, yDX (c8_checkStranger_36_x _ _ S (by omega) h.1 h.2.1.2.2.1 x h0) (fun _ _ h => h.elim) ?_⟩)
  exact fun e σ' h => h
theorem c8_hand_36_x1 (d : Nat) (σ t : sMem) (N P S G : Nat) (h : HR σ t 36 N P S G) (x n w : Int32) (h0 : 0 ≤ x ∧ x ≤ nI S - 1) (h1 : ¬ (0 ≤ n ∧ n ≤ 2)) : yMet l D0 b0 ty ad av lay (d + 7) 1 mX8_hand [aR 34, aI (x), aI (n), aI (w)] σ (fun _ _ => False) (fun e σ' => e = yIAE ∧ σ' = σ) := by
  refine yMet_intro lay_nd kX8_hand xX8_ok (yYX8_hand_ok) (by decide +kernel) rfl ?_
  intro K hK
  have hN := h.2.2.1.1.1.1.1
  have hP := h.2.2.1.1.1.2.2.2.1.2
  have hS8 := h.2.2.1.1.1.2.2.2.2.1.2
  iterate 3 refine hK _ _ _ _ _ ?_
  refine Or.inl (calD (c8_checkStranger_36_ok _ _ S (by omega) h.1 h.2.1.2.2.1 x h0) ?_)
  rintro r σ' ⟨rfl, hσ⟩
  subst σ'
  show K 1 5 [some (aR 34), some (aI (x)), some (aI (n)), some (aI (w))] [] σ
  iterate 2 refine hK _ _ _ _ _ ?_
  refine And.intro (fun h9 => ?_) (fun h9 => ?_)
  · refine hK _ _ _ _ _ ?_
    exact ⟨0, rfl, rfl, rfl⟩
  · iterate 3 refine hK _ _ _ _ _ ?_
    refine And.intro (fun h8 => absurd ⟨Int32.not_lt.mp h9, h8⟩ h1) (fun _ => ?_)
    refine hK _ _ _ _ _ ?_
    exact ⟨0, rfl, rfl, rfl⟩
theorem c8_hand_36_x2 (d : Nat) (σ t : sMem) (N P S G : Nat) (h : HR σ t 36 N P S G) (x w : Int32) (n : Nat) (h0 : 0 ≤ x ∧ x ≤ nI S - 1) (hn : n ≤ 2) (h2 : ¬ (0 ≤ w ∧ w ≤ nI 2 - 1)) : yMet l D0 b0 ty ad av lay (d + 7) 1 mX8_hand [aR 34, aI (x), aI (nI n), aI (w)] σ (fun _ _ => False) (fun e σ' => e = yIAE ∧ σ' = σ) := by
  refine yMet_intro lay_nd kX8_hand xX8_ok (yYX8_hand_ok) (by decide +kernel) rfl ?_
  intro K hK
  have hN := h.2.2.1.1.1.1.1
  have hP := h.2.2.1.1.1.2.2.2.1.2
  have hS8 := h.2.2.1.1.1.2.2.2.2.1.2
  iterate 3 refine hK _ _ _ _ _ ?_
  refine Or.inl (calD (c8_checkStranger_36_ok _ _ S (by omega) h.1 h.2.1.2.2.1 x h0) ?_)
  rintro r σ' ⟨rfl, hσ⟩
  subst σ'
  show K 1 5 [some (aR 34), some (aI (x)), some (aI (nI n)), some (aI (w))] [] σ
  iterate 2 refine hK _ _ _ _ _ ?_
  refine And.intro (fun h9 => absurd h9 (nI_pos (by omega))) (fun _ => ?_)
  iterate 3 refine hK _ _ _ _ _ ?_
  refine And.intro (fun _ => ?_) (fun h9 => absurd ((nI_leI (b := 2) (by omega) (by decide)).mpr hn) h9)
  iterate 3 refine hK _ _ _ _ _ ?_
  refine Or.inr (Or.inr ⟨0, 1, rfl, yDX (c8_checkBelow_x _ _ 2 (by decide) w h2) (fun _ _ h => h.elim) ?_⟩)
  exact fun e σ' h => h
theorem c8_hand_36_ok (d : Nat) (σ t : sMem) (N P S G : Nat) (h : HR σ t 36 N P S G) (x n w : Nat) (hx : x < S) (hn : n ≤ 2) (hw : w ≤ 1) : yMet l D0 b0 ty ad av lay (d + 7) 0 mX8_hand [aR 34, aI (nI x), aI (nI n), aI (nI w)] σ (fun r σ' => (∀ i, i ≠ 94 → i ≠ 95 → σ' i = σ i) ∧ ∃ B, LU none (hdN t P (sY t x) (n + 1) (sX t x) (sT t x) 0 0) B ∧ r = [aI (haA B w)]) (fun _ _ => False) := by
  refine yMet_intro lay_nd kX8_hand xX8_ok (yYX8_hand_ok) (by decide +kernel) rfl ?_
  intro K hK
  have hN := h.2.2.1.1.1.1.1
  have hP := h.2.2.1.1.1.2.2.2.1.2
  have hS8 := h.2.2.1.1.1.2.2.2.2.1.2
  iterate 3 refine hK _ _ _ _ _ ?_
  refine Or.inl (calD (c8_checkStranger_36_ok _ _ S (by omega) h.1 h.2.1.2.2.1 (nI x) (nI_isIn (by omega) hx)) ?_)
  rintro r σ' ⟨rfl, hσ⟩
  subst σ'
  show K 0 5 [some (aR 34), some (aI (nI x)), some (aI (nI n)), some (aI (nI w))] [] σ
  iterate 2 refine hK _ _ _ _ _ ?_
  refine And.intro (fun h9 => absurd h9 (nI_pos (by omega))) (fun _ => ?_)
  iterate 3 refine hK _ _ _ _ _ ?_
  refine And.intro (fun _ => ?_) (fun h9 => absurd ((nI_leI (b := 2) (by omega) (by decide)).mpr hn) h9)
  iterate 3 refine hK _ _ _ _ _ ?_
  refine Or.inl (calD (c8_checkBelow_ok _ _ 2 (by decide) (nI w) (nI_isIn (n := 2) (by decide) (by omega))) ?_)
  rintro r σ' ⟨rfl, hσ⟩
  subst σ'
  show K 0 30 [some (aR 34), some (aI (nI x)), some (aI (nI n)), some (aI (nI w))] [] σ
  iterate 4 refine hK _ _ _ _ _ ?_
  show K _ _ _ _ _
  rw [show σ 34 0 3 = nI 36 from h.1]
  show K _ _ _ _ _
  rw [show (nI 36).toNatClampNeg = 36 from rfl]
  iterate 3 refine hK _ _ _ _ _ ?_
  refine Or.inr (Or.inl (yD0 (c1_findU_36 _ σ t N P S G h.2.1 h.2.2.1 x n hx hn) ?_))
  rintro r μ ⟨rfl, hf, B, hL, hE9, hO9⟩
  show K 0 43 [some (aR 34), some (aI (nI x)), some (aI (nI n)), some (aI (nI w))] [] μ
  rcases B with _ | b
  · obtain ⟨e3, e4⟩ := hE9
    iterate 3 refine hK _ _ _ _ _ ?_
    show K _ _ _ _ _
    rw [show μ 94 0 4 = 1000000 from e4]
    iterate 2 refine hK _ _ _ _ _ ?_
    refine And.intro (fun h9 => absurd rfl h9) (fun _ => ?_)
    iterate 2 refine hK _ _ _ _ _ ?_
    exact ⟨hf, none, hL, rfl⟩
  · obtain ⟨e3, e4⟩ := hE9
    have o9 := hO9 b rfl
    iterate 3 refine hK _ _ _ _ _ ?_
    show K _ _ _ _ _
    rw [show μ 94 0 4 = nI b.2 from e4]
    iterate 2 refine hK _ _ _ _ _ ?_
    refine And.intro (fun _ => ?_) (fun h9 => absurd ((nI_eq (b := 1000000) (by omega) (by decide)).mp h9) (by omega))
    iterate 2 refine hK _ _ _ _ _ ?_
    refine And.intro (fun h8 => ?_) (fun h8 => ?_)
    · have hw0 : ¬ w = 0 := fun e => h8 (by rw [e]; rfl)
      iterate 3 refine hK _ _ _ _ _ ?_
      show K _ _ _ _ _
      rw [show μ 94 0 4 = nI b.2 from e4]
      refine hK _ _ _ _ _ ?_
      exact ⟨hf, some b, hL, by rw [show haA (some b) w = if w = 0 then nI b.1 else nI b.2 from rfl, if_neg hw0]⟩
    · have hw0 : w = 0 := (nI_eq (b := 0) (by omega) (by decide)).mp h8
      iterate 3 refine hK _ _ _ _ _ ?_
      show K _ _ _ _ _
      rw [show μ 94 0 3 = nI b.1 from e3]
      iterate 2 refine hK _ _ _ _ _ ?_
      exact ⟨hf, some b, hL, by rw [show haA (some b) w = if w = 0 then nI b.1 else nI b.2 from rfl, if_pos hw0]⟩
theorem c1_findU_54 (d : Nat) (σ t : sMem) (N P S G : Nat) (hC : CT σ t 54 N P S G) (hM : MI t N P S G) (x n : Nat) (hx : x < S) (hn : n ≤ 2) : yMet l D0 b0 ty ad av lay (d + 5) 0 mX1_find [aR 94, aR 54, aI (nI x), aI (nI n)] σ (fun r σ' => r = [] ∧ (∀ i, i ≠ 94 → i ≠ 95 → σ' i = σ i) ∧ ∃ B, LU none (hdN t P (sY t x) (n + 1) (sX t x) (sT t x) 0 0) B ∧ hE σ' B ∧ hOK B) (fun _ _ => False) := by
  rcases (show n = 0 ∨ n = 1 ∨ n = 2 by omega) with rfl | rfl | rfl
  · exact c1_find_54 (d + 2) σ t N P S G hC hM x 0 hx hn
  · exact c1_find_54 (d + 1) σ t N P S G hC hM x 1 hx hn
  · exact c1_find_54 d σ t N P S G hC hM x 2 hx hn
theorem c8_hand_54_x0 (d : Nat) (σ t : sMem) (N P S G : Nat) (h : HR σ t 54 N P S G) (x n w : Int32) (h0 : ¬ (0 ≤ x ∧ x ≤ nI S - 1)) : yMet l D0 b0 ty ad av lay (d + 7) 1 mX8_hand [aR 34, aI (x), aI (n), aI (w)] σ (fun _ _ => False) (fun e σ' => e = yNSE ∧ σ' = σ) := by
  refine yMet_intro lay_nd kX8_hand xX8_ok (yYX8_hand_ok) (by decide +kernel) rfl ?_
  intro K hK
  have hN := h.2.2.1.1.1.1.1
  have hP := h.2.2.1.1.1.2.2.2.1.2
  have hS8 := h.2.2.1.1.1.2.2.2.2.1.2
  iterate 3 refine hK _ _ _ _ _ ?_
  refine Or.inr (Or.inr ⟨0, 1, rfl, yDX (c8_checkStranger_54_x _ _ S (by omega) h.1 h.2.1.2.2.1 x h0) (fun _ _ h => h.elim) ?_⟩)
  exact fun e σ' h => h
theorem c8_hand_54_x1 (d : Nat) (σ t : sMem) (N P S G : Nat) (h : HR σ t 54 N P S G) (x n w : Int32) (h0 : 0 ≤ x ∧ x ≤ nI S - 1) (h1 : ¬ (0 ≤ n ∧ n ≤ 2)) : yMet l D0 b0 ty ad av lay (d + 7) 1 mX8_hand [aR 34, aI (x), aI (n), aI (w)] σ (fun _ _ => False) (fun e σ' => e = yIAE ∧ σ' = σ) := by
  refine yMet_intro lay_nd kX8_hand xX8_ok (yYX8_hand_ok) (by decide +kernel) rfl ?_
  intro K hK
  have hN := h.2.2.1.1.1.1.1
  have hP := h.2.2.1.1.1.2.2.2.1.2
  have hS8 := h.2.2.1.1.1.2.2.2.2.1.2
  iterate 3 refine hK _ _ _ _ _ ?_
  refine Or.inl (calD (c8_checkStranger_54_ok _ _ S (by omega) h.1 h.2.1.2.2.1 x h0) ?_)
  rintro r σ' ⟨rfl, hσ⟩
  subst σ'
  show K 1 5 [some (aR 34), some (aI (x)), some (aI (n)), some (aI (w))] [] σ
  iterate 2 refine hK _ _ _ _ _ ?_
  refine And.intro (fun h9 => ?_) (fun h9 => ?_)
  · refine hK _ _ _ _ _ ?_
    exact ⟨0, rfl, rfl, rfl⟩
  · iterate 3 refine hK _ _ _ _ _ ?_
    refine And.intro (fun h8 => absurd ⟨Int32.not_lt.mp h9, h8⟩ h1) (fun _ => ?_)
    refine hK _ _ _ _ _ ?_
    exact ⟨0, rfl, rfl, rfl⟩
theorem c8_hand_54_x2 (d : Nat) (σ t : sMem) (N P S G : Nat) (h : HR σ t 54 N P S G) (x w : Int32) (n : Nat) (h0 : 0 ≤ x ∧ x ≤ nI S - 1) (hn : n ≤ 2) (h2 : ¬ (0 ≤ w ∧ w ≤ nI 2 - 1)) : yMet l D0 b0 ty ad av lay (d + 7) 1 mX8_hand [aR 34, aI (x), aI (nI n), aI (w)] σ (fun _ _ => False) (fun e σ' => e = yIAE ∧ σ' = σ) := by
  refine yMet_intro lay_nd kX8_hand xX8_ok (yYX8_hand_ok) (by decide +kernel) rfl ?_
  intro K hK
  have hN := h.2.2.1.1.1.1.1
  have hP := h.2.2.1.1.1.2.2.2.1.2
  have hS8 := h.2.2.1.1.1.2.2.2.2.1.2
  iterate 3 refine hK _ _ _ _ _ ?_
  refine Or.inl (calD (c8_checkStranger_54_ok _ _ S (by omega) h.1 h.2.1.2.2.1 x h0) ?_)
  rintro r σ' ⟨rfl, hσ⟩
  subst σ'
  show K 1 5 [some (aR 34), some (aI (x)), some (aI (nI n)), some (aI (w))] [] σ
  iterate 2 refine hK _ _ _ _ _ ?_
  refine And.intro (fun h9 => absurd h9 (nI_pos (by omega))) (fun _ => ?_)
  iterate 3 refine hK _ _ _ _ _ ?_
  refine And.intro (fun _ => ?_) (fun h9 => absurd ((nI_leI (b := 2) (by omega) (by decide)).mpr hn) h9)
  iterate 3 refine hK _ _ _ _ _ ?_
  refine Or.inr (Or.inr ⟨0, 1, rfl, yDX (c8_checkBelow_x _ _ 2 (by decide) w h2) (fun _ _ h => h.elim) ?_⟩)
  exact fun e σ' h => h
theorem c8_hand_54_ok (d : Nat) (σ t : sMem) (N P S G : Nat) (h : HR σ t 54 N P S G) (x n w : Nat) (hx : x < S) (hn : n ≤ 2) (hw : w ≤ 1) : yMet l D0 b0 ty ad av lay (d + 7) 0 mX8_hand [aR 34, aI (nI x), aI (nI n), aI (nI w)] σ (fun r σ' => (∀ i, i ≠ 94 → i ≠ 95 → σ' i = σ i) ∧ ∃ B, LU none (hdN t P (sY t x) (n + 1) (sX t x) (sT t x) 0 0) B ∧ r = [aI (haA B w)]) (fun _ _ => False) := by
  refine yMet_intro lay_nd kX8_hand xX8_ok (yYX8_hand_ok) (by decide +kernel) rfl ?_
  intro K hK
  have hN := h.2.2.1.1.1.1.1
  have hP := h.2.2.1.1.1.2.2.2.1.2
  have hS8 := h.2.2.1.1.1.2.2.2.2.1.2
  iterate 3 refine hK _ _ _ _ _ ?_
  refine Or.inl (calD (c8_checkStranger_54_ok _ _ S (by omega) h.1 h.2.1.2.2.1 (nI x) (nI_isIn (by omega) hx)) ?_)
  rintro r σ' ⟨rfl, hσ⟩
  subst σ'
  show K 0 5 [some (aR 34), some (aI (nI x)), some (aI (nI n)), some (aI (nI w))] [] σ
  iterate 2 refine hK _ _ _ _ _ ?_
  refine And.intro (fun h9 => absurd h9 (nI_pos (by omega))) (fun _ => ?_)
  iterate 3 refine hK _ _ _ _ _ ?_
  refine And.intro (fun _ => ?_) (fun h9 => absurd ((nI_leI (b := 2) (by omega) (by decide)).mpr hn) h9)
  iterate 3 refine hK _ _ _ _ _ ?_
  refine Or.inl (calD (c8_checkBelow_ok _ _ 2 (by decide) (nI w) (nI_isIn (n := 2) (by decide) (by omega))) ?_)
  rintro r σ' ⟨rfl, hσ⟩
  subst σ'
  show K 0 30 [some (aR 34), some (aI (nI x)), some (aI (nI n)), some (aI (nI w))] [] σ
  iterate 4 refine hK _ _ _ _ _ ?_
  show K _ _ _ _ _
  rw [show σ 34 0 3 = nI 54 from h.1]
  show K _ _ _ _ _
  rw [show (nI 54).toNatClampNeg = 54 from rfl]
  iterate 3 refine hK _ _ _ _ _ ?_
  refine Or.inr (Or.inl (yD0 (c1_findU_54 _ σ t N P S G h.2.1 h.2.2.1 x n hx hn) ?_))
  rintro r μ ⟨rfl, hf, B, hL, hE9, hO9⟩
  show K 0 43 [some (aR 34), some (aI (nI x)), some (aI (nI n)), some (aI (nI w))] [] μ
  rcases B with _ | b
  · obtain ⟨e3, e4⟩ := hE9
    iterate 3 refine hK _ _ _ _ _ ?_
    show K _ _ _ _ _
    rw [show μ 94 0 4 = 1000000 from e4]
    iterate 2 refine hK _ _ _ _ _ ?_
    refine And.intro (fun h9 => absurd rfl h9) (fun _ => ?_)
    iterate 2 refine hK _ _ _ _ _ ?_
    exact ⟨hf, none, hL, rfl⟩
  · obtain ⟨e3, e4⟩ := hE9
    have o9 := hO9 b rfl
    iterate 3 refine hK _ _ _ _ _ ?_
    show K _ _ _ _ _
    rw [show μ 94 0 4 = nI b.2 from e4]
    iterate 2 refine hK _ _ _ _ _ ?_
    refine And.intro (fun _ => ?_) (fun h9 => absurd ((nI_eq (b := 1000000) (by omega) (by decide)).mp h9) (by omega))
    iterate 2 refine hK _ _ _ _ _ ?_
    refine And.intro (fun h8 => ?_) (fun h8 => ?_)
    · have hw0 : ¬ w = 0 := fun e => h8 (by rw [e]; rfl)
      iterate 3 refine hK _ _ _ _ _ ?_
      show K _ _ _ _ _
      rw [show μ 94 0 4 = nI b.2 from e4]
      refine hK _ _ _ _ _ ?_
      exact ⟨hf, some b, hL, by rw [show haA (some b) w = if w = 0 then nI b.1 else nI b.2 from rfl, if_neg hw0]⟩
    · have hw0 : w = 0 := (nI_eq (b := 0) (by omega) (by decide)).mp h8
      iterate 3 refine hK _ _ _ _ _ ?_
      show K _ _ _ _ _
      rw [show μ 94 0 3 = nI b.1 from e3]
      iterate 2 refine hK _ _ _ _ _ ?_
      exact ⟨hf, some b, hL, by rw [show haA (some b) w = if w = 0 then nI b.1 else nI b.2 from rfl, if_pos hw0]⟩
def RR9 (l : Launch) (D0 : va_G) (b0 : Nat) (ty : Nat → ClassId) (t : sMem) (N P S y d n : Nat) : Prop := ∀ (σ : sMem) (x m U l9 : Nat) (B : Option (Nat × Nat)), HRr σ t N P S → x < N → x ≠ y → m ≤ 3000 → U < 1024 → l9 + 200000 * n ≤ 400000 → hER σ B → hOK B → sMet l D0 b0 ty lay (d + n + 1) mX9_hands [aR 0, aI (nI y), aI (nI x), aI (nI m), aI (nI U), aI (nI n), aI (nI l9)] σ (fun r σ' => r = [] ∧ HG σ σ' ∧ ∃ B', LU B (hdN t P y (n + 1) x m U l9) B' ∧ hER σ' B' ∧ hOK B')
set_option maxHeartbeats 4000000 in
theorem c9_handsS (d : Nat) (t : sMem) (N P S y n : Nat) (hm : MC t N P S) (hy : y < N) (hn2 : n ≤ 2) (hrec : ∀ k, n = k + 1 → RR9 l D0 b0 ty t N P S y d k) (σ : sMem) (x m U l9 : Nat) (B : Option (Nat × Nat)) (hH : HRr σ t N P S) (hx : x < N) (hxy : x ≠ y) (hm3 : m ≤ 3000) (hU : U < 1024) (hl : l9 + 200000 * n ≤ 400000) (hE0 : hER σ B) (hO : hOK B) : sMet l D0 b0 ty lay (d + n + 1) mX9_hands [aR 0, aI (nI y), aI (nI x), aI (nI m), aI (nI U), aI (nI n), aI (nI l9)] σ (fun r σ' => r = [] ∧ HG σ σ' ∧ ∃ B', LU B (hdN t P y (n + 1) x m U l9) B' ∧ hER σ' B' ∧ hOK B') := by
  refine sMet_intro lay_nd kX9_hands xX9_ok (by decide +kernel) rfl ?_
  intro K hK
  have hN := hm.1.1.1
  have hP := hm.2.2.1
  iterate 2 refine hK _ _ _ _ ?_
  have L3 : ∀ (f : Nat) (p : Nat) (e8 e9 e10 e11 : Option AV) (μ : sMem) (B1 : Option (Nat × Nat)), p + f = P → HG σ μ → hER μ B1 → hOK B1 → LU B (fun o => (∃ q, q < p ∧ hd1 t P y (hdN t P y n) x m U l9 q o)) B1 → K 3 [some (aR 0), some (aI (nI y)), some (aI (nI x)), some (aI (nI m)), some (aI (nI U)), some (aI (nI n)), some (aI (nI l9)), some (aI (nI p)), e8, e9, e10, e11] [] μ := by
    intro f
    induction f with
    | zero =>
      intro p e8 e9 e10 e11 μ B1 hp hF hE1 hO1 hLU
      have hH_μ := hH.cg hF
      have s1_μ : μ 3 0 1 = nI P := hH_μ.1.2.2.2.1.1
      iterate 5 refine hK _ _ _ _ ?_
      refine And.intro (vp_in_nI (n := 1) (by decide) (by decide)) ?_
      rw [show (Int32.ofInt 1).toNatClampNeg = 1 from rfl]
      rw [show μ 3 0 1 = nI P from s1_μ]
      refine hK _ _ _ _ ?_
      refine And.intro (fun _ => ?_) (fun h9 => absurd ((nI_leI (by omega) (by omega)).mpr (by omega)) h9)
      refine hK _ _ _ _ ?_
      refine ⟨rfl, hF, B1, LU_cg hLU (fun o => ?_), hE1, hO1⟩
      constructor
      · rintro ⟨q, -, h⟩; exact ⟨q, h⟩
      · rintro ⟨q, h⟩; exact ⟨q, by have := h.elim (fun w hw => hw.1.1); omega, h⟩
    | succ f ih =>
      intro p e8 e9 e10 e11 μ B1 hp hF hE1 hO1 hLU
      have hH_μ := hH.cg hF
      have s1_μ : μ 3 0 1 = nI P := hH_μ.1.2.2.2.1.1
      have hpP : p < P := by omega
      have hqN := (hm.2.2.2.2.1 p hpP).2.1.2
      have haN := (hm.2.2.2.2.1 p hpP).1.2
      have p1_μ : μ 6 p 1 = nI (pQ t p) := by rw [hH_μ.2.1]; exact (hm.2.2.2.2.1 p hpP).2.1.1
      have p3_μ : μ 6 p 3 = nI (pV t p) := by rw [hH_μ.2.1]; exact (hm.2.2.2.2.1 p hpP).2.2.2.1
      have fa_μ : ∀ a b, a < N → b < N → μ 14 a b = nI (fN t a b) := fun a b ha hb => by rw [hH_μ.2.2.1]; exact (hm.1.1.2.1 a b ha hb).1
      have k4 : ((μ 6 p 4 >>> (nI y &&& 31)) &&& Int32.ofInt 1 = 0) ↔ bt (t 6 p 4) y = false := by
        rw [hH_μ.2.1]
        unfold bt
        rcases bit01 (t 6 p 4 >>> (nI y &&& 31)) with h | h
        · rw [show Int32.ofInt 1 = (1 : Int32) from rfl, h]; simp
        · rw [show Int32.ofInt 1 = (1 : Int32) from rfl, h]; simp
      iterate 5 refine hK _ _ _ _ ?_
      refine And.intro (vp_in_nI (n := 1) (by decide) (by decide)) ?_
      rw [show (Int32.ofInt 1).toNatClampNeg = 1 from rfl]
      rw [show μ 3 0 1 = nI P from s1_μ]
      refine hK _ _ _ _ ?_
      refine And.intro (fun h9 => absurd ((nI_leI (by omega) (by omega)).mp h9) (by omega)) (fun _ => ?_)
      have L299 : ∀ (e8 e9 e10 e11 : Option AV), (∀ o, ¬ hd1 t P y (hdN t P y n) x m U l9 p o) → K 299 [some (aR 0), some (aI (nI y)), some (aI (nI x)), some (aI (nI m)), some (aI (nI U)), some (aI (nI n)), some (aI (nI l9)), some (aI (nI p)), e8, e9, e10, e11] [] μ := by
        intro e8 e9 e10 e11 hn
        refine hK _ _ _ _ ?_
        show K _ _ _ _
        rw [show nI p + Int32.ofInt 1 = nI (p + 1) from nIs _]
        refine hK _ _ _ _ ?_
        exact ih (p + 1) _ _ _ _ μ B1 (by omega) hF hE1 hO1 (LU_cg hLU (fun o => by rw [hd_s]; exact ⟨Or.inl, fun q => q.elim id (fun q => absurd q (hn o))⟩))
      iterate 7 refine hK _ _ _ _ ?_
      refine And.intro (fun h8 => L299 _ _ _ _ (fun o h => h.elim (fun w hw => absurd ((bt_nI U p (by omega)).symm.trans (decide_eq_true h8)) (by rw [hw.1.2.1]; decide)))) (fun h8 => ?_)
      have cb : U.testBit p = false := by rw [← bt_nI U p (by omega)]; exact decide_eq_false h8
      iterate 4 refine hK _ _ _ _ ?_
      refine And.intro (vp_in_nI (n := p) (by omega) (by decide)) ?_
      rw [nI_clamp (show p < 2 ^ 31 by omega)]
      iterate 2 refine hK _ _ _ _ ?_
      refine And.intro (by first | omega | (rw [nI_clamp (by omega)]; omega)) (And.intro (vp_in_nI (n := 4) (by decide) (by decide)) ?_)
      rw [show (Int32.ofInt 4).toNatClampNeg = 4 from rfl]
      iterate 5 refine hK _ _ _ _ ?_
      refine And.intro (fun h7 => L299 _ _ _ _ (fun o h => h.elim (fun w hw => by have q := k4.mp h7; rw [hw.1.2.2.1] at q; cases q))) (fun h7 => ?_)
      have ck : bt (t 6 p 4) y = true := by
        cases hq : bt (t 6 p 4) y with
        | true => rfl
        | false => exact absurd (k4.mpr hq) h7
      iterate 4 refine hK _ _ _ _ ?_
      refine calD (c9_isWay _ _ x y (by omega) (by omega)) ?_
      rintro r σ' ⟨rfl, hσ⟩
      subst σ'
      show K 47 [some (aR 0), some (aI (nI y)), some (aI (nI x)), some (aI (nI m)), some (aI (nI U)), some (aI (nI n)), some (aI (nI l9)), some (aI (nI p)), e8, e9, e10, e11] [aI (if μ 14 x y < 1000000 then 1 else 0)] μ
      refine hK _ _ _ _ ?_
      refine And.intro (fun h6 => L299 _ _ _ _ (fun o h => h.elim (fun w hw => absurd hw.1.2.2.2.1 (fun q => ite_eq h6 (by rw [fa_μ x y hx hy]; exact (nI_lt1 (hm.1.1.2.1 x y hx hy).2.1).mpr q))))) (fun h6 => ?_)
      have cw : fN t x y < 1000000 := by
        have q := ite_ne h6
        rw [fa_μ x y hx hy] at q
        exact (nI_lt1 (hm.1.1.2.1 x y hx hy).2.1).mp q
      iterate 6 refine hK _ _ _ _ ?_
      refine And.intro (vp_in_nI (n := p) (by omega) (by decide)) ?_
      rw [nI_clamp (show p < 2 ^ 31 by omega)]
      iterate 2 refine hK _ _ _ _ ?_
      refine And.intro (by first | omega | (rw [nI_clamp (by omega)]; omega)) (And.intro (vp_in_nI (n := 1) (by decide) (by decide)) ?_)
      rw [show (Int32.ofInt 1).toNatClampNeg = 1 from rfl]
      rw [show μ 6 p 1 = nI (pQ t p) from p1_μ]
      refine hK _ _ _ _ ?_
      refine calD (c9_isWay _ _ y (pQ t p) (by omega) (by omega)) ?_
      rintro r σ' ⟨rfl, hσ⟩
      subst σ'
      show K 64 [some (aR 0), some (aI (nI y)), some (aI (nI x)), some (aI (nI m)), some (aI (nI U)), some (aI (nI n)), some (aI (nI l9)), some (aI (nI p)), e8, e9, e10, e11] [aI (if μ 14 y (pQ t p) < 1000000 then 1 else 0)] μ
      refine hK _ _ _ _ ?_
      refine And.intro (fun h5 => ?_) (fun h5 => ?_)
      · have cv : fN t y (pQ t p) < 1000000 := by
          have q := ite_ne h5
          rw [fa_μ y (pQ t p) hy hqN] at q
          exact (nI_lt1 (hm.1.1.2.1 y (pQ t p) hy hqN).2.1).mp q
        by_cases ho : fN t (pP t p) (pQ t p) < 1000000
        · have hple := pl_le hm.1 hqN haN ho
          have hplx := pl_le hm.1 hy hx cw
          have hplx1 : 1 ≤ pl t y x := by have := pl_s hm.1 hy hx cw hxy; omega
          iterate 2 refine hK _ _ _ _ ?_
          have L73 : ∀ (f2 : Nat) (k : Nat) (e9 e10 e11 : Option AV) (ν : sMem) (B2 : Option (Nat × Nat)), k + f2 = pl t (pQ t p) (pP t p) + 1 → HG σ ν → hER ν B2 → hOK B2 → LU B (fun o => (∃ q, q < p ∧ hd1 t P y (hdN t P y n) x m U l9 q o) ∨ hdK t y (hdN t P y n) x m U l9 p k o) B2 → K 73 [some (aR 0), some (aI (nI y)), some (aI (nI x)), some (aI (nI m)), some (aI (nI U)), some (aI (nI n)), some (aI (nI l9)), some (aI (nI p)), some (aI (nI k)), e9, e10, e11] [] ν := by
            intro f2
            induction f2 with
            | zero =>
              intro k e9 e10 e11 ν B2 hk hF2 hE2 hO2 hL2
              have hH_ν := hH.cg hF2
              have s1_ν : ν 3 0 1 = nI P := hH_ν.1.2.2.2.1.1
              have p1_ν : ν 6 p 1 = nI (pQ t p) := by rw [hH_ν.2.1]; exact (hm.2.2.2.2.1 p hpP).2.1.1
              have p3_ν : ν 6 p 3 = nI (pV t p) := by rw [hH_ν.2.1]; exact (hm.2.2.2.2.1 p hpP).2.2.2.1
              have fa_ν : ∀ a b, a < N → b < N → ν 14 a b = nI (fN t a b) := fun a b ha hb => by rw [hH_ν.2.2.1]; exact (hm.1.1.2.1 a b ha hb).1
              obtain ⟨g20, gk, g22⟩ := (hH_ν.2.2.2.2 p hpP).1 ho
              iterate 5 refine hK _ _ _ _ ?_
              refine And.intro (vp_in_nI (n := p) (by omega) (by decide)) ?_
              rw [nI_clamp (show p < 2 ^ 31 by omega)]
              rw [show ν 20 0 p = nI (pl t (pQ t p) (pP t p) + 1) from g20]
              refine hK _ _ _ _ ?_
              refine And.intro (fun _ => ?_) (fun h4 => absurd ((nI_leI (by omega) (by omega)).mpr (by omega)) h4)
              refine hK _ _ _ _ ?_
              show K _ _ _ _
              rw [show nI p + Int32.ofInt 1 = nI (p + 1) from nIs _]
              refine hK _ _ _ _ ?_
              exact ih (p + 1) _ _ _ _ ν B2 (by omega) hF2 hE2 hO2 (LU_cg hL2 (fun o => by rw [hd_s, show k = pl t (pQ t p) (pP t p) + 1 by omega, hdK_iff hpP cb ck cw cv ho o]))
            | succ f2 ih2 =>
              intro k e9 e10 e11 ν B2 hk hF2 hE2 hO2 hL2
              have hH_ν := hH.cg hF2
              have s1_ν : ν 3 0 1 = nI P := hH_ν.1.2.2.2.1.1
              have p1_ν : ν 6 p 1 = nI (pQ t p) := by rw [hH_ν.2.1]; exact (hm.2.2.2.2.1 p hpP).2.1.1
              have p3_ν : ν 6 p 3 = nI (pV t p) := by rw [hH_ν.2.1]; exact (hm.2.2.2.2.1 p hpP).2.2.2.1
              have fa_ν : ∀ a b, a < N → b < N → ν 14 a b = nI (fN t a b) := fun a b ha hb => by rw [hH_ν.2.2.1]; exact (hm.1.1.2.1 a b ha hb).1
              obtain ⟨g20, gk, g22⟩ := (hH_ν.2.2.2.2 p hpP).1 ho
              obtain ⟨g18, g19⟩ := gk k (by omega)
              have hps : psQ t p (pth t (pQ t p) k (pP t p, pT t p)).1 (pth t (pQ t p) k (pP t p, pT t p)).2 := ⟨ho, k, by omega, rfl⟩
              have hpa := psQ_at hm hpP hps
              have hpw := psQ_le hm hpP hps
              iterate 5 refine hK _ _ _ _ ?_
              refine And.intro (vp_in_nI (n := p) (by omega) (by decide)) ?_
              rw [nI_clamp (show p < 2 ^ 31 by omega)]
              rw [show ν 20 0 p = nI (pl t (pQ t p) (pP t p) + 1) from g20]
              refine hK _ _ _ _ ?_
              refine And.intro (fun h4 => absurd ((nI_leI (by omega) (by omega)).mp h4) (by omega)) (fun _ => ?_)
              have L293 : ∀ (e9 e10 e11 : Option AV) (κ : sMem) (B3 : Option (Nat × Nat)), HG σ κ → hER κ B3 → hOK B3 → LU B (fun o => (∃ q, q < p ∧ hd1 t P y (hdN t P y n) x m U l9 q o) ∨ hdK t y (hdN t P y n) x m U l9 p (k + 1) o) B3 → K 293 [some (aR 0), some (aI (nI y)), some (aI (nI x)), some (aI (nI m)), some (aI (nI U)), some (aI (nI n)), some (aI (nI l9)), some (aI (nI p)), some (aI (nI k)), e9, e10, e11] [] κ := by
                intro e9 e10 e11 κ B3 a1 a2 a3 a4
                refine hK _ _ _ _ ?_
                show K _ _ _ _
                rw [show nI k + Int32.ofInt 1 = nI (k + 1) from nIs _]
                refine hK _ _ _ _ ?_
                exact ih2 (k + 1) _ _ _ κ B3 (by omega) a1 a2 a3 a4
              iterate 4 refine hK _ _ _ _ ?_
              refine And.intro (vp_in_nI (n := p) (by omega) (by decide)) ?_
              rw [nI_clamp (show p < 2 ^ 31 by omega)]
              iterate 2 refine hK _ _ _ _ ?_
              refine And.intro (by first | omega | (rw [nI_clamp (by omega)]; omega)) (And.intro (vp_in_nI (n := k) (by omega) (by decide)) ?_)
              rw [nI_clamp (show k < 2 ^ 31 by omega)]
              rw [show ν 18 p k = nI (pth t (pQ t p) k (pP t p, pT t p)).1 from g18]
              iterate 2 refine hK _ _ _ _ ?_
              refine And.intro (fun h3 => L293 _ _ _ ν B2 hF2 hE2 hO2 (LU_cg hL2 (fun o => by rw [hdK_s]; exact ⟨fun q => q.imp id Or.inl, fun q => q.imp id (fun q => q.elim id (fun q => absurd (by rw [q.1]) h3))⟩))) (fun h3 => ?_)
              have ex : (pth t (pQ t p) k (pP t p, pT t p)).1 = x := (nI_eq (by omega) (by omega)).mp h3
              iterate 4 refine hK _ _ _ _ ?_
              refine And.intro (vp_in_nI (n := p) (by omega) (by decide)) ?_
              rw [nI_clamp (show p < 2 ^ 31 by omega)]
              iterate 2 refine hK _ _ _ _ ?_
              refine And.intro (by first | omega | (rw [nI_clamp (by omega)]; omega)) (And.intro (vp_in_nI (n := k) (by omega) (by decide)) ?_)
              rw [nI_clamp (show k < 2 ^ 31 by omega)]
              rw [show ν 19 p k = nI (pth t (pQ t p) k (pP t p, pT t p)).2 from g19]
              iterate 2 refine hK _ _ _ _ ?_
              refine And.intro (fun h2 => ?_) (fun h2 => ?_)
              · have hmw : m ≤ (pth t (pQ t p) k (pP t p, pT t p)).2 := (nI_leI (by omega) (by omega)).mp h2
                rw [ex] at hps hpa
                generalize hw9 : (pth t (pQ t p) k (pP t p, pT t p)).2 = w at hps hpa hpw hmw g19
                have hKs : ∀ o, hdK t y (hdN t P y n) x m U l9 p (k + 1) o ↔ (hdK t y (hdN t P y n) x m U l9 p k o ∨ hdZ t y (hdN t P y n) x U l9 p w o) := fun o => by
                  rw [hdK_s, hw9]
                  exact ⟨fun q => q.imp id (fun q => q.2.2), fun q => q.imp id (fun q => ⟨ex, hmw, q⟩)⟩
                iterate 2 refine hK _ _ _ _ ?_
                have L119 : ∀ (f3 : Nat) (j : Nat) (e10 e11 : Option AV) (κ : sMem) (B3 : Option (Nat × Nat)), j + 1 + f3 = pl t y x → HG σ κ → hER κ B3 → hOK B3 → LU B (fun o => ((∃ q, q < p ∧ hd1 t P y (hdN t P y n) x m U l9 q o) ∨ hdK t y (hdN t P y n) x m U l9 p k o) ∨ hdJ t y (hdN t P y n) x U l9 p w (j + 1) o) B3 → K 119 [some (aR 0), some (aI (nI y)), some (aI (nI x)), some (aI (nI m)), some (aI (nI U)), some (aI (nI n)), some (aI (nI l9)), some (aI (nI p)), some (aI (nI k)), some (aI (nI (pth t y j (x, 0)).1)), e10, e11] [] κ := by
                  intro f3
                  induction f3 with
                  | zero =>
                    intro j e10 e11 κ B3 hj hF3 hE3 hO3 hL3
                    have hH_κ := hH.cg hF3
                    have s1_κ : κ 3 0 1 = nI P := hH_κ.1.2.2.2.1.1
                    have p1_κ : κ 6 p 1 = nI (pQ t p) := by rw [hH_κ.2.1]; exact (hm.2.2.2.2.1 p hpP).2.1.1
                    have p3_κ : κ 6 p 3 = nI (pV t p) := by rw [hH_κ.2.1]; exact (hm.2.2.2.2.1 p hpP).2.2.2.1
                    have fa_κ : ∀ a b, a < N → b < N → κ 14 a b = nI (fN t a b) := fun a b ha hb => by rw [hH_κ.2.2.1]; exact (hm.1.1.2.1 a b ha hb).1
                    obtain ⟨g20', gk', g22'⟩ := (hH_κ.2.2.2.2 p hpP).1 ho
                    obtain ⟨-, g19'⟩ := gk' k (by omega)
                    rw [hw9] at g19'
                    obtain ⟨b1, b2, b3, b4, -⟩ := pth_at hm.1 hy j x 0 hx cw (by omega)
                    obtain ⟨c1, c2, c3, c4, -⟩ := pth_at hm.1 hy (j + 1) x 0 hx cw (by omega)
                    have hqj := pth_q (w := 0) hm.1 hy hx cw (show j ≤ pl t y x by omega)
                    have hqj1 := pth_q (w := 0) hm.1 hy hx cw (show j + 1 ≤ pl t y x by omega)
                    have hfar := pth_far hm.1 hy hx cw (j + 1) (by omega)
                    have hnj : ¬ (pth t y j (x, 0)).1 = y := fun e => by have := hqj.mp e; omega
                    obtain ⟨n1, n2, -⟩ := nx_at hm.1 b1 hy b2 hnj
                    have e15 : κ 15 (pth t y j (x, 0)).1 y = nI (pth t y (j + 1) (x, 0)).1 := by rw [hH_κ.2.2.2.1, n2, pth_s t y j (x, 0)]; rfl
                    have ef1 := fa_κ x (pth t y (j + 1) (x, 0)).1 hx c1
                    have ef2 := fa_κ (pth t y (j + 1) (x, 0)).1 (pQ t p) c1 hqN
                    have l2 := los_le hm hpP hx c1 (by omega) (zQ hm.1 hx hy c1 hqN c2 cv)
                    have fzq := fN_660 hm.1 hqN c1 (zQ hm.1 hx hy c1 hqN c2 cv)
                    have fxz := fN_660 hm.1 hy hx cw
                    have tri := hm.1.2.1 x (pth t y (j + 1) (x, 0)).1 (pQ t p) hx c1 hqN
                    have hval : nI l9 + nI (pV t p) * (nI (w + fN t x (pth t y (j + 1) (x, 0)).1) + nI (fN t (pth t y (j + 1) (x, 0)).1 (pQ t p)) - nI (pT t p + fN t (pP t p) (pQ t p))) = nI (l9 + losA t p x (pth t y (j + 1) (x, 0)).1) := by
                      rw [nIa, nIm (by omega), nIx, nIa]
                      unfold losA
                      rw [show w + fN t x (pth t y (j + 1) (x, 0)).1 + fN t (pth t y (j + 1) (x, 0)).1 (pQ t p) - (pT t p + fN t (pP t p) (pQ t p)) = fN t x (pth t y (j + 1) (x, 0)).1 + fN t (pth t y (j + 1) (x, 0)).1 (pQ t p) - fN t x (pQ t p) by omega]
                    iterate 3 refine hK _ _ _ _ ?_
                    refine And.intro (fun h1 => absurd ((nI_eq (by omega) (by omega)).mp h1) hnj) (fun _ => ?_)
                    iterate 4 refine hK _ _ _ _ ?_
                    refine And.intro (vp_in_nI (n := ((pth t y j (x, 0)).1)) (by omega) (by decide)) ?_
                    rw [nI_clamp (show ((pth t y j (x, 0)).1) < 2 ^ 31 by omega)]
                    iterate 2 refine hK _ _ _ _ ?_
                    refine And.intro (by first | omega | (rw [nI_clamp (by omega)]; omega)) (And.intro (vp_in_nI (n := y) (by omega) (by decide)) ?_)
                    rw [nI_clamp (show y < 2 ^ 31 by omega)]
                    rw [show κ 15 ((pth t y j (x, 0)).1) y = nI (pth t y (j + 1) (x, 0)).1 from e15]
                    iterate 5 refine hK _ _ _ _ ?_
                    refine And.intro (vp_in_nI (n := p) (by omega) (by decide)) ?_
                    rw [nI_clamp (show p < 2 ^ 31 by omega)]
                    iterate 2 refine hK _ _ _ _ ?_
                    refine And.intro (by first | omega | (rw [nI_clamp (by omega)]; omega)) (And.intro (vp_in_nI (n := k) (by omega) (by decide)) ?_)
                    rw [nI_clamp (show k < 2 ^ 31 by omega)]
                    rw [show κ 19 p k = nI w from g19']
                    iterate 4 refine hK _ _ _ _ ?_
                    refine And.intro (vp_in_nI (n := x) (by omega) (by decide)) ?_
                    rw [nI_clamp (show x < 2 ^ 31 by omega)]
                    iterate 2 refine hK _ _ _ _ ?_
                    refine And.intro (by first | omega | (rw [nI_clamp (by omega)]; omega)) (And.intro (vp_in_nI (n := ((pth t y (j + 1) (x, 0)).1)) (by omega) (by decide)) ?_)
                    rw [nI_clamp (show ((pth t y (j + 1) (x, 0)).1) < 2 ^ 31 by omega)]
                    rw [show κ 14 x ((pth t y (j + 1) (x, 0)).1) = nI (fN t x (pth t y (j + 1) (x, 0)).1) from ef1]
                    refine hK _ _ _ _ ?_
                    show K _ _ _ _
                    rw [nIa]
                    iterate 6 refine hK _ _ _ _ ?_
                    refine And.intro (vp_in_nI (n := p) (by omega) (by decide)) ?_
                    rw [nI_clamp (show p < 2 ^ 31 by omega)]
                    iterate 2 refine hK _ _ _ _ ?_
                    refine And.intro (by first | omega | (rw [nI_clamp (by omega)]; omega)) (And.intro (vp_in_nI (n := 3) (by decide) (by decide)) ?_)
                    rw [show (Int32.ofInt 3).toNatClampNeg = 3 from rfl]
                    rw [show κ 6 p 3 = nI (pV t p) from p3_κ]
                    iterate 5 refine hK _ _ _ _ ?_
                    refine And.intro (vp_in_nI (n := ((pth t y (j + 1) (x, 0)).1)) (by omega) (by decide)) ?_
                    rw [nI_clamp (show ((pth t y (j + 1) (x, 0)).1) < 2 ^ 31 by omega)]
                    iterate 4 refine hK _ _ _ _ ?_
                    refine And.intro (vp_in_nI (n := p) (by omega) (by decide)) ?_
                    rw [nI_clamp (show p < 2 ^ 31 by omega)]
                    iterate 2 refine hK _ _ _ _ ?_
                    refine And.intro (by first | omega | (rw [nI_clamp (by omega)]; omega)) (And.intro (vp_in_nI (n := 1) (by decide) (by decide)) ?_)
                    rw [show (Int32.ofInt 1).toNatClampNeg = 1 from rfl]
                    rw [show κ 6 p 1 = nI (pQ t p) from p1_κ]
                    refine hK _ _ _ _ ?_
                    refine And.intro (by first | omega | (rw [nI_clamp (by omega)]; omega)) (And.intro (vp_in_nI (n := (pQ t p)) (by omega) (by decide)) ?_)
                    rw [nI_clamp (show (pQ t p) < 2 ^ 31 by omega)]
                    rw [show κ 14 ((pth t y (j + 1) (x, 0)).1) (pQ t p) = nI (fN t (pth t y (j + 1) (x, 0)).1 (pQ t p)) from ef2]
                    iterate 5 refine hK _ _ _ _ ?_
                    refine And.intro (vp_in_nI (n := p) (by omega) (by decide)) ?_
                    rw [nI_clamp (show p < 2 ^ 31 by omega)]
                    rw [show κ 22 0 p = nI (pT t p + fN t (pP t p) (pQ t p)) from g22']
                    iterate 3 refine hK _ _ _ _ ?_
                    show K _ _ _ _
                    rw [hval]
                    iterate 4 refine hK _ _ _ _ ?_
                    have ey : (pth t y (j + 1) (x, 0)).1 = y := hqj1.mpr (by omega)
                    refine And.intro (fun _ => ?_) (fun h1 => absurd (by rw [ey]) h1)
                    iterate 3 refine hK _ _ _ _ ?_
                    refine And.intro (fun h1 => absurd (by rw [ey]) h1) (fun _ => ?_)
                    rw [ey]
                    rw [ey] at l2 hfar
                    have Lend : ∀ (κ2 : sMem) (B4 : Option (Nat × Nat)), HG κ κ2 → hER κ2 B4 → hOK B4 → LU B3 (fun o => o = (l9 + losA t p x y, w + fN t x y)) B4 → K 119 [some (aR 0), some (aI (nI y)), some (aI (nI x)), some (aI (nI m)), some (aI (nI U)), some (aI (nI n)), some (aI (nI l9)), some (aI (nI p)), some (aI (nI k)), some (aI (nI y)), some (aI (nI (w + fN t x y))), some (aI (nI (l9 + losA t p x y)))] [] κ2 := by
                      intro κ2 B4 a1 a2 a3 a4
                      iterate 3 refine hK _ _ _ _ ?_
                      refine And.intro (fun _ => ?_) (fun h1 => absurd rfl h1)
                      exact L293 _ _ _ κ2 B4 (hF3.tr a1) a2 a3 (LU_cg (LU_tr hL3 a4) (fun o => by
                        rw [hKs o, hdZ_iff o, show j + 1 = pl t y x by omega]
                        exact ⟨fun q => q.elim (fun q => q.elim (fun q => q.imp id Or.inl) (fun q => Or.inr (Or.inr (Or.inr q)))) (fun q => Or.inr (Or.inr (Or.inl q))), fun q => q.elim (fun q => Or.inl (Or.inl (Or.inl q))) (fun q => q.elim (fun q => Or.inl (Or.inl (Or.inr q))) (fun q => q.elim Or.inr (fun q => Or.inl (Or.inr q))))⟩))
                    rcases B3 with _ | bb
                    · obtain ⟨c3, c4⟩ := hE3
                      iterate 2 refine hK _ _ _ _ ?_
                      show K _ _ _ _
                      rw [show κ 0 0 50 = -1 from c3]
                      iterate 2 refine hK _ _ _ _ ?_
                      refine And.intro (fun _ => ?_) (fun h1 => absurd rfl h1)
                      iterate 7 refine hK _ _ _ _ ?_
                      exact Lend _ (some (l9 + losA t p x y, w + fN t x y)) ⟨fun i hi => by rw [sUp_off hi, sUp_off hi], fun k h1 h2 => by rw [sUp_k h2, sUp_k h1]⟩ ⟨by rw [sUp_k (by decide), sUp_at], sUp_at _ _ _ _ _⟩ (lxU_OK hO3 (by omega) (by omega)) (LU_one none _)
                    · obtain ⟨c3, c4⟩ := hE3
                      have o3 := hO3 bb rfl
                      have e1 : lxU (some bb) (l9 + losA t p x y, w + fN t x y) = if l9 + losA t p x y < bb.1 ∨ (l9 + losA t p x y = bb.1 ∧ w + fN t x y < bb.2) then some (l9 + losA t p x y, w + fN t x y) else some bb := rfl
                      have hLo := LU_one (some bb) (l9 + losA t p x y, w + fN t x y)
                      rw [e1] at hLo
                      have Lk : ¬ (l9 + losA t p x y < bb.1 ∨ (l9 + losA t p x y = bb.1 ∧ w + fN t x y < bb.2)) → K 119 [some (aR 0), some (aI (nI y)), some (aI (nI x)), some (aI (nI m)), some (aI (nI U)), some (aI (nI n)), some (aI (nI l9)), some (aI (nI p)), some (aI (nI k)), some (aI (nI y)), some (aI (nI (w + fN t x y))), some (aI (nI (l9 + losA t p x y)))] [] κ := by
                        intro hc
                        rw [if_neg hc] at hLo
                        exact Lend κ (some bb) (HG.rf κ) ⟨c3, c4⟩ hO3 hLo
                      have Lu : (l9 + losA t p x y < bb.1 ∨ (l9 + losA t p x y = bb.1 ∧ w + fN t x y < bb.2)) → K 278 [some (aR 0), some (aI (nI y)), some (aI (nI x)), some (aI (nI m)), some (aI (nI U)), some (aI (nI n)), some (aI (nI l9)), some (aI (nI p)), some (aI (nI k)), some (aI (nI y)), some (aI (nI (w + fN t x y))), some (aI (nI (l9 + losA t p x y)))] [] κ := by
                        intro hc
                        rw [if_pos hc] at hLo e1
                        have hO4 := lxU_OK hO3 (show l9 + losA t p x y ≤ 1000000 by omega) (show w + fN t x y ≤ 2000 by omega)
                        rw [e1] at hO4
                        iterate 7 refine hK _ _ _ _ ?_
                        exact Lend _ (some (l9 + losA t p x y, w + fN t x y)) ⟨fun i hi => by rw [sUp_off hi, sUp_off hi], fun k h1 h2 => by rw [sUp_k h2, sUp_k h1]⟩ ⟨by rw [sUp_k (by decide), sUp_at], sUp_at _ _ _ _ _⟩ hO4 hLo
                      iterate 2 refine hK _ _ _ _ ?_
                      show K _ _ _ _
                      rw [show κ 0 0 50 = nI bb.1 from c3]
                      iterate 2 refine hK _ _ _ _ ?_
                      refine And.intro (fun h1 => absurd h1 (nI_ne (by omega))) (fun _ => ?_)
                      iterate 3 refine hK _ _ _ _ ?_
                      show K _ _ _ _
                      rw [show κ 0 0 50 = nI bb.1 from c3]
                      refine hK _ _ _ _ ?_
                      refine And.intro (fun g1 => Lk (fun q => absurd ((nI_ltI (by omega) (by omega)).mp g1) (by omega))) (fun g1 => ?_)
                      have r1 : ¬ bb.1 < l9 + losA t p x y := fun q => g1 ((nI_ltI (by omega) (by omega)).mpr q)
                      iterate 3 refine hK _ _ _ _ ?_
                      show K _ _ _ _
                      rw [show κ 0 0 50 = nI bb.1 from c3]
                      refine hK _ _ _ _ ?_
                      refine And.intro (fun g2 => Lu (Or.inl (Nat.lt_of_le_of_ne (by omega) (fun e => g2 (by rw [e]))))) (fun g2 => ?_)
                      have r2 : l9 + losA t p x y = bb.1 := (nI_eq (by omega) (by omega)).mp g2
                      iterate 3 refine hK _ _ _ _ ?_
                      show K _ _ _ _
                      rw [show κ 0 0 51 = nI bb.2 from c4]
                      refine hK _ _ _ _ ?_
                      refine And.intro (fun g3 => Lu (Or.inr ⟨r2, (nI_ltI (by omega) (by omega)).mp g3⟩)) (fun g3 => ?_)
                      have r3 : ¬ w + fN t x y < bb.2 := fun q => g3 ((nI_ltI (by omega) (by omega)).mpr q)
                      refine hK _ _ _ _ ?_
                      exact Lk (fun q => q.elim (fun q => by omega) (fun q => r3 q.2))
                  | succ f3 ih3 =>
                    intro j e10 e11 κ B3 hj hF3 hE3 hO3 hL3
                    have hH_κ := hH.cg hF3
                    have s1_κ : κ 3 0 1 = nI P := hH_κ.1.2.2.2.1.1
                    have p1_κ : κ 6 p 1 = nI (pQ t p) := by rw [hH_κ.2.1]; exact (hm.2.2.2.2.1 p hpP).2.1.1
                    have p3_κ : κ 6 p 3 = nI (pV t p) := by rw [hH_κ.2.1]; exact (hm.2.2.2.2.1 p hpP).2.2.2.1
                    have fa_κ : ∀ a b, a < N → b < N → κ 14 a b = nI (fN t a b) := fun a b ha hb => by rw [hH_κ.2.2.1]; exact (hm.1.1.2.1 a b ha hb).1
                    obtain ⟨g20', gk', g22'⟩ := (hH_κ.2.2.2.2 p hpP).1 ho
                    obtain ⟨-, g19'⟩ := gk' k (by omega)
                    rw [hw9] at g19'
                    obtain ⟨b1, b2, b3, b4, -⟩ := pth_at hm.1 hy j x 0 hx cw (by omega)
                    obtain ⟨c1, c2, c3, c4, -⟩ := pth_at hm.1 hy (j + 1) x 0 hx cw (by omega)
                    have hqj := pth_q (w := 0) hm.1 hy hx cw (show j ≤ pl t y x by omega)
                    have hqj1 := pth_q (w := 0) hm.1 hy hx cw (show j + 1 ≤ pl t y x by omega)
                    have hfar := pth_far hm.1 hy hx cw (j + 1) (by omega)
                    have hnj : ¬ (pth t y j (x, 0)).1 = y := fun e => by have := hqj.mp e; omega
                    obtain ⟨n1, n2, -⟩ := nx_at hm.1 b1 hy b2 hnj
                    have e15 : κ 15 (pth t y j (x, 0)).1 y = nI (pth t y (j + 1) (x, 0)).1 := by rw [hH_κ.2.2.2.1, n2, pth_s t y j (x, 0)]; rfl
                    have ef1 := fa_κ x (pth t y (j + 1) (x, 0)).1 hx c1
                    have ef2 := fa_κ (pth t y (j + 1) (x, 0)).1 (pQ t p) c1 hqN
                    have l2 := los_le hm hpP hx c1 (by omega) (zQ hm.1 hx hy c1 hqN c2 cv)
                    have fzq := fN_660 hm.1 hqN c1 (zQ hm.1 hx hy c1 hqN c2 cv)
                    have fxz := fN_660 hm.1 hy hx cw
                    have tri := hm.1.2.1 x (pth t y (j + 1) (x, 0)).1 (pQ t p) hx c1 hqN
                    have hval : nI l9 + nI (pV t p) * (nI (w + fN t x (pth t y (j + 1) (x, 0)).1) + nI (fN t (pth t y (j + 1) (x, 0)).1 (pQ t p)) - nI (pT t p + fN t (pP t p) (pQ t p))) = nI (l9 + losA t p x (pth t y (j + 1) (x, 0)).1) := by
                      rw [nIa, nIm (by omega), nIx, nIa]
                      unfold losA
                      rw [show w + fN t x (pth t y (j + 1) (x, 0)).1 + fN t (pth t y (j + 1) (x, 0)).1 (pQ t p) - (pT t p + fN t (pP t p) (pQ t p)) = fN t x (pth t y (j + 1) (x, 0)).1 + fN t (pth t y (j + 1) (x, 0)).1 (pQ t p) - fN t x (pQ t p) by omega]
                    iterate 3 refine hK _ _ _ _ ?_
                    refine And.intro (fun h1 => absurd ((nI_eq (by omega) (by omega)).mp h1) hnj) (fun _ => ?_)
                    iterate 4 refine hK _ _ _ _ ?_
                    refine And.intro (vp_in_nI (n := ((pth t y j (x, 0)).1)) (by omega) (by decide)) ?_
                    rw [nI_clamp (show ((pth t y j (x, 0)).1) < 2 ^ 31 by omega)]
                    iterate 2 refine hK _ _ _ _ ?_
                    refine And.intro (by first | omega | (rw [nI_clamp (by omega)]; omega)) (And.intro (vp_in_nI (n := y) (by omega) (by decide)) ?_)
                    rw [nI_clamp (show y < 2 ^ 31 by omega)]
                    rw [show κ 15 ((pth t y j (x, 0)).1) y = nI (pth t y (j + 1) (x, 0)).1 from e15]
                    iterate 5 refine hK _ _ _ _ ?_
                    refine And.intro (vp_in_nI (n := p) (by omega) (by decide)) ?_
                    rw [nI_clamp (show p < 2 ^ 31 by omega)]
                    iterate 2 refine hK _ _ _ _ ?_
                    refine And.intro (by first | omega | (rw [nI_clamp (by omega)]; omega)) (And.intro (vp_in_nI (n := k) (by omega) (by decide)) ?_)
                    rw [nI_clamp (show k < 2 ^ 31 by omega)]
                    rw [show κ 19 p k = nI w from g19']
                    iterate 4 refine hK _ _ _ _ ?_
                    refine And.intro (vp_in_nI (n := x) (by omega) (by decide)) ?_
                    rw [nI_clamp (show x < 2 ^ 31 by omega)]
                    iterate 2 refine hK _ _ _ _ ?_
                    refine And.intro (by first | omega | (rw [nI_clamp (by omega)]; omega)) (And.intro (vp_in_nI (n := ((pth t y (j + 1) (x, 0)).1)) (by omega) (by decide)) ?_)
                    rw [nI_clamp (show ((pth t y (j + 1) (x, 0)).1) < 2 ^ 31 by omega)]
                    rw [show κ 14 x ((pth t y (j + 1) (x, 0)).1) = nI (fN t x (pth t y (j + 1) (x, 0)).1) from ef1]
                    refine hK _ _ _ _ ?_
                    show K _ _ _ _
                    rw [nIa]
                    iterate 6 refine hK _ _ _ _ ?_
                    refine And.intro (vp_in_nI (n := p) (by omega) (by decide)) ?_
                    rw [nI_clamp (show p < 2 ^ 31 by omega)]
                    iterate 2 refine hK _ _ _ _ ?_
                    refine And.intro (by first | omega | (rw [nI_clamp (by omega)]; omega)) (And.intro (vp_in_nI (n := 3) (by decide) (by decide)) ?_)
                    rw [show (Int32.ofInt 3).toNatClampNeg = 3 from rfl]
                    rw [show κ 6 p 3 = nI (pV t p) from p3_κ]
                    iterate 5 refine hK _ _ _ _ ?_
                    refine And.intro (vp_in_nI (n := ((pth t y (j + 1) (x, 0)).1)) (by omega) (by decide)) ?_
                    rw [nI_clamp (show ((pth t y (j + 1) (x, 0)).1) < 2 ^ 31 by omega)]
                    iterate 4 refine hK _ _ _ _ ?_
                    refine And.intro (vp_in_nI (n := p) (by omega) (by decide)) ?_
                    rw [nI_clamp (show p < 2 ^ 31 by omega)]
                    iterate 2 refine hK _ _ _ _ ?_
                    refine And.intro (by first | omega | (rw [nI_clamp (by omega)]; omega)) (And.intro (vp_in_nI (n := 1) (by decide) (by decide)) ?_)
                    rw [show (Int32.ofInt 1).toNatClampNeg = 1 from rfl]
                    rw [show κ 6 p 1 = nI (pQ t p) from p1_κ]
                    refine hK _ _ _ _ ?_
                    refine And.intro (by first | omega | (rw [nI_clamp (by omega)]; omega)) (And.intro (vp_in_nI (n := (pQ t p)) (by omega) (by decide)) ?_)
                    rw [nI_clamp (show (pQ t p) < 2 ^ 31 by omega)]
                    rw [show κ 14 ((pth t y (j + 1) (x, 0)).1) (pQ t p) = nI (fN t (pth t y (j + 1) (x, 0)).1 (pQ t p)) from ef2]
                    iterate 5 refine hK _ _ _ _ ?_
                    refine And.intro (vp_in_nI (n := p) (by omega) (by decide)) ?_
                    rw [nI_clamp (show p < 2 ^ 31 by omega)]
                    rw [show κ 22 0 p = nI (pT t p + fN t (pP t p) (pQ t p)) from g22']
                    iterate 3 refine hK _ _ _ _ ?_
                    show K _ _ _ _
                    rw [hval]
                    iterate 4 refine hK _ _ _ _ ?_
                    have hne : ¬ (pth t y (j + 1) (x, 0)).1 = y := fun e => by have := hqj1.mp e; omega
                    refine And.intro (fun h1 => absurd ((nI_eq (by omega) (by omega)).mp h1) hne) (fun _ => ?_)
                    iterate 2 refine hK _ _ _ _ ?_
                    have L234 : ∀ (κ2 : sMem) (B4 : Option (Nat × Nat)), HG σ κ2 → hER κ2 B4 → hOK B4 → LU B3 (hdN t P y n (pth t y (j + 1) (x, 0)).1 (w + fN t x (pth t y (j + 1) (x, 0)).1) (U ||| 2 ^ p) (l9 + losA t p x (pth t y (j + 1) (x, 0)).1)) B4 → K 234 [some (aR 0), some (aI (nI y)), some (aI (nI x)), some (aI (nI m)), some (aI (nI U)), some (aI (nI n)), some (aI (nI l9)), some (aI (nI p)), some (aI (nI k)), some (aI (nI (pth t y (j + 1) (x, 0)).1)), some (aI (nI (w + fN t x (pth t y (j + 1) (x, 0)).1))), some (aI (nI (l9 + losA t p x (pth t y (j + 1) (x, 0)).1)))] [] κ2 := by
                      intro κ2 B4 hF4 hE4 hO4 hL4
                      iterate 3 refine hK _ _ _ _ ?_
                      refine And.intro (fun _ => ?_) (fun h1 => absurd ((nI_eq (by omega) (by omega)).mp h1) hne)
                      exact ih3 (j + 1) _ _ κ2 B4 (by omega) hF4 hE4 hO4 (LU_cg (LU_tr hL3 hL4) (fun o => by rw [hdJ_s (i := j + 1) (by omega)]; exact ⟨fun q => q.elim (fun q => q.elim Or.inl (fun q => Or.inr (Or.inl q))) (fun q => Or.inr (Or.inr q)), fun q => q.elim (fun q => Or.inl (Or.inl q)) (fun q => q.elim (fun q => Or.inl (Or.inr q)) Or.inr)⟩))
                    rcases Nat.eq_zero_or_pos n with e0 | e0
                    · subst e0
                      refine And.intro (fun _ => ?_) (fun h1 => absurd (by decide) h1)
                      exact L234 κ B3 hF3 hE3 hO3 (LU_nil (fun _ h => h.elim))
                    · refine And.intro (fun h1 => absurd ((nI_leI (b := 0) (by omega) (by decide)).mp h1) (by omega)) (fun _ => ?_)
                      obtain ⟨kk, rfl⟩ : ∃ kk, n = kk + 1 := ⟨n - 1, by omega⟩
                      iterate 9 refine hK _ _ _ _ ?_
                      show K _ _ _ _
                      rw [show nI U ||| (Int32.ofInt 1 <<< (nI p &&& 31)) = nI (U ||| 2 ^ p) from nI_orp _ _ (by omega)]
                      iterate 3 refine hK _ _ _ _ ?_
                      show K _ _ _ _
                      rw [show nI (kk + 1) - Int32.ofInt 1 = nI kk from nIm (b := 1) (by omega)]
                      iterate 2 refine hK _ _ _ _ ?_
                      refine calD (hrec kk rfl κ (pth t y (j + 1) (x, 0)).1 (w + fN t x (pth t y (j + 1) (x, 0)).1) (U ||| 2 ^ p) (l9 + losA t p x (pth t y (j + 1) (x, 0)).1) B3 hH_κ c1 hne (by omega) (or_lt (P := 10) hU (by omega)) (by omega) hE3 hO3) ?_
                      rintro r κ2 ⟨rfl, hFk2, B4, hL4, hE4, hO4⟩
                      show K 234 [some (aR 0), some (aI (nI y)), some (aI (nI x)), some (aI (nI m)), some (aI (nI U)), some (aI (nI (kk + 1))), some (aI (nI l9)), some (aI (nI p)), some (aI (nI k)), some (aI (nI (pth t y (j + 1) (x, 0)).1)), some (aI (nI (w + fN t x (pth t y (j + 1) (x, 0)).1))), some (aI (nI (l9 + losA t p x (pth t y (j + 1) (x, 0)).1)))] [] κ2
                      exact L234 κ2 B4 (hF3.tr hFk2) hE4 hO4 hL4
                exact L119 (pl t y x - 1) 0 _ _ ν B2 (by omega) hF2 hE2 hO2 (LU_cg hL2 (fun o => ⟨Or.inl, fun q => q.elim id (fun q => absurd q (hdJ_1 o))⟩))
              · refine hK _ _ _ _ ?_
                exact L293 _ _ _ ν B2 hF2 hE2 hO2 (LU_cg hL2 (fun o => by rw [hdK_s]; exact ⟨fun q => q.imp id Or.inl, fun q => q.imp id (fun q => q.elim id (fun q => absurd ((nI_leI (by omega) (by omega)).mpr q.2.1) h2))⟩))
          exact L73 (pl t (pQ t p) (pP t p) + 1) 0 _ _ _ μ B1 (by omega) hF hE1 hO1 (LU_cg hLU (fun o => ⟨Or.inl, fun q => q.elim id (fun q => q.elim (fun j hj => absurd hj.1 (Nat.not_lt_zero _)))⟩))
        · have h20 := (hH_μ.2.2.2.2 p hpP).2 ho
          iterate 2 refine hK _ _ _ _ ?_
          iterate 5 refine hK _ _ _ _ ?_
          refine And.intro (vp_in_nI (n := p) (by omega) (by decide)) ?_
          rw [nI_clamp (show p < 2 ^ 31 by omega)]
          rw [show μ 20 0 p = 0 from h20]
          refine hK _ _ _ _ ?_
          refine And.intro (fun _ => ?_) (fun h4 => absurd (Int32.le_refl _) h4)
          exact L299 _ _ _ _ (fun o h => h.elim (fun w hw => ho hw.1.2.2.2.2.2.1.1))
      · refine hK _ _ _ _ ?_
        exact L299 _ _ _ _ (fun o h => h.elim (fun w hw => absurd hw.1.2.2.2.2.1 (fun q => ite_eq h5 (by rw [fa_μ y (pQ t p) hy hqN]; exact (nI_lt1 (hm.1.1.2.1 y (pQ t p) hy hqN).2.1).mpr q))))
  exact L3 P 0 _ _ _ _ σ B (by omega) (HG.rf σ) hE0 hO (LU_nil (fun o h => h.elim (fun q hq => absurd hq.1 (Nat.not_lt_zero _))))
theorem c9_hands (t : sMem) (N P S y d : Nat) (hm : MC t N P S) (hy : y < N) : ∀ n, n ≤ 2 → RR9 l D0 b0 ty t N P S y d n
  | 0, _ => fun σ x m U l9 B a1 a2 a3 a4 a5 a6 a7 a8 => c9_handsS d t N P S y 0 hm hy (by decide) (fun k hk => by omega) σ x m U l9 B a1 a2 a3 a4 a5 a6 a7 a8
  | n + 1, hn => fun σ x m U l9 B a1 a2 a3 a4 a5 a6 a7 a8 => c9_handsS d t N P S y (n + 1) hm hy hn (fun k hk => by cases hk; exact c9_hands t N P S y d hm hy n (by omega)) σ x m U l9 B a1 a2 a3 a4 a5 a6 a7 a8
end
