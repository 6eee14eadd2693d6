/-! THE CLASS: Handing -/
def ctB (t : sMem) (p x y : Nat) : Bool := bt (t 6 p 4) y && decide (fN t x y < 1000000) && decide (fN t y (pQ t p) < 1000000)
theorem ctB_iff {t : sMem} {p x y : Nat} : ctB t p x y = true ↔ bt (t 6 p 4) y = true ∧ fN t x y < 1000000 ∧ fN t y (pQ t p) < 1000000 := by
  unfold ctB
  simp only [Bool.and_eq_true, decide_eq_true_eq, and_assoc]
/-- the least so far, as the class keeps it -/
def hE (σ : sMem) (B : Option (Nat × Nat)) : Prop := match B with
  | none => σ 94 0 3 = 2000000000 ∧ σ 94 0 4 = 1000000
  | some b => σ 94 0 3 = nI b.1 ∧ σ 94 0 4 = nI b.2
def hOK (B : Option (Nat × Nat)) : Prop := ∀ b, B = some b → b.1 ≤ 1000000 ∧ b.2 ≤ 2000
def HF (σ σ' : sMem) : Prop := (∀ i, i ≠ 94 → σ' i = σ i) ∧ ∀ k, k ≠ 3 → k ≠ 4 → σ' 94 0 k = σ 94 0 k
theorem HF.rf (σ : sMem) : HF σ σ := ⟨fun _ _ => rfl, fun _ _ _ => rfl⟩
theorem HF.tr {a b c : sMem} (h : HF a b) (h' : HF b c) : HF a c := ⟨fun i hi => (h'.1 i hi).trans (h.1 i hi), fun k h1 h2 => (h'.2 k h1 h2).trans (h.2 k h1 h2)⟩
def pasQ (σ t : sMem) (N P : Nat) : Prop := ∀ p x, p < P → x < N → (∀ w, psQ t p x w → σ 95 p x = nI w) ∧ ((∀ w, ¬ psQ t p x w) → σ 95 p x = -1)
def HSr (σ t : sMem) (v N P S G y : Nat) : Prop := CT σ t v N P S G ∧ σ 94 0 0 = nI v ∧ σ 94 0 1 = nI y ∧ pasQ σ t N P
theorem HSr.cg {σ σ' t : sMem} {v N P S G y : Nat} (h : HSr σ t v N P S G y) (hv : v = 36 ∨ v = 54) (hf : HF σ σ') : HSr σ' t v N P S G y := by
  refine ⟨h.1.cg (fun i h1 h2 => hf.1 i (by omega)), (hf.2 0 (by decide) (by decide)).trans h.2.1, (hf.2 1 (by decide) (by decide)).trans h.2.2.1, fun p x hp hx => ?_⟩
  rw [hf.1 95 (by decide)]
  exact h.2.2.2 p x hp hx
theorem lxU_OK {B : Option (Nat × Nat)} {a b : Nat} (h : hOK B) (ha : a ≤ 1000000) (hb9 : b ≤ 2000) : hOK (lxU B (a, b)) := by
  intro c hc
  cases B with
  | none => cases hc; exact ⟨ha, hb9⟩
  | some d =>
    have e : (if a < d.1 ∨ (a = d.1 ∧ b < d.2) then some (a, b) else some d) = some c := hc
    split at e
    · cases e; exact ⟨ha, hb9⟩
    · exact h c e
theorem LU_OK {B B' : Option (Nat × Nat)} {Q : Nat × Nat → Prop} (h : LU B Q B') (ho : hOK B) (hq : ∀ o, Q o → o.1 ≤ 1000000 ∧ o.2 ≤ 2000) : hOK B' := fun b hb => (h.2 b hb).elim (hq b) (ho b)
theorem hd1_iff {t : sMem} {N P S y U x m w l p : Nat} {R : Nat → Nat → Nat → Nat → Nat × Nat → Prop} (hm : MC t N P S) (hp : p < P) (h : hcQ t P y p U x m w) (o : Nat × Nat) : hd1 t P y R x m U l p o ↔ hdZ t y R x U l p w o := by
  constructor
  · rintro ⟨w', h', hz⟩
    have e1 := (psQ_at hm hp h.2.2.2.2.2.1).2.1
    have e2 := (psQ_at hm hp h'.2.2.2.2.2.1).2.1
    rw [show w = w' by omega]
    exact hz
  · exact fun hz => ⟨w, h, hz⟩
/-- the places of the WAY up to the j-th -/
def hdJ (t : sMem) (y : Nat) (R : Nat → Nat → Nat → Nat → Nat × Nat → Prop) (x U l p w i : Nat) (o : Nat × Nat) : Prop := ∃ j, 1 ≤ j ∧ j < i ∧ R (pth t y j (x, 0)).1 (w + fN t x (pth t y j (x, 0)).1) (U ||| 2 ^ p) (l + losA t p x (pth t y j (x, 0)).1) o
theorem hdZ_iff {t : sMem} {y x U l p w : Nat} {R : Nat → Nat → Nat → Nat → Nat × Nat → Prop} (o : Nat × Nat) : hdZ t y R x U l p w o ↔ (o = (l + losA t p x y, w + fN t x y) ∨ hdJ t y R x U l p w (pl t y x) o) := by
  unfold hdZ hdJ wayQ
  constructor
  · rintro (h | ⟨z, ⟨j, h1, h2, rfl⟩, h⟩)
    · exact Or.inl h
    · exact Or.inr ⟨j, h1, h2, h⟩
  · rintro (h | ⟨j, h1, h2, h⟩)
    · exact Or.inl h
    · exact Or.inr ⟨_, ⟨j, h1, h2, rfl⟩, h⟩
theorem hdJ_s {t : sMem} {y x U l p w i : Nat} {R : Nat → Nat → Nat → Nat → Nat × Nat → Prop} (hi : 1 ≤ i) (o : Nat × Nat) : hdJ t y R x U l p w (i + 1) o ↔ (hdJ t y R x U l p w i o ∨ R (pth t y i (x, 0)).1 (w + fN t x (pth t y i (x, 0)).1) (U ||| 2 ^ p) (l + losA t p x (pth t y i (x, 0)).1) o) := by
  unfold hdJ
  constructor
  · rintro ⟨j, h1, h2, h⟩
    by_cases e : j = i
    · subst e; exact Or.inr h
    · exact Or.inl ⟨j, h1, by omega, h⟩
  · rintro (⟨j, h1, h2, h⟩ | h)
    · exact ⟨j, h1, by omega, h⟩
    · exact ⟨i, hi, Nat.lt_succ_self i, h⟩
theorem hdJ_1 {t : sMem} {y x U l p w : Nat} {R : Nat → Nat → Nat → Nat → Nat × Nat → Prop} (o : Nat × Nat) : ¬ hdJ t y R x U l p w 1 o := by
  rintro ⟨j, h1, h2, -⟩
  omega
theorem hd_s {t : sMem} {P y n x m U l p : Nat} (o : Nat × Nat) : (∃ q, q < p + 1 ∧ hd1 t P y (hdN t P y n) x m U l q o) ↔ ((∃ q, q < p ∧ hd1 t P y (hdN t P y n) x m U l q o) ∨ hd1 t P y (hdN t P y n) x m U l p o) := by
  constructor
  · rintro ⟨q, h1, h⟩
    by_cases e : q = p
    · subst e; exact Or.inr h
    · exact Or.inl ⟨q, by omega, h⟩
  · rintro (⟨q, h1, h⟩ | h)
    · exact ⟨q, by omega, h⟩
    · exact ⟨p, Nat.lt_succ_self p, h⟩
section
variable {l : Launch} {D0 : va_G} {b0 : Nat} {ty : Nat → ClassId} {ad av : Nat → Nat}
theorem c1_consider (d : Nat) (σ : sMem) (B : Option (Nat × Nat)) (a b : Nat) (ha : a ≤ 1000000) (hb9 : b ≤ 2000) (hE0 : hE σ B) (hO : hOK B) : sMet l D0 b0 ty lay d mX1_consider [aR 94, aI (nI a), aI (nI b)] σ (fun r σ' => r = [] ∧ HF σ σ' ∧ hE σ' (lxU B (a, b))) := by
  refine sMet_intro lay_nd kX1_consider xX1_ok (by decide +kernel) rfl ?_
  intro K hK
  rcases B with _ | c
  · obtain ⟨e3, e4⟩ := hE0
    iterate 3 refine hK _ _ _ _ ?_
    show K _ _ _ _
    rw [show σ 94 0 3 = 2000000000 from e3]
    refine hK _ _ _ _ ?_
    refine And.intro (fun _ => ?_) (fun h9 => absurd ((nI_ltI (b := 2000000000) (by omega) (by decide)).mpr (by omega)) h9)
    iterate 7 refine hK _ _ _ _ ?_
    exact ⟨rfl, ⟨fun i hi => by rw [sUp_off hi, sUp_off hi], fun k h1 h2 => by rw [sUp_k h2, sUp_k h1]⟩, ⟨by rw [sUp_k (by decide), sUp_at], sUp_at _ _ _ _ _⟩⟩
  · obtain ⟨e3, e4⟩ := hE0
    have o1 := hO c rfl
    have hl : lxU (some c) (a, b) = if a < c.1 ∨ (a = c.1 ∧ b < c.2) then some (a, b) else some c := rfl
    rw [hl] at hK
    have L24 : (a < c.1 ∨ (a = c.1 ∧ b < c.2)) → K 24 [some (aR 94), some (aI (nI a)), some (aI (nI b))] [] σ := by
      intro hc
      rw [if_pos hc] at hK
      iterate 7 refine hK _ _ _ _ ?_
      exact ⟨rfl, ⟨fun i hi => by rw [sUp_off hi, sUp_off hi], fun k h1 h2 => by rw [sUp_k h2, sUp_k h1]⟩, ⟨by rw [sUp_k (by decide), sUp_at], sUp_at _ _ _ _ _⟩⟩
    have L34 : ¬ (a < c.1 ∨ (a = c.1 ∧ b < c.2)) → K 34 [some (aR 94), some (aI (nI a)), some (aI (nI b))] [] σ := by
      intro hc
      rw [if_neg hc] at hK
      refine hK _ _ _ _ ?_
      exact ⟨rfl, HF.rf σ, e3, e4⟩
    iterate 3 refine hK _ _ _ _ ?_
    show K _ _ _ _
    rw [show σ 94 0 3 = nI c.1 from e3]
    refine hK _ _ _ _ ?_
    refine And.intro (fun h9 => L24 (Or.inl ((nI_ltI (by omega) (by omega)).mp h9))) (fun h9 => ?_)
    have g9 : ¬ a < c.1 := fun q => h9 ((nI_ltI (by omega) (by omega)).mpr q)
    iterate 3 refine hK _ _ _ _ ?_
    show K _ _ _ _
    rw [show σ 94 0 3 = nI c.1 from e3]
    refine hK _ _ _ _ ?_
    refine And.intro (fun h8 => L34 (fun q => q.elim g9 (fun q => h8 (by rw [q.1])))) (fun h8 => ?_)
    have g8 : a = c.1 := (nI_eq (by omega) (by omega)).mp h8
    iterate 3 refine hK _ _ _ _ ?_
    show K _ _ _ _
    rw [show σ 94 0 4 = nI c.2 from e4]
    refine hK _ _ _ _ ?_
    refine And.intro (fun h7 => L34 (fun q => q.elim g9 (fun q => absurd ((nI_leI (by omega) (by omega)).mp h7) (by omega)))) (fun h7 => ?_)
    exact L24 (Or.inr ⟨g8, Decidable.byContradiction fun q => h7 ((nI_leI (by omega) (by omega)).mpr (by omega))⟩)
theorem t7_canLeadTo_36 (d : Nat) (σ t : sMem) (N P S G : Nat) (hC : CT σ t 36 N P S G) (hM : MI t N P S G) (p : Nat) (hp : p < P) (x y : Nat) (hx : x < N) (hy : y < N) : yMet l D0 b0 ty ad av lay (d + 1) 0 mX7_canLeadTo [aR 36, aI (nI p), aI (nI x), aI (nI y)] σ (fun r σ' => r = [aI (bI (ctB t p x y))] ∧ σ' = σ) (fun _ _ => False) := by
  have h := c7_canLeadTo_36 (l := l) (D := D0) (b0 := b0) (ty := ty) (ad := ad) (av := av) d σ t N P S G hC hM p hp x y hx hy
  have hN := hM.1.1.1.1
  rw [hb_bt _ _ (by omega), show (t 6 p 1).toNatClampNeg = pQ t p from rfl] at h
  exact h
theorem c1_notePassing_36 (d : Nat) (σ t : sMem) (N P S G : Nat) (hC : CT σ t 36 N P S G) (hM : MI t N P S G) (h0 : σ 94 0 0 = nI 36) (p : Nat) (hp : p < P) : yMet l D0 b0 ty ad av lay (d + 2) 0 mX1_notePassing [aR 94, aI (nI p)] σ (fun r σ' => r = [] ∧ (∀ i, i ≠ 95 → σ' i = σ i) ∧ (∀ q, q ≠ p → σ' 95 q = σ 95 q) ∧ ∀ x, x < N → (∀ w, psQ t p x w → σ' 95 p x = nI w) ∧ ((∀ w, ¬ psQ t p x w) → σ' 95 p x = -1)) (fun _ _ => False) := by
  refine yMet_intro lay_nd kX1_notePassing xX1_ok (yY1_ok _) (by decide +kernel) rfl ?_
  intro K hK
  have hm := MC_of hM
  have hN := hm.1.1.1
  have hP := hm.2.2.1
  obtain ⟨⟨-, ha⟩, ⟨-, hq⟩, ⟨-, hT5⟩, -⟩ := hm.2.2.2.2.1 p hp
  iterate 4 refine hK _ _ _ _ _ ?_
  refine And.intro (vp_in_nI (n := p) (by omega) (by decide)) ?_
  rw [nI_clamp (show p < 2 ^ 31 by omega)]
  iterate 2 refine hK _ _ _ _ _ ?_
  refine Or.inl (calD (cJ_fill95 _ _ p (by omega) _) ?_)
  rintro r μ1 ⟨rfl, h1⟩
  show K 0 10 [some (aR 94), some (aI (nI p)), none, none] [] μ1
  have hf1 : ∀ i, i ≠ 95 → μ1 i = σ i := fun i a => by rw [h1]; unfold flR; rw [sRow_off a]
  have hr1 : ∀ q, q ≠ p → μ1 95 q = σ 95 q := fun q a => by rw [h1]; unfold flR; rw [sRow_ne a]
  have hv1 : ∀ x, x < 12 → μ1 95 p x = -1 := fun x a => by rw [h1]; unfold flR; rw [sRow_at, if_pos a]; rfl
  clear h1
  have hC1 : CT μ1 t 36 N P S G := hC.cg (fun i h1 h2 => hf1 i (by omega))
  have hT1 := TT_of (c := t) hC1 hM (fun _ _ => rfl)
  have h01 : μ1 94 0 0 = nI 36 := by rw [hf1 94 (by decide)]; exact h0
  iterate 2 refine hK _ _ _ _ _ ?_
  show K _ _ _ _ _
  rw [show μ1 94 0 0 = nI 36 from h01]
  show K _ _ _ _ _
  rw [show (nI 36).toNatClampNeg = 36 from rfl]
  iterate 2 refine hK _ _ _ _ _ ?_
  refine Or.inl (calD (t7_goes_36 _ _ t N P S hT1 hm p hp) ?_)
  rintro r σ' ⟨rfl, hσ⟩
  subst σ'
  show K 0 18 [some (aR 94), some (aI (nI p)), none, none] [aI (bI (decide (fN t (pP t p) (pQ t p) < 1000000)))] μ1
  refine hK _ _ _ _ _ ?_
  refine And.intro (fun h9 => ?_) (fun h9 => ?_)
  · have hf := of_decide_eq_true (bI_t h9)
    obtain ⟨f5, f6, f7, -, -⟩ := hT1.2.2.2.2.1 p hp
    have hPt := hm.1
    iterate 2 refine hK _ _ _ _ _ ?_
    show K _ _ _ _ _
    rw [show μ1 94 0 0 = nI 36 from h01]
    show K _ _ _ _ _
    rw [show (nI 36).toNatClampNeg = 36 from rfl]
    iterate 3 refine hK _ _ _ _ _ ?_
    refine And.intro (vp_in_nI (n := p) (by omega) (by decide)) ?_
    rw [nI_clamp (show p < 2 ^ 31 by omega)]
    rw [show μ1 41 0 p = nI (pP t p) from f5]
    iterate 5 refine hK _ _ _ _ _ ?_
    refine And.intro (vp_in_nI (n := p) (by omega) (by decide)) ?_
    rw [nI_clamp (show p < 2 ^ 31 by omega)]
    iterate 3 refine hK _ _ _ _ _ ?_
    show K _ _ _ _ _
    rw [show μ1 94 0 0 = nI 36 from h01]
    show K _ _ _ _ _
    rw [show (nI 36).toNatClampNeg = 36 from rfl]
    iterate 3 refine hK _ _ _ _ _ ?_
    refine And.intro (vp_in_nI (n := p) (by omega) (by decide)) ?_
    rw [nI_clamp (show p < 2 ^ 31 by omega)]
    rw [show μ1 43 0 p = nI (pT t p) from f7]
    refine hK _ _ _ _ _ ?_
    refine And.intro (by first | omega | (rw [nI_clamp (by omega)]; omega)) (And.intro (vp_in_nI (n := (pP t p)) (by omega) (by decide)) ?_)
    rw [nI_clamp (show (pP t p) < 2 ^ 31 by omega)]
    iterate 2 refine hK _ _ _ _ _ ?_
    have L51 : ∀ (f : Nat) (i : Nat) (μ : sMem), i + f = pl t (pQ t p) (pP t p) → (∀ i, i ≠ 95 → μ i = σ i) → (∀ q, q ≠ p → μ 95 q = σ 95 q) → (∀ x, x < 12 → (∃ j, j ≤ i ∧ (pth t (pQ t p) j (pP t p, pT t p)).1 = x ∧ μ 95 p x = nI (pth t (pQ t p) j (pP t p, pT t p)).2) ∨ ((∀ j, j ≤ i → (pth t (pQ t p) j (pP t p, pT t p)).1 ≠ x) ∧ μ 95 p x = -1)) → K 0 51 [some (aR 94), some (aI (nI p)), some (aI (nI (pth t (pQ t p) i (pP t p, pT t p)).1)), some (aI (nI i))] [] μ := by
      intro f
      induction f with
      | zero =>
        intro i μ hi hf2 hr2 hd
        obtain ⟨b1, b2, b3, b4, -⟩ := pth_at hPt hq i (pP t p) (pT t p) ha hf (by omega)
        have hqi := pth_q (w := pT t p) hPt hq ha hf (show i ≤ pl t (pQ t p) (pP t p) by omega)
        have hple := pl_le hPt hq ha hf
        have hCμ : CT μ t 36 N P S G := hC.cg (fun i h1 h2 => hf2 i (by omega))
        have hTμ := TT_of (c := t) hCμ hM (fun _ _ => rfl)
        have h0μ : μ 94 0 0 = nI 36 := by rw [hf2 94 (by decide)]; exact h0
        obtain ⟨g5, g6, g7, -, -⟩ := hTμ.2.2.2.2.1 p hp
        iterate 3 refine hK _ _ _ _ _ ?_
        refine And.intro (fun h8 => absurd ((nI_leI (a := 12) (by decide) (by omega)).mp h8) (by omega)) (fun _ => ?_)
        iterate 3 refine hK _ _ _ _ _ ?_
        show K _ _ _ _ _
        rw [show μ 94 0 0 = nI 36 from h0μ]
        show K _ _ _ _ _
        rw [show (nI 36).toNatClampNeg = 36 from rfl]
        iterate 3 refine hK _ _ _ _ _ ?_
        refine And.intro (vp_in_nI (n := p) (by omega) (by decide)) ?_
        rw [nI_clamp (show p < 2 ^ 31 by omega)]
        rw [show μ 42 0 p = nI (pQ t p) from g6]
        refine hK _ _ _ _ _ ?_
        refine And.intro (fun _ => ?_) (fun h8 => absurd (by rw [hqi.mpr (by omega)]) h8)
        refine hK _ _ _ _ _ ?_
        refine ⟨rfl, hf2, hr2, fun x hx => ⟨fun w hw => ?_, fun hn => ?_⟩⟩
        · rcases hd x (by omega) with ⟨j, j1, j2, j3⟩ | ⟨j1, -⟩
          · have q1 : psQ t p x (pth t (pQ t p) j (pP t p, pT t p)).2 := ⟨hf, j, by omega, Prod.ext j2 rfl⟩
            have e1 := (psQ_at hm hp q1).2.1
            have e2 := (psQ_at hm hp hw).2.1
            rw [j3, e1, e2]
          · obtain ⟨-, k, k1, k2⟩ := hw
            exact absurd (by rw [k2]) (j1 k (by omega))
        · rcases hd x (by omega) with ⟨j, j1, j2, j3⟩ | ⟨-, j2⟩
          · exact absurd (⟨hf, j, by omega, Prod.ext j2 rfl⟩ : psQ t p x (pth t (pQ t p) j (pP t p, pT t p)).2) (hn _)
          · exact j2
      | succ f ih =>
        intro i μ hi hf2 hr2 hd
        obtain ⟨b1, b2, b3, b4, -⟩ := pth_at hPt hq i (pP t p) (pT t p) ha hf (by omega)
        have hqi := pth_q (w := pT t p) hPt hq ha hf (show i ≤ pl t (pQ t p) (pP t p) by omega)
        have hple := pl_le hPt hq ha hf
        have hCμ : CT μ t 36 N P S G := hC.cg (fun i h1 h2 => hf2 i (by omega))
        have hTμ := TT_of (c := t) hCμ hM (fun _ _ => rfl)
        have h0μ : μ 94 0 0 = nI 36 := by rw [hf2 94 (by decide)]; exact h0
        obtain ⟨g5, g6, g7, -, -⟩ := hTμ.2.2.2.2.1 p hp
        have hne : ¬ (pth t (pQ t p) i (pP t p, pT t p)).1 = pQ t p := fun e => by have := hqi.mp e; omega
        obtain ⟨n1, n2, -, -, -, -⟩ := nx_at hPt b1 hq b2 hne
        have e4 : μ 40 (pth t (pQ t p) i (pP t p, pT t p)).1 (pQ t p) = nI (nxN t (pth t (pQ t p) i (pP t p, pT t p)).1 (pQ t p)) := (hTμ.2.2.2.1 _ _ b1 hq).2
        have hs : pth t (pQ t p) (i + 1) (pP t p, pT t p) = st1 t (pQ t p) (pth t (pQ t p) i (pP t p, pT t p)) := pth_s _ _ _ _
        have hs1 : nxN t (pth t (pQ t p) i (pP t p, pT t p)).1 (pQ t p) = (pth t (pQ t p) (i + 1) (pP t p, pT t p)).1 := by rw [hs]; rfl
        obtain ⟨c1, c2, c3, c4, -⟩ := pth_at hPt hq (i + 1) (pP t p) (pT t p) ha hf (by omega)
        have e3 : μ 39 (pP t p) (pth t (pQ t p) (i + 1) (pP t p, pT t p)).1 = nI (fN t (pP t p) (pth t (pQ t p) (i + 1) (pP t p, pT t p)).1) := (hTμ.2.2.2.1 _ _ ha c1).1
        have hval : pT t p + fN t (pP t p) (pth t (pQ t p) (i + 1) (pP t p, pT t p)).1 = (pth t (pQ t p) (i + 1) (pP t p, pT t p)).2 := ((psQ_at hm hp ⟨hf, i + 1, by omega, rfl⟩).2.1).symm
        rw [hs1] at e4
        iterate 3 refine hK _ _ _ _ _ ?_
        refine And.intro (fun h8 => absurd ((nI_leI (a := 12) (by decide) (by omega)).mp h8) (by omega)) (fun _ => ?_)
        iterate 3 refine hK _ _ _ _ _ ?_
        show K _ _ _ _ _
        rw [show μ 94 0 0 = nI 36 from h0μ]
        show K _ _ _ _ _
        rw [show (nI 36).toNatClampNeg = 36 from rfl]
        iterate 3 refine hK _ _ _ _ _ ?_
        refine And.intro (vp_in_nI (n := p) (by omega) (by decide)) ?_
        rw [nI_clamp (show p < 2 ^ 31 by omega)]
        rw [show μ 42 0 p = nI (pQ t p) from g6]
        refine hK _ _ _ _ _ ?_
        refine And.intro (fun h8 => absurd ((nI_eq (by omega) (by omega)).mp h8) hne) (fun _ => ?_)
        iterate 2 refine hK _ _ _ _ _ ?_
        show K _ _ _ _ _
        rw [show μ 94 0 0 = nI 36 from h0μ]
        show K _ _ _ _ _
        rw [show (nI 36).toNatClampNeg = 36 from rfl]
        iterate 4 refine hK _ _ _ _ _ ?_
        refine And.intro (vp_in_nI (n := ((pth t (pQ t p) i (pP t p, pT t p)).1)) (by omega) (by decide)) ?_
        rw [nI_clamp (show ((pth t (pQ t p) i (pP t p, pT t p)).1) < 2 ^ 31 by omega)]
        iterate 2 refine hK _ _ _ _ _ ?_
        show K _ _ _ _ _
        rw [show μ 94 0 0 = nI 36 from h0μ]
        show K _ _ _ _ _
        rw [show (nI 36).toNatClampNeg = 36 from rfl]
        iterate 3 refine hK _ _ _ _ _ ?_
        refine And.intro (vp_in_nI (n := p) (by omega) (by decide)) ?_
        rw [nI_clamp (show p < 2 ^ 31 by omega)]
        rw [show μ 42 0 p = nI (pQ t p) from g6]
        refine hK _ _ _ _ _ ?_
        refine And.intro (by first | omega | (rw [nI_clamp (by omega)]; omega)) (And.intro (vp_in_nI (n := (pQ t p)) (by omega) (by decide)) ?_)
        rw [nI_clamp (show (pQ t p) < 2 ^ 31 by omega)]
        rw [show μ 40 ((pth t (pQ t p) i (pP t p, pT t p)).1) (pQ t p) = nI (pth t (pQ t p) (i + 1) (pP t p, pT t p)).1 from e4]
        iterate 5 refine hK _ _ _ _ _ ?_
        refine And.intro (vp_in_nI (n := p) (by omega) (by decide)) ?_
        rw [nI_clamp (show p < 2 ^ 31 by omega)]
        iterate 3 refine hK _ _ _ _ _ ?_
        show K _ _ _ _ _
        rw [show μ 94 0 0 = nI 36 from h0μ]
        show K _ _ _ _ _
        rw [show (nI 36).toNatClampNeg = 36 from rfl]
        iterate 3 refine hK _ _ _ _ _ ?_
        refine And.intro (vp_in_nI (n := p) (by omega) (by decide)) ?_
        rw [nI_clamp (show p < 2 ^ 31 by omega)]
        rw [show μ 43 0 p = nI (pT t p) from g7]
        iterate 2 refine hK _ _ _ _ _ ?_
        show K _ _ _ _ _
        rw [show μ 94 0 0 = nI 36 from h0μ]
        show K _ _ _ _ _
        rw [show (nI 36).toNatClampNeg = 36 from rfl]
        iterate 4 refine hK _ _ _ _ _ ?_
        show K _ _ _ _ _
        rw [show μ 94 0 0 = nI 36 from h0μ]
        show K _ _ _ _ _
        rw [show (nI 36).toNatClampNeg = 36 from rfl]
        iterate 3 refine hK _ _ _ _ _ ?_
        refine And.intro (vp_in_nI (n := p) (by omega) (by decide)) ?_
        rw [nI_clamp (show p < 2 ^ 31 by omega)]
        rw [show μ 41 0 p = nI (pP t p) from g5]
        refine hK _ _ _ _ _ ?_
        refine And.intro (vp_in_nI (n := (pP t p)) (by omega) (by decide)) ?_
        rw [nI_clamp (show (pP t p) < 2 ^ 31 by omega)]
        iterate 2 refine hK _ _ _ _ _ ?_
        refine And.intro (by first | omega | (rw [nI_clamp (by omega)]; omega)) (And.intro (vp_in_nI (n := ((pth t (pQ t p) (i + 1) (pP t p, pT t p)).1)) (by omega) (by decide)) ?_)
        rw [nI_clamp (show ((pth t (pQ t p) (i + 1) (pP t p, pT t p)).1) < 2 ^ 31 by omega)]
        rw [show μ 39 (pP t p) ((pth t (pQ t p) (i + 1) (pP t p, pT t p)).1) = nI (fN t (pP t p) (pth t (pQ t p) (i + 1) (pP t p, pT t p)).1) from e3]
        iterate 2 refine hK _ _ _ _ _ ?_
        refine And.intro (by first | omega | (rw [nI_clamp (by omega)]; omega)) (And.intro (vp_in_nI (n := ((pth t (pQ t p) (i + 1) (pP t p, pT t p)).1)) (by omega) (by decide)) ?_)
        rw [nI_clamp (show ((pth t (pQ t p) (i + 1) (pP t p, pT t p)).1) < 2 ^ 31 by omega)]
        refine hK _ _ _ _ _ ?_
        show K _ _ _ _ _
        rw [show nI i + Int32.ofInt 1 = nI (i + 1) from nIs _]
        refine hK _ _ _ _ _ ?_
        show K _ _ _ _ _
        rw [nIa, hval]
        refine ih (i + 1) _ (by omega) (fun j hj => by rw [sUp_off hj]; exact hf2 j hj) (fun q hq9 => by rw [sUp_rowne hq9]; exact hr2 q hq9) (fun x hx => ?_)
        by_cases e : x = (pth t (pQ t p) (i + 1) (pP t p, pT t p)).1
        · refine Or.inl ⟨i + 1, Nat.le_refl _, e.symm, ?_⟩
          rw [e, sUp_at]
        · rw [sUp_k e]
          rcases hd x hx with ⟨j, j1, j2, j3⟩ | ⟨j1, j2⟩
          · exact Or.inl ⟨j, by omega, j2, j3⟩
          · refine Or.inr ⟨fun j hj => ?_, j2⟩
            by_cases ej : j = i + 1
            · rw [ej]; exact fun q => e q.symm
            · exact j1 j (by omega)
    refine L51 _ 0 _ (Nat.zero_add _) (fun j hj => by rw [sUp_off hj]; exact hf1 j hj) (fun q hq9 => by rw [sUp_rowne hq9]; exact hr1 q hq9) (fun x hx => ?_)
    by_cases e : x = pP t p
    · exact Or.inl ⟨0, Nat.le_refl _, e.symm, by rw [e, sUp_at]; rfl⟩
    · rw [sUp_k e]
      exact Or.inr ⟨fun j hj => by rw [show j = 0 by omega]; exact fun q => e q.symm, hv1 x hx⟩
  · have hf := of_decide_eq_false (bI_f h9)
    refine hK _ _ _ _ _ ?_
    exact ⟨rfl, hf1, hr1, fun x hx => ⟨fun w hw => absurd hw.1 hf, fun _ => hv1 x (by omega)⟩⟩
def SR36 (l : Launch) (D0 : va_G) (b0 : Nat) (ty : Nat → ClassId) (ad av : Nat → Nat) (t : sMem) (N P S G y d n : Nat) : Prop := ∀ (σ : sMem) (x m U l9 : Nat) (B : Option (Nat × Nat)), HSr σ t 36 N P S G y → x < N → x ≠ y → m ≤ 3000 → U < 1024 → l9 + 200000 * n ≤ 400000 → hE σ B → hOK B → yMet l D0 b0 ty ad av lay (d + n + 2) 0 mX1_search [aR 94, aI (nI x), aI (nI m), aI (nI U), aI (nI l9), aI (nI n)] σ (fun r σ' => r = [] ∧ HF σ σ' ∧ ∃ B', LU B (hdN t P y (n + 1) x m U l9) B' ∧ hE σ' B' ∧ hOK B') (fun _ _ => False)
set_option maxHeartbeats 4000000 in
theorem c1_searchS_36 (d : Nat) (t : sMem) (N P S G y n : Nat) (hM : MI t N P S G) (hy : y < N) (hn2 : n ≤ 2) (hrec : ∀ k, n = k + 1 → SR36 l D0 b0 ty ad av t N P S G y d k) (σ : sMem) (x m U l9 : Nat) (B : Option (Nat × Nat)) (hH : HSr σ t 36 N P S G y) (hx : x < N) (hxy : x ≠ y) (hm3 : m ≤ 3000) (hU : U < 1024) (hl : l9 + 200000 * n ≤ 400000) (hE0 : hE σ B) (hO : hOK B) : yMet l D0 b0 ty ad av lay (d + n + 2) 0 mX1_search [aR 94, aI (nI x), aI (nI m), aI (nI U), aI (nI l9), aI (nI n)] σ (fun r σ' => r = [] ∧ HF σ σ' ∧ ∃ B', LU B (hdN t P y (n + 1) x m U l9) B' ∧ hE σ' B' ∧ hOK B') (fun _ _ => False) := by
  refine yMet_intro lay_nd kX1_search xX1_ok (yY1_ok _) (by decide +kernel) rfl ?_
  intro K hK
  have hm := MC_of hM
  have hN := hm.1.1.1
  have hP := hm.2.2.1
  iterate 2 refine hK _ _ _ _ _ ?_
  refine And.intro (fun _ => ?_) (fun h9 => absurd (nI_pos' (by omega)) h9)
  iterate 2 refine hK _ _ _ _ _ ?_
  show K _ _ _ _ _
  rw [show σ 94 0 0 = nI 36 from hH.2.1]
  show K _ _ _ _ _
  rw [show (nI 36).toNatClampNeg = 36 from rfl]
  iterate 3 refine hK _ _ _ _ _ ?_
  have L15 : ∀ (f : Nat) (p : Nat) (e8 e9 e10 e11 : Option AV) (μ : sMem) (B1 : Option (Nat × Nat)), p + f = P → HF σ μ → hE μ B1 → hOK B1 → LU B (fun o => (∃ q, q < p ∧ hd1 t P y (hdN t P y n) x m U l9 q o)) B1 → K 0 15 [some (aR 94), some (aI (nI x)), some (aI (nI m)), some (aI (nI U)), some (aI (nI l9)), some (aI (nI n)), some (aR 36), some (aI (nI p)), e8, e9, e10, e11] [] μ := by
    intro f
    induction f with
    | zero =>
      intro p e8 e9 e10 e11 μ B1 hp hF hE1 hO1 hLU
      have hH_μ := hH.cg (Or.inl rfl) hF
      have hT_μ := TT_of (c := t) hH_μ.1 hM (fun _ _ => rfl)
      have s1_μ : μ 36 0 1 = nI P := hH_μ.1.2.1
      iterate 3 refine hK _ _ _ _ _ ?_
      show K _ _ _ _ _
      rw [show μ 36 0 1 = nI P from s1_μ]
      refine hK _ _ _ _ _ ?_
      refine And.intro (fun _ => ?_) (fun h9 => absurd ((nI_leI (by omega) (by omega)).mpr (by omega)) h9)
      refine hK _ _ _ _ _ ?_
      refine ⟨rfl, hF, B1, LU_cg hLU (fun o => ?_), hE1, hO1⟩
      constructor
      · rintro ⟨q, -, h⟩; exact ⟨q, h⟩
      · rintro ⟨q, h⟩; exact ⟨q, by have := h.elim (fun w hw => hw.1.1); omega, h⟩
    | succ f ih =>
      intro p e8 e9 e10 e11 μ B1 hp hF hE1 hO1 hLU
      have hH_μ := hH.cg (Or.inl rfl) hF
      have hT_μ := TT_of (c := t) hH_μ.1 hM (fun _ _ => rfl)
      have s1_μ : μ 36 0 1 = nI P := hH_μ.1.2.1
      have hpP : p < P := by omega
      have hqN := (hm.2.2.2.2.1 p hpP).2.1.2
      iterate 3 refine hK _ _ _ _ _ ?_
      show K _ _ _ _ _
      rw [show μ 36 0 1 = nI P from s1_μ]
      refine hK _ _ _ _ _ ?_
      refine And.intro (fun h9 => absurd ((nI_leI (by omega) (by omega)).mp h9) (by omega)) (fun _ => ?_)
      have L229 : ∀ (e8 e9 e10 e11 : Option AV), (∀ o, ¬ hd1 t P y (hdN t P y n) x m U l9 p o) → K 0 229 [some (aR 94), some (aI (nI x)), some (aI (nI m)), some (aI (nI U)), some (aI (nI l9)), some (aI (nI n)), some (aR 36), some (aI (nI p)), e8, e9, e10, e11] [] μ := by
        intro e8 e9 e10 e11 hn
        refine hK _ _ _ _ _ ?_
        show K _ _ _ _ _
        rw [show nI p + Int32.ofInt 1 = nI (p + 1) from nIs _]
        refine hK _ _ _ _ _ ?_
        exact ih (p + 1) _ _ _ _ μ B1 (by omega) hF hE1 hO1 (LU_cg hLU (fun o => by rw [hd_s]; exact ⟨Or.inl, fun q => q.elim id (fun q => absurd q (hn o))⟩))
      by_cases hq : ∃ w, psQ t p x w
      · obtain ⟨w, hw⟩ := hq
        have hv := (hH_μ.2.2.2 p x hpP hx).1 w hw
        have hw1 := psQ_le hm hpP hw
        iterate 4 refine hK _ _ _ _ _ ?_
        refine And.intro (vp_in_nI (n := p) (by omega) (by decide)) ?_
        rw [nI_clamp (show p < 2 ^ 31 by omega)]
        iterate 2 refine hK _ _ _ _ _ ?_
        refine And.intro (by first | omega | (rw [nI_clamp (by omega)]; omega)) (And.intro (vp_in_nI (n := x) (by omega) (by decide)) ?_)
        rw [nI_clamp (show x < 2 ^ 31 by omega)]
        rw [show μ 95 p x = nI w from hv]
        iterate 4 refine hK _ _ _ _ _ ?_
        refine calD (c8_hasBit _ _ _ _) ?_
        rintro r σ' ⟨rfl, hσ⟩
        subst σ'
        show K 0 42 [some (aR 94), some (aI (nI x)), some (aI (nI m)), some (aI (nI U)), some (aI (nI l9)), some (aI (nI n)), some (aR 36), some (aI (nI p)), some (aI (nI w)), e9, e10, e11] [aI (bI (hb (nI U) (nI p)))] μ
        refine hK _ _ _ _ _ ?_
        refine And.intro (fun h8 => L229 _ _ _ _ (fun o h => h.elim (fun w9 hw9 => by have cb := bI_t h8; rw [hb_nI _ _ (by omega), hw9.1.2.1] at cb; cases cb))) (fun h8 => ?_)
        have cb := bI_f h8
        rw [hb_nI _ _ (by omega)] at cb
        iterate 3 refine hK _ _ _ _ _ ?_
        refine And.intro (fun h7 => L229 _ _ _ _ (fun o h => h.elim (fun w9 hw9 => by have e1 := (psQ_at hm hpP hw).2.1; have e2 := (psQ_at hm hpP hw9.1.2.2.2.2.2.1).2.1; have e3 := hw9.1.2.2.2.2.2.2; have e4 := (nI_ltI (by omega) (by omega)).mp h7; omega))) (fun h7 => ?_)
        have hmw : m ≤ w := Decidable.byContradiction fun q => h7 ((nI_ltI (by omega) (by omega)).mpr (by omega))
        iterate 5 refine hK _ _ _ _ _ ?_
        show K _ _ _ _ _
        rw [show μ 94 0 1 = nI y from hH_μ.2.2.1]
        refine hK _ _ _ _ _ ?_
        refine Or.inr (Or.inl (yD0 (t7_canLeadTo_36 _ _ t N P S G hH_μ.1 hM p hpP x y hx hy) ?_))
        rintro r σ' ⟨rfl, hσ⟩
        subst σ'
        show K 0 63 [some (aR 94), some (aI (nI x)), some (aI (nI m)), some (aI (nI U)), some (aI (nI l9)), some (aI (nI n)), some (aR 36), some (aI (nI p)), some (aI (nI w)), e9, e10, e11] [aI (bI (ctB t p x y))] μ
        refine hK _ _ _ _ _ ?_
        refine And.intro (fun h6 => ?_) (fun h6 => ?_)
        · obtain ⟨k1, k2, k3⟩ := ctB_iff.mp (bI_t h6)
          have hc : hcQ t P y p U x m w := ⟨hpP, cb, k1, k2, k3, hw, hmw⟩
          have f1 := fN_660 hm.1 hy hx k2
          have l1 := los_le hm hpP hx hy k2 k3
          have em := (hT_μ.2.2.2.1 x y hx hy).1
          have hpl := pl_le hm.1 hy hx k2
          have hpl1 : 1 ≤ pl t y x := by have := pl_s hm.1 hy hx k2 hxy; omega
          iterate 7 refine hK _ _ _ _ _ ?_
          show K _ _ _ _ _
          rw [show μ 94 0 1 = nI y from hH_μ.2.2.1]
          refine hK _ _ _ _ _ ?_
          refine Or.inl (calD (t7_lossBy_36 _ _ t N P S hT_μ hm p hpP x y hx hy) ?_)
          rintro r σ' ⟨rfl, hσ⟩
          subst σ'
          show K 0 84 [some (aR 94), some (aI (nI x)), some (aI (nI m)), some (aI (nI U)), some (aI (nI l9)), some (aI (nI n)), some (aR 36), some (aI (nI p)), some (aI (nI w)), e9, e10, e11] [aI (nI (losA t p x y)), aI (nI l9), aR 94] μ
          refine hK _ _ _ _ _ ?_
          show K _ _ _ _ _
          rw [nIa]
          iterate 6 refine hK _ _ _ _ _ ?_
          refine And.intro (vp_in_nI (n := x) (by omega) (by decide)) ?_
          rw [nI_clamp (show x < 2 ^ 31 by omega)]
          iterate 2 refine hK _ _ _ _ _ ?_
          show K _ _ _ _ _
          rw [show μ 94 0 1 = nI y from hH_μ.2.2.1]
          refine hK _ _ _ _ _ ?_
          refine And.intro (by first | omega | (rw [nI_clamp (by omega)]; omega)) (And.intro (vp_in_nI (n := y) (by omega) (by decide)) ?_)
          rw [nI_clamp (show y < 2 ^ 31 by omega)]
          rw [show μ 39 x y = nI (fN t x y) from em]
          refine hK _ _ _ _ _ ?_
          show K _ _ _ _ _
          rw [nIa]
          refine hK _ _ _ _ _ ?_
          refine Or.inl (calD (c1_consider _ _ B1 (l9 + losA t p x y) (w + fN t x y) (by omega) (by omega) hE1 hO1) ?_)
          rintro r κ0 ⟨rfl, hFk, hEk⟩
          show K 0 106 [some (aR 94), some (aI (nI x)), some (aI (nI m)), some (aI (nI U)), some (aI (nI l9)), some (aI (nI n)), some (aR 36), some (aI (nI p)), some (aI (nI w)), e9, e10, e11] [] κ0
          have hF0 := hF.tr hFk
          have hO2 := lxU_OK hO1 (show l9 + losA t p x y ≤ 1000000 by omega) (show w + fN t x y ≤ 2000 by omega)
          have hL2 := LU_tr hLU (LU_one B1 (l9 + losA t p x y, w + fN t x y))
          generalize lxU B1 (l9 + losA t p x y, w + fN t x y) = B2 at hEk hO2 hL2
          have hH_κ0 := hH.cg (Or.inl rfl) hF0
          have hT_κ0 := TT_of (c := t) hH_κ0.1 hM (fun _ _ => rfl)
          have s1_κ0 : κ0 36 0 1 = nI P := hH_κ0.1.2.1
          have e40 : κ0 40 x y = nI (pth t y (0 + 1) (x, 0)).1 := (hT_κ0.2.2.2.1 x y hx hy).2
          iterate 5 refine hK _ _ _ _ _ ?_
          refine And.intro (vp_in_nI (n := x) (by omega) (by decide)) ?_
          rw [nI_clamp (show x < 2 ^ 31 by omega)]
          iterate 2 refine hK _ _ _ _ _ ?_
          show K _ _ _ _ _
          rw [show κ0 94 0 1 = nI y from hH_κ0.2.2.1]
          refine hK _ _ _ _ _ ?_
          refine And.intro (by first | omega | (rw [nI_clamp (by omega)]; omega)) (And.intro (vp_in_nI (n := y) (by omega) (by decide)) ?_)
          rw [nI_clamp (show y < 2 ^ 31 by omega)]
          rw [show κ0 40 x y = nI (pth t y (0 + 1) (x, 0)).1 from e40]
          iterate 3 refine hK _ _ _ _ _ ?_
          have L126 : ∀ (f3 : Nat) (i : Nat) (e11 : Option AV) (κ : sMem) (B3 : Option (Nat × Nat)), i + 1 + f3 = pl t y x → HF σ κ → hE κ B3 → hOK B3 → LU B (fun o => ((∃ q, q < p ∧ hd1 t P y (hdN t P y n) x m U l9 q o) ∨ o = (l9 + losA t p x y, w + fN t x y)) ∨ hdJ t y (hdN t P y n) x U l9 p w (i + 1) o) B3 → K 0 126 [some (aR 94), some (aI (nI x)), some (aI (nI m)), some (aI (nI U)), some (aI (nI l9)), some (aI (nI n)), some (aR 36), some (aI (nI p)), some (aI (nI w)), some (aI (nI (pth t y (i + 1) (x, 0)).1)), some (aI (nI i)), e11] [] κ := by
            intro f3
            induction f3 with
            | zero =>
              intro i e11 κ B3 hi hF3 hE3 hO3 hL3
              have hH_κ := hH.cg (Or.inl rfl) hF3
              have hT_κ := TT_of (c := t) hH_κ.1 hM (fun _ _ => rfl)
              have s1_κ : κ 36 0 1 = nI P := hH_κ.1.2.1
              obtain ⟨b1, b2, b3, b4, -⟩ := pth_at hm.1 hy (i + 1) x 0 hx k2 (by omega)
              have hqi := pth_q (w := 0) hm.1 hy hx k2 (show i + 1 ≤ pl t y x by omega)
              have hfar := pth_far hm.1 hy hx k2 (i + 1) (by omega)
              rcases Nat.eq_zero_or_pos n with e0 | e0
              · subst e0
                iterate 3 refine hK _ _ _ _ _ ?_
                refine And.intro (fun h5 => absurd ((nI_leI (a := 12) (by decide) (by omega)).mp h5) (by omega)) (fun _ => ?_)
                iterate 2 refine hK _ _ _ _ _ ?_
                refine And.intro (fun _ => ?_) (fun h5 => absurd (by decide) h5)
                refine hK _ _ _ _ _ ?_
                show K _ _ _ _ _
                rw [show nI p + Int32.ofInt 1 = nI (p + 1) from nIs _]
                refine hK _ _ _ _ _ ?_
                exact ih (p + 1) _ _ _ _ κ B3 (by omega) hF3 hE3 hO3 (LU_cg hL3 (fun o => by rw [hd_s, hd1_iff hm hpP hc o, hdZ_iff o]; exact ⟨fun q => q.elim (fun q => q.elim Or.inl (fun q => Or.inr (Or.inl q))) (fun q => q.elim (fun j hj => hj.2.2.elim)), fun q => q.elim (fun q => Or.inl (Or.inl q)) (fun q => q.elim (fun q => Or.inl (Or.inr q)) (fun q => q.elim (fun j hj => hj.2.2.elim)))⟩))
              · iterate 3 refine hK _ _ _ _ _ ?_
                refine And.intro (fun h5 => absurd ((nI_leI (a := 12) (by decide) (by omega)).mp h5) (by omega)) (fun _ => ?_)
                iterate 2 refine hK _ _ _ _ _ ?_
                refine And.intro (fun h5 => absurd ((nI_leI (b := 0) (by omega) (by decide)).mp h5) (by omega)) (fun _ => ?_)
                iterate 3 refine hK _ _ _ _ _ ?_
                show K _ _ _ _ _
                rw [show κ 94 0 1 = nI y from hH_κ.2.2.1]
                refine hK _ _ _ _ _ ?_
                refine And.intro (fun h4 => ?_) (fun h4 => absurd (by rw [hqi.mpr (by omega)]) h4)
                have hi9 := hqi.mp ((nI_eq (by omega) (by omega)).mp h4)
                rw [hi9] at hL3
                refine hK _ _ _ _ _ ?_
                show K _ _ _ _ _
                rw [show nI p + Int32.ofInt 1 = nI (p + 1) from nIs _]
                refine hK _ _ _ _ _ ?_
                exact ih (p + 1) _ _ _ _ κ B3 (by omega) hF3 hE3 hO3 (LU_cg hL3 (fun o => by rw [hd_s, hd1_iff hm hpP hc o, hdZ_iff o]; exact ⟨fun q => q.elim (fun q => q.elim Or.inl (fun q => Or.inr (Or.inl q))) (fun q => Or.inr (Or.inr q)), fun q => q.elim (fun q => Or.inl (Or.inl q)) (fun q => q.elim (fun q => Or.inl (Or.inr q)) Or.inr)⟩))
            | succ f3 ih3 =>
              intro i e11 κ B3 hi hF3 hE3 hO3 hL3
              have hH_κ := hH.cg (Or.inl rfl) hF3
              have hT_κ := TT_of (c := t) hH_κ.1 hM (fun _ _ => rfl)
              have s1_κ : κ 36 0 1 = nI P := hH_κ.1.2.1
              obtain ⟨b1, b2, b3, b4, -⟩ := pth_at hm.1 hy (i + 1) x 0 hx k2 (by omega)
              have hqi := pth_q (w := 0) hm.1 hy hx k2 (show i + 1 ≤ pl t y x by omega)
              have hfar := pth_far hm.1 hy hx k2 (i + 1) (by omega)
              rcases Nat.eq_zero_or_pos n with e0 | e0
              · subst e0
                iterate 3 refine hK _ _ _ _ _ ?_
                refine And.intro (fun h5 => absurd ((nI_leI (a := 12) (by decide) (by omega)).mp h5) (by omega)) (fun _ => ?_)
                iterate 2 refine hK _ _ _ _ _ ?_
                refine And.intro (fun _ => ?_) (fun h5 => absurd (by decide) h5)
                refine hK _ _ _ _ _ ?_
                show K _ _ _ _ _
                rw [show nI p + Int32.ofInt 1 = nI (p + 1) from nIs _]
                refine hK _ _ _ _ _ ?_
                exact ih (p + 1) _ _ _ _ κ B3 (by omega) hF3 hE3 hO3 (LU_cg hL3 (fun o => by rw [hd_s, hd1_iff hm hpP hc o, hdZ_iff o]; exact ⟨fun q => q.elim (fun q => q.elim Or.inl (fun q => Or.inr (Or.inl q))) (fun q => q.elim (fun j hj => hj.2.2.elim)), fun q => q.elim (fun q => Or.inl (Or.inl q)) (fun q => q.elim (fun q => Or.inl (Or.inr q)) (fun q => q.elim (fun j hj => hj.2.2.elim)))⟩))
              · iterate 3 refine hK _ _ _ _ _ ?_
                refine And.intro (fun h5 => absurd ((nI_leI (a := 12) (by decide) (by omega)).mp h5) (by omega)) (fun _ => ?_)
                iterate 2 refine hK _ _ _ _ _ ?_
                refine And.intro (fun h5 => absurd ((nI_leI (b := 0) (by omega) (by decide)).mp h5) (by omega)) (fun _ => ?_)
                iterate 3 refine hK _ _ _ _ _ ?_
                show K _ _ _ _ _
                rw [show κ 94 0 1 = nI y from hH_κ.2.2.1]
                refine hK _ _ _ _ _ ?_
                refine And.intro (fun h4 => ?_) (fun h4 => ?_)
                · have hi9 := hqi.mp ((nI_eq (by omega) (by omega)).mp h4)
                  rw [hi9] at hL3
                  refine hK _ _ _ _ _ ?_
                  show K _ _ _ _ _
                  rw [show nI p + Int32.ofInt 1 = nI (p + 1) from nIs _]
                  refine hK _ _ _ _ _ ?_
                  exact ih (p + 1) _ _ _ _ κ B3 (by omega) hF3 hE3 hO3 (LU_cg hL3 (fun o => by rw [hd_s, hd1_iff hm hpP hc o, hdZ_iff o]; exact ⟨fun q => q.elim (fun q => q.elim Or.inl (fun q => Or.inr (Or.inl q))) (fun q => Or.inr (Or.inr q)), fun q => q.elim (fun q => Or.inl (Or.inl q)) (fun q => q.elim (fun q => Or.inl (Or.inr q)) Or.inr)⟩))
                · have hne : ¬ (pth t y (i + 1) (x, 0)).1 = y := fun e => h4 (by rw [e])
                  have hi2 : i + 1 < pl t y x := Nat.lt_of_le_of_ne (by omega) (fun e => hne (hqi.mpr e))
                  have l2 := los_le hm hpP hx b1 (by omega) (zQ hm.1 hx hy b1 hqN b2 k3)
                  obtain ⟨k, rfl⟩ : ∃ k, n = k + 1 := ⟨n - 1, by omega⟩
                  have em2 := (hT_κ.2.2.2.1 x (pth t y (i + 1) (x, 0)).1 hx b1).1
                  have _hk := hi2
                  iterate 6 refine hK _ _ _ _ _ ?_
                  refine Or.inl (calD (t7_lossBy_36 _ _ t N P S hT_κ hm p hpP x (pth t y (i + 1) (x, 0)).1 hx b1) ?_)
                  rintro r σ' ⟨rfl, hσ⟩
                  subst σ'
                  show K 0 159 [some (aR 94), some (aI (nI x)), some (aI (nI m)), some (aI (nI U)), some (aI (nI l9)), some (aI (nI (k + 1))), some (aR 36), some (aI (nI p)), some (aI (nI w)), some (aI (nI (pth t y (i + 1) (x, 0)).1)), some (aI (nI i)), e11] [aI (nI (losA t p x (pth t y (i + 1) (x, 0)).1)), aI (nI l9)] κ
                  refine hK _ _ _ _ _ ?_
                  show K _ _ _ _ _
                  rw [nIa]
                  have L205 : ∀ (κ2 : sMem) (B4 : Option (Nat × Nat)), HF σ κ2 → hE κ2 B4 → hOK B4 → LU B3 (hdN t P y (k + 1) (pth t y (i + 1) (x, 0)).1 (w + fN t x (pth t y (i + 1) (x, 0)).1) (U ||| 2 ^ p) (l9 + losA t p x (pth t y (i + 1) (x, 0)).1)) B4 → K 0 205 [some (aR 94), some (aI (nI x)), some (aI (nI m)), some (aI (nI U)), some (aI (nI l9)), some (aI (nI (k + 1))), some (aR 36), some (aI (nI p)), some (aI (nI w)), some (aI (nI (pth t y (i + 1) (x, 0)).1)), some (aI (nI i)), some (aI (nI (l9 + losA t p x (pth t y (i + 1) (x, 0)).1)))] [] κ2 := by
                    intro κ2 B4 hF4 hE4 hO4 hL4
                    have hH_k := hH.cg (Or.inl rfl) hF4
                    have hT_k := TT_of (c := t) hH_k.1 hM (fun _ _ => rfl)
                    have hn2 : κ2 40 (pth t y (i + 1) (x, 0)).1 y = nI (pth t y (i + 1 + 1) (x, 0)).1 := (hT_k.2.2.2.1 _ y b1 hy).2.trans (by rw [pth_s t y (i + 1) (x, 0)]; rfl)
                    iterate 5 refine hK _ _ _ _ _ ?_
                    refine And.intro (vp_in_nI (n := ((pth t y (i + 1) (x, 0)).1)) (by omega) (by decide)) ?_
                    rw [nI_clamp (show ((pth t y (i + 1) (x, 0)).1) < 2 ^ 31 by omega)]
                    iterate 2 refine hK _ _ _ _ _ ?_
                    show K _ _ _ _ _
                    rw [show κ2 94 0 1 = nI y from hH_k.2.2.1]
                    refine hK _ _ _ _ _ ?_
                    refine And.intro (by first | omega | (rw [nI_clamp (by omega)]; omega)) (And.intro (vp_in_nI (n := y) (by omega) (by decide)) ?_)
                    rw [nI_clamp (show y < 2 ^ 31 by omega)]
                    rw [show κ2 40 ((pth t y (i + 1) (x, 0)).1) y = nI (pth t y (i + 1 + 1) (x, 0)).1 from hn2]
                    iterate 2 refine hK _ _ _ _ _ ?_
                    show K _ _ _ _ _
                    rw [show nI i + Int32.ofInt 1 = nI (i + 1) from nIs _]
                    refine hK _ _ _ _ _ ?_
                    exact ih3 (i + 1) _ κ2 B4 (by omega) hF4 hE4 hO4 (LU_cg (LU_tr hL3 hL4) (fun o => by rw [hdJ_s (i := i + 1) (by omega)]; exact ⟨fun q => q.elim (fun q => q.elim Or.inl (fun q => Or.inr (Or.inl q))) (fun q => Or.inr (Or.inr q)), fun q => q.elim (fun q => Or.inl (Or.inl q)) (fun q => q.elim (fun q => Or.inl (Or.inr q)) Or.inr)⟩))
                  iterate 2 refine hK _ _ _ _ _ ?_
                  rcases B3 with _ | bb
                  · obtain ⟨c3, c4⟩ := hE3
                    iterate 2 refine hK _ _ _ _ _ ?_
                    show K _ _ _ _ _
                    rw [show κ 94 0 3 = 2000000000 from c3]
                    refine hK _ _ _ _ _ ?_
                    refine And.intro (fun h3 => absurd ((nI_ltI (a := 2000000000) (by decide) (by omega)).mp h3) (by omega)) (fun _ => ?_)
                    iterate 8 refine hK _ _ _ _ _ ?_
                    refine And.intro (vp_in_nI (n := x) (by omega) (by decide)) ?_
                    rw [nI_clamp (show x < 2 ^ 31 by omega)]
                    iterate 2 refine hK _ _ _ _ _ ?_
                    refine And.intro (by first | omega | (rw [nI_clamp (by omega)]; omega)) (And.intro (vp_in_nI (n := ((pth t y (i + 1) (x, 0)).1)) (by omega) (by decide)) ?_)
                    rw [nI_clamp (show ((pth t y (i + 1) (x, 0)).1) < 2 ^ 31 by omega)]
                    rw [show κ 39 x ((pth t y (i + 1) (x, 0)).1) = nI (fN t x (pth t y (i + 1) (x, 0)).1) from em2]
                    refine hK _ _ _ _ _ ?_
                    show K _ _ _ _ _
                    rw [nIa]
                    iterate 5 refine hK _ _ _ _ _ ?_
                    show K _ _ _ _ _
                    rw [show nI U ||| (Int32.ofInt 1 <<< (nI p &&& 31)) = nI (U ||| 2 ^ p) from nI_orp _ _ (by omega)]
                    iterate 4 refine hK _ _ _ _ _ ?_
                    show K _ _ _ _ _
                    rw [show nI (k + 1) - Int32.ofInt 1 = nI k from nIm (b := 1) (by omega)]
                    refine hK _ _ _ _ _ ?_
                    refine Or.inr (Or.inl (yD0 (hrec k rfl κ (pth t y (i + 1) (x, 0)).1 (w + fN t x (pth t y (i + 1) (x, 0)).1) (U ||| 2 ^ p) (l9 + losA t p x (pth t y (i + 1) (x, 0)).1) none hH_κ b1 hne (by omega) (or_lt (P := 10) hU (by omega)) (by omega) ⟨c3, c4⟩ hO3) ?_))
                    rintro r κ2 ⟨rfl, hFk2, B4, hL4, hE4, hO4⟩
                    show K 0 205 [some (aR 94), some (aI (nI x)), some (aI (nI m)), some (aI (nI U)), some (aI (nI l9)), some (aI (nI (k + 1))), some (aR 36), some (aI (nI p)), some (aI (nI w)), some (aI (nI (pth t y (i + 1) (x, 0)).1)), some (aI (nI i)), some (aI (nI (l9 + losA t p x (pth t y (i + 1) (x, 0)).1)))] [] κ2
                    exact L205 κ2 B4 (hF3.tr hFk2) hE4 hO4 hL4
                  · have o3 := hO3 bb rfl
                    obtain ⟨c3, c4⟩ := hE3
                    iterate 2 refine hK _ _ _ _ _ ?_
                    show K _ _ _ _ _
                    rw [show κ 94 0 3 = nI bb.1 from c3]
                    refine hK _ _ _ _ _ ?_
                    refine And.intro (fun h3 => ?_) (fun h3 => ?_)
                    · have hlt := (nI_ltI (by omega) (by omega)).mp h3
                      exact L205 κ (some bb) hF3 ⟨c3, c4⟩ hO3 (LU_cut rfl (fun o ho => Or.inl (by have := (hdN_le hm hy _ _ _ _ _ o ho).1; omega)))
                    · iterate 8 refine hK _ _ _ _ _ ?_
                      refine And.intro (vp_in_nI (n := x) (by omega) (by decide)) ?_
                      rw [nI_clamp (show x < 2 ^ 31 by omega)]
                      iterate 2 refine hK _ _ _ _ _ ?_
                      refine And.intro (by first | omega | (rw [nI_clamp (by omega)]; omega)) (And.intro (vp_in_nI (n := ((pth t y (i + 1) (x, 0)).1)) (by omega) (by decide)) ?_)
                      rw [nI_clamp (show ((pth t y (i + 1) (x, 0)).1) < 2 ^ 31 by omega)]
                      rw [show κ 39 x ((pth t y (i + 1) (x, 0)).1) = nI (fN t x (pth t y (i + 1) (x, 0)).1) from em2]
                      refine hK _ _ _ _ _ ?_
                      show K _ _ _ _ _
                      rw [nIa]
                      iterate 5 refine hK _ _ _ _ _ ?_
                      show K _ _ _ _ _
                      rw [show nI U ||| (Int32.ofInt 1 <<< (nI p &&& 31)) = nI (U ||| 2 ^ p) from nI_orp _ _ (by omega)]
                      iterate 4 refine hK _ _ _ _ _ ?_
                      show K _ _ _ _ _
                      rw [show nI (k + 1) - Int32.ofInt 1 = nI k from nIm (b := 1) (by omega)]
                      refine hK _ _ _ _ _ ?_
                      refine Or.inr (Or.inl (yD0 (hrec k rfl κ (pth t y (i + 1) (x, 0)).1 (w + fN t x (pth t y (i + 1) (x, 0)).1) (U ||| 2 ^ p) (l9 + losA t p x (pth t y (i + 1) (x, 0)).1) (some bb) hH_κ b1 hne (by omega) (or_lt (P := 10) hU (by omega)) (by omega) ⟨c3, c4⟩ hO3) ?_))
                      rintro r κ2 ⟨rfl, hFk2, B4, hL4, hE4, hO4⟩
                      show K 0 205 [some (aR 94), some (aI (nI x)), some (aI (nI m)), some (aI (nI U)), some (aI (nI l9)), some (aI (nI (k + 1))), some (aR 36), some (aI (nI p)), some (aI (nI w)), some (aI (nI (pth t y (i + 1) (x, 0)).1)), some (aI (nI i)), some (aI (nI (l9 + losA t p x (pth t y (i + 1) (x, 0)).1)))] [] κ2
                      exact L205 κ2 B4 (hF3.tr hFk2) hE4 hO4 hL4
          exact L126 (pl t y x - 1) 0 _ κ0 B2 (by omega) hF0 hEk hO2 (LU_cg hL2 (fun o => ⟨Or.inl, fun q => q.elim id (fun q => absurd q (hdJ_1 o))⟩))
        · have hct := bI_f h6
          refine hK _ _ _ _ _ ?_
          exact L229 _ _ _ _ (fun o h => h.elim (fun w9 hw9 => by rw [ctB_iff.mpr ⟨hw9.1.2.2.1, hw9.1.2.2.2.1, hw9.1.2.2.2.2.1⟩] at hct; cases hct))
      · have hv := (hH_μ.2.2.2 p x hpP hx).2 (fun w hw => hq ⟨w, hw⟩)
        have hn9 : ∀ o, ¬ hd1 t P y (hdN t P y n) x m U l9 p o := fun o h => h.elim (fun w hw => hq ⟨w, hw.1.2.2.2.2.2.1⟩)
        iterate 4 refine hK _ _ _ _ _ ?_
        refine And.intro (vp_in_nI (n := p) (by omega) (by decide)) ?_
        rw [nI_clamp (show p < 2 ^ 31 by omega)]
        iterate 2 refine hK _ _ _ _ _ ?_
        refine And.intro (by first | omega | (rw [nI_clamp (by omega)]; omega)) (And.intro (vp_in_nI (n := x) (by omega) (by decide)) ?_)
        rw [nI_clamp (show x < 2 ^ 31 by omega)]
        rw [show μ 95 p x = -1 from hv]
        iterate 4 refine hK _ _ _ _ _ ?_
        refine calD (c8_hasBit _ _ _ _) ?_
        rintro r σ' ⟨rfl, hσ⟩
        subst σ'
        show K 0 42 [some (aR 94), some (aI (nI x)), some (aI (nI m)), some (aI (nI U)), some (aI (nI l9)), some (aI (nI n)), some (aR 36), some (aI (nI p)), some (aI (-1)), e9, e10, e11] [aI (bI (hb (nI U) (nI p)))] μ
        refine hK _ _ _ _ _ ?_
        refine And.intro (fun h8 => L229 _ _ _ _ hn9) (fun h8 => ?_)
        iterate 3 refine hK _ _ _ _ _ ?_
        refine And.intro (fun _ => ?_) (fun h7 => absurd (Int32.lt_of_lt_of_le (b := 0) (by decide) (nI_pos' (by omega))) h7)
        exact L229 _ _ _ _ hn9
  exact L15 P 0 _ _ _ _ σ B (by omega) (HF.rf σ) hE0 hO (LU_nil (fun o h => h.elim (fun q hq => absurd hq.1 (Nat.not_lt_zero _))))
theorem c1_search_36 (t : sMem) (N P S G y d : Nat) (hM : MI t N P S G) (hy : y < N) : ∀ n, n ≤ 2 → SR36 l D0 b0 ty ad av t N P S G y d n
  | 0, _ => fun σ x m U l9 B a1 a2 a3 a4 a5 a6 a7 a8 => c1_searchS_36 d t N P S G y 0 hM hy (by decide) (fun k hk => by omega) σ x m U l9 B a1 a2 a3 a4 a5 a6 a7 a8
  | n + 1, hn => fun σ x m U l9 B a1 a2 a3 a4 a5 a6 a7 a8 => c1_searchS_36 d t N P S G y (n + 1) hM hy hn (fun k hk => by cases hk; exact c1_search_36 t N P S G y d hM hy n (by omega)) σ x m U l9 B a1 a2 a3 a4 a5 a6 a7 a8
theorem c1_find_36 (d : Nat) (σ t : sMem) (N P S G : Nat) (hC : CT σ t 36 N P S G) (hM : MI t N P S G) (x n : Nat) (hx : x < S) (hn : n ≤ 2) : yMet l D0 b0 ty ad av lay (d + n + 3) 0 mX1_find [aR 94, aR 36, aI (nI x), aI (nI n)] σ (fun r σ' => r = [] ∧ (∀ i, i ≠ 94 → i ≠ 95 → σ' i = σ i) ∧ ∃ B, LU none (hdN t P (sY t x) (n + 1) (sX t x) (sT t x) 0 0) B ∧ hE σ' B ∧ hOK B) (fun _ _ => False) := by
  refine yMet_intro lay_nd kX1_find xX1_ok (yY1_ok _) (by decide +kernel) rfl ?_
  intro K hK
  have hm := MC_of hM
  have hN := hm.1.1.1
  have hP := hm.2.2.1
  have hS8 := hm.2.2.2.1
  have hT := TT_of (c := t) hC hM (fun _ _ => rfl)
  obtain ⟨g10, g11, g12, -⟩ := hT.2.2.2.2.2 x hx
  obtain ⟨⟨-, hX⟩, ⟨-, hY⟩, ⟨-, hT5⟩, hne⟩ := hm.2.2.2.2.2 x hx
  iterate 3 refine hK _ _ _ _ _ ?_
  refine And.intro (by decide) ?_
  iterate 3 refine hK _ _ _ _ _ ?_
  show K _ _ _ _ _
  rw [sUp_at]
  show K _ _ _ _ _
  rw [show (nI 36).toNatClampNeg = 36 from rfl]
  iterate 3 refine hK _ _ _ _ _ ?_
  refine And.intro (vp_in_nI (n := x) (by omega) (by decide)) ?_
  rw [nI_clamp (show x < 2 ^ 31 by omega)]
  rw [sUp_off (by decide), show σ 47 0 x = nI (sY t x) from g11]
  iterate 9 refine hK _ _ _ _ _ ?_
  have L33 : ∀ (f : Nat) (p : Nat) (μ : sMem), p + f = P → (∀ i, i ≠ 94 → i ≠ 95 → μ i = σ i) → μ 94 0 0 = nI 36 → μ 94 0 1 = nI (sY t x) → μ 94 0 3 = 2000000000 → μ 94 0 4 = 1000000 → (∀ q x, q < p → x < N → (∀ w, psQ t q x w → μ 95 q x = nI w) ∧ ((∀ w, ¬ psQ t q x w) → μ 95 q x = -1)) → K 0 33 [some (aR 94), some (aR 36), some (aI (nI x)), some (aI (nI n)), some (aI (nI p))] [] μ := by
    intro f
    induction f with
    | zero =>
      intro p μ hp hf h0 h1 h3 h4 hd
      have hCμ : CT μ t 36 N P S G := hC.cg (fun i h1 h2 => hf i (by omega) (by omega))
      have hTμ := TT_of (c := t) hCμ hM (fun _ _ => rfl)
      have s1 : μ 36 0 1 = nI P := hCμ.2.1
      obtain ⟨m10, m11, m12, -⟩ := hTμ.2.2.2.2.2 x hx
      iterate 3 refine hK _ _ _ _ _ ?_
      show K _ _ _ _ _
      rw [show μ 94 0 0 = nI 36 from h0]
      show K _ _ _ _ _
      rw [show (nI 36).toNatClampNeg = 36 from rfl]
      refine hK _ _ _ _ _ ?_
      show K _ _ _ _ _
      rw [show μ 36 0 1 = nI P from s1]
      refine hK _ _ _ _ _ ?_
      refine And.intro (fun _ => ?_) (fun h9 => absurd ((nI_leI (by omega) (by omega)).mpr (by omega)) h9)
      iterate 3 refine hK _ _ _ _ _ ?_
      show K _ _ _ _ _
      rw [show μ 94 0 0 = nI 36 from h0]
      show K _ _ _ _ _
      rw [show (nI 36).toNatClampNeg = 36 from rfl]
      iterate 3 refine hK _ _ _ _ _ ?_
      refine And.intro (vp_in_nI (n := x) (by omega) (by decide)) ?_
      rw [nI_clamp (show x < 2 ^ 31 by omega)]
      rw [show μ 46 0 x = nI (sX t x) from m10]
      iterate 2 refine hK _ _ _ _ _ ?_
      show K _ _ _ _ _
      rw [show μ 94 0 0 = nI 36 from h0]
      show K _ _ _ _ _
      rw [show (nI 36).toNatClampNeg = 36 from rfl]
      iterate 3 refine hK _ _ _ _ _ ?_
      refine And.intro (vp_in_nI (n := x) (by omega) (by decide)) ?_
      rw [nI_clamp (show x < 2 ^ 31 by omega)]
      rw [show μ 48 0 x = nI (sT t x) from m12]
      iterate 4 refine hK _ _ _ _ _ ?_
      refine Or.inr (Or.inl (yD0 ((show yMet l D0 b0 ty ad av lay (d + n + 2) 0 mX1_search [aR 94, aI (nI (sX t x)), aI (nI (sT t x)), aI (nI 0), aI (nI 0), aI (nI n)] μ _ _ from c1_search_36 t N P S G (sY t x) d hM hY n hn μ (sX t x) (sT t x) 0 0 none ⟨hCμ, h0, h1, fun q x h2 h3 => hd q x (by omega) h3⟩ hX hne (by omega) (by decide) (by omega) ⟨h3, h4⟩ (fun b hb => by cases hb))) ?_))
      rintro r ν ⟨rfl, hFν, B, hL, hE9, hO9⟩
      show K 0 82 [some (aR 94), some (aR 36), some (aI (nI x)), some (aI (nI n)), some (aI (nI p))] [] ν
      refine hK _ _ _ _ _ ?_
      exact ⟨rfl, fun i h1 h2 => (hFν.1 i h1).trans (hf i h1 h2), B, hL, hE9, hO9⟩
    | succ f ih =>
      intro p μ hp hf h0 h1 h3 h4 hd
      have hCμ : CT μ t 36 N P S G := hC.cg (fun i h1 h2 => hf i (by omega) (by omega))
      have hTμ := TT_of (c := t) hCμ hM (fun _ _ => rfl)
      have s1 : μ 36 0 1 = nI P := hCμ.2.1
      obtain ⟨m10, m11, m12, -⟩ := hTμ.2.2.2.2.2 x hx
      iterate 3 refine hK _ _ _ _ _ ?_
      show K _ _ _ _ _
      rw [show μ 94 0 0 = nI 36 from h0]
      show K _ _ _ _ _
      rw [show (nI 36).toNatClampNeg = 36 from rfl]
      refine hK _ _ _ _ _ ?_
      show K _ _ _ _ _
      rw [show μ 36 0 1 = nI P from s1]
      refine hK _ _ _ _ _ ?_
      refine And.intro (fun h9 => absurd ((nI_leI (by omega) (by omega)).mp h9) (by omega)) (fun _ => ?_)
      iterate 3 refine hK _ _ _ _ _ ?_
      refine Or.inr (Or.inl (yD0 (c1_notePassing_36 _ μ t N P S G hCμ hM h0 p (by omega)) ?_))
      rintro r ν ⟨rfl, hfν, hrν, hvν⟩
      show K 0 51 [some (aR 94), some (aR 36), some (aI (nI x)), some (aI (nI n)), some (aI (nI p))] [] ν
      refine hK _ _ _ _ _ ?_
      show K _ _ _ _ _
      rw [show nI p + Int32.ofInt 1 = nI (p + 1) from nIs _]
      refine hK _ _ _ _ _ ?_
      refine ih (p + 1) ν (by omega) (fun i h1 h2 => (hfν i h2).trans (hf i h1 h2)) (by rw [hfν 94 (by decide)]; exact h0) (by rw [hfν 94 (by decide)]; exact h1) (by rw [hfν 94 (by decide)]; exact h3) (by rw [hfν 94 (by decide)]; exact h4) (fun q x hq hx9 => ?_)
      by_cases e : q = p
      · subst e; exact hvν x hx9
      · rw [hrν q e]; exact hd q x (by omega) hx9
  exact L33 P 0 _ (by omega) (fun i h1 h2 => by rw [sUp_off h1, sUp_off h1, sUp_off h1, sUp_off h1]) (by rw [sUp_k (by decide), sUp_k (by decide), sUp_k (by decide), sUp_at]) (by rw [sUp_k (by decide), sUp_k (by decide), sUp_at]) (by rw [sUp_k (by decide), sUp_at]) (sUp_at _ _ _ _ _) (fun q x hq _ => absurd hq (Nat.not_lt_zero _))
theorem t7_canLeadTo_54 (d : Nat) (σ t : sMem) (N P S G : Nat) (hC : CT σ t 54 N P S G) (hM : MI t N P S G) (p : Nat) (hp : p < P) (x y : Nat) (hx : x < N) (hy : y < N) : yMet l D0 b0 ty ad av lay (d + 1) 0 mX7_canLeadTo [aR 54, aI (nI p), aI (nI x), aI (nI y)] σ (fun r σ' => r = [aI (bI (ctB t p x y))] ∧ σ' = σ) (fun _ _ => False) := by
  have h := c7_canLeadTo_54 (l := l) (D := D0) (b0 := b0) (ty := ty) (ad := ad) (av := av) d σ t N P S G hC hM p hp x y hx hy
  have hN := hM.1.1.1.1
  rw [hb_bt _ _ (by omega), show (t 6 p 1).toNatClampNeg = pQ t p from rfl] at h
  exact h
theorem c1_notePassing_54 (d : Nat) (σ t : sMem) (N P S G : Nat) (hC : CT σ t 54 N P S G) (hM : MI t N P S G) (h0 : σ 94 0 0 = nI 54) (p : Nat) (hp : p < P) : yMet l D0 b0 ty ad av lay (d + 2) 0 mX1_notePassing [aR 94, aI (nI p)] σ (fun r σ' => r = [] ∧ (∀ i, i ≠ 95 → σ' i = σ i) ∧ (∀ q, q ≠ p → σ' 95 q = σ 95 q) ∧ ∀ x, x < N → (∀ w, psQ t p x w → σ' 95 p x = nI w) ∧ ((∀ w, ¬ psQ t p x w) → σ' 95 p x = -1)) (fun _ _ => False) := by
  refine yMet_intro lay_nd kX1_notePassing xX1_ok (yY1_ok _) (by decide +kernel) rfl ?_
  intro K hK
  have hm := MC_of hM
  have hN := hm.1.1.1
  have hP := hm.2.2.1
  obtain ⟨⟨-, ha⟩, ⟨-, hq⟩, ⟨-, hT5⟩, -⟩ := hm.2.2.2.2.1 p hp
  iterate 4 refine hK _ _ _ _ _ ?_
  refine And.intro (vp_in_nI (n := p) (by omega) (by decide)) ?_
  rw [nI_clamp (show p < 2 ^ 31 by omega)]
  iterate 2 refine hK _ _ _ _ _ ?_
  refine Or.inl (calD (cJ_fill95 _ _ p (by omega) _) ?_)
  rintro r μ1 ⟨rfl, h1⟩
  show K 0 10 [some (aR 94), some (aI (nI p)), none, none] [] μ1
  have hf1 : ∀ i, i ≠ 95 → μ1 i = σ i := fun i a => by rw [h1]; unfold flR; rw [sRow_off a]
  have hr1 : ∀ q, q ≠ p → μ1 95 q = σ 95 q := fun q a => by rw [h1]; unfold flR; rw [sRow_ne a]
  have hv1 : ∀ x, x < 12 → μ1 95 p x = -1 := fun x a => by rw [h1]; unfold flR; rw [sRow_at, if_pos a]; rfl
  clear h1
  have hC1 : CT μ1 t 54 N P S G := hC.cg (fun i h1 h2 => hf1 i (by omega))
  have hT1 := TT_of (c := t) hC1 hM (fun _ _ => rfl)
  have h01 : μ1 94 0 0 = nI 54 := by rw [hf1 94 (by decide)]; exact h0
  iterate 2 refine hK _ _ _ _ _ ?_
  show K _ _ _ _ _
  rw [show μ1 94 0 0 = nI 54 from h01]
  show K _ _ _ _ _
  rw [show (nI 54).toNatClampNeg = 54 from rfl]
  iterate 2 refine hK _ _ _ _ _ ?_
  refine Or.inl (calD (t7_goes_54 _ _ t N P S hT1 hm p hp) ?_)
  rintro r σ' ⟨rfl, hσ⟩
  subst σ'
  show K 0 18 [some (aR 94), some (aI (nI p)), none, none] [aI (bI (decide (fN t (pP t p) (pQ t p) < 1000000)))] μ1
  refine hK _ _ _ _ _ ?_
  refine And.intro (fun h9 => ?_) (fun h9 => ?_)
  · have hf := of_decide_eq_true (bI_t h9)
    obtain ⟨f5, f6, f7, -, -⟩ := hT1.2.2.2.2.1 p hp
    have hPt := hm.1
    iterate 2 refine hK _ _ _ _ _ ?_
    show K _ _ _ _ _
    rw [show μ1 94 0 0 = nI 54 from h01]
    show K _ _ _ _ _
    rw [show (nI 54).toNatClampNeg = 54 from rfl]
    iterate 3 refine hK _ _ _ _ _ ?_
    refine And.intro (vp_in_nI (n := p) (by omega) (by decide)) ?_
    rw [nI_clamp (show p < 2 ^ 31 by omega)]
    rw [show μ1 59 0 p = nI (pP t p) from f5]
    iterate 5 refine hK _ _ _ _ _ ?_
    refine And.intro (vp_in_nI (n := p) (by omega) (by decide)) ?_
    rw [nI_clamp (show p < 2 ^ 31 by omega)]
    iterate 3 refine hK _ _ _ _ _ ?_
    show K _ _ _ _ _
    rw [show μ1 94 0 0 = nI 54 from h01]
    show K _ _ _ _ _
    rw [show (nI 54).toNatClampNeg = 54 from rfl]
    iterate 3 refine hK _ _ _ _ _ ?_
    refine And.intro (vp_in_nI (n := p) (by omega) (by decide)) ?_
    rw [nI_clamp (show p < 2 ^ 31 by omega)]
    rw [show μ1 61 0 p = nI (pT t p) from f7]
    refine hK _ _ _ _ _ ?_
    refine And.intro (by first | omega | (rw [nI_clamp (by omega)]; omega)) (And.intro (vp_in_nI (n := (pP t p)) (by omega) (by decide)) ?_)
    rw [nI_clamp (show (pP t p) < 2 ^ 31 by omega)]
    iterate 2 refine hK _ _ _ _ _ ?_
    have L51 : ∀ (f : Nat) (i : Nat) (μ : sMem), i + f = pl t (pQ t p) (pP t p) → (∀ i, i ≠ 95 → μ i = σ i) → (∀ q, q ≠ p → μ 95 q = σ 95 q) → (∀ x, x < 12 → (∃ j, j ≤ i ∧ (pth t (pQ t p) j (pP t p, pT t p)).1 = x ∧ μ 95 p x = nI (pth t (pQ t p) j (pP t p, pT t p)).2) ∨ ((∀ j, j ≤ i → (pth t (pQ t p) j (pP t p, pT t p)).1 ≠ x) ∧ μ 95 p x = -1)) → K 0 51 [some (aR 94), some (aI (nI p)), some (aI (nI (pth t (pQ t p) i (pP t p, pT t p)).1)), some (aI (nI i))] [] μ := by
      intro f
      induction f with
      | zero =>
        intro i μ hi hf2 hr2 hd
        obtain ⟨b1, b2, b3, b4, -⟩ := pth_at hPt hq i (pP t p) (pT t p) ha hf (by omega)
        have hqi := pth_q (w := pT t p) hPt hq ha hf (show i ≤ pl t (pQ t p) (pP t p) by omega)
        have hple := pl_le hPt hq ha hf
        have hCμ : CT μ t 54 N P S G := hC.cg (fun i h1 h2 => hf2 i (by omega))
        have hTμ := TT_of (c := t) hCμ hM (fun _ _ => rfl)
        have h0μ : μ 94 0 0 = nI 54 := by rw [hf2 94 (by decide)]; exact h0
        obtain ⟨g5, g6, g7, -, -⟩ := hTμ.2.2.2.2.1 p hp
        iterate 3 refine hK _ _ _ _ _ ?_
        refine And.intro (fun h8 => absurd ((nI_leI (a := 12) (by decide) (by omega)).mp h8) (by omega)) (fun _ => ?_)
        iterate 3 refine hK _ _ _ _ _ ?_
        show K _ _ _ _ _
        rw [show μ 94 0 0 = nI 54 from h0μ]
        show K _ _ _ _ _
        rw [show (nI 54).toNatClampNeg = 54 from rfl]
        iterate 3 refine hK _ _ _ _ _ ?_
        refine And.intro (vp_in_nI (n := p) (by omega) (by decide)) ?_
        rw [nI_clamp (show p < 2 ^ 31 by omega)]
        rw [show μ 60 0 p = nI (pQ t p) from g6]
        refine hK _ _ _ _ _ ?_
        refine And.intro (fun _ => ?_) (fun h8 => absurd (by rw [hqi.mpr (by omega)]) h8)
        refine hK _ _ _ _ _ ?_
        refine ⟨rfl, hf2, hr2, fun x hx => ⟨fun w hw => ?_, fun hn => ?_⟩⟩
        · rcases hd x (by omega) with ⟨j, j1, j2, j3⟩ | ⟨j1, -⟩
          · have q1 : psQ t p x (pth t (pQ t p) j (pP t p, pT t p)).2 := ⟨hf, j, by omega, Prod.ext j2 rfl⟩
            have e1 := (psQ_at hm hp q1).2.1
            have e2 := (psQ_at hm hp hw).2.1
            rw [j3, e1, e2]
          · obtain ⟨-, k, k1, k2⟩ := hw
            exact absurd (by rw [k2]) (j1 k (by omega))
        · rcases hd x (by omega) with ⟨j, j1, j2, j3⟩ | ⟨-, j2⟩
          · exact absurd (⟨hf, j, by omega, Prod.ext j2 rfl⟩ : psQ t p x (pth t (pQ t p) j (pP t p, pT t p)).2) (hn _)
          · exact j2
      | succ f ih =>
        intro i μ hi hf2 hr2 hd
        obtain ⟨b1, b2, b3, b4, -⟩ := pth_at hPt hq i (pP t p) (pT t p) ha hf (by omega)
        have hqi := pth_q (w := pT t p) hPt hq ha hf (show i ≤ pl t (pQ t p) (pP t p) by omega)
        have hple := pl_le hPt hq ha hf
        have hCμ : CT μ t 54 N P S G := hC.cg (fun i h1 h2 => hf2 i (by omega))
        have hTμ := TT_of (c := t) hCμ hM (fun _ _ => rfl)
        have h0μ : μ 94 0 0 = nI 54 := by rw [hf2 94 (by decide)]; exact h0
        obtain ⟨g5, g6, g7, -, -⟩ := hTμ.2.2.2.2.1 p hp
        have hne : ¬ (pth t (pQ t p) i (pP t p, pT t p)).1 = pQ t p := fun e => by have := hqi.mp e; omega
        obtain ⟨n1, n2, -, -, -, -⟩ := nx_at hPt b1 hq b2 hne
        have e4 : μ 58 (pth t (pQ t p) i (pP t p, pT t p)).1 (pQ t p) = nI (nxN t (pth t (pQ t p) i (pP t p, pT t p)).1 (pQ t p)) := (hTμ.2.2.2.1 _ _ b1 hq).2
        have hs : pth t (pQ t p) (i + 1) (pP t p, pT t p) = st1 t (pQ t p) (pth t (pQ t p) i (pP t p, pT t p)) := pth_s _ _ _ _
        have hs1 : nxN t (pth t (pQ t p) i (pP t p, pT t p)).1 (pQ t p) = (pth t (pQ t p) (i + 1) (pP t p, pT t p)).1 := by rw [hs]; rfl
        obtain ⟨c1, c2, c3, c4, -⟩ := pth_at hPt hq (i + 1) (pP t p) (pT t p) ha hf (by omega)
        have e3 : μ 57 (pP t p) (pth t (pQ t p) (i + 1) (pP t p, pT t p)).1 = nI (fN t (pP t p) (pth t (pQ t p) (i + 1) (pP t p, pT t p)).1) := (hTμ.2.2.2.1 _ _ ha c1).1
        have hval : pT t p + fN t (pP t p) (pth t (pQ t p) (i + 1) (pP t p, pT t p)).1 = (pth t (pQ t p) (i + 1) (pP t p, pT t p)).2 := ((psQ_at hm hp ⟨hf, i + 1, by omega, rfl⟩).2.1).symm
        rw [hs1] at e4
        iterate 3 refine hK _ _ _ _ _ ?_
        refine And.intro (fun h8 => absurd ((nI_leI (a := 12) (by decide) (by omega)).mp h8) (by omega)) (fun _ => ?_)
        iterate 3 refine hK _ _ _ _ _ ?_
        show K _ _ _ _ _
        rw [show μ 94 0 0 = nI 54 from h0μ]
        show K _ _ _ _ _
        rw [show (nI 54).toNatClampNeg = 54 from rfl]
        iterate 3 refine hK _ _ _ _ _ ?_
        refine And.intro (vp_in_nI (n := p) (by omega) (by decide)) ?_
        rw [nI_clamp (show p < 2 ^ 31 by omega)]
        rw [show μ 60 0 p = nI (pQ t p) from g6]
        refine hK _ _ _ _ _ ?_
        refine And.intro (fun h8 => absurd ((nI_eq (by omega) (by omega)).mp h8) hne) (fun _ => ?_)
        iterate 2 refine hK _ _ _ _ _ ?_
        show K _ _ _ _ _
        rw [show μ 94 0 0 = nI 54 from h0μ]
        show K _ _ _ _ _
        rw [show (nI 54).toNatClampNeg = 54 from rfl]
        iterate 4 refine hK _ _ _ _ _ ?_
        refine And.intro (vp_in_nI (n := ((pth t (pQ t p) i (pP t p, pT t p)).1)) (by omega) (by decide)) ?_
        rw [nI_clamp (show ((pth t (pQ t p) i (pP t p, pT t p)).1) < 2 ^ 31 by omega)]
        iterate 2 refine hK _ _ _ _ _ ?_
        show K _ _ _ _ _
        rw [show μ 94 0 0 = nI 54 from h0μ]
        show K _ _ _ _ _
        rw [show (nI 54).toNatClampNeg = 54 from rfl]
        iterate 3 refine hK _ _ _ _ _ ?_
        refine And.intro (vp_in_nI (n := p) (by omega) (by decide)) ?_
        rw [nI_clamp (show p < 2 ^ 31 by omega)]
        rw [show μ 60 0 p = nI (pQ t p) from g6]
        refine hK _ _ _ _ _ ?_
        refine And.intro (by first | omega | (rw [nI_clamp (by omega)]; omega)) (And.intro (vp_in_nI (n := (pQ t p)) (by omega) (by decide)) ?_)
        rw [nI_clamp (show (pQ t p) < 2 ^ 31 by omega)]
        rw [show μ 58 ((pth t (pQ t p) i (pP t p, pT t p)).1) (pQ t p) = nI (pth t (pQ t p) (i + 1) (pP t p, pT t p)).1 from e4]
        iterate 5 refine hK _ _ _ _ _ ?_
        refine And.intro (vp_in_nI (n := p) (by omega) (by decide)) ?_
        rw [nI_clamp (show p < 2 ^ 31 by omega)]
        iterate 3 refine hK _ _ _ _ _ ?_
        show K _ _ _ _ _
        rw [show μ 94 0 0 = nI 54 from h0μ]
        show K _ _ _ _ _
        rw [show (nI 54).toNatClampNeg = 54 from rfl]
        iterate 3 refine hK _ _ _ _ _ ?_
        refine And.intro (vp_in_nI (n := p) (by omega) (by decide)) ?_
        rw [nI_clamp (show p < 2 ^ 31 by omega)]
        rw [show μ 61 0 p = nI (pT t p) from g7]
        iterate 2 refine hK _ _ _ _ _ ?_
        show K _ _ _ _ _
        rw [show μ 94 0 0 = nI 54 from h0μ]
        show K _ _ _ _ _
        rw [show (nI 54).toNatClampNeg = 54 from rfl]
        iterate 4 refine hK _ _ _ _ _ ?_
        show K _ _ _ _ _
        rw [show μ 94 0 0 = nI 54 from h0μ]
        show K _ _ _ _ _
        rw [show (nI 54).toNatClampNeg = 54 from rfl]
        iterate 3 refine hK _ _ _ _ _ ?_
        refine And.intro (vp_in_nI (n := p) (by omega) (by decide)) ?_
        rw [nI_clamp (show p < 2 ^ 31 by omega)]
        rw [show μ 59 0 p = nI (pP t p) from g5]
        refine hK _ _ _ _ _ ?_
        refine And.intro (vp_in_nI (n := (pP t p)) (by omega) (by decide)) ?_
        rw [nI_clamp (show (pP t p) < 2 ^ 31 by omega)]
        iterate 2 refine hK _ _ _ _ _ ?_
        refine And.intro (by first | omega | (rw [nI_clamp (by omega)]; omega)) (And.intro (vp_in_nI (n := ((pth t (pQ t p) (i + 1) (pP t p, pT t p)).1)) (by omega) (by decide)) ?_)
        rw [nI_clamp (show ((pth t (pQ t p) (i + 1) (pP t p, pT t p)).1) < 2 ^ 31 by omega)]
        rw [show μ 57 (pP t p) ((pth t (pQ t p) (i + 1) (pP t p, pT t p)).1) = nI (fN t (pP t p) (pth t (pQ t p) (i + 1) (pP t p, pT t p)).1) from e3]
        iterate 2 refine hK _ _ _ _ _ ?_
        refine And.intro (by first | omega | (rw [nI_clamp (by omega)]; omega)) (And.intro (vp_in_nI (n := ((pth t (pQ t p) (i + 1) (pP t p, pT t p)).1)) (by omega) (by decide)) ?_)
        rw [nI_clamp (show ((pth t (pQ t p) (i + 1) (pP t p, pT t p)).1) < 2 ^ 31 by omega)]
        refine hK _ _ _ _ _ ?_
        show K _ _ _ _ _
        rw [show nI i + Int32.ofInt 1 = nI (i + 1) from nIs _]
        refine hK _ _ _ _ _ ?_
        show K _ _ _ _ _
        rw [nIa, hval]
        refine ih (i + 1) _ (by omega) (fun j hj => by rw [sUp_off hj]; exact hf2 j hj) (fun q hq9 => by rw [sUp_rowne hq9]; exact hr2 q hq9) (fun x hx => ?_)
        by_cases e : x = (pth t (pQ t p) (i + 1) (pP t p, pT t p)).1
        · refine Or.inl ⟨i + 1, Nat.le_refl _, e.symm, ?_⟩
          rw [e, sUp_at]
        · rw [sUp_k e]
          rcases hd x hx with ⟨j, j1, j2, j3⟩ | ⟨j1, j2⟩
          · exact Or.inl ⟨j, by omega, j2, j3⟩
          · refine Or.inr ⟨fun j hj => ?_, j2⟩
            by_cases ej : j = i + 1
            · rw [ej]; exact fun q => e q.symm
            · exact j1 j (by omega)
    refine L51 _ 0 _ (Nat.zero_add _) (fun j hj => by rw [sUp_off hj]; exact hf1 j hj) (fun q hq9 => by rw [sUp_rowne hq9]; exact hr1 q hq9) (fun x hx => ?_)
    by_cases e : x = pP t p
    · exact Or.inl ⟨0, Nat.le_refl _, e.symm, by rw [e, sUp_at]; rfl⟩
    · rw [sUp_k e]
      exact Or.inr ⟨fun j hj => by rw [show j = 0 by omega]; exact fun q => e q.symm, hv1 x hx⟩
  · have hf := of_decide_eq_false (bI_f h9)
    refine hK _ _ _ _ _ ?_
    exact ⟨rfl, hf1, hr1, fun x hx => ⟨fun w hw => absurd hw.1 hf, fun _ => hv1 x (by omega)⟩⟩
def SR54 (l : Launch) (D0 : va_G) (b0 : Nat) (ty : Nat → ClassId) (ad av : Nat → Nat) (t : sMem) (N P S G y d n : Nat) : Prop := ∀ (σ : sMem) (x m U l9 : Nat) (B : Option (Nat × Nat)), HSr σ t 54 N P S G y → x < N → x ≠ y → m ≤ 3000 → U < 1024 → l9 + 200000 * n ≤ 400000 → hE σ B → hOK B → yMet l D0 b0 ty ad av lay (d + n + 2) 0 mX1_search [aR 94, aI (nI x), aI (nI m), aI (nI U), aI (nI l9), aI (nI n)] σ (fun r σ' => r = [] ∧ HF σ σ' ∧ ∃ B', LU B (hdN t P y (n + 1) x m U l9) B' ∧ hE σ' B' ∧ hOK B') (fun _ _ => False)
set_option maxHeartbeats 4000000 in
theorem c1_searchS_54 (d : Nat) (t : sMem) (N P S G y n : Nat) (hM : MI t N P S G) (hy : y < N) (hn2 : n ≤ 2) (hrec : ∀ k, n = k + 1 → SR54 l D0 b0 ty ad av t N P S G y d k) (σ : sMem) (x m U l9 : Nat) (B : Option (Nat × Nat)) (hH : HSr σ t 54 N P S G y) (hx : x < N) (hxy : x ≠ y) (hm3 : m ≤ 3000) (hU : U < 1024) (hl : l9 + 200000 * n ≤ 400000) (hE0 : hE σ B) (hO : hOK B) : yMet l D0 b0 ty ad av lay (d + n + 2) 0 mX1_search [aR 94, aI (nI x), aI (nI m), aI (nI U), aI (nI l9), aI (nI n)] σ (fun r σ' => r = [] ∧ HF σ σ' ∧ ∃ B', LU B (hdN t P y (n + 1) x m U l9) B' ∧ hE σ' B' ∧ hOK B') (fun _ _ => False) := by
  refine yMet_intro lay_nd kX1_search xX1_ok (yY1_ok _) (by decide +kernel) rfl ?_
  intro K hK
  have hm := MC_of hM
  have hN := hm.1.1.1
  have hP := hm.2.2.1
  iterate 2 refine hK _ _ _ _ _ ?_
  refine And.intro (fun _ => ?_) (fun h9 => absurd (nI_pos' (by omega)) h9)
  iterate 2 refine hK _ _ _ _ _ ?_
  show K _ _ _ _ _
  rw [show σ 94 0 0 = nI 54 from hH.2.1]
  show K _ _ _ _ _
  rw [show (nI 54).toNatClampNeg = 54 from rfl]
  iterate 3 refine hK _ _ _ _ _ ?_
  have L15 : ∀ (f : Nat) (p : Nat) (e8 e9 e10 e11 : Option AV) (μ : sMem) (B1 : Option (Nat × Nat)), p + f = P → HF σ μ → hE μ B1 → hOK B1 → LU B (fun o => (∃ q, q < p ∧ hd1 t P y (hdN t P y n) x m U l9 q o)) B1 → K 0 15 [some (aR 94), some (aI (nI x)), some (aI (nI m)), some (aI (nI U)), some (aI (nI l9)), some (aI (nI n)), some (aR 54), some (aI (nI p)), e8, e9, e10, e11] [] μ := by
    intro f
    induction f with
    | zero =>
      intro p e8 e9 e10 e11 μ B1 hp hF hE1 hO1 hLU
      have hH_μ := hH.cg (Or.inr rfl) hF
      have hT_μ := TT_of (c := t) hH_μ.1 hM (fun _ _ => rfl)
      have s1_μ : μ 54 0 1 = nI P := hH_μ.1.2.1
      iterate 3 refine hK _ _ _ _ _ ?_
      show K _ _ _ _ _
      rw [show μ 54 0 1 = nI P from s1_μ]
      refine hK _ _ _ _ _ ?_
      refine And.intro (fun _ => ?_) (fun h9 => absurd ((nI_leI (by omega) (by omega)).mpr (by omega)) h9)
      refine hK _ _ _ _ _ ?_
      refine ⟨rfl, hF, B1, LU_cg hLU (fun o => ?_), hE1, hO1⟩
      constructor
      · rintro ⟨q, -, h⟩; exact ⟨q, h⟩
      · rintro ⟨q, h⟩; exact ⟨q, by have := h.elim (fun w hw => hw.1.1); omega, h⟩
    | succ f ih =>
      intro p e8 e9 e10 e11 μ B1 hp hF hE1 hO1 hLU
      have hH_μ := hH.cg (Or.inr rfl) hF
      have hT_μ := TT_of (c := t) hH_μ.1 hM (fun _ _ => rfl)
      have s1_μ : μ 54 0 1 = nI P := hH_μ.1.2.1
      have hpP : p < P := by omega
      have hqN := (hm.2.2.2.2.1 p hpP).2.1.2
      iterate 3 refine hK _ _ _ _ _ ?_
      show K _ _ _ _ _
      rw [show μ 54 0 1 = nI P from s1_μ]
      refine hK _ _ _ _ _ ?_
      refine And.intro (fun h9 => absurd ((nI_leI (by omega) (by omega)).mp h9) (by omega)) (fun _ => ?_)
      have L229 : ∀ (e8 e9 e10 e11 : Option AV), (∀ o, ¬ hd1 t P y (hdN t P y n) x m U l9 p o) → K 0 229 [some (aR 94), some (aI (nI x)), some (aI (nI m)), some (aI (nI U)), some (aI (nI l9)), some (aI (nI n)), some (aR 54), some (aI (nI p)), e8, e9, e10, e11] [] μ := by
        intro e8 e9 e10 e11 hn
        refine hK _ _ _ _ _ ?_
        show K _ _ _ _ _
        rw [show nI p + Int32.ofInt 1 = nI (p + 1) from nIs _]
        refine hK _ _ _ _ _ ?_
        exact ih (p + 1) _ _ _ _ μ B1 (by omega) hF hE1 hO1 (LU_cg hLU (fun o => by rw [hd_s]; exact ⟨Or.inl, fun q => q.elim id (fun q => absurd q (hn o))⟩))
      by_cases hq : ∃ w, psQ t p x w
      · obtain ⟨w, hw⟩ := hq
        have hv := (hH_μ.2.2.2 p x hpP hx).1 w hw
        have hw1 := psQ_le hm hpP hw
        iterate 4 refine hK _ _ _ _ _ ?_
        refine And.intro (vp_in_nI (n := p) (by omega) (by decide)) ?_
        rw [nI_clamp (show p < 2 ^ 31 by omega)]
        iterate 2 refine hK _ _ _ _ _ ?_
        refine And.intro (by first | omega | (rw [nI_clamp (by omega)]; omega)) (And.intro (vp_in_nI (n := x) (by omega) (by decide)) ?_)
        rw [nI_clamp (show x < 2 ^ 31 by omega)]
        rw [show μ 95 p x = nI w from hv]
        iterate 4 refine hK _ _ _ _ _ ?_
        refine calD (c8_hasBit _ _ _ _) ?_
        rintro r σ' ⟨rfl, hσ⟩
        subst σ'
        show K 0 42 [some (aR 94), some (aI (nI x)), some (aI (nI m)), some (aI (nI U)), some (aI (nI l9)), some (aI (nI n)), some (aR 54), some (aI (nI p)), some (aI (nI w)), e9, e10, e11] [aI (bI (hb (nI U) (nI p)))] μ
        refine hK _ _ _ _ _ ?_
        refine And.intro (fun h8 => L229 _ _ _ _ (fun o h => h.elim (fun w9 hw9 => by have cb := bI_t h8; rw [hb_nI _ _ (by omega), hw9.1.2.1] at cb; cases cb))) (fun h8 => ?_)
        have cb := bI_f h8
        rw [hb_nI _ _ (by omega)] at cb
        iterate 3 refine hK _ _ _ _ _ ?_
        refine And.intro (fun h7 => L229 _ _ _ _ (fun o h => h.elim (fun w9 hw9 => by have e1 := (psQ_at hm hpP hw).2.1; have e2 := (psQ_at hm hpP hw9.1.2.2.2.2.2.1).2.1; have e3 := hw9.1.2.2.2.2.2.2; have e4 := (nI_ltI (by omega) (by omega)).mp h7; omega))) (fun h7 => ?_)
        have hmw : m ≤ w := Decidable.byContradiction fun q => h7 ((nI_ltI (by omega) (by omega)).mpr (by omega))
        iterate 5 refine hK _ _ _ _ _ ?_
        show K _ _ _ _ _
        rw [show μ 94 0 1 = nI y from hH_μ.2.2.1]
        refine hK _ _ _ _ _ ?_
        refine Or.inr (Or.inl (yD0 (t7_canLeadTo_54 _ _ t N P S G hH_μ.1 hM p hpP x y hx hy) ?_))
        rintro r σ' ⟨rfl, hσ⟩
        subst σ'
        show K 0 63 [some (aR 94), some (aI (nI x)), some (aI (nI m)), some (aI (nI U)), some (aI (nI l9)), some (aI (nI n)), some (aR 54), some (aI (nI p)), some (aI (nI w)), e9, e10, e11] [aI (bI (ctB t p x y))] μ
        refine hK _ _ _ _ _ ?_
        refine And.intro (fun h6 => ?_) (fun h6 => ?_)
        · obtain ⟨k1, k2, k3⟩ := ctB_iff.mp (bI_t h6)
          have hc : hcQ t P y p U x m w := ⟨hpP, cb, k1, k2, k3, hw, hmw⟩
          have f1 := fN_660 hm.1 hy hx k2
          have l1 := los_le hm hpP hx hy k2 k3
          have em := (hT_μ.2.2.2.1 x y hx hy).1
          have hpl := pl_le hm.1 hy hx k2
          have hpl1 : 1 ≤ pl t y x := by have := pl_s hm.1 hy hx k2 hxy; omega
          iterate 7 refine hK _ _ _ _ _ ?_
          show K _ _ _ _ _
          rw [show μ 94 0 1 = nI y from hH_μ.2.2.1]
          refine hK _ _ _ _ _ ?_
          refine Or.inl (calD (t7_lossBy_54 _ _ t N P S hT_μ hm p hpP x y hx hy) ?_)
          rintro r σ' ⟨rfl, hσ⟩
          subst σ'
          show K 0 84 [some (aR 94), some (aI (nI x)), some (aI (nI m)), some (aI (nI U)), some (aI (nI l9)), some (aI (nI n)), some (aR 54), some (aI (nI p)), some (aI (nI w)), e9, e10, e11] [aI (nI (losA t p x y)), aI (nI l9), aR 94] μ
          refine hK _ _ _ _ _ ?_
          show K _ _ _ _ _
          rw [nIa]
          iterate 6 refine hK _ _ _ _ _ ?_
          refine And.intro (vp_in_nI (n := x) (by omega) (by decide)) ?_
          rw [nI_clamp (show x < 2 ^ 31 by omega)]
          iterate 2 refine hK _ _ _ _ _ ?_
          show K _ _ _ _ _
          rw [show μ 94 0 1 = nI y from hH_μ.2.2.1]
          refine hK _ _ _ _ _ ?_
          refine And.intro (by first | omega | (rw [nI_clamp (by omega)]; omega)) (And.intro (vp_in_nI (n := y) (by omega) (by decide)) ?_)
          rw [nI_clamp (show y < 2 ^ 31 by omega)]
          rw [show μ 57 x y = nI (fN t x y) from em]
          refine hK _ _ _ _ _ ?_
          show K _ _ _ _ _
          rw [nIa]
          refine hK _ _ _ _ _ ?_
          refine Or.inl (calD (c1_consider _ _ B1 (l9 + losA t p x y) (w + fN t x y) (by omega) (by omega) hE1 hO1) ?_)
          rintro r κ0 ⟨rfl, hFk, hEk⟩
          show K 0 106 [some (aR 94), some (aI (nI x)), some (aI (nI m)), some (aI (nI U)), some (aI (nI l9)), some (aI (nI n)), some (aR 54), some (aI (nI p)), some (aI (nI w)), e9, e10, e11] [] κ0
          have hF0 := hF.tr hFk
          have hO2 := lxU_OK hO1 (show l9 + losA t p x y ≤ 1000000 by omega) (show w + fN t x y ≤ 2000 by omega)
          have hL2 := LU_tr hLU (LU_one B1 (l9 + losA t p x y, w + fN t x y))
          generalize lxU B1 (l9 + losA t p x y, w + fN t x y) = B2 at hEk hO2 hL2
          have hH_κ0 := hH.cg (Or.inr rfl) hF0
          have hT_κ0 := TT_of (c := t) hH_κ0.1 hM (fun _ _ => rfl)
          have s1_κ0 : κ0 54 0 1 = nI P := hH_κ0.1.2.1
          have e40 : κ0 58 x y = nI (pth t y (0 + 1) (x, 0)).1 := (hT_κ0.2.2.2.1 x y hx hy).2
          iterate 5 refine hK _ _ _ _ _ ?_
          refine And.intro (vp_in_nI (n := x) (by omega) (by decide)) ?_
          rw [nI_clamp (show x < 2 ^ 31 by omega)]
          iterate 2 refine hK _ _ _ _ _ ?_
          show K _ _ _ _ _
          rw [show κ0 94 0 1 = nI y from hH_κ0.2.2.1]
          refine hK _ _ _ _ _ ?_
          refine And.intro (by first | omega | (rw [nI_clamp (by omega)]; omega)) (And.intro (vp_in_nI (n := y) (by omega) (by decide)) ?_)
          rw [nI_clamp (show y < 2 ^ 31 by omega)]
          rw [show κ0 58 x y = nI (pth t y (0 + 1) (x, 0)).1 from e40]
          iterate 3 refine hK _ _ _ _ _ ?_
          have L126 : ∀ (f3 : Nat) (i : Nat) (e11 : Option AV) (κ : sMem) (B3 : Option (Nat × Nat)), i + 1 + f3 = pl t y x → HF σ κ → hE κ B3 → hOK B3 → LU B (fun o => ((∃ q, q < p ∧ hd1 t P y (hdN t P y n) x m U l9 q o) ∨ o = (l9 + losA t p x y, w + fN t x y)) ∨ hdJ t y (hdN t P y n) x U l9 p w (i + 1) o) B3 → K 0 126 [some (aR 94), some (aI (nI x)), some (aI (nI m)), some (aI (nI U)), some (aI (nI l9)), some (aI (nI n)), some (aR 54), some (aI (nI p)), some (aI (nI w)), some (aI (nI (pth t y (i + 1) (x, 0)).1)), some (aI (nI i)), e11] [] κ := by
            intro f3
            induction f3 with
            | zero =>
              intro i e11 κ B3 hi hF3 hE3 hO3 hL3
              have hH_κ := hH.cg (Or.inr rfl) hF3
              have hT_κ := TT_of (c := t) hH_κ.1 hM (fun _ _ => rfl)
              have s1_κ : κ 54 0 1 = nI P := hH_κ.1.2.1
              obtain ⟨b1, b2, b3, b4, -⟩ := pth_at hm.1 hy (i + 1) x 0 hx k2 (by omega)
              have hqi := pth_q (w := 0) hm.1 hy hx k2 (show i + 1 ≤ pl t y x by omega)
              have hfar := pth_far hm.1 hy hx k2 (i + 1) (by omega)
              rcases Nat.eq_zero_or_pos n with e0 | e0
              · subst e0
                iterate 3 refine hK _ _ _ _ _ ?_
                refine And.intro (fun h5 => absurd ((nI_leI (a := 12) (by decide) (by omega)).mp h5) (by omega)) (fun _ => ?_)
                iterate 2 refine hK _ _ _ _ _ ?_
                refine And.intro (fun _ => ?_) (fun h5 => absurd (by decide) h5)
                refine hK _ _ _ _ _ ?_
                show K _ _ _ _ _
                rw [show nI p + Int32.ofInt 1 = nI (p + 1) from nIs _]
                refine hK _ _ _ _ _ ?_
                exact ih (p + 1) _ _ _ _ κ B3 (by omega) hF3 hE3 hO3 (LU_cg hL3 (fun o => by rw [hd_s, hd1_iff hm hpP hc o, hdZ_iff o]; exact ⟨fun q => q.elim (fun q => q.elim Or.inl (fun q => Or.inr (Or.inl q))) (fun q => q.elim (fun j hj => hj.2.2.elim)), fun q => q.elim (fun q => Or.inl (Or.inl q)) (fun q => q.elim (fun q => Or.inl (Or.inr q)) (fun q => q.elim (fun j hj => hj.2.2.elim)))⟩))
              · iterate 3 refine hK _ _ _ _ _ ?_
                refine And.intro (fun h5 => absurd ((nI_leI (a := 12) (by decide) (by omega)).mp h5) (by omega)) (fun _ => ?_)
                iterate 2 refine hK _ _ _ _ _ ?_
                refine And.intro (fun h5 => absurd ((nI_leI (b := 0) (by omega) (by decide)).mp h5) (by omega)) (fun _ => ?_)
                iterate 3 refine hK _ _ _ _ _ ?_
                show K _ _ _ _ _
                rw [show κ 94 0 1 = nI y from hH_κ.2.2.1]
                refine hK _ _ _ _ _ ?_
                refine And.intro (fun h4 => ?_) (fun h4 => absurd (by rw [hqi.mpr (by omega)]) h4)
                have hi9 := hqi.mp ((nI_eq (by omega) (by omega)).mp h4)
                rw [hi9] at hL3
                refine hK _ _ _ _ _ ?_
                show K _ _ _ _ _
                rw [show nI p + Int32.ofInt 1 = nI (p + 1) from nIs _]
                refine hK _ _ _ _ _ ?_
                exact ih (p + 1) _ _ _ _ κ B3 (by omega) hF3 hE3 hO3 (LU_cg hL3 (fun o => by rw [hd_s, hd1_iff hm hpP hc o, hdZ_iff o]; exact ⟨fun q => q.elim (fun q => q.elim Or.inl (fun q => Or.inr (Or.inl q))) (fun q => Or.inr (Or.inr q)), fun q => q.elim (fun q => Or.inl (Or.inl q)) (fun q => q.elim (fun q => Or.inl (Or.inr q)) Or.inr)⟩))
            | succ f3 ih3 =>
              intro i e11 κ B3 hi hF3 hE3 hO3 hL3
              have hH_κ := hH.cg (Or.inr rfl) hF3
              have hT_κ := TT_of (c := t) hH_κ.1 hM (fun _ _ => rfl)
              have s1_κ : κ 54 0 1 = nI P := hH_κ.1.2.1
              obtain ⟨b1, b2, b3, b4, -⟩ := pth_at hm.1 hy (i + 1) x 0 hx k2 (by omega)
              have hqi := pth_q (w := 0) hm.1 hy hx k2 (show i + 1 ≤ pl t y x by omega)
              have hfar := pth_far hm.1 hy hx k2 (i + 1) (by omega)
              rcases Nat.eq_zero_or_pos n with e0 | e0
              · subst e0
                iterate 3 refine hK _ _ _ _ _ ?_
                refine And.intro (fun h5 => absurd ((nI_leI (a := 12) (by decide) (by omega)).mp h5) (by omega)) (fun _ => ?_)
                iterate 2 refine hK _ _ _ _ _ ?_
                refine And.intro (fun _ => ?_) (fun h5 => absurd (by decide) h5)
                refine hK _ _ _ _ _ ?_
                show K _ _ _ _ _
                rw [show nI p + Int32.ofInt 1 = nI (p + 1) from nIs _]
                refine hK _ _ _ _ _ ?_
                exact ih (p + 1) _ _ _ _ κ B3 (by omega) hF3 hE3 hO3 (LU_cg hL3 (fun o => by rw [hd_s, hd1_iff hm hpP hc o, hdZ_iff o]; exact ⟨fun q => q.elim (fun q => q.elim Or.inl (fun q => Or.inr (Or.inl q))) (fun q => q.elim (fun j hj => hj.2.2.elim)), fun q => q.elim (fun q => Or.inl (Or.inl q)) (fun q => q.elim (fun q => Or.inl (Or.inr q)) (fun q => q.elim (fun j hj => hj.2.2.elim)))⟩))
              · iterate 3 refine hK _ _ _ _ _ ?_
                refine And.intro (fun h5 => absurd ((nI_leI (a := 12) (by decide) (by omega)).mp h5) (by omega)) (fun _ => ?_)
                iterate 2 refine hK _ _ _ _ _ ?_
                refine And.intro (fun h5 => absurd ((nI_leI (b := 0) (by omega) (by decide)).mp h5) (by omega)) (fun _ => ?_)
                iterate 3 refine hK _ _ _ _ _ ?_
                show K _ _ _ _ _
                rw [show κ 94 0 1 = nI y from hH_κ.2.2.1]
                refine hK _ _ _ _ _ ?_
                refine And.intro (fun h4 => ?_) (fun h4 => ?_)
                · have hi9 := hqi.mp ((nI_eq (by omega) (by omega)).mp h4)
                  rw [hi9] at hL3
                  refine hK _ _ _ _ _ ?_
                  show K _ _ _ _ _
                  rw [show nI p + Int32.ofInt 1 = nI (p + 1) from nIs _]
                  refine hK _ _ _ _ _ ?_
                  exact ih (p + 1) _ _ _ _ κ B3 (by omega) hF3 hE3 hO3 (LU_cg hL3 (fun o => by rw [hd_s, hd1_iff hm hpP hc o, hdZ_iff o]; exact ⟨fun q => q.elim (fun q => q.elim Or.inl (fun q => Or.inr (Or.inl q))) (fun q => Or.inr (Or.inr q)), fun q => q.elim (fun q => Or.inl (Or.inl q)) (fun q => q.elim (fun q => Or.inl (Or.inr q)) Or.inr)⟩))
                · have hne : ¬ (pth t y (i + 1) (x, 0)).1 = y := fun e => h4 (by rw [e])
                  have hi2 : i + 1 < pl t y x := Nat.lt_of_le_of_ne (by omega) (fun e => hne (hqi.mpr e))
                  have l2 := los_le hm hpP hx b1 (by omega) (zQ hm.1 hx hy b1 hqN b2 k3)
                  obtain ⟨k, rfl⟩ : ∃ k, n = k + 1 := ⟨n - 1, by omega⟩
                  have em2 := (hT_κ.2.2.2.1 x (pth t y (i + 1) (x, 0)).1 hx b1).1
                  have _hk := hi2
                  iterate 6 refine hK _ _ _ _ _ ?_
                  refine Or.inl (calD (t7_lossBy_54 _ _ t N P S hT_κ hm p hpP x (pth t y (i + 1) (x, 0)).1 hx b1) ?_)
                  rintro r σ' ⟨rfl, hσ⟩
                  subst σ'
                  show K 0 159 [some (aR 94), some (aI (nI x)), some (aI (nI m)), some (aI (nI U)), some (aI (nI l9)), some (aI (nI (k + 1))), some (aR 54), some (aI (nI p)), some (aI (nI w)), some (aI (nI (pth t y (i + 1) (x, 0)).1)), some (aI (nI i)), e11] [aI (nI (losA t p x (pth t y (i + 1) (x, 0)).1)), aI (nI l9)] κ
                  refine hK _ _ _ _ _ ?_
                  show K _ _ _ _ _
                  rw [nIa]
                  have L205 : ∀ (κ2 : sMem) (B4 : Option (Nat × Nat)), HF σ κ2 → hE κ2 B4 → hOK B4 → LU B3 (hdN t P y (k + 1) (pth t y (i + 1) (x, 0)).1 (w + fN t x (pth t y (i + 1) (x, 0)).1) (U ||| 2 ^ p) (l9 + losA t p x (pth t y (i + 1) (x, 0)).1)) B4 → K 0 205 [some (aR 94), some (aI (nI x)), some (aI (nI m)), some (aI (nI U)), some (aI (nI l9)), some (aI (nI (k + 1))), some (aR 54), some (aI (nI p)), some (aI (nI w)), some (aI (nI (pth t y (i + 1) (x, 0)).1)), some (aI (nI i)), some (aI (nI (l9 + losA t p x (pth t y (i + 1) (x, 0)).1)))] [] κ2 := by
                    intro κ2 B4 hF4 hE4 hO4 hL4
                    have hH_k := hH.cg (Or.inr rfl) hF4
                    have hT_k := TT_of (c := t) hH_k.1 hM (fun _ _ => rfl)
                    have hn2 : κ2 58 (pth t y (i + 1) (x, 0)).1 y = nI (pth t y (i + 1 + 1) (x, 0)).1 := (hT_k.2.2.2.1 _ y b1 hy).2.trans (by rw [pth_s t y (i + 1) (x, 0)]; rfl)
                    iterate 5 refine hK _ _ _ _ _ ?_
                    refine And.intro (vp_in_nI (n := ((pth t y (i + 1) (x, 0)).1)) (by omega) (by decide)) ?_
                    rw [nI_clamp (show ((pth t y (i + 1) (x, 0)).1) < 2 ^ 31 by omega)]
                    iterate 2 refine hK _ _ _ _ _ ?_
                    show K _ _ _ _ _
                    rw [show κ2 94 0 1 = nI y from hH_k.2.2.1]
                    refine hK _ _ _ _ _ ?_
                    refine And.intro (by first | omega | (rw [nI_clamp (by omega)]; omega)) (And.intro (vp_in_nI (n := y) (by omega) (by decide)) ?_)
                    rw [nI_clamp (show y < 2 ^ 31 by omega)]
                    rw [show κ2 58 ((pth t y (i + 1) (x, 0)).1) y = nI (pth t y (i + 1 + 1) (x, 0)).1 from hn2]
                    iterate 2 refine hK _ _ _ _ _ ?_
                    show K _ _ _ _ _
                    rw [show nI i + Int32.ofInt 1 = nI (i + 1) from nIs _]
                    refine hK _ _ _ _ _ ?_
                    exact ih3 (i + 1) _ κ2 B4 (by omega) hF4 hE4 hO4 (LU_cg (LU_tr hL3 hL4) (fun o => by rw [hdJ_s (i := i + 1) (by omega)]; exact ⟨fun q => q.elim (fun q => q.elim Or.inl (fun q => Or.inr (Or.inl q))) (fun q => Or.inr (Or.inr q)), fun q => q.elim (fun q => Or.inl (Or.inl q)) (fun q => q.elim (fun q => Or.inl (Or.inr q)) Or.inr)⟩))
                  iterate 2 refine hK _ _ _ _ _ ?_
                  rcases B3 with _ | bb
                  · obtain ⟨c3, c4⟩ := hE3
                    iterate 2 refine hK _ _ _ _ _ ?_
                    show K _ _ _ _ _
                    rw [show κ 94 0 3 = 2000000000 from c3]
                    refine hK _ _ _ _ _ ?_
                    refine And.intro (fun h3 => absurd ((nI_ltI (a := 2000000000) (by decide) (by omega)).mp h3) (by omega)) (fun _ => ?_)
                    iterate 8 refine hK _ _ _ _ _ ?_
                    refine And.intro (vp_in_nI (n := x) (by omega) (by decide)) ?_
                    rw [nI_clamp (show x < 2 ^ 31 by omega)]
                    iterate 2 refine hK _ _ _ _ _ ?_
                    refine And.intro (by first | omega | (rw [nI_clamp (by omega)]; omega)) (And.intro (vp_in_nI (n := ((pth t y (i + 1) (x, 0)).1)) (by omega) (by decide)) ?_)
                    rw [nI_clamp (show ((pth t y (i + 1) (x, 0)).1) < 2 ^ 31 by omega)]
                    rw [show κ 57 x ((pth t y (i + 1) (x, 0)).1) = nI (fN t x (pth t y (i + 1) (x, 0)).1) from em2]
                    refine hK _ _ _ _ _ ?_
                    show K _ _ _ _ _
                    rw [nIa]
                    iterate 5 refine hK _ _ _ _ _ ?_
                    show K _ _ _ _ _
                    rw [show nI U ||| (Int32.ofInt 1 <<< (nI p &&& 31)) = nI (U ||| 2 ^ p) from nI_orp _ _ (by omega)]
                    iterate 4 refine hK _ _ _ _ _ ?_
                    show K _ _ _ _ _
                    rw [show nI (k + 1) - Int32.ofInt 1 = nI k from nIm (b := 1) (by omega)]
                    refine hK _ _ _ _ _ ?_
                    refine Or.inr (Or.inl (yD0 (hrec k rfl κ (pth t y (i + 1) (x, 0)).1 (w + fN t x (pth t y (i + 1) (x, 0)).1) (U ||| 2 ^ p) (l9 + losA t p x (pth t y (i + 1) (x, 0)).1) none hH_κ b1 hne (by omega) (or_lt (P := 10) hU (by omega)) (by omega) ⟨c3, c4⟩ hO3) ?_))
                    rintro r κ2 ⟨rfl, hFk2, B4, hL4, hE4, hO4⟩
                    show K 0 205 [some (aR 94), some (aI (nI x)), some (aI (nI m)), some (aI (nI U)), some (aI (nI l9)), some (aI (nI (k + 1))), some (aR 54), some (aI (nI p)), some (aI (nI w)), some (aI (nI (pth t y (i + 1) (x, 0)).1)), some (aI (nI i)), some (aI (nI (l9 + losA t p x (pth t y (i + 1) (x, 0)).1)))] [] κ2
                    exact L205 κ2 B4 (hF3.tr hFk2) hE4 hO4 hL4
                  · have o3 := hO3 bb rfl
                    obtain ⟨c3, c4⟩ := hE3
                    iterate 2 refine hK _ _ _ _ _ ?_
                    show K _ _ _ _ _
                    rw [show κ 94 0 3 = nI bb.1 from c3]
                    refine hK _ _ _ _ _ ?_
                    refine And.intro (fun h3 => ?_) (fun h3 => ?_)
                    · have hlt := (nI_ltI (by omega) (by omega)).mp h3
                      exact L205 κ (some bb) hF3 ⟨c3, c4⟩ hO3 (LU_cut rfl (fun o ho => Or.inl (by have := (hdN_le hm hy _ _ _ _ _ o ho).1; omega)))
                    · iterate 8 refine hK _ _ _ _ _ ?_
                      refine And.intro (vp_in_nI (n := x) (by omega) (by decide)) ?_
                      rw [nI_clamp (show x < 2 ^ 31 by omega)]
                      iterate 2 refine hK _ _ _ _ _ ?_
                      refine And.intro (by first | omega | (rw [nI_clamp (by omega)]; omega)) (And.intro (vp_in_nI (n := ((pth t y (i + 1) (x, 0)).1)) (by omega) (by decide)) ?_)
                      rw [nI_clamp (show ((pth t y (i + 1) (x, 0)).1) < 2 ^ 31 by omega)]
                      rw [show κ 57 x ((pth t y (i + 1) (x, 0)).1) = nI (fN t x (pth t y (i + 1) (x, 0)).1) from em2]
                      refine hK _ _ _ _ _ ?_
                      show K _ _ _ _ _
                      rw [nIa]
                      iterate 5 refine hK _ _ _ _ _ ?_
                      show K _ _ _ _ _
                      rw [show nI U ||| (Int32.ofInt 1 <<< (nI p &&& 31)) = nI (U ||| 2 ^ p) from nI_orp _ _ (by omega)]
                      iterate 4 refine hK _ _ _ _ _ ?_
                      show K _ _ _ _ _
                      rw [show nI (k + 1) - Int32.ofInt 1 = nI k from nIm (b := 1) (by omega)]
                      refine hK _ _ _ _ _ ?_
                      refine Or.inr (Or.inl (yD0 (hrec k rfl κ (pth t y (i + 1) (x, 0)).1 (w + fN t x (pth t y (i + 1) (x, 0)).1) (U ||| 2 ^ p) (l9 + losA t p x (pth t y (i + 1) (x, 0)).1) (some bb) hH_κ b1 hne (by omega) (or_lt (P := 10) hU (by omega)) (by omega) ⟨c3, c4⟩ hO3) ?_))
                      rintro r κ2 ⟨rfl, hFk2, B4, hL4, hE4, hO4⟩
                      show K 0 205 [some (aR 94), some (aI (nI x)), some (aI (nI m)), some (aI (nI U)), some (aI (nI l9)), some (aI (nI (k + 1))), some (aR 54), some (aI (nI p)), some (aI (nI w)), some (aI (nI (pth t y (i + 1) (x, 0)).1)), some (aI (nI i)), some (aI (nI (l9 + losA t p x (pth t y (i + 1) (x, 0)).1)))] [] κ2
                      exact L205 κ2 B4 (hF3.tr hFk2) hE4 hO4 hL4
          exact L126 (pl t y x - 1) 0 _ κ0 B2 (by omega) hF0 hEk hO2 (LU_cg hL2 (fun o => ⟨Or.inl, fun q => q.elim id (fun q => absurd q (hdJ_1 o))⟩))
        · have hct := bI_f h6
          refine hK _ _ _ _ _ ?_
          exact L229 _ _ _ _ (fun o h => h.elim (fun w9 hw9 => by rw [ctB_iff.mpr ⟨hw9.1.2.2.1, hw9.1.2.2.2.1, hw9.1.2.2.2.2.1⟩] at hct; cases hct))
      · have hv := (hH_μ.2.2.2 p x hpP hx).2 (fun w hw => hq ⟨w, hw⟩)
        have hn9 : ∀ o, ¬ hd1 t P y (hdN t P y n) x m U l9 p o := fun o h => h.elim (fun w hw => hq ⟨w, hw.1.2.2.2.2.2.1⟩)
        iterate 4 refine hK _ _ _ _ _ ?_
        refine And.intro (vp_in_nI (n := p) (by omega) (by decide)) ?_
        rw [nI_clamp (show p < 2 ^ 31 by omega)]
        iterate 2 refine hK _ _ _ _ _ ?_
        refine And.intro (by first | omega | (rw [nI_clamp (by omega)]; omega)) (And.intro (vp_in_nI (n := x) (by omega) (by decide)) ?_)
        rw [nI_clamp (show x < 2 ^ 31 by omega)]
        rw [show μ 95 p x = -1 from hv]
        iterate 4 refine hK _ _ _ _ _ ?_
        refine calD (c8_hasBit _ _ _ _) ?_
        rintro r σ' ⟨rfl, hσ⟩
        subst σ'
        show K 0 42 [some (aR 94), some (aI (nI x)), some (aI (nI m)), some (aI (nI U)), some (aI (nI l9)), some (aI (nI n)), some (aR 54), some (aI (nI p)), some (aI (-1)), e9, e10, e11] [aI (bI (hb (nI U) (nI p)))] μ
        refine hK _ _ _ _ _ ?_
        refine And.intro (fun h8 => L229 _ _ _ _ hn9) (fun h8 => ?_)
        iterate 3 refine hK _ _ _ _ _ ?_
        refine And.intro (fun _ => ?_) (fun h7 => absurd (Int32.lt_of_lt_of_le (b := 0) (by decide) (nI_pos' (by omega))) h7)
        exact L229 _ _ _ _ hn9
  exact L15 P 0 _ _ _ _ σ B (by omega) (HF.rf σ) hE0 hO (LU_nil (fun o h => h.elim (fun q hq => absurd hq.1 (Nat.not_lt_zero _))))
theorem c1_search_54 (t : sMem) (N P S G y d : Nat) (hM : MI t N P S G) (hy : y < N) : ∀ n, n ≤ 2 → SR54 l D0 b0 ty ad av t N P S G y d n
  | 0, _ => fun σ x m U l9 B a1 a2 a3 a4 a5 a6 a7 a8 => c1_searchS_54 d t N P S G y 0 hM hy (by decide) (fun k hk => by omega) σ x m U l9 B a1 a2 a3 a4 a5 a6 a7 a8
  | n + 1, hn => fun σ x m U l9 B a1 a2 a3 a4 a5 a6 a7 a8 => c1_searchS_54 d t N P S G y (n + 1) hM hy hn (fun k hk => by cases hk; exact c1_search_54 t N P S G y d hM hy n (by omega)) σ x m U l9 B a1 a2 a3 a4 a5 a6 a7 a8
theorem c1_find_54 (d : Nat) (σ t : sMem) (N P S G : Nat) (hC : CT σ t 54 N P S G) (hM : MI t N P S G) (x n : Nat) (hx : x < S) (hn : n ≤ 2) : yMet l D0 b0 ty ad av lay (d + n + 3) 0 mX1_find [aR 94, aR 54, aI (nI x), aI (nI n)] σ (fun r σ' => r = [] ∧ (∀ i, i ≠ 94 → i ≠ 95 → σ' i = σ i) ∧ ∃ B, LU none (hdN t P (sY t x) (n + 1) (sX t x) (sT t x) 0 0) B ∧ hE σ' B ∧ hOK B) (fun _ _ => False) := by
  refine yMet_intro lay_nd kX1_find xX1_ok (yY1_ok _) (by decide +kernel) rfl ?_
  intro K hK
  have hm := MC_of hM
  have hN := hm.1.1.1
  have hP := hm.2.2.1
  have hS8 := hm.2.2.2.1
  have hT := TT_of (c := t) hC hM (fun _ _ => rfl)
  obtain ⟨g10, g11, g12, -⟩ := hT.2.2.2.2.2 x hx
  obtain ⟨⟨-, hX⟩, ⟨-, hY⟩, ⟨-, hT5⟩, hne⟩ := hm.2.2.2.2.2 x hx
  iterate 3 refine hK _ _ _ _ _ ?_
  refine And.intro (by decide) ?_
  iterate 3 refine hK _ _ _ _ _ ?_
  show K _ _ _ _ _
  rw [sUp_at]
  show K _ _ _ _ _
  rw [show (nI 54).toNatClampNeg = 54 from rfl]
  iterate 3 refine hK _ _ _ _ _ ?_
  refine And.intro (vp_in_nI (n := x) (by omega) (by decide)) ?_
  rw [nI_clamp (show x < 2 ^ 31 by omega)]
  rw [sUp_off (by decide), show σ 65 0 x = nI (sY t x) from g11]
  iterate 9 refine hK _ _ _ _ _ ?_
  have L33 : ∀ (f : Nat) (p : Nat) (μ : sMem), p + f = P → (∀ i, i ≠ 94 → i ≠ 95 → μ i = σ i) → μ 94 0 0 = nI 54 → μ 94 0 1 = nI (sY t x) → μ 94 0 3 = 2000000000 → μ 94 0 4 = 1000000 → (∀ q x, q < p → x < N → (∀ w, psQ t q x w → μ 95 q x = nI w) ∧ ((∀ w, ¬ psQ t q x w) → μ 95 q x = -1)) → K 0 33 [some (aR 94), some (aR 54), some (aI (nI x)), some (aI (nI n)), some (aI (nI p))] [] μ := by
    intro f
    induction f with
    | zero =>
      intro p μ hp hf h0 h1 h3 h4 hd
      have hCμ : CT μ t 54 N P S G := hC.cg (fun i h1 h2 => hf i (by omega) (by omega))
      have hTμ := TT_of (c := t) hCμ hM (fun _ _ => rfl)
      have s1 : μ 54 0 1 = nI P := hCμ.2.1
      obtain ⟨m10, m11, m12, -⟩ := hTμ.2.2.2.2.2 x hx
      iterate 3 refine hK _ _ _ _ _ ?_
      show K _ _ _ _ _
      rw [show μ 94 0 0 = nI 54 from h0]
      show K _ _ _ _ _
      rw [show (nI 54).toNatClampNeg = 54 from rfl]
      refine hK _ _ _ _ _ ?_
      show K _ _ _ _ _
      rw [show μ 54 0 1 = nI P from s1]
      refine hK _ _ _ _ _ ?_
      refine And.intro (fun _ => ?_) (fun h9 => absurd ((nI_leI (by omega) (by omega)).mpr (by omega)) h9)
      iterate 3 refine hK _ _ _ _ _ ?_
      show K _ _ _ _ _
      rw [show μ 94 0 0 = nI 54 from h0]
      show K _ _ _ _ _
      rw [show (nI 54).toNatClampNeg = 54 from rfl]
      iterate 3 refine hK _ _ _ _ _ ?_
      refine And.intro (vp_in_nI (n := x) (by omega) (by decide)) ?_
      rw [nI_clamp (show x < 2 ^ 31 by omega)]
      rw [show μ 64 0 x = nI (sX t x) from m10]
      iterate 2 refine hK _ _ _ _ _ ?_
      show K _ _ _ _ _
      rw [show μ 94 0 0 = nI 54 from h0]
      show K _ _ _ _ _
      rw [show (nI 54).toNatClampNeg = 54 from rfl]
      iterate 3 refine hK _ _ _ _ _ ?_
      refine And.intro (vp_in_nI (n := x) (by omega) (by decide)) ?_
      rw [nI_clamp (show x < 2 ^ 31 by omega)]
      rw [show μ 66 0 x = nI (sT t x) from m12]
      iterate 4 refine hK _ _ _ _ _ ?_
      refine Or.inr (Or.inl (yD0 ((show yMet l D0 b0 ty ad av lay (d + n + 2) 0 mX1_search [aR 94, aI (nI (sX t x)), aI (nI (sT t x)), aI (nI 0), aI (nI 0), aI (nI n)] μ _ _ from c1_search_54 t N P S G (sY t x) d hM hY n hn μ (sX t x) (sT t x) 0 0 none ⟨hCμ, h0, h1, fun q x h2 h3 => hd q x (by omega) h3⟩ hX hne (by omega) (by decide) (by omega) ⟨h3, h4⟩ (fun b hb => by cases hb))) ?_))
      rintro r ν ⟨rfl, hFν, B, hL, hE9, hO9⟩
      show K 0 82 [some (aR 94), some (aR 54), some (aI (nI x)), some (aI (nI n)), some (aI (nI p))] [] ν
      refine hK _ _ _ _ _ ?_
      exact ⟨rfl, fun i h1 h2 => (hFν.1 i h1).trans (hf i h1 h2), B, hL, hE9, hO9⟩
    | succ f ih =>
      intro p μ hp hf h0 h1 h3 h4 hd
      have hCμ : CT μ t 54 N P S G := hC.cg (fun i h1 h2 => hf i (by omega) (by omega))
      have hTμ := TT_of (c := t) hCμ hM (fun _ _ => rfl)
      have s1 : μ 54 0 1 = nI P := hCμ.2.1
      obtain ⟨m10, m11, m12, -⟩ := hTμ.2.2.2.2.2 x hx
      iterate 3 refine hK _ _ _ _ _ ?_
      show K _ _ _ _ _
      rw [show μ 94 0 0 = nI 54 from h0]
      show K _ _ _ _ _
      rw [show (nI 54).toNatClampNeg = 54 from rfl]
      refine hK _ _ _ _ _ ?_
      show K _ _ _ _ _
      rw [show μ 54 0 1 = nI P from s1]
      refine hK _ _ _ _ _ ?_
      refine And.intro (fun h9 => absurd ((nI_leI (by omega) (by omega)).mp h9) (by omega)) (fun _ => ?_)
      iterate 3 refine hK _ _ _ _ _ ?_
      refine Or.inr (Or.inl (yD0 (c1_notePassing_54 _ μ t N P S G hCμ hM h0 p (by omega)) ?_))
      rintro r ν ⟨rfl, hfν, hrν, hvν⟩
      show K 0 51 [some (aR 94), some (aR 54), some (aI (nI x)), some (aI (nI n)), some (aI (nI p))] [] ν
      refine hK _ _ _ _ _ ?_
      show K _ _ _ _ _
      rw [show nI p + Int32.ofInt 1 = nI (p + 1) from nIs _]
      refine hK _ _ _ _ _ ?_
      refine ih (p + 1) ν (by omega) (fun i h1 h2 => (hfν i h2).trans (hf i h1 h2)) (by rw [hfν 94 (by decide)]; exact h0) (by rw [hfν 94 (by decide)]; exact h1) (by rw [hfν 94 (by decide)]; exact h3) (by rw [hfν 94 (by decide)]; exact h4) (fun q x hq hx9 => ?_)
      by_cases e : q = p
      · subst e; exact hvν x hx9
      · rw [hrν q e]; exact hd q x (by omega) hx9
  exact L33 P 0 _ (by omega) (fun i h1 h2 => by rw [sUp_off h1, sUp_off h1, sUp_off h1, sUp_off h1]) (by rw [sUp_k (by decide), sUp_k (by decide), sUp_k (by decide), sUp_at]) (by rw [sUp_k (by decide), sUp_k (by decide), sUp_at]) (by rw [sUp_k (by decide), sUp_at]) (sUp_at _ _ _ _ _) (fun q x hq _ => absurd hq (Nat.not_lt_zero _))
end
