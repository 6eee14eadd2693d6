/-! THE CLASS: town -/
theorem TWR.cg2 {σ σ' ρ : sMem} {w : Nat} (h : TWR σ ρ w) (h1 : ∀ i, w ≤ i → i < w + 18 → i ≠ w + 3 → i ≠ w + 4 → σ' i = σ i) : TWR σ' ρ w := by
  unfold TWR
  rw [h1 w (by omega) (by omega) (by omega) (by omega), h1 (w + 1) (by omega) (by omega) (by omega) (by omega), h1 (w + 2) (by omega) (by omega) (by omega) (by omega), h1 (w + 5) (by omega) (by omega) (by omega) (by omega), h1 (w + 6) (by omega) (by omega) (by omega) (by omega), h1 (w + 7) (by omega) (by omega) (by omega) (by omega), h1 (w + 8) (by omega) (by omega) (by omega) (by omega), h1 (w + 9) (by omega) (by omega) (by omega) (by omega), h1 (w + 10) (by omega) (by omega) (by omega) (by omega), h1 (w + 11) (by omega) (by omega) (by omega) (by omega), h1 (w + 12) (by omega) (by omega) (by omega) (by omega), h1 (w + 13) (by omega) (by omega) (by omega) (by omega), h1 (w + 14) (by omega) (by omega) (by omega) (by omega), h1 (w + 15) (by omega) (by omega) (by omega) (by omega), h1 (w + 16) (by omega) (by omega) (by omega) (by omega), h1 (w + 17) (by omega) (by omega) (by omega) (by omega)]
  exact h
/-- what a text is, as the reference reads it -/
def tZ (t : sMem) (n : Nat) : sMem := txL 61 (bkM (p0M t n))
/-- the class's town w is what was read, with its ways -/
def TWF (σ Z : sMem) (w N P S G Q : Nat) : Prop := TWR σ Z w ∧ RVN Z N P S G Q ∧ RM σ (w + 3) N (flM N (m0 (gN Z Q)) N) ∧ ∀ a b, a < N → b < N → σ (w + 4) a b = nI (fsG (gN Z Q) (flM N (m0 (gN Z Q)) N) N a b)
theorem RM_of {σ Z : sMem} {w N P S G Q : Nat} (hW : TWR σ Z w) (hV : RVN Z N P S G Q) : RM σ (w + 2) N (gN Z Q) ∧ gOK N (gN Z Q) := by
  have hN := hV.1.2.1
  have hQ := hV.2.2.2.2.2.1
  have hr : rc Z 5 = Q := rc_at hV.2.1.2.2.2.2.1 (by have := hV.1.2.2.2.2.2; omega)
  refine ⟨fun a b ha hb9 => ?_, gN_ok hN hQ⟩
  have h := hW.2.1 a b (by omega) (by omega)
  rw [hr] at h
  have g := gN_at hN hQ a b
  exact ⟨h.trans g.1, by have := g.2.1; omega⟩
section
variable {l : Launch} {D0 : va_G} {b0 : Nat} {ty : Nat → ClassId} {ad av : Nat → Nat}
theorem c8_town_36_x0 (d : Nat) (σ : sMem) (T : Nat) (hT6 : T ≤ 600) (eT : σ 34 0 1 = nI T) (x : Int32) (h0 : ¬ (0 ≤ x ∧ x ≤ nI T)) : yMet l D0 b0 ty ad av lay (d + 7) 1 mX8_town [aR 34, aI (x)] σ (fun _ _ => False) (fun e σ' => e = yIAE ∧ σ' = σ) := by
  refine yMet_intro lay_nd kX8_town xX8_ok (yYX8_town_ok) (by decide +kernel) rfl ?_
  intro K hK
  iterate 2 refine hK _ _ _ _ _ ?_
  refine And.intro (fun h9 => ?_) (fun h9 => ?_)
  · refine hK _ _ _ _ _ ?_
    exact ⟨0, rfl, rfl, rfl⟩
  · iterate 3 refine hK _ _ _ _ _ ?_
    show K _ _ _ _ _
    rw [show σ 34 0 1 = nI T from eT]
    refine hK _ _ _ _ _ ?_
    refine And.intro (fun h8 => absurd ⟨Int32.not_lt.mp h9, h8⟩ h0) (fun _ => ?_)
    refine hK _ _ _ _ _ ?_
    exact ⟨0, rfl, rfl, rfl⟩
theorem c8_town_36_ok (d : Nat) (hJ : JST l ad av) (σ t : sMem) (T n : Nat) (hT6 : T ≤ 600) (eT : σ 34 0 1 = nI T) (hnT : n ≤ T) (e3 : σ 34 0 3 = nI 36) (e4 : σ 34 0 4 = nI 54) (hX : ∀ j, j < n → ∃ b : Nat, b < 256 ∧ t 1 0 j = nI b ∧ σ 35 0 j = syB b) : yMet l D0 b0 ty ad av lay (d + 9) 0 mX8_town [aR 34, aI (nI n)] σ (fun r σ' => (∀ i, i ≠ 34 → i ≠ 74 → i ≠ 72 → (i < 54 ∨ 72 ≤ i) → σ' i = σ i) ∧ σ' 34 0 1 = nI 0 ∧ σ' 34 0 2 = tZ t n 0 0 6 ∧ (¬ tZ t n 0 0 5 = 0 → r = [aI (tZ t n 0 0 5 - 10)] ∧ σ' 72 = σ 72 ∧ σ' 34 0 3 = nI 36 ∧ σ' 34 0 4 = nI 54 ∧ σ' 34 0 7 = σ 34 0 7) ∧ (tZ t n 0 0 5 = 0 → σ' 34 0 3 = nI 54 ∧ σ' 34 0 4 = nI 36 ∧ σ' 34 0 7 = nI 0 ∧ (∀ x, x < 8 → σ' 72 0 x = -1) ∧ ∃ N P S G Q, TWF σ' (tZ t n) 54 N P S G Q ∧ r = [aI (nI P)])) (fun _ _ => False) := by
  refine yMet_intro lay_nd kX8_town xX8_ok (yYX8_town_ok) (by decide +kernel) rfl ?_
  intro K hK
  obtain ⟨p1, p2, p3, p4⟩ := p0M_at t n
  have q2 : p0M t n 0 0 2 = nI n := by rw [p2]; simp [p0A, sUp]
  have q4 : p0M t n 0 0 4 = nI 0 := by rw [p2]; simp [p0A, sUp]; rfl
  have q5 : p0M t n 0 0 5 = 0 := by rw [p2]; simp [p0A, sUp]
  have q6 : p0M t n 0 0 6 = -1 := by rw [p2]; simp [p0A, sUp]
  have q7 : p0M t n 0 0 7 = nI 0 := by rw [p2]; simp [p0A, sUp]; rfl
  iterate 2 refine hK _ _ _ _ _ ?_
  refine And.intro (fun h9 => absurd h9 (nI_pos (by omega))) (fun _ => ?_)
  iterate 3 refine hK _ _ _ _ _ ?_
  show K _ _ _ _ _
  rw [show σ 34 0 1 = nI T from eT]
  refine hK _ _ _ _ _ ?_
  refine And.intro (fun _ => ?_) (fun h9 => absurd ((nI_leI (by omega) (by omega)).mpr hnT) h9)
  iterate 10 refine hK _ _ _ _ _ ?_
  show K _ _ _ _ _
  rw [sUp_k (by decide), show σ 34 0 4 = nI 54 from e4]
  show K _ _ _ _ _
  rw [show (nI 54).toNatClampNeg = 54 from rfl]
  refine hK _ _ _ _ _ ?_
  refine Or.inr (Or.inl (yD0 (c4_read_54 _ hJ (sUp σ 34 0 1 (Int32.ofInt 0)) (p0M t n) n (by omega) (fun j hj => by rw [p1 1 (by decide) (by decide) (by decide), sUp_off (by decide)]; exact hX j hj) q2 q4 q5 q6 q7 (p3 0 (by decide)) (p3 1 (by decide)) (p3 2 (by decide)) (p3 3 (by decide)) (p3 4 (by decide)) (p3 5 (by decide)) p4) ?_))
  rintro r μ ⟨rfl, hf, hC, hG⟩
  show K 0 43 [some (aR 34), some (aI (nI n)), none] [] μ
  have hZd : txL 61 (bkM (p0M t n)) = tZ t n := rfl
  rw [hZd] at hC hG
  generalize tZ t n = Z at hC hG hK
  have k34 : μ 34 = (sUp σ 34 0 1 (Int32.ofInt 0)) 34 := hf 34 (by decide) (by decide)
  have k1 : μ 34 0 1 = nI 0 := by rw [k34, sUp_at]; rfl
  have k3 : μ 34 0 3 = nI 36 := by rw [k34, sUp_k (by decide)]; exact e3
  have k4 : μ 34 0 4 = nI 54 := by rw [k34, sUp_k (by decide)]; exact e4
  have k7 : μ 34 0 7 = σ 34 0 7 := by rw [k34, sUp_k (by decide)]
  have hf9 : ∀ i, i ≠ 34 → i ≠ 74 → (i < 54 ∨ 72 ≤ i) → μ i = σ i := fun i h1 h2 h3 => by rw [hf i h2 h3, sUp_off h1]
  have c0 : μ 74 0 0 = Z 0 0 5 := hC.2.2.1
  have c1 : μ 74 0 1 = Z 0 0 6 := hC.2.2.2.1
  clear k34
  iterate 4 refine hK _ _ _ _ _ ?_
  show K _ _ _ _ _
  rw [show μ 74 0 1 = Z 0 0 6 from c1]
  iterate 4 refine hK _ _ _ _ _ ?_
  show K _ _ _ _ _
  rw [sUp_off (by decide), show μ 74 0 0 = Z 0 0 5 from c0]
  refine hK _ _ _ _ _ ?_
  refine And.intro (fun h8 => ?_) (fun h8 => ?_)
  · have hz : Z 0 0 5 = 0 := h8
    obtain ⟨hW, N, P, S, G, Q, hV⟩ := hG hz
    obtain ⟨hRM, hgo⟩ := RM_of hW hV
    have hN12 := hV.1.2.1
    have hP10 := hV.1.2.2.1
    iterate 2 refine hK _ _ _ _ _ ?_
    show K _ _ _ _ _
    rw [sUp_k (by decide), show μ 34 0 4 = nI 54 from k4]
    show K _ _ _ _ _
    rw [show (nI 54).toNatClampNeg = 54 from rfl]
    iterate 4 refine hK _ _ _ _ _ ?_
    show K _ _ _ _ _
    rw [sUp_k (by decide), show μ 34 0 3 = nI 36 from k3]
    show K _ _ _ _ _
    rw [show (nI 36).toNatClampNeg = 36 from rfl]
    refine hK _ _ _ _ _ ?_
    refine And.intro (by decide) ?_
    iterate 3 refine hK _ _ _ _ _ ?_
    refine And.intro (by decide) ?_
    iterate 2 refine hK _ _ _ _ _ ?_
    show K _ _ _ _ _
    rw [sUp_at]
    show K _ _ _ _ _
    rw [show (nI 54).toNatClampNeg = 54 from rfl]
    iterate 2 refine hK _ _ _ _ _ ?_
    have hmf : ∀ i, i ≠ 34 → (sUp (sUp (sUp μ 34 0 2 (Z 0 0 6)) 34 0 4 (nI 36)) 34 0 3 (nI 54)) i = μ i := fun i hi => by rw [sUp_off hi, sUp_off hi, sUp_off hi]
    have m1 : (sUp (sUp (sUp μ 34 0 2 (Z 0 0 6)) 34 0 4 (nI 36)) 34 0 3 (nI 54)) 34 0 1 = nI 0 := by rw [sUp_k (by decide), sUp_k (by decide), sUp_k (by decide)]; exact k1
    have m2 : (sUp (sUp (sUp μ 34 0 2 (Z 0 0 6)) 34 0 4 (nI 36)) 34 0 3 (nI 54)) 34 0 2 = Z 0 0 6 := by rw [sUp_k (by decide), sUp_k (by decide), sUp_at]
    have m3 : (sUp (sUp (sUp μ 34 0 2 (Z 0 0 6)) 34 0 4 (nI 36)) 34 0 3 (nI 54)) 34 0 3 = nI 54 := sUp_at _ _ _ _ _
    have m4 : (sUp (sUp (sUp μ 34 0 2 (Z 0 0 6)) 34 0 4 (nI 36)) 34 0 3 (nI 54)) 34 0 4 = nI 36 := by rw [sUp_k (by decide), sUp_at]
    generalize (sUp (sUp (sUp μ 34 0 2 (Z 0 0 6)) 34 0 4 (nI 36)) 34 0 3 (nI 54)) = m at hmf m1 m2 m3 m4 ⊢
    have p0 : m 55 0 0 = nI N := by rw [hmf 55 (by decide)]; exact hW.1.1.trans hV.2.1.1
    have hRm : RM m 56 N (gN Z Q) := fun x y hx hy => by rw [hmf 56 (by decide)]; exact hRM x y hx hy
    refine Or.inr (Or.inl (yD0 (f6_findWays_54 _ m N (gN Z Q) hN12 p0 hRm hgo) ?_))
    rintro r ω ⟨rfl, hfω, hF, hS9⟩
    show K 0 103 [some (aR 34), some (aI (nI n)), some (aR 54)] [] ω
    iterate 4 refine hK _ _ _ _ _ ?_
    refine Or.inl (calD (cJ_fill72 _ _ _) ?_)
    rintro r ν ⟨rfl, eν⟩
    show K 0 111 [some (aR 34), some (aI (nI n)), some (aR 54)] [] ν
    have hfν : ∀ i, i ≠ 72 → ν i = ω i := fun i q => by rw [eν]; unfold flR; rw [sRow_off q]
    have hvν : ∀ x, x < 8 → ν 72 0 x = -1 := fun x q => by rw [eν]; unfold flR; rw [sRow_at, if_pos q]; rfl
    clear eν
    have n3 : ν 34 0 3 = nI 54 := by rw [hfν 34 (by decide), hfω 34 (by decide) (by decide)]; exact m3
    have hWν : TWR ν Z 54 := hW.cg2 (fun i h1 h2 h3 h4 => by rw [hfν i (by omega), hfω i h3 h4, hmf i (by omega)])
    have nP : ν 54 0 1 = nI P := hWν.1.2.2.1.trans hV.2.1.2.1
    iterate 5 refine hK _ _ _ _ _ ?_
    show K _ _ _ _ _
    rw [sUp_k (by decide), show ν 34 0 3 = nI 54 from n3]
    show K _ _ _ _ _
    rw [show (nI 54).toNatClampNeg = 54 from rfl]
    refine hK _ _ _ _ _ ?_
    show K _ _ _ _ _
    rw [sUp_off (by decide), show ν 54 0 1 = nI P from nP]
    refine hK _ _ _ _ _ ?_
    have hx : ∀ i, i ≠ 34 → (sUp ν 34 0 7 (Int32.ofInt 0)) i = ν i := fun i hi => sUp_off hi
    refine ⟨fun i h1 h2 h72 h3 => ?_, ?_, ?_, fun q => absurd hz q, fun _ => ⟨?_, ?_, ?_, fun x h => ?_, N, P, S, G, Q, ⟨hWν.cg2 (fun i h1 h2 _ _ => hx i (by omega)), hV, fun x y hx9 hy9 => ?_, fun x y hx9 hy9 => ?_⟩, rfl⟩⟩
    · rw [hx i h1, hfν i h72, hfω i (by omega) (by omega), hmf i h1]; exact hf9 i h1 h2 h3
    · rw [sUp_k (by decide), hfν 34 (by decide), hfω 34 (by decide) (by decide)]; exact m1
    · rw [sUp_k (by decide), hfν 34 (by decide), hfω 34 (by decide) (by decide)]; exact m2
    · rw [sUp_k (by decide)]; exact n3
    · rw [sUp_k (by decide), hfν 34 (by decide), hfω 34 (by decide) (by decide)]; exact m4
    · rw [sUp_at]; rfl
    · rw [hx 72 (by decide)]; exact hvν x h
    · show (sUp ν 34 0 7 (Int32.ofInt 0)) 57 x y = _ ∧ _
      rw [hx 57 (by decide), hfν 57 (by decide)]; exact hF x y hx9 hy9
    · show (sUp ν 34 0 7 (Int32.ofInt 0)) 58 x y = _
      rw [hx 58 (by decide), hfν 58 (by decide)]; exact hS9 x y hx9 hy9
  · have hz : ¬ Z 0 0 5 = 0 := h8
    iterate 3 refine hK _ _ _ _ _ ?_
    show K _ _ _ _ _
    rw [sUp_off (by decide), show μ 74 0 0 = Z 0 0 5 from c0]
    iterate 3 refine hK _ _ _ _ _ ?_
    refine ⟨fun i h1 h2 _ h3 => by rw [sUp_off h1]; exact hf9 i h1 h2 h3, by rw [sUp_k (by decide)]; exact k1, sUp_at _ _ _ _ _, fun _ => ⟨?_, by rw [sUp_off (by decide)]; exact hf9 72 (by decide) (by decide) (by decide), by rw [sUp_k (by decide)]; exact k3, by rw [sUp_k (by decide)]; exact k4, by rw [sUp_k (by decide)]; exact k7⟩, fun q => absurd q hz⟩
    rfl
theorem c8_town_54_ok (d : Nat) (hJ : JST l ad av) (σ t : sMem) (T n : Nat) (hT6 : T ≤ 600) (eT : σ 34 0 1 = nI T) (hnT : n ≤ T) (e3 : σ 34 0 3 = nI 54) (e4 : σ 34 0 4 = nI 36) (hX : ∀ j, j < n → ∃ b : Nat, b < 256 ∧ t 1 0 j = nI b ∧ σ 35 0 j = syB b) : yMet l D0 b0 ty ad av lay (d + 9) 0 mX8_town [aR 34, aI (nI n)] σ (fun r σ' => (∀ i, i ≠ 34 → i ≠ 74 → i ≠ 72 → (i < 36 ∨ 54 ≤ i) → σ' i = σ i) ∧ σ' 34 0 1 = nI 0 ∧ σ' 34 0 2 = tZ t n 0 0 6 ∧ (¬ tZ t n 0 0 5 = 0 → r = [aI (tZ t n 0 0 5 - 10)] ∧ σ' 72 = σ 72 ∧ σ' 34 0 3 = nI 54 ∧ σ' 34 0 4 = nI 36 ∧ σ' 34 0 7 = σ 34 0 7) ∧ (tZ t n 0 0 5 = 0 → σ' 34 0 3 = nI 36 ∧ σ' 34 0 4 = nI 54 ∧ σ' 34 0 7 = nI 0 ∧ (∀ x, x < 8 → σ' 72 0 x = -1) ∧ ∃ N P S G Q, TWF σ' (tZ t n) 36 N P S G Q ∧ r = [aI (nI P)])) (fun _ _ => False) := by
  refine yMet_intro lay_nd kX8_town xX8_ok (yYX8_town_ok) (by decide +kernel) rfl ?_
  intro K hK
  obtain ⟨p1, p2, p3, p4⟩ := p0M_at t n
  have q2 : p0M t n 0 0 2 = nI n := by rw [p2]; simp [p0A, sUp]
  have q4 : p0M t n 0 0 4 = nI 0 := by rw [p2]; simp [p0A, sUp]; rfl
  have q5 : p0M t n 0 0 5 = 0 := by rw [p2]; simp [p0A, sUp]
  have q6 : p0M t n 0 0 6 = -1 := by rw [p2]; simp [p0A, sUp]
  have q7 : p0M t n 0 0 7 = nI 0 := by rw [p2]; simp [p0A, sUp]; rfl
  iterate 2 refine hK _ _ _ _ _ ?_
  refine And.intro (fun h9 => absurd h9 (nI_pos (by omega))) (fun _ => ?_)
  iterate 3 refine hK _ _ _ _ _ ?_
  show K _ _ _ _ _
  rw [show σ 34 0 1 = nI T from eT]
  refine hK _ _ _ _ _ ?_
  refine And.intro (fun _ => ?_) (fun h9 => absurd ((nI_leI (by omega) (by omega)).mpr hnT) h9)
  iterate 10 refine hK _ _ _ _ _ ?_
  show K _ _ _ _ _
  rw [sUp_k (by decide), show σ 34 0 4 = nI 36 from e4]
  show K _ _ _ _ _
  rw [show (nI 36).toNatClampNeg = 36 from rfl]
  refine hK _ _ _ _ _ ?_
  refine Or.inr (Or.inl (yD0 (c4_read_36 _ hJ (sUp σ 34 0 1 (Int32.ofInt 0)) (p0M t n) n (by omega) (fun j hj => by rw [p1 1 (by decide) (by decide) (by decide), sUp_off (by decide)]; exact hX j hj) q2 q4 q5 q6 q7 (p3 0 (by decide)) (p3 1 (by decide)) (p3 2 (by decide)) (p3 3 (by decide)) (p3 4 (by decide)) (p3 5 (by decide)) p4) ?_))
  rintro r μ ⟨rfl, hf, hC, hG⟩
  show K 0 43 [some (aR 34), some (aI (nI n)), none] [] μ
  have hZd : txL 61 (bkM (p0M t n)) = tZ t n := rfl
  rw [hZd] at hC hG
  generalize tZ t n = Z at hC hG hK
  have k34 : μ 34 = (sUp σ 34 0 1 (Int32.ofInt 0)) 34 := hf 34 (by decide) (by decide)
  have k1 : μ 34 0 1 = nI 0 := by rw [k34, sUp_at]; rfl
  have k3 : μ 34 0 3 = nI 54 := by rw [k34, sUp_k (by decide)]; exact e3
  have k4 : μ 34 0 4 = nI 36 := by rw [k34, sUp_k (by decide)]; exact e4
  have k7 : μ 34 0 7 = σ 34 0 7 := by rw [k34, sUp_k (by decide)]
  have hf9 : ∀ i, i ≠ 34 → i ≠ 74 → (i < 36 ∨ 54 ≤ i) → μ i = σ i := fun i h1 h2 h3 => by rw [hf i h2 h3, sUp_off h1]
  have c0 : μ 74 0 0 = Z 0 0 5 := hC.2.2.1
  have c1 : μ 74 0 1 = Z 0 0 6 := hC.2.2.2.1
  clear k34
  iterate 4 refine hK _ _ _ _ _ ?_
  show K _ _ _ _ _
  rw [show μ 74 0 1 = Z 0 0 6 from c1]
  iterate 4 refine hK _ _ _ _ _ ?_
  show K _ _ _ _ _
  rw [sUp_off (by decide), show μ 74 0 0 = Z 0 0 5 from c0]
  refine hK _ _ _ _ _ ?_
  refine And.intro (fun h8 => ?_) (fun h8 => ?_)
  · have hz : Z 0 0 5 = 0 := h8
    obtain ⟨hW, N, P, S, G, Q, hV⟩ := hG hz
    obtain ⟨hRM, hgo⟩ := RM_of hW hV
    have hN12 := hV.1.2.1
    have hP10 := hV.1.2.2.1
    iterate 2 refine hK _ _ _ _ _ ?_
    show K _ _ _ _ _
    rw [sUp_k (by decide), show μ 34 0 4 = nI 36 from k4]
    show K _ _ _ _ _
    rw [show (nI 36).toNatClampNeg = 36 from rfl]
    iterate 4 refine hK _ _ _ _ _ ?_
    show K _ _ _ _ _
    rw [sUp_k (by decide), show μ 34 0 3 = nI 54 from k3]
    show K _ _ _ _ _
    rw [show (nI 54).toNatClampNeg = 54 from rfl]
    refine hK _ _ _ _ _ ?_
    refine And.intro (by decide) ?_
    iterate 3 refine hK _ _ _ _ _ ?_
    refine And.intro (by decide) ?_
    iterate 2 refine hK _ _ _ _ _ ?_
    show K _ _ _ _ _
    rw [sUp_at]
    show K _ _ _ _ _
    rw [show (nI 36).toNatClampNeg = 36 from rfl]
    iterate 2 refine hK _ _ _ _ _ ?_
    have hmf : ∀ i, i ≠ 34 → (sUp (sUp (sUp μ 34 0 2 (Z 0 0 6)) 34 0 4 (nI 54)) 34 0 3 (nI 36)) i = μ i := fun i hi => by rw [sUp_off hi, sUp_off hi, sUp_off hi]
    have m1 : (sUp (sUp (sUp μ 34 0 2 (Z 0 0 6)) 34 0 4 (nI 54)) 34 0 3 (nI 36)) 34 0 1 = nI 0 := by rw [sUp_k (by decide), sUp_k (by decide), sUp_k (by decide)]; exact k1
    have m2 : (sUp (sUp (sUp μ 34 0 2 (Z 0 0 6)) 34 0 4 (nI 54)) 34 0 3 (nI 36)) 34 0 2 = Z 0 0 6 := by rw [sUp_k (by decide), sUp_k (by decide), sUp_at]
    have m3 : (sUp (sUp (sUp μ 34 0 2 (Z 0 0 6)) 34 0 4 (nI 54)) 34 0 3 (nI 36)) 34 0 3 = nI 36 := sUp_at _ _ _ _ _
    have m4 : (sUp (sUp (sUp μ 34 0 2 (Z 0 0 6)) 34 0 4 (nI 54)) 34 0 3 (nI 36)) 34 0 4 = nI 54 := by rw [sUp_k (by decide), sUp_at]
    generalize (sUp (sUp (sUp μ 34 0 2 (Z 0 0 6)) 34 0 4 (nI 54)) 34 0 3 (nI 36)) = m at hmf m1 m2 m3 m4 ⊢
    have p0 : m 37 0 0 = nI N := by rw [hmf 37 (by decide)]; exact hW.1.1.trans hV.2.1.1
    have hRm : RM m 38 N (gN Z Q) := fun x y hx hy => by rw [hmf 38 (by decide)]; exact hRM x y hx hy
    refine Or.inr (Or.inl (yD0 (f6_findWays_36 _ m N (gN Z Q) hN12 p0 hRm hgo) ?_))
    rintro r ω ⟨rfl, hfω, hF, hS9⟩
    show K 0 103 [some (aR 34), some (aI (nI n)), some (aR 36)] [] ω
    iterate 4 refine hK _ _ _ _ _ ?_
    refine Or.inl (calD (cJ_fill72 _ _ _) ?_)
    rintro r ν ⟨rfl, eν⟩
    show K 0 111 [some (aR 34), some (aI (nI n)), some (aR 36)] [] ν
    have hfν : ∀ i, i ≠ 72 → ν i = ω i := fun i q => by rw [eν]; unfold flR; rw [sRow_off q]
    have hvν : ∀ x, x < 8 → ν 72 0 x = -1 := fun x q => by rw [eν]; unfold flR; rw [sRow_at, if_pos q]; rfl
    clear eν
    have n3 : ν 34 0 3 = nI 36 := by rw [hfν 34 (by decide), hfω 34 (by decide) (by decide)]; exact m3
    have hWν : TWR ν Z 36 := hW.cg2 (fun i h1 h2 h3 h4 => by rw [hfν i (by omega), hfω i h3 h4, hmf i (by omega)])
    have nP : ν 36 0 1 = nI P := hWν.1.2.2.1.trans hV.2.1.2.1
    iterate 5 refine hK _ _ _ _ _ ?_
    show K _ _ _ _ _
    rw [sUp_k (by decide), show ν 34 0 3 = nI 36 from n3]
    show K _ _ _ _ _
    rw [show (nI 36).toNatClampNeg = 36 from rfl]
    refine hK _ _ _ _ _ ?_
    show K _ _ _ _ _
    rw [sUp_off (by decide), show ν 36 0 1 = nI P from nP]
    refine hK _ _ _ _ _ ?_
    have hx : ∀ i, i ≠ 34 → (sUp ν 34 0 7 (Int32.ofInt 0)) i = ν i := fun i hi => sUp_off hi
    refine ⟨fun i h1 h2 h72 h3 => ?_, ?_, ?_, fun q => absurd hz q, fun _ => ⟨?_, ?_, ?_, fun x h => ?_, N, P, S, G, Q, ⟨hWν.cg2 (fun i h1 h2 _ _ => hx i (by omega)), hV, fun x y hx9 hy9 => ?_, fun x y hx9 hy9 => ?_⟩, rfl⟩⟩
    · rw [hx i h1, hfν i h72, hfω i (by omega) (by omega), hmf i h1]; exact hf9 i h1 h2 h3
    · rw [sUp_k (by decide), hfν 34 (by decide), hfω 34 (by decide) (by decide)]; exact m1
    · rw [sUp_k (by decide), hfν 34 (by decide), hfω 34 (by decide) (by decide)]; exact m2
    · rw [sUp_k (by decide)]; exact n3
    · rw [sUp_k (by decide), hfν 34 (by decide), hfω 34 (by decide) (by decide)]; exact m4
    · rw [sUp_at]; rfl
    · rw [hx 72 (by decide)]; exact hvν x h
    · show (sUp ν 34 0 7 (Int32.ofInt 0)) 39 x y = _ ∧ _
      rw [hx 39 (by decide), hfν 39 (by decide)]; exact hF x y hx9 hy9
    · show (sUp ν 34 0 7 (Int32.ofInt 0)) 40 x y = _
      rw [hx 40 (by decide), hfν 40 (by decide)]; exact hS9 x y hx9 hy9
  · have hz : ¬ Z 0 0 5 = 0 := h8
    iterate 3 refine hK _ _ _ _ _ ?_
    show K _ _ _ _ _
    rw [sUp_off (by decide), show μ 74 0 0 = Z 0 0 5 from c0]
    iterate 3 refine hK _ _ _ _ _ ?_
    refine ⟨fun i h1 h2 _ h3 => by rw [sUp_off h1]; exact hf9 i h1 h2 h3, by rw [sUp_k (by decide)]; exact k1, sUp_at _ _ _ _ _, fun _ => ⟨?_, by rw [sUp_off (by decide)]; exact hf9 72 (by decide) (by decide) (by decide), by rw [sUp_k (by decide)]; exact k3, by rw [sUp_k (by decide)]; exact k4, by rw [sUp_k (by decide)]; exact k7⟩, fun q => absurd q hz⟩
    rfl
end
