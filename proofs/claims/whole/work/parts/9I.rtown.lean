/-! THE REFERENCE: town -/
/-- what town copies of what was read *-/
def TC (Z μ : sMem) (A B P S G E : Nat) : Prop := (∀ i, i ≠ 0 → i ≠ 3 → i ≠ 6 → i ≠ 8 → i ≠ 10 → i ≠ 12 → i ≠ 16 → μ i = Z i) ∧ (∀ k, k ≠ 3 → k ≠ 25 → μ 0 0 k = Z 0 0 k) ∧ μ 0 0 3 = Z 0 0 6 ∧ (∀ k, k < A → μ 3 0 k = Z 2 0 k) ∧ (∀ k, k < B → μ 12 0 k = Z 11 0 k) ∧ (∀ p k, p < P → k < 5 → μ 6 p k = Z 5 p k) ∧ (∀ p k, p < S → k < 5 → μ 8 p k = Z 7 p k) ∧ (∀ p k, p < G → k < 2 → μ 10 p k = Z 9 p k) ∧ ∀ x, x < E → μ 16 0 x = -1
theorem TC0 (Z : sMem) : TC Z (sUp Z 0 0 3 (Z 0 0 6)) 0 0 0 0 0 0 := ⟨fun i h0 _ _ _ _ _ _ => sUp_off h0, fun k h3 _ => sUp_k h3, sUp_at _ _ _ _ _, fun k h => absurd h (Nat.not_lt_zero _), fun k h => absurd h (Nat.not_lt_zero _), fun p k h => absurd h (Nat.not_lt_zero _), fun p k h => absurd h (Nat.not_lt_zero _), fun p k h => absurd h (Nat.not_lt_zero _), fun k h => absurd h (Nat.not_lt_zero _)⟩
section
variable {Z μ : sMem} {A B P S G E : Nat}
theorem TC.off (h : TC Z μ A B P S G E) {μ' : sMem} (x : Nat) (hx : x = 3 ∨ x = 6 ∨ x = 8 ∨ x = 10 ∨ x = 12 ∨ x = 16) (hm : ∀ i, i ≠ x → μ' i = μ i) : (∀ i, i ≠ 0 → i ≠ 3 → i ≠ 6 → i ≠ 8 → i ≠ 10 → i ≠ 12 → i ≠ 16 → μ' i = Z i) ∧ (∀ k, k ≠ 3 → k ≠ 25 → μ' 0 0 k = Z 0 0 k) ∧ μ' 0 0 3 = Z 0 0 6 := ⟨fun i h0 h3 h6 h8 h10 h12 h16 => by rw [hm i (by omega)]; exact h.1 i h0 h3 h6 h8 h10 h12 h16, fun k h3 h25 => by rw [hm 0 (by omega)]; exact h.2.1 k h3 h25, by rw [hm 0 (by omega)]; exact h.2.2.1⟩
theorem TC.a (h : TC Z μ A B P S G E) : TC Z (sUp μ 3 0 A (Z 2 0 A)) (A + 1) B P S G E := by
  obtain ⟨q1, q2, q3⟩ := h.off 3 (by decide) (fun i hi => sUp_off (v := Z 2 0 A) (j := 0) (k := A) hi)
  refine ⟨q1, q2, q3, fun k hk => ?_, ?_⟩
  · by_cases e : k = A
    · subst e; exact sUp_at _ _ _ _ _
    · rw [sUp_k e]; exact h.2.2.2.1 k (by omega)
  · rw [sUp_off (by decide), sUp_off (by decide), sUp_off (by decide), sUp_off (by decide), sUp_off (by decide)]
    exact h.2.2.2.2
theorem TC.b (h : TC Z μ A B P S G E) : TC Z (sUp μ 12 0 B (Z 11 0 B)) A (B + 1) P S G E := by
  obtain ⟨q1, q2, q3⟩ := h.off 12 (by decide) (fun i hi => sUp_off (v := Z 11 0 B) (j := 0) (k := B) hi)
  refine ⟨q1, q2, q3, ?_, fun k hk => ?_, ?_⟩
  · rw [sUp_off (by decide)]; exact h.2.2.2.1
  · by_cases e : k = B
    · subst e; exact sUp_at _ _ _ _ _
    · rw [sUp_k e]; exact h.2.2.2.2.1 k (by omega)
  · rw [sUp_off (by decide), sUp_off (by decide), sUp_off (by decide), sUp_off (by decide)]
    exact h.2.2.2.2.2
theorem TC.e (h : TC Z μ A B P S G E) : TC Z (sUp μ 16 0 E (-1)) A B P S G (E + 1) := by
  obtain ⟨q1, q2, q3⟩ := h.off 16 (by decide) (fun i hi => sUp_off (v := (-1)) (j := 0) (k := E) hi)
  refine ⟨q1, q2, q3, ?_, ?_, ?_, ?_, ?_, fun k hk => ?_⟩
  · rw [sUp_off (by decide)]; exact h.2.2.2.1
  · rw [sUp_off (by decide)]; exact h.2.2.2.2.1
  · rw [sUp_off (by decide)]; exact h.2.2.2.2.2.1
  · rw [sUp_off (by decide)]; exact h.2.2.2.2.2.2.1
  · rw [sUp_off (by decide)]; exact h.2.2.2.2.2.2.2.1
  · by_cases e : k = E
    · subst e; exact sUp_at _ _ _ _ _
    · rw [sUp_k e]; exact h.2.2.2.2.2.2.2.2 k (by omega)
theorem TC.p (h : TC Z μ A B P S G E) : TC Z (sUp (sUp (sUp (sUp (sUp μ 6 P 0 (Z 5 P 0)) 6 P 1 (Z 5 P 1)) 6 P 2 (Z 5 P 2)) 6 P 3 (Z 5 P 3)) 6 P 4 (Z 5 P 4)) A B (P + 1) S G E := by
  have hm : ∀ i, i ≠ 6 → (sUp (sUp (sUp (sUp (sUp μ 6 P 0 (Z 5 P 0)) 6 P 1 (Z 5 P 1)) 6 P 2 (Z 5 P 2)) 6 P 3 (Z 5 P 3)) 6 P 4 (Z 5 P 4)) i = μ i := fun i hi => by rw [sUp_off hi, sUp_off hi, sUp_off hi, sUp_off hi, sUp_off hi]
  have hr : ∀ p k, p ≠ P → (sUp (sUp (sUp (sUp (sUp μ 6 P 0 (Z 5 P 0)) 6 P 1 (Z 5 P 1)) 6 P 2 (Z 5 P 2)) 6 P 3 (Z 5 P 3)) 6 P 4 (Z 5 P 4)) 6 p k = μ 6 p k := fun p k hp => by rw [sUp_rowne hp, sUp_rowne hp, sUp_rowne hp, sUp_rowne hp, sUp_rowne hp]
  have hv : ∀ k, k < 5 → (sUp (sUp (sUp (sUp (sUp μ 6 P 0 (Z 5 P 0)) 6 P 1 (Z 5 P 1)) 6 P 2 (Z 5 P 2)) 6 P 3 (Z 5 P 3)) 6 P 4 (Z 5 P 4)) 6 P k = Z 5 P k := fun k hk => by
    rcases (show k = 0 ∨ k = 1 ∨ k = 2 ∨ k = 3 ∨ k = 4 by omega) with rfl | rfl | rfl | rfl | rfl <;> simp [sUp]
  generalize (sUp (sUp (sUp (sUp (sUp μ 6 P 0 (Z 5 P 0)) 6 P 1 (Z 5 P 1)) 6 P 2 (Z 5 P 2)) 6 P 3 (Z 5 P 3)) 6 P 4 (Z 5 P 4)) = m at hm hr hv ⊢
  obtain ⟨q1, q2, q3⟩ := h.off 6 (by decide) hm
  refine ⟨q1, q2, q3, ?_, ?_, fun p k hp hk => ?_, ?_, ?_, ?_⟩
  · rw [hm 3 (by decide)]; exact h.2.2.2.1
  · rw [hm 12 (by decide)]; exact h.2.2.2.2.1
  · by_cases e : p = P
    · subst e; exact hv k hk
    · rw [hr p k e]; exact h.2.2.2.2.2.1 p k (by omega) hk
  · rw [hm 8 (by decide)]; exact h.2.2.2.2.2.2.1
  · rw [hm 10 (by decide)]; exact h.2.2.2.2.2.2.2.1
  · rw [hm 16 (by decide)]; exact h.2.2.2.2.2.2.2.2
theorem TC.s (h : TC Z μ A B P S G E) : TC Z (sUp (sUp (sUp (sUp (sUp μ 8 S 0 (Z 7 S 0)) 8 S 1 (Z 7 S 1)) 8 S 2 (Z 7 S 2)) 8 S 3 (Z 7 S 3)) 8 S 4 (Z 7 S 4)) A B P (S + 1) G E := by
  have hm : ∀ i, i ≠ 8 → (sUp (sUp (sUp (sUp (sUp μ 8 S 0 (Z 7 S 0)) 8 S 1 (Z 7 S 1)) 8 S 2 (Z 7 S 2)) 8 S 3 (Z 7 S 3)) 8 S 4 (Z 7 S 4)) i = μ i := fun i hi => by rw [sUp_off hi, sUp_off hi, sUp_off hi, sUp_off hi, sUp_off hi]
  have hr : ∀ p k, p ≠ S → (sUp (sUp (sUp (sUp (sUp μ 8 S 0 (Z 7 S 0)) 8 S 1 (Z 7 S 1)) 8 S 2 (Z 7 S 2)) 8 S 3 (Z 7 S 3)) 8 S 4 (Z 7 S 4)) 8 p k = μ 8 p k := fun p k hp => by rw [sUp_rowne hp, sUp_rowne hp, sUp_rowne hp, sUp_rowne hp, sUp_rowne hp]
  have hv : ∀ k, k < 5 → (sUp (sUp (sUp (sUp (sUp μ 8 S 0 (Z 7 S 0)) 8 S 1 (Z 7 S 1)) 8 S 2 (Z 7 S 2)) 8 S 3 (Z 7 S 3)) 8 S 4 (Z 7 S 4)) 8 S k = Z 7 S k := fun k hk => by
    rcases (show k = 0 ∨ k = 1 ∨ k = 2 ∨ k = 3 ∨ k = 4 by omega) with rfl | rfl | rfl | rfl | rfl <;> simp [sUp]
  generalize (sUp (sUp (sUp (sUp (sUp μ 8 S 0 (Z 7 S 0)) 8 S 1 (Z 7 S 1)) 8 S 2 (Z 7 S 2)) 8 S 3 (Z 7 S 3)) 8 S 4 (Z 7 S 4)) = m at hm hr hv ⊢
  obtain ⟨q1, q2, q3⟩ := h.off 8 (by decide) hm
  refine ⟨q1, q2, q3, ?_, ?_, ?_, fun p k hp hk => ?_, ?_, ?_⟩
  · rw [hm 3 (by decide)]; exact h.2.2.2.1
  · rw [hm 12 (by decide)]; exact h.2.2.2.2.1
  · rw [hm 6 (by decide)]; exact h.2.2.2.2.2.1
  · by_cases e : p = S
    · subst e; exact hv k hk
    · rw [hr p k e]; exact h.2.2.2.2.2.2.1 p k (by omega) hk
  · rw [hm 10 (by decide)]; exact h.2.2.2.2.2.2.2.1
  · rw [hm 16 (by decide)]; exact h.2.2.2.2.2.2.2.2
theorem TC.g (h : TC Z μ A B P S G E) : TC Z (sUp (sUp μ 10 G 0 (Z 9 G 0)) 10 G 1 (Z 9 G 1)) A B P S (G + 1) E := by
  have hm : ∀ i, i ≠ 10 → (sUp (sUp μ 10 G 0 (Z 9 G 0)) 10 G 1 (Z 9 G 1)) i = μ i := fun i hi => by rw [sUp_off hi, sUp_off hi]
  have hr : ∀ p k, p ≠ G → (sUp (sUp μ 10 G 0 (Z 9 G 0)) 10 G 1 (Z 9 G 1)) 10 p k = μ 10 p k := fun p k hp => by rw [sUp_rowne hp, sUp_rowne hp]
  have hv : ∀ k, k < 2 → (sUp (sUp μ 10 G 0 (Z 9 G 0)) 10 G 1 (Z 9 G 1)) 10 G k = Z 9 G k := fun k hk => by
    rcases (show k = 0 ∨ k = 1 by omega) with rfl | rfl <;> simp [sUp]
  generalize (sUp (sUp μ 10 G 0 (Z 9 G 0)) 10 G 1 (Z 9 G 1)) = m at hm hr hv ⊢
  obtain ⟨q1, q2, q3⟩ := h.off 10 (by decide) hm
  refine ⟨q1, q2, q3, ?_, ?_, ?_, ?_, fun p k hp hk => ?_, ?_⟩
  · rw [hm 3 (by decide)]; exact h.2.2.2.1
  · rw [hm 12 (by decide)]; exact h.2.2.2.2.1
  · rw [hm 6 (by decide)]; exact h.2.2.2.2.2.1
  · rw [hm 8 (by decide)]; exact h.2.2.2.2.2.2.1
  · by_cases e : p = G
    · subst e; exact hv k hk
    · rw [hr p k e]; exact h.2.2.2.2.2.2.2.1 p k (by omega) hk
  · rw [hm 16 (by decide)]; exact h.2.2.2.2.2.2.2.2
end
section
variable {l : Launch} {D : va_G} {b0 : Nat} {ty : Nat → ClassId}
theorem c9_blanksM (d : Nat) (σ : sMem) (h : RI σ) : sMet l D b0 ty lay (d + 1) mX9_blanks [aR 0] σ (fun r σ' => r = [] ∧ σ' = bkM σ) := by
  obtain ⟨h1, h2, h3, h4⟩ := h.at
  have e := pS_of σ (atN σ) h3
  have hc := c9_blanks (l := l) (D := D) (b0 := b0) (ty := ty) d σ (szN σ) (atN σ) (σ 0 0 5) (σ 0 0 6) h1 h2 h4
  rw [← e] at hc
  exact hc
theorem c9_town_x (d : Nat) (σ : sMem) (T : Nat) (eT : σ 0 0 1 = nI T) (x : Int32) (h0 : ¬ (0 ≤ x ∧ x ≤ nI T)) : sMet l D b0 ty lay (d + 1) mX9_town [aR 0, aI (x)] σ (fun r σ' => r = [aI 0] ∧ σ' = sUp σ 0 0 0 1) := by
  refine sMet_intro lay_nd kX9_town xX9_ok (by decide +kernel) rfl ?_
  intro K hK
  iterate 3 refine hK _ _ _ _ ?_
  show K _ _ _ (sUp σ 0 0 0 0)
  have z0 : sUp σ 0 0 0 0 0 0 0 = 0 := sUp_at _ _ _ _ _
  have z1 : sUp σ 0 0 0 0 0 0 1 = nI T := (sUp_k (by decide)).trans eT
  generalize hz : sUp σ 0 0 0 0 = z at z0 z1 ⊢
  iterate 5 refine hK _ _ _ _ ?_
  show K _ _ _ _
  rw [show z 0 0 1 = nI T from z1]
  refine hK _ _ _ _ ?_
  refine calD (c9_in _ _ _ _ _) ?_
  rintro r σ' ⟨rfl, hσ⟩
  subst σ'
  show K 15 [some (aR 0), some (aI (x)), none, none] [aI (if (0 ≤ x ∧ x ≤ nI T) then 1 else 0), aR 0] z
  rw [if_neg h0]
  refine hK _ _ _ _ ?_
  refine And.intro (fun h => absurd rfl h) (fun _ => ?_)
  iterate 4 refine hK _ _ _ _ ?_
  refine calD (c9_bad1 _ _ _ z0 (by decide)) ?_
  rintro r σ' ⟨rfl, rfl⟩
  show K 27 [some (aR 0), some (aI (x)), none, none] [aI (1)] (sUp z 0 0 0 1)
  refine hK _ _ _ _ ?_
  refine And.intro (fun h => absurd h (by decide)) (fun _ => ?_)
  iterate 2 refine hK _ _ _ _ ?_
  exact ⟨rfl, by rw [← hz, sUp_twice]⟩
set_option maxHeartbeats 1000000 in
theorem c9_town_ok (d : Nat) (σ : sMem) (T n N P S G Q : Nat) (hT6 : T ≤ 600) (eT : σ 0 0 1 = nI T) (hnT : n ≤ T) (hV : tZ σ n 0 0 5 = 0 → RVN (tZ σ n) N P S G Q) : sMet l D b0 ty lay (d + 6) mX9_town [aR 0, aI (nI n)] σ (fun r σ' => (¬ tZ σ n 0 0 5 = 0 → r = [aI (tZ σ n 0 0 5 - 10)] ∧ σ' = sUp (tZ σ n) 0 0 3 (tZ σ n 0 0 6)) ∧ (tZ σ n 0 0 5 = 0 → r = [aI (nI P)] ∧ ∃ Y, σ' = lfM N Q Y ∧ TC (tZ σ n) Y 6 12 P S G 8 ∧ Y 0 0 25 = 0)) := by
  refine sMet_intro lay_nd kX9_town xX9_ok (by decide +kernel) rfl ?_
  intro K hK
  have hn6 : n ≤ 600 := by omega
  obtain ⟨zR, zT, -⟩ := tZ_K σ hn6
  have hZd : txL 61 (bkM (p0M σ n)) = tZ σ n := rfl
  generalize tZ σ n = Z at hK hV zR zT hZd
  have L145 : ∀ (e2 e3 : Option AV), K 145 [some (aR 0), some (aI (nI n)), e2, e3] [] Z := by
    intro e2 e3
    iterate 3 refine hK _ _ _ _ ?_
    iterate 3 refine hK _ _ _ _ ?_
    show K _ _ _ _
    rw [sUp_k (by decide)]
    refine hK _ _ _ _ ?_
    refine And.intro (fun h8 => ?_) (fun h8 => ?_)
    · have hz5 : Z 0 0 5 = 0 := h8
      have hv := hV hz5
      have hb := hv.1
      have hTC0 := TC0 Z
      iterate 2 refine hK _ _ _ _ ?_
      have L170 : ∀ (f : Nat) (k : Nat) (μ : sMem), k + f = 6 → TC Z μ k 0 0 0 0 0 → K 170 [some (aR 0), some (aI (nI n)), some (aI (nI k)), e3] [] μ := by
        intro f
        induction f with
        | zero =>
          intro k μ hk9 hC
          have ek : k = 6 := by omega
          subst ek
          iterate 3 refine hK _ _ _ _ ?_
          refine And.intro (fun _ => ?_) (fun h9 => absurd (by decide) h9)
          iterate 2 refine hK _ _ _ _ ?_
          have hC6 := hC
          clear hC
          have L196 : ∀ (f : Nat) (k : Nat) (μ : sMem), k + f = 12 → TC Z μ 6 k 0 0 0 0 → K 196 [some (aR 0), some (aI (nI n)), some (aI (nI k)), e3] [] μ := by
            intro f
            induction f with
            | zero =>
              intro k μ hk9 hC
              have ek : k = 12 := by omega
              subst ek
              iterate 3 refine hK _ _ _ _ ?_
              refine And.intro (fun _ => ?_) (fun h9 => absurd (by decide) h9)
              iterate 2 refine hK _ _ _ _ ?_
              have hB0 := hC
              clear hC
              have L222 : ∀ (f : Nat) (k : Nat) (μ : sMem) (e3 : Option AV), k + f = P → TC Z μ 6 12 k 0 0 0 → K 222 [some (aR 0), some (aI (nI n)), some (aI (nI k)), e3] [] μ := by
                intro f
                induction f with
                | zero =>
                  intro k μ e3 hk9 hC
                  have ek : k = P := by omega
                  have e31 : μ 3 0 1 = nI P := (hC.2.2.2.1 1 (by decide)).trans hv.2.1.2.1
                  iterate 5 refine hK _ _ _ _ ?_
                  refine And.intro (vp_in_nI (n := 1) (by decide) (by decide)) ?_
                  rw [show (Int32.ofInt 1).toNatClampNeg = 1 from rfl]
                  rw [show μ 3 0 1 = nI P from e31]
                  refine hK _ _ _ _ ?_
                  refine And.intro (fun _ => ?_) (fun h9 => absurd ((nI_leI (by omega) (by omega)).mpr (by omega)) h9)
                  rw [ek] at hC
                  iterate 2 refine hK _ _ _ _ ?_
                  have hB1 := hC
                  clear hC
                  have L269 : ∀ (f : Nat) (k : Nat) (μ : sMem) (e3 : Option AV), k + f = S → TC Z μ 6 12 P k 0 0 → K 269 [some (aR 0), some (aI (nI n)), some (aI (nI k)), e3] [] μ := by
                    intro f
                    induction f with
                    | zero =>
                      intro k μ e3 hk9 hC
                      have ek : k = S := by omega
                      have e31 : μ 3 0 2 = nI S := (hC.2.2.2.1 2 (by decide)).trans hv.2.1.2.2.1
                      iterate 5 refine hK _ _ _ _ ?_
                      refine And.intro (vp_in_nI (n := 2) (by decide) (by decide)) ?_
                      rw [show (Int32.ofInt 2).toNatClampNeg = 2 from rfl]
                      rw [show μ 3 0 2 = nI S from e31]
                      refine hK _ _ _ _ ?_
                      refine And.intro (fun _ => ?_) (fun h9 => absurd ((nI_leI (by omega) (by omega)).mpr (by omega)) h9)
                      rw [ek] at hC
                      iterate 2 refine hK _ _ _ _ ?_
                      have hB2 := hC
                      clear hC
                      have L316 : ∀ (f : Nat) (k : Nat) (μ : sMem) (e3 : Option AV), k + f = G → TC Z μ 6 12 P S k 0 → K 316 [some (aR 0), some (aI (nI n)), some (aI (nI k)), e3] [] μ := by
                        intro f
                        induction f with
                        | zero =>
                          intro k μ e3 hk9 hC
                          have ek : k = G := by omega
                          have e31 : μ 3 0 3 = nI G := (hC.2.2.2.1 3 (by decide)).trans hv.2.1.2.2.2.1
                          iterate 5 refine hK _ _ _ _ ?_
                          refine And.intro (vp_in_nI (n := 3) (by decide) (by decide)) ?_
                          rw [show (Int32.ofInt 3).toNatClampNeg = 3 from rfl]
                          rw [show μ 3 0 3 = nI G from e31]
                          refine hK _ _ _ _ ?_
                          refine And.intro (fun _ => ?_) (fun h9 => absurd ((nI_leI (by omega) (by omega)).mpr (by omega)) h9)
                          rw [ek] at hC
                          iterate 2 refine hK _ _ _ _ ?_
                          have hB3 := hC
                          clear hC
                          have L363 : ∀ (f : Nat) (k : Nat) (μ : sMem) (e3 : Option AV), k + f = 8 → TC Z μ 6 12 P S G k → K 363 [some (aR 0), some (aI (nI n)), some (aI (nI k)), e3] [] μ := by
                            intro f
                            induction f with
                            | zero =>
                              intro k μ e3 hk9 hC
                              have ek : k = 8 := by omega
                              subst ek
                              iterate 3 refine hK _ _ _ _ ?_
                              refine And.intro (fun _ => ?_) (fun h9 => absurd (by decide) h9)
                              iterate 5 refine hK _ _ _ _ ?_
                              have g3 : ∀ k, k < 6 → (sUp μ 0 0 25 (Int32.ofInt 0)) 3 0 k = Z 2 0 k := fun k hk => by rw [sUp_off (by decide)]; exact hC.2.2.2.1 k hk
                              have g4 : (sUp μ 0 0 25 (Int32.ofInt 0)) 4 = Z 4 := by rw [sUp_off (by decide)]; exact hC.1 4 (by decide) (by decide) (by decide) (by decide) (by decide) (by decide) (by decide)
                              have gC : TC Z (sUp μ 0 0 25 (Int32.ofInt 0)) 6 12 P S G 8 := by
                                refine ⟨fun i h0 h3 h6 h8 h10 h12 h16 => by rw [sUp_off h0]; exact hC.1 i h0 h3 h6 h8 h10 h12 h16, fun k h3 h25 => by rw [sUp_k h25]; exact hC.2.1 k h3 h25, by rw [sUp_k (by decide)]; exact hC.2.2.1, ?_⟩
                                rw [sUp_off (by decide), sUp_off (by decide), sUp_off (by decide), sUp_off (by decide), sUp_off (by decide), sUp_off (by decide)]
                                exact hC.2.2.2
                              have g25 : (sUp μ 0 0 25 (Int32.ofInt 0)) 0 0 25 = 0 := sUp_at _ _ _ _ _
                              generalize sUp μ 0 0 25 (Int32.ofInt 0) = Y at g3 g4 gC g25 ⊢
                              refine calD (c9_layFar _ Y N Q (by omega) hb.2.1 hb.2.2.2.2.2 ((g3 0 (by decide)).trans hv.2.1.1) ((g3 5 (by decide)).trans hv.2.1.2.2.2.2.1) (fun k hk => by rw [g4]; obtain ⟨a, b, m, ⟨x1, x2⟩, ⟨x3, x4⟩, -⟩ := hv.2.2.2.2.2.1 k hk; exact ⟨a, b, x1, x2, x3, x4⟩)) ?_
                              rintro r σ' ⟨rfl, rfl⟩
                              show K 391 [some (aR 0), some (aI (nI n)), some (aI (nI 8)), e3] [] (lfM N Q Y)
                              have l3 : lfM N Q Y 3 0 1 = nI P := by rw [(lf_at hb.2.1 (fun k hk => by rw [g4]; exact hv.2.2.2.2.2.1 k hk)).1 3 (by decide) (by decide) (by decide)]; exact (g3 1 (by decide)).trans hv.2.1.2.1
                              generalize hY9 : lfM N Q Y = Y9 at l3 ⊢
                              iterate 4 refine hK _ _ _ _ ?_
                              refine And.intro (vp_in_nI (n := 1) (by decide) (by decide)) ?_
                              rw [show (Int32.ofInt 1).toNatClampNeg = 1 from rfl]
                              rw [show Y9 3 0 1 = nI P from l3]
                              refine hK _ _ _ _ ?_
                              exact ⟨fun q => absurd hz5 q, fun _ => ⟨rfl, Y, hY9.symm, gC, g25⟩⟩
                            | succ f ih =>
                              intro k μ e3 hk9 hC
                              have hk : k < 8 := by omega
                              iterate 3 refine hK _ _ _ _ ?_
                              refine And.intro (fun h9 => absurd ((nI_leI (a := 8) (by omega) (by omega)).mp h9) (by omega)) (fun _ => ?_)
                              iterate 5 refine hK _ _ _ _ ?_
                              refine And.intro (vp_in_nI (n := k) (by omega) (by decide)) ?_
                              rw [nI_clamp (show k < 2 ^ 31 by omega)]
                              refine hK _ _ _ _ ?_
                              show K _ _ _ _
                              rw [show nI k + Int32.ofInt 1 = nI (k + 1) from nIs _]
                              refine hK _ _ _ _ ?_
                              exact ih (k + 1) _ _ (by omega) hC.e
                          exact L363 8 0 _ _ (by omega) hB3
                        | succ f ih =>
                          intro k μ e3 hk9 hC
                          have hk : k < G := by omega
                          have e31 : μ 3 0 3 = nI G := (hC.2.2.2.1 3 (by decide)).trans hv.2.1.2.2.2.1
                          iterate 5 refine hK _ _ _ _ ?_
                          refine And.intro (vp_in_nI (n := 3) (by decide) (by decide)) ?_
                          rw [show (Int32.ofInt 3).toNatClampNeg = 3 from rfl]
                          rw [show μ 3 0 3 = nI G from e31]
                          refine hK _ _ _ _ ?_
                          refine And.intro (fun h9 => absurd ((nI_leI (a := G) (by omega) (by omega)).mp h9) (by omega)) (fun _ => ?_)
                          have e50 : μ 9 k 0 = Z 9 k 0 := by rw [hC.1 9 (by decide) (by decide) (by decide) (by decide) (by decide) (by decide) (by decide)]
                          have e51 : μ 9 k 1 = Z 9 k 1 := by rw [hC.1 9 (by decide) (by decide) (by decide) (by decide) (by decide) (by decide) (by decide)]
                          iterate 2 refine hK _ _ _ _ ?_
                          show K 328 [some (aR 0), some (aI (nI n)), some (aI (nI k)), some (aI (nI 0))] [] μ
                          iterate 3 refine hK _ _ _ _ ?_
                          refine And.intro (fun h9 => absurd h9 (by decide)) (fun _ => ?_)
                          iterate 4 refine hK _ _ _ _ ?_
                          refine And.intro (vp_in_nI (n := k) (by omega) (by decide)) ?_
                          rw [nI_clamp (show k < 2 ^ 31 by omega)]
                          iterate 5 refine hK _ _ _ _ ?_
                          refine And.intro (vp_in_nI (n := k) (by omega) (by decide)) ?_
                          rw [nI_clamp (show k < 2 ^ 31 by omega)]
                          iterate 2 refine hK _ _ _ _ ?_
                          refine And.intro (by first | omega | (rw [nI_clamp (by omega)]; omega)) (And.intro (vp_in_nI (n := 0) (by omega) (by decide)) ?_)
                          rw [nI_clamp (show 0 < 2 ^ 31 by omega)]
                          rw [show μ 9 k 0 = Z 9 k 0 from e50]
                          refine hK _ _ _ _ ?_
                          refine And.intro (by first | omega | (rw [nI_clamp (by omega)]; omega)) (And.intro (vp_in_nI (n := 0) (by omega) (by decide)) ?_)
                          rw [nI_clamp (show 0 < 2 ^ 31 by omega)]
                          refine hK _ _ _ _ ?_
                          show K _ _ _ _
                          rw [show nI 0 + Int32.ofInt 1 = nI (0 + 1) from nIs _]
                          refine hK _ _ _ _ ?_
                          show K 328 [some (aR 0), some (aI (nI n)), some (aI (nI k)), some (aI (nI 1))] [] (sUp μ 10 k 0 (Z 9 k 0))
                          iterate 3 refine hK _ _ _ _ ?_
                          refine And.intro (fun h9 => absurd h9 (by decide)) (fun _ => ?_)
                          iterate 4 refine hK _ _ _ _ ?_
                          refine And.intro (vp_in_nI (n := k) (by omega) (by decide)) ?_
                          rw [nI_clamp (show k < 2 ^ 31 by omega)]
                          iterate 5 refine hK _ _ _ _ ?_
                          refine And.intro (vp_in_nI (n := k) (by omega) (by decide)) ?_
                          rw [nI_clamp (show k < 2 ^ 31 by omega)]
                          iterate 2 refine hK _ _ _ _ ?_
                          refine And.intro (by first | omega | (rw [nI_clamp (by omega)]; omega)) (And.intro (vp_in_nI (n := 1) (by omega) (by decide)) ?_)
                          rw [nI_clamp (show 1 < 2 ^ 31 by omega)]
                          rw [sUp_off (by decide), show μ 9 k 1 = Z 9 k 1 from e51]
                          refine hK _ _ _ _ ?_
                          refine And.intro (by first | omega | (rw [nI_clamp (by omega)]; omega)) (And.intro (vp_in_nI (n := 1) (by omega) (by decide)) ?_)
                          rw [nI_clamp (show 1 < 2 ^ 31 by omega)]
                          refine hK _ _ _ _ ?_
                          show K _ _ _ _
                          rw [show nI 1 + Int32.ofInt 1 = nI (1 + 1) from nIs _]
                          refine hK _ _ _ _ ?_
                          show K 328 [some (aR 0), some (aI (nI n)), some (aI (nI k)), some (aI (nI 2))] [] (sUp (sUp μ 10 k 0 (Z 9 k 0)) 10 k 1 (Z 9 k 1))
                          iterate 3 refine hK _ _ _ _ ?_
                          refine And.intro (fun _ => ?_) (fun h9 => absurd (by decide) h9)
                          refine hK _ _ _ _ ?_
                          show K _ _ _ _
                          rw [show nI k + Int32.ofInt 1 = nI (k + 1) from nIs _]
                          refine hK _ _ _ _ ?_
                          exact ih (k + 1) _ _ (by omega) hC.g
                      exact L316 G 0 _ _ (by omega) hB2
                    | succ f ih =>
                      intro k μ e3 hk9 hC
                      have hk : k < S := by omega
                      have e31 : μ 3 0 2 = nI S := (hC.2.2.2.1 2 (by decide)).trans hv.2.1.2.2.1
                      iterate 5 refine hK _ _ _ _ ?_
                      refine And.intro (vp_in_nI (n := 2) (by decide) (by decide)) ?_
                      rw [show (Int32.ofInt 2).toNatClampNeg = 2 from rfl]
                      rw [show μ 3 0 2 = nI S from e31]
                      refine hK _ _ _ _ ?_
                      refine And.intro (fun h9 => absurd ((nI_leI (a := S) (by omega) (by omega)).mp h9) (by omega)) (fun _ => ?_)
                      have e50 : μ 7 k 0 = Z 7 k 0 := by rw [hC.1 7 (by decide) (by decide) (by decide) (by decide) (by decide) (by decide) (by decide)]
                      have e51 : μ 7 k 1 = Z 7 k 1 := by rw [hC.1 7 (by decide) (by decide) (by decide) (by decide) (by decide) (by decide) (by decide)]
                      have e52 : μ 7 k 2 = Z 7 k 2 := by rw [hC.1 7 (by decide) (by decide) (by decide) (by decide) (by decide) (by decide) (by decide)]
                      have e53 : μ 7 k 3 = Z 7 k 3 := by rw [hC.1 7 (by decide) (by decide) (by decide) (by decide) (by decide) (by decide) (by decide)]
                      have e54 : μ 7 k 4 = Z 7 k 4 := by rw [hC.1 7 (by decide) (by decide) (by decide) (by decide) (by decide) (by decide) (by decide)]
                      iterate 2 refine hK _ _ _ _ ?_
                      show K 281 [some (aR 0), some (aI (nI n)), some (aI (nI k)), some (aI (nI 0))] [] μ
                      iterate 3 refine hK _ _ _ _ ?_
                      refine And.intro (fun h9 => absurd h9 (by decide)) (fun _ => ?_)
                      iterate 4 refine hK _ _ _ _ ?_
                      refine And.intro (vp_in_nI (n := k) (by omega) (by decide)) ?_
                      rw [nI_clamp (show k < 2 ^ 31 by omega)]
                      iterate 5 refine hK _ _ _ _ ?_
                      refine And.intro (vp_in_nI (n := k) (by omega) (by decide)) ?_
                      rw [nI_clamp (show k < 2 ^ 31 by omega)]
                      iterate 2 refine hK _ _ _ _ ?_
                      refine And.intro (by first | omega | (rw [nI_clamp (by omega)]; omega)) (And.intro (vp_in_nI (n := 0) (by omega) (by decide)) ?_)
                      rw [nI_clamp (show 0 < 2 ^ 31 by omega)]
                      rw [show μ 7 k 0 = Z 7 k 0 from e50]
                      refine hK _ _ _ _ ?_
                      refine And.intro (by first | omega | (rw [nI_clamp (by omega)]; omega)) (And.intro (vp_in_nI (n := 0) (by omega) (by decide)) ?_)
                      rw [nI_clamp (show 0 < 2 ^ 31 by omega)]
                      refine hK _ _ _ _ ?_
                      show K _ _ _ _
                      rw [show nI 0 + Int32.ofInt 1 = nI (0 + 1) from nIs _]
                      refine hK _ _ _ _ ?_
                      show K 281 [some (aR 0), some (aI (nI n)), some (aI (nI k)), some (aI (nI 1))] [] (sUp μ 8 k 0 (Z 7 k 0))
                      iterate 3 refine hK _ _ _ _ ?_
                      refine And.intro (fun h9 => absurd h9 (by decide)) (fun _ => ?_)
                      iterate 4 refine hK _ _ _ _ ?_
                      refine And.intro (vp_in_nI (n := k) (by omega) (by decide)) ?_
                      rw [nI_clamp (show k < 2 ^ 31 by omega)]
                      iterate 5 refine hK _ _ _ _ ?_
                      refine And.intro (vp_in_nI (n := k) (by omega) (by decide)) ?_
                      rw [nI_clamp (show k < 2 ^ 31 by omega)]
                      iterate 2 refine hK _ _ _ _ ?_
                      refine And.intro (by first | omega | (rw [nI_clamp (by omega)]; omega)) (And.intro (vp_in_nI (n := 1) (by omega) (by decide)) ?_)
                      rw [nI_clamp (show 1 < 2 ^ 31 by omega)]
                      rw [sUp_off (by decide), show μ 7 k 1 = Z 7 k 1 from e51]
                      refine hK _ _ _ _ ?_
                      refine And.intro (by first | omega | (rw [nI_clamp (by omega)]; omega)) (And.intro (vp_in_nI (n := 1) (by omega) (by decide)) ?_)
                      rw [nI_clamp (show 1 < 2 ^ 31 by omega)]
                      refine hK _ _ _ _ ?_
                      show K _ _ _ _
                      rw [show nI 1 + Int32.ofInt 1 = nI (1 + 1) from nIs _]
                      refine hK _ _ _ _ ?_
                      show K 281 [some (aR 0), some (aI (nI n)), some (aI (nI k)), some (aI (nI 2))] [] (sUp (sUp μ 8 k 0 (Z 7 k 0)) 8 k 1 (Z 7 k 1))
                      iterate 3 refine hK _ _ _ _ ?_
                      refine And.intro (fun h9 => absurd h9 (by decide)) (fun _ => ?_)
                      iterate 4 refine hK _ _ _ _ ?_
                      refine And.intro (vp_in_nI (n := k) (by omega) (by decide)) ?_
                      rw [nI_clamp (show k < 2 ^ 31 by omega)]
                      iterate 5 refine hK _ _ _ _ ?_
                      refine And.intro (vp_in_nI (n := k) (by omega) (by decide)) ?_
                      rw [nI_clamp (show k < 2 ^ 31 by omega)]
                      iterate 2 refine hK _ _ _ _ ?_
                      refine And.intro (by first | omega | (rw [nI_clamp (by omega)]; omega)) (And.intro (vp_in_nI (n := 2) (by omega) (by decide)) ?_)
                      rw [nI_clamp (show 2 < 2 ^ 31 by omega)]
                      rw [sUp_off (by decide), sUp_off (by decide), show μ 7 k 2 = Z 7 k 2 from e52]
                      refine hK _ _ _ _ ?_
                      refine And.intro (by first | omega | (rw [nI_clamp (by omega)]; omega)) (And.intro (vp_in_nI (n := 2) (by omega) (by decide)) ?_)
                      rw [nI_clamp (show 2 < 2 ^ 31 by omega)]
                      refine hK _ _ _ _ ?_
                      show K _ _ _ _
                      rw [show nI 2 + Int32.ofInt 1 = nI (2 + 1) from nIs _]
                      refine hK _ _ _ _ ?_
                      show K 281 [some (aR 0), some (aI (nI n)), some (aI (nI k)), some (aI (nI 3))] [] (sUp (sUp (sUp μ 8 k 0 (Z 7 k 0)) 8 k 1 (Z 7 k 1)) 8 k 2 (Z 7 k 2))
                      iterate 3 refine hK _ _ _ _ ?_
                      refine And.intro (fun h9 => absurd h9 (by decide)) (fun _ => ?_)
                      iterate 4 refine hK _ _ _ _ ?_
                      refine And.intro (vp_in_nI (n := k) (by omega) (by decide)) ?_
                      rw [nI_clamp (show k < 2 ^ 31 by omega)]
                      iterate 5 refine hK _ _ _ _ ?_
                      refine And.intro (vp_in_nI (n := k) (by omega) (by decide)) ?_
                      rw [nI_clamp (show k < 2 ^ 31 by omega)]
                      iterate 2 refine hK _ _ _ _ ?_
                      refine And.intro (by first | omega | (rw [nI_clamp (by omega)]; omega)) (And.intro (vp_in_nI (n := 3) (by omega) (by decide)) ?_)
                      rw [nI_clamp (show 3 < 2 ^ 31 by omega)]
                      rw [sUp_off (by decide), sUp_off (by decide), sUp_off (by decide), show μ 7 k 3 = Z 7 k 3 from e53]
                      refine hK _ _ _ _ ?_
                      refine And.intro (by first | omega | (rw [nI_clamp (by omega)]; omega)) (And.intro (vp_in_nI (n := 3) (by omega) (by decide)) ?_)
                      rw [nI_clamp (show 3 < 2 ^ 31 by omega)]
                      refine hK _ _ _ _ ?_
                      show K _ _ _ _
                      rw [show nI 3 + Int32.ofInt 1 = nI (3 + 1) from nIs _]
                      refine hK _ _ _ _ ?_
                      show K 281 [some (aR 0), some (aI (nI n)), some (aI (nI k)), some (aI (nI 4))] [] (sUp (sUp (sUp (sUp μ 8 k 0 (Z 7 k 0)) 8 k 1 (Z 7 k 1)) 8 k 2 (Z 7 k 2)) 8 k 3 (Z 7 k 3))
                      iterate 3 refine hK _ _ _ _ ?_
                      refine And.intro (fun h9 => absurd h9 (by decide)) (fun _ => ?_)
                      iterate 4 refine hK _ _ _ _ ?_
                      refine And.intro (vp_in_nI (n := k) (by omega) (by decide)) ?_
                      rw [nI_clamp (show k < 2 ^ 31 by omega)]
                      iterate 5 refine hK _ _ _ _ ?_
                      refine And.intro (vp_in_nI (n := k) (by omega) (by decide)) ?_
                      rw [nI_clamp (show k < 2 ^ 31 by omega)]
                      iterate 2 refine hK _ _ _ _ ?_
                      refine And.intro (by first | omega | (rw [nI_clamp (by omega)]; omega)) (And.intro (vp_in_nI (n := 4) (by omega) (by decide)) ?_)
                      rw [nI_clamp (show 4 < 2 ^ 31 by omega)]
                      rw [sUp_off (by decide), sUp_off (by decide), sUp_off (by decide), sUp_off (by decide), show μ 7 k 4 = Z 7 k 4 from e54]
                      refine hK _ _ _ _ ?_
                      refine And.intro (by first | omega | (rw [nI_clamp (by omega)]; omega)) (And.intro (vp_in_nI (n := 4) (by omega) (by decide)) ?_)
                      rw [nI_clamp (show 4 < 2 ^ 31 by omega)]
                      refine hK _ _ _ _ ?_
                      show K _ _ _ _
                      rw [show nI 4 + Int32.ofInt 1 = nI (4 + 1) from nIs _]
                      refine hK _ _ _ _ ?_
                      show K 281 [some (aR 0), some (aI (nI n)), some (aI (nI k)), some (aI (nI 5))] [] (sUp (sUp (sUp (sUp (sUp μ 8 k 0 (Z 7 k 0)) 8 k 1 (Z 7 k 1)) 8 k 2 (Z 7 k 2)) 8 k 3 (Z 7 k 3)) 8 k 4 (Z 7 k 4))
                      iterate 3 refine hK _ _ _ _ ?_
                      refine And.intro (fun _ => ?_) (fun h9 => absurd (by decide) h9)
                      refine hK _ _ _ _ ?_
                      show K _ _ _ _
                      rw [show nI k + Int32.ofInt 1 = nI (k + 1) from nIs _]
                      refine hK _ _ _ _ ?_
                      exact ih (k + 1) _ _ (by omega) hC.s
                  exact L269 S 0 _ _ (by omega) hB1
                | succ f ih =>
                  intro k μ e3 hk9 hC
                  have hk : k < P := by omega
                  have e31 : μ 3 0 1 = nI P := (hC.2.2.2.1 1 (by decide)).trans hv.2.1.2.1
                  iterate 5 refine hK _ _ _ _ ?_
                  refine And.intro (vp_in_nI (n := 1) (by decide) (by decide)) ?_
                  rw [show (Int32.ofInt 1).toNatClampNeg = 1 from rfl]
                  rw [show μ 3 0 1 = nI P from e31]
                  refine hK _ _ _ _ ?_
                  refine And.intro (fun h9 => absurd ((nI_leI (a := P) (by omega) (by omega)).mp h9) (by omega)) (fun _ => ?_)
                  have e50 : μ 5 k 0 = Z 5 k 0 := by rw [hC.1 5 (by decide) (by decide) (by decide) (by decide) (by decide) (by decide) (by decide)]
                  have e51 : μ 5 k 1 = Z 5 k 1 := by rw [hC.1 5 (by decide) (by decide) (by decide) (by decide) (by decide) (by decide) (by decide)]
                  have e52 : μ 5 k 2 = Z 5 k 2 := by rw [hC.1 5 (by decide) (by decide) (by decide) (by decide) (by decide) (by decide) (by decide)]
                  have e53 : μ 5 k 3 = Z 5 k 3 := by rw [hC.1 5 (by decide) (by decide) (by decide) (by decide) (by decide) (by decide) (by decide)]
                  have e54 : μ 5 k 4 = Z 5 k 4 := by rw [hC.1 5 (by decide) (by decide) (by decide) (by decide) (by decide) (by decide) (by decide)]
                  iterate 2 refine hK _ _ _ _ ?_
                  show K 234 [some (aR 0), some (aI (nI n)), some (aI (nI k)), some (aI (nI 0))] [] μ
                  iterate 3 refine hK _ _ _ _ ?_
                  refine And.intro (fun h9 => absurd h9 (by decide)) (fun _ => ?_)
                  iterate 4 refine hK _ _ _ _ ?_
                  refine And.intro (vp_in_nI (n := k) (by omega) (by decide)) ?_
                  rw [nI_clamp (show k < 2 ^ 31 by omega)]
                  iterate 5 refine hK _ _ _ _ ?_
                  refine And.intro (vp_in_nI (n := k) (by omega) (by decide)) ?_
                  rw [nI_clamp (show k < 2 ^ 31 by omega)]
                  iterate 2 refine hK _ _ _ _ ?_
                  refine And.intro (by first | omega | (rw [nI_clamp (by omega)]; omega)) (And.intro (vp_in_nI (n := 0) (by omega) (by decide)) ?_)
                  rw [nI_clamp (show 0 < 2 ^ 31 by omega)]
                  rw [show μ 5 k 0 = Z 5 k 0 from e50]
                  refine hK _ _ _ _ ?_
                  refine And.intro (by first | omega | (rw [nI_clamp (by omega)]; omega)) (And.intro (vp_in_nI (n := 0) (by omega) (by decide)) ?_)
                  rw [nI_clamp (show 0 < 2 ^ 31 by omega)]
                  refine hK _ _ _ _ ?_
                  show K _ _ _ _
                  rw [show nI 0 + Int32.ofInt 1 = nI (0 + 1) from nIs _]
                  refine hK _ _ _ _ ?_
                  show K 234 [some (aR 0), some (aI (nI n)), some (aI (nI k)), some (aI (nI 1))] [] (sUp μ 6 k 0 (Z 5 k 0))
                  iterate 3 refine hK _ _ _ _ ?_
                  refine And.intro (fun h9 => absurd h9 (by decide)) (fun _ => ?_)
                  iterate 4 refine hK _ _ _ _ ?_
                  refine And.intro (vp_in_nI (n := k) (by omega) (by decide)) ?_
                  rw [nI_clamp (show k < 2 ^ 31 by omega)]
                  iterate 5 refine hK _ _ _ _ ?_
                  refine And.intro (vp_in_nI (n := k) (by omega) (by decide)) ?_
                  rw [nI_clamp (show k < 2 ^ 31 by omega)]
                  iterate 2 refine hK _ _ _ _ ?_
                  refine And.intro (by first | omega | (rw [nI_clamp (by omega)]; omega)) (And.intro (vp_in_nI (n := 1) (by omega) (by decide)) ?_)
                  rw [nI_clamp (show 1 < 2 ^ 31 by omega)]
                  rw [sUp_off (by decide), show μ 5 k 1 = Z 5 k 1 from e51]
                  refine hK _ _ _ _ ?_
                  refine And.intro (by first | omega | (rw [nI_clamp (by omega)]; omega)) (And.intro (vp_in_nI (n := 1) (by omega) (by decide)) ?_)
                  rw [nI_clamp (show 1 < 2 ^ 31 by omega)]
                  refine hK _ _ _ _ ?_
                  show K _ _ _ _
                  rw [show nI 1 + Int32.ofInt 1 = nI (1 + 1) from nIs _]
                  refine hK _ _ _ _ ?_
                  show K 234 [some (aR 0), some (aI (nI n)), some (aI (nI k)), some (aI (nI 2))] [] (sUp (sUp μ 6 k 0 (Z 5 k 0)) 6 k 1 (Z 5 k 1))
                  iterate 3 refine hK _ _ _ _ ?_
                  refine And.intro (fun h9 => absurd h9 (by decide)) (fun _ => ?_)
                  iterate 4 refine hK _ _ _ _ ?_
                  refine And.intro (vp_in_nI (n := k) (by omega) (by decide)) ?_
                  rw [nI_clamp (show k < 2 ^ 31 by omega)]
                  iterate 5 refine hK _ _ _ _ ?_
                  refine And.intro (vp_in_nI (n := k) (by omega) (by decide)) ?_
                  rw [nI_clamp (show k < 2 ^ 31 by omega)]
                  iterate 2 refine hK _ _ _ _ ?_
                  refine And.intro (by first | omega | (rw [nI_clamp (by omega)]; omega)) (And.intro (vp_in_nI (n := 2) (by omega) (by decide)) ?_)
                  rw [nI_clamp (show 2 < 2 ^ 31 by omega)]
                  rw [sUp_off (by decide), sUp_off (by decide), show μ 5 k 2 = Z 5 k 2 from e52]
                  refine hK _ _ _ _ ?_
                  refine And.intro (by first | omega | (rw [nI_clamp (by omega)]; omega)) (And.intro (vp_in_nI (n := 2) (by omega) (by decide)) ?_)
                  rw [nI_clamp (show 2 < 2 ^ 31 by omega)]
                  refine hK _ _ _ _ ?_
                  show K _ _ _ _
                  rw [show nI 2 + Int32.ofInt 1 = nI (2 + 1) from nIs _]
                  refine hK _ _ _ _ ?_
                  show K 234 [some (aR 0), some (aI (nI n)), some (aI (nI k)), some (aI (nI 3))] [] (sUp (sUp (sUp μ 6 k 0 (Z 5 k 0)) 6 k 1 (Z 5 k 1)) 6 k 2 (Z 5 k 2))
                  iterate 3 refine hK _ _ _ _ ?_
                  refine And.intro (fun h9 => absurd h9 (by decide)) (fun _ => ?_)
                  iterate 4 refine hK _ _ _ _ ?_
                  refine And.intro (vp_in_nI (n := k) (by omega) (by decide)) ?_
                  rw [nI_clamp (show k < 2 ^ 31 by omega)]
                  iterate 5 refine hK _ _ _ _ ?_
                  refine And.intro (vp_in_nI (n := k) (by omega) (by decide)) ?_
                  rw [nI_clamp (show k < 2 ^ 31 by omega)]
                  iterate 2 refine hK _ _ _ _ ?_
                  refine And.intro (by first | omega | (rw [nI_clamp (by omega)]; omega)) (And.intro (vp_in_nI (n := 3) (by omega) (by decide)) ?_)
                  rw [nI_clamp (show 3 < 2 ^ 31 by omega)]
                  rw [sUp_off (by decide), sUp_off (by decide), sUp_off (by decide), show μ 5 k 3 = Z 5 k 3 from e53]
                  refine hK _ _ _ _ ?_
                  refine And.intro (by first | omega | (rw [nI_clamp (by omega)]; omega)) (And.intro (vp_in_nI (n := 3) (by omega) (by decide)) ?_)
                  rw [nI_clamp (show 3 < 2 ^ 31 by omega)]
                  refine hK _ _ _ _ ?_
                  show K _ _ _ _
                  rw [show nI 3 + Int32.ofInt 1 = nI (3 + 1) from nIs _]
                  refine hK _ _ _ _ ?_
                  show K 234 [some (aR 0), some (aI (nI n)), some (aI (nI k)), some (aI (nI 4))] [] (sUp (sUp (sUp (sUp μ 6 k 0 (Z 5 k 0)) 6 k 1 (Z 5 k 1)) 6 k 2 (Z 5 k 2)) 6 k 3 (Z 5 k 3))
                  iterate 3 refine hK _ _ _ _ ?_
                  refine And.intro (fun h9 => absurd h9 (by decide)) (fun _ => ?_)
                  iterate 4 refine hK _ _ _ _ ?_
                  refine And.intro (vp_in_nI (n := k) (by omega) (by decide)) ?_
                  rw [nI_clamp (show k < 2 ^ 31 by omega)]
                  iterate 5 refine hK _ _ _ _ ?_
                  refine And.intro (vp_in_nI (n := k) (by omega) (by decide)) ?_
                  rw [nI_clamp (show k < 2 ^ 31 by omega)]
                  iterate 2 refine hK _ _ _ _ ?_
                  refine And.intro (by first | omega | (rw [nI_clamp (by omega)]; omega)) (And.intro (vp_in_nI (n := 4) (by omega) (by decide)) ?_)
                  rw [nI_clamp (show 4 < 2 ^ 31 by omega)]
                  rw [sUp_off (by decide), sUp_off (by decide), sUp_off (by decide), sUp_off (by decide), show μ 5 k 4 = Z 5 k 4 from e54]
                  refine hK _ _ _ _ ?_
                  refine And.intro (by first | omega | (rw [nI_clamp (by omega)]; omega)) (And.intro (vp_in_nI (n := 4) (by omega) (by decide)) ?_)
                  rw [nI_clamp (show 4 < 2 ^ 31 by omega)]
                  refine hK _ _ _ _ ?_
                  show K _ _ _ _
                  rw [show nI 4 + Int32.ofInt 1 = nI (4 + 1) from nIs _]
                  refine hK _ _ _ _ ?_
                  show K 234 [some (aR 0), some (aI (nI n)), some (aI (nI k)), some (aI (nI 5))] [] (sUp (sUp (sUp (sUp (sUp μ 6 k 0 (Z 5 k 0)) 6 k 1 (Z 5 k 1)) 6 k 2 (Z 5 k 2)) 6 k 3 (Z 5 k 3)) 6 k 4 (Z 5 k 4))
                  iterate 3 refine hK _ _ _ _ ?_
                  refine And.intro (fun _ => ?_) (fun h9 => absurd (by decide) h9)
                  refine hK _ _ _ _ ?_
                  show K _ _ _ _
                  rw [show nI k + Int32.ofInt 1 = nI (k + 1) from nIs _]
                  refine hK _ _ _ _ ?_
                  exact ih (k + 1) _ _ (by omega) hC.p
              exact L222 P 0 _ _ (by omega) hB0
            | succ f ih =>
              intro k μ hk9 hC
              have hk : k < 12 := by omega
              iterate 3 refine hK _ _ _ _ ?_
              refine And.intro (fun h9 => absurd ((nI_leI (a := 12) (by omega) (by omega)).mp h9) (by omega)) (fun _ => ?_)
              have e2k : μ 11 0 k = Z 11 0 k := by rw [hC.1 11 (by decide) (by decide) (by decide) (by decide) (by decide) (by decide) (by decide)]
              iterate 7 refine hK _ _ _ _ ?_
              refine And.intro (vp_in_nI (n := k) (by omega) (by decide)) ?_
              rw [nI_clamp (show k < 2 ^ 31 by omega)]
              rw [show μ 11 0 k = Z 11 0 k from e2k]
              refine hK _ _ _ _ ?_
              refine And.intro (vp_in_nI (n := k) (by omega) (by decide)) ?_
              rw [nI_clamp (show k < 2 ^ 31 by omega)]
              refine hK _ _ _ _ ?_
              show K _ _ _ _
              rw [show nI k + Int32.ofInt 1 = nI (k + 1) from nIs _]
              refine hK _ _ _ _ ?_
              exact ih (k + 1) _ (by omega) hC.b
          exact L196 12 0 _ (by omega) hC6
        | succ f ih =>
          intro k μ hk9 hC
          have hk : k < 6 := by omega
          iterate 3 refine hK _ _ _ _ ?_
          refine And.intro (fun h9 => absurd ((nI_leI (a := 6) (by omega) (by omega)).mp h9) (by omega)) (fun _ => ?_)
          have e2 : μ 2 = Z 2 := hC.1 2 (by decide) (by decide) (by decide) (by decide) (by decide) (by decide) (by decide)
          have e2k : μ 2 0 k = Z 2 0 k := by rw [e2]
          iterate 7 refine hK _ _ _ _ ?_
          refine And.intro (vp_in_nI (n := k) (by omega) (by decide)) ?_
          rw [nI_clamp (show k < 2 ^ 31 by omega)]
          rw [show μ 2 0 k = Z 2 0 k from e2k]
          refine hK _ _ _ _ ?_
          refine And.intro (vp_in_nI (n := k) (by omega) (by decide)) ?_
          rw [nI_clamp (show k < 2 ^ 31 by omega)]
          refine hK _ _ _ _ ?_
          show K _ _ _ _
          rw [show nI k + Int32.ofInt 1 = nI (k + 1) from nIs _]
          refine hK _ _ _ _ ?_
          exact ih (k + 1) _ (by omega) hC.a
      exact L170 6 0 _ (by omega) hTC0
    · iterate 2 refine hK _ _ _ _ ?_
      show K _ _ _ _
      rw [sUp_k (by decide)]
      iterate 3 refine hK _ _ _ _ ?_
      exact ⟨fun _ => ⟨rfl, rfl⟩, fun q => absurd q h8⟩
  iterate 3 refine hK _ _ _ _ ?_
  show K _ _ _ (sUp σ 0 0 0 0)
  have z0 : sUp σ 0 0 0 0 0 0 0 = 0 := sUp_at _ _ _ _ _
  have z1 : sUp σ 0 0 0 0 0 0 1 = nI T := (sUp_k (by decide)).trans eT
  iterate 5 refine hK _ _ _ _ ?_
  show K _ _ _ _
  rw [sUp_k (by decide), show σ 0 0 1 = nI T from eT]
  refine hK _ _ _ _ ?_
  refine calD (c9_in _ _ _ _ _) ?_
  rintro r σ' ⟨rfl, rfl⟩
  show K 15 [some (aR 0), some (aI (nI n)), none, none] [aI (if (0 ≤ nI n ∧ nI n ≤ nI T) then 1 else 0), aR 0] (sUp σ 0 0 0 0)
  rw [if_pos (⟨nI_leI (a := 0) (by decide) (by omega) |>.mpr (Nat.zero_le _), (nI_leI (by omega) (by omega)).mpr hnT⟩ : (0 : Int32) ≤ nI n ∧ nI n ≤ nI T)]
  refine hK _ _ _ _ ?_
  refine And.intro (fun _ => ?_) (fun h => absurd h (by decide))
  iterate 3 refine hK _ _ _ _ ?_
  refine calD (c9_bad0 _ _ _ z0) ?_
  rintro r σ' ⟨rfl, rfl⟩
  show K 27 [some (aR 0), some (aI (nI n)), none, none] [aI (0)] (sUp σ 0 0 0 0)
  refine hK _ _ _ _ ?_
  refine And.intro (fun _ => ?_) (fun h => absurd rfl h)
  iterate 20 refine hK _ _ _ _ ?_
  show K 64 [some (aR 0), some (aI (nI n)), some (aI (nI 0)), none] [] (p0A σ n)
  have L64 : ∀ k, k ≤ 6 → K 64 [some (aR 0), some (aI (nI n)), some (aI (nI k)), none] [] (forM (fun k s => sUp s 2 0 k (if k = 0 then 4 else 0)) (p0A σ n) k) := by
    refine kDown (P := fun k => K 64 [some (aR 0), some (aI (nI n)), some (aI (nI k)), none] [] (forM (fun k s => sUp s 2 0 k (if k = 0 then 4 else 0)) (p0A σ n) k)) ?_ ?_
    · iterate 3 refine hK _ _ _ _ ?_
      refine And.intro (fun _ => ?_) (fun h => absurd (show (Int8.ofInt 6).toInt32 ≤ nI 6 by decide) h)
      iterate 2 refine hK _ _ _ _ ?_
      show K 93 [some (aR 0), some (aI (nI n)), some (aI (nI 0)), none] [] (forM (fun k s => sUp s 2 0 k (if k = 0 then 4 else 0)) (p0A σ n) 6)
      have L93 : ∀ p, p ≤ 12 → K 93 [some (aR 0), some (aI (nI n)), some (aI (nI p)), none] [] (forM (fun p s => sUp s 11 0 p 0) (forM (fun k s => sUp s 2 0 k (if k = 0 then 4 else 0)) (p0A σ n) 6) p) := by
        refine kDown (P := fun p => K 93 [some (aR 0), some (aI (nI n)), some (aI (nI p)), none] [] (forM (fun p s => sUp s 11 0 p 0) (forM (fun k s => sUp s 2 0 k (if k = 0 then 4 else 0)) (p0A σ n) 6) p)) ?_ ?_
        · show K 93 _ _ (p0M σ n)
          obtain ⟨pR, pT⟩ := p0_R σ hn6
          have p5 : p0M σ n 0 0 5 = 0 := by rw [(p0M_at σ n).2.1]; simp [p0A, sUp]
          have p7 : p0M σ n 0 0 7 = nI 0 := by rw [(p0M_at σ n).2.1]; simp [p0A, sUp]; rfl
          generalize p0M σ n = ρ0 at hZd pR pT p5 p7 ⊢
          iterate 3 refine hK _ _ _ _ ?_
          refine And.intro (fun _ => ?_) (fun h => absurd (show (Int8.ofInt 12).toInt32 ≤ nI 12 by decide) h)
          iterate 2 refine hK _ _ _ _ ?_
          refine calD (c9_blanksM _ _ pR) ?_
          rintro r σ' ⟨rfl, rfl⟩
          show K 116 [some (aR 0), some (aI (nI n)), some (aI (nI 12)), none] [] (bkM ρ0)
          have L116 : ∀ (f : Nat) (ρ : sMem) (cl : Nat), txL f ρ = Z → RI ρ → RT ρ → (ρ 0 0 5 = 0 → ρ 0 0 7 = nI cl ∧ cl + f = 61 ∧ 1 ≤ f) → K 116 [some (aR 0), some (aI (nI n)), some (aI (nI 12)), none] [] ρ := by
            intro f
            induction f with
            | zero =>
              intro ρ cl hL hR hT hc
              obtain ⟨h1, h2, h3, h4⟩ := hR.at
              iterate 2 refine hK _ _ _ _ ?_
              refine hK _ _ _ _ ?_
              refine And.intro (fun h9 => ?_) (fun h9 => absurd (hc h9).2 (by omega))
              have e : ρ = Z := hL
              subst e
              exact L145 _ _
            | succ f ih =>
              intro ρ cl hL hR hT hc
              obtain ⟨h1, h2, h3, h4⟩ := hR.at
              iterate 2 refine hK _ _ _ _ ?_
              refine hK _ _ _ _ ?_
              refine And.intro (fun h9 => ?_) (fun h9 => ?_)
              · unfold txL at hL
                rw [if_neg (fun q => h9 q.1)] at hL
                subst hL
                exact L145 _ _
              · have h5 : ρ 0 0 5 = 0 := h9
                iterate 2 refine hK _ _ _ _ ?_
                show K _ _ _ _
                rw [show ρ 0 0 4 = nI (atN ρ) from h3]
                iterate 2 refine hK _ _ _ _ ?_
                show K _ _ _ _
                rw [show ρ 0 0 2 = nI (szN ρ) from h1]
                refine hK _ _ _ _ ?_
                refine And.intro (fun h8 => ?_) (fun h8 => ?_)
                · have hge := (nI_leI (by omega) (by omega)).mp h8
                  unfold txL at hL
                  rw [if_neg (fun q => absurd q.2 (by omega))] at hL
                  subst hL
                  exact L145 _ _
                · have hlt : atN ρ < szN ρ := Decidable.byContradiction fun q => h8 ((nI_leI (by omega) (by omega)).mpr (by omega))
                  unfold txL at hL
                  rw [if_pos ⟨h5, hlt⟩] at hL
                  obtain ⟨hc7, hcf⟩ := hc h5
                  obtain ⟨kR, kT, -⟩ := clM_K hR hT
                  iterate 2 refine hK _ _ _ _ ?_
                  refine calD (c9_clause _ ρ hR hT h5 cl hc7 (by omega)) ?_
                  rintro r σ' ⟨rfl, rfl⟩
                  show K 138 [some (aR 0), some (aI (nI n)), some (aI (nI 12)), none] [] (clM ρ)
                  iterate 2 refine hK _ _ _ _ ?_
                  refine calD (c9_blanksM _ _ kR) ?_
                  rintro r σ' ⟨rfl, rfl⟩
                  show K 142 [some (aR 0), some (aI (nI n)), some (aI (nI 12)), none] [] (bkM (clM ρ))
                  iterate 1 refine hK _ _ _ _ ?_
                  obtain ⟨bR, bT, -⟩ := bkM_K kR kT (KF.rf (clM ρ))
                  refine ih _ (cl + 1) hL bR bT (fun q => ?_)
                  rw [bkM_5] at q
                  refine ⟨by rw [bkM_7]; exact clM_7 hR hc7 q, ?_⟩
                  have : cl ≠ 60 := fun e => clM_60 (by rw [hc7, e]) q
                  omega
          obtain ⟨bR, bT, -⟩ := bkM_K pR pT (KF.rf ρ0)
          exact L116 61 _ 0 hZd bR bT (fun _ => ⟨by rw [bkM_7]; exact p7, by omega, by omega⟩)
        · intro p hp ih
          have ih' : K 93 [some (aR 0), some (aI (nI n)), some (aI (nI (p + 1))), none] [] ((fun p s => sUp s 11 0 p 0) p (forM (fun p s => sUp s 11 0 p 0) (forM (fun k s => sUp s 2 0 k (if k = 0 then 4 else 0)) (p0A σ n) 6) p)) := ih
          clear ih
          generalize forM (fun p s => sUp s 11 0 p 0) (forM (fun k s => sUp s 2 0 k (if k = 0 then 4 else 0)) (p0A σ n) 6) p = t at ih' ⊢
          iterate 3 refine hK _ _ _ _ ?_
          refine And.intro (fun h => absurd ((nI_leI (a := 12) (b := p) (by decide) (by omega)).mp h) (by omega)) (fun _ => ?_)
          iterate 5 refine hK _ _ _ _ ?_
          refine And.intro (vp_in_nI (n := p) (by omega) (by decide)) ?_
          rw [nI_clamp (show p < 2 ^ 31 by omega)]
          refine hK _ _ _ _ ?_
          show K _ _ _ _
          rw [show nI p + Int32.ofInt 1 = nI (p + 1) from nIs _]
          refine hK _ _ _ _ ?_
          exact ih'
      exact L93 0 (Nat.zero_le _)
    · intro k hk ih
      have ih' : K 64 [some (aR 0), some (aI (nI n)), some (aI (nI (k + 1))), none] [] ((fun k s => sUp s 2 0 k (if k = 0 then 4 else 0)) k (forM (fun k s => sUp s 2 0 k (if k = 0 then 4 else 0)) (p0A σ n) k)) := ih
      clear ih
      generalize forM (fun k s => sUp s 2 0 k (if k = 0 then 4 else 0)) (p0A σ n) k = t at ih' ⊢
      iterate 3 refine hK _ _ _ _ ?_
      refine And.intro (fun h => absurd ((nI_leI (a := 6) (b := k) (by decide) (by omega)).mp h) (by omega)) (fun _ => ?_)
      iterate 5 refine hK _ _ _ _ ?_
      refine And.intro (fun h => ?_) (fun h => ?_)
      · dsimp only at ih'
        rw [if_neg (fun e : k = 0 => h (by rw [e]; rfl))] at ih'
        iterate 2 refine hK _ _ _ _ ?_
        refine And.intro (vp_in_nI (n := k) (by omega) (by decide)) ?_
        rw [nI_clamp (show k < 2 ^ 31 by omega)]
        refine hK _ _ _ _ ?_
        show K _ _ _ _
        rw [show nI k + Int32.ofInt 1 = nI (k + 1) from nIs _]
        refine hK _ _ _ _ ?_
        exact ih'
      · have e0 : k = 0 := (nI_eq (b := 0) (by omega) (by decide)).mp h
        dsimp only at ih'
        rw [if_pos e0] at ih'
        iterate 3 refine hK _ _ _ _ ?_
        refine And.intro (vp_in_nI (n := k) (by omega) (by decide)) ?_
        rw [nI_clamp (show k < 2 ^ 31 by omega)]
        refine hK _ _ _ _ ?_
        show K _ _ _ _
        rw [show nI k + Int32.ofInt 1 = nI (k + 1) from nIs _]
        refine hK _ _ _ _ ?_
        exact ih'
  exact L64 0 (Nat.zero_le _)
end
