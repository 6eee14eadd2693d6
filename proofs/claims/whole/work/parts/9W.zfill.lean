/-! THE CLASS ALONE: Arrays.fill, clear, findWays over its own layout -/
section
variable {l : Launch} {D : va_G} {b0 : Nat} {ty : Nat → ClassId}
theorem cZ_fill38 (d : Nat) (σ : sMem) (x : Int32) : sMet l D b0 ty lay8 d mJ7_fill_53178 [aR 38, aI (x)] σ (fun r σ' => r = [] ∧ σ' = flR σ 38 0 8 x) := by
  refine sMet_intro lay8_nd kJ7_fill_53178 (jX0_ok _) (by decide +kernel) rfl ?_
  intro K hK
  iterate 5 refine hK _ _ _ _ ?_
  have L5 : ∀ k, k ≤ 8 → K 5 [some (aR 38), some (aI x), some (aI (nI k)), some (aI (nI 8))] [] (flR σ 38 0 k x) := by
    refine kDown (P := fun k => K 5 [some (aR 38), some (aI x), some (aI (nI k)), some (aI (nI 8))] [] (flR σ 38 0 k x)) ?_ ?_
    · iterate 3 refine hK _ _ _ _ ?_
      refine And.intro (fun _ => ?_) (fun h => absurd (Int32.le_refl _) h)
      refine hK _ _ _ _ ?_
      exact ⟨rfl, rfl⟩
    · intro k hk ih
      iterate 3 refine hK _ _ _ _ ?_
      refine And.intro (fun h => absurd ((nI_leI (a := 8) (b := k) (by decide) (by omega)).mp h) (by omega)) (fun _ => ?_)
      iterate 4 refine hK _ _ _ _ ?_
      refine And.intro (vp_in_nI (n := k) (by omega) (by decide)) ?_
      rw [nI_clamp (show k < 2 ^ 31 by omega)]
      refine hK _ _ _ _ ?_
      show K _ _ _ _
      rw [show nI k + Int32.ofInt 1 = nI (k + 1) from nIs _]
      refine hK _ _ _ _ ?_
      rw [flR_s]
      exact ih
  have h0 := L5 0 (Nat.zero_le _)
  rw [flR_0] at h0
  exact h0
theorem cZ_fill19 (d : Nat) (σ : sMem) (x : Int32) : sMet l D b0 ty lay8 d mJ7_fill_53178 [aR 19, aI (x)] σ (fun r σ' => r = [] ∧ σ' = flR σ 19 0 12 x) := by
  refine sMet_intro lay8_nd kJ7_fill_53178 (jX0_ok _) (by decide +kernel) rfl ?_
  intro K hK
  iterate 5 refine hK _ _ _ _ ?_
  have L5 : ∀ k, k ≤ 12 → K 5 [some (aR 19), some (aI x), some (aI (nI k)), some (aI (nI 12))] [] (flR σ 19 0 k x) := by
    refine kDown (P := fun k => K 5 [some (aR 19), some (aI x), some (aI (nI k)), some (aI (nI 12))] [] (flR σ 19 0 k x)) ?_ ?_
    · iterate 3 refine hK _ _ _ _ ?_
      refine And.intro (fun _ => ?_) (fun h => absurd (Int32.le_refl _) h)
      refine hK _ _ _ _ ?_
      exact ⟨rfl, rfl⟩
    · intro k hk ih
      iterate 3 refine hK _ _ _ _ ?_
      refine And.intro (fun h => absurd ((nI_leI (a := 12) (b := k) (by decide) (by omega)).mp h) (by omega)) (fun _ => ?_)
      iterate 4 refine hK _ _ _ _ ?_
      refine And.intro (vp_in_nI (n := k) (by omega) (by decide)) ?_
      rw [nI_clamp (show k < 2 ^ 31 by omega)]
      refine hK _ _ _ _ ?_
      show K _ _ _ _
      rw [show nI k + Int32.ofInt 1 = nI (k + 1) from nIs _]
      refine hK _ _ _ _ ?_
      rw [flR_s]
      exact ih
  have h0 := L5 0 (Nat.zero_le _)
  rw [flR_0] at h0
  exact h0
theorem cZ_fill4 (d : Nat) (σ : sMem) (j : Nat) (hj : j < 12) (x : Int32) : sMet l D b0 ty lay8 d mJ7_fill_53178 [.inr (4, j), aI (x)] σ (fun r σ' => r = [] ∧ σ' = flR σ 4 j 12 x) := by
  refine sMet_intro lay8_nd kJ7_fill_53178 (jX0_ok _) (by decide +kernel) rfl ?_
  intro K hK
  iterate 4 refine hK _ _ _ _ ?_
  refine And.intro (by first | omega | (rw [nI_clamp (by omega)]; omega)) ?_
  refine hK _ _ _ _ ?_
  have L5 : ∀ k, k ≤ 12 → K 5 [some (.inr (4, j)), some (aI x), some (aI (nI k)), some (aI (nI 12))] [] (flR σ 4 j k x) := by
    refine kDown (P := fun k => K 5 [some (.inr (4, j)), some (aI x), some (aI (nI k)), some (aI (nI 12))] [] (flR σ 4 j k x)) ?_ ?_
    · iterate 3 refine hK _ _ _ _ ?_
      refine And.intro (fun _ => ?_) (fun h => absurd (Int32.le_refl _) h)
      refine hK _ _ _ _ ?_
      exact ⟨rfl, rfl⟩
    · intro k hk ih
      iterate 3 refine hK _ _ _ _ ?_
      refine And.intro (fun h => absurd ((nI_leI (a := 12) (b := k) (by decide) (by omega)).mp h) (by omega)) (fun _ => ?_)
      iterate 4 refine hK _ _ _ _ ?_
      refine And.intro (by first | omega | (rw [nI_clamp (by omega)]; omega)) (And.intro (vp_in_nI (n := k) (by omega) (by decide)) ?_)
      rw [nI_clamp (show k < 2 ^ 31 by omega)]
      refine hK _ _ _ _ ?_
      show K _ _ _ _
      rw [show nI k + Int32.ofInt 1 = nI (k + 1) from nIs _]
      refine hK _ _ _ _ ?_
      rw [flR_s]
      exact ih
  have h0 := L5 0 (Nat.zero_le _)
  rw [flR_0] at h0
  exact h0
end
