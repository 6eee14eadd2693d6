/-! THE REFERENCE, small questions -/
section
variable {l : Launch} {D : va_G} {b0 : Nat} {ty : Nat → ClassId}
theorem c9_bad0 (d : Nat) (σ : sMem) (w : Int32) (h : σ 0 0 0 = 0) : sMet l D b0 ty lay d mX9_bad [aR 0, aI 0, aI w] σ (fun r σ' => r = [aI 0] ∧ σ' = σ) := by
  refine sMet_intro lay_nd kX9_bad xX9_ok (by decide +kernel) rfl ?_
  intro K hK
  iterate 2 refine hK _ _ _ _ ?_
  refine And.intro (fun _ => ?_) (fun h1 => absurd rfl h1)
  iterate 3 refine hK _ _ _ _ ?_
  refine And.intro (fun _ => ?_) (fun h20 => absurd h h20)
  iterate 2 refine hK _ _ _ _ ?_
  exact ⟨Or.inl rfl, rfl, rfl⟩
theorem c9_bad1 (d : Nat) (σ : sMem) (w : Int32) (h : σ 0 0 0 = 0) (hw : ¬ w = 0) : sMet l D b0 ty lay d mX9_bad [aR 0, aI 1, aI w] σ (fun r σ' => r = [aI 1] ∧ σ' = sUp σ 0 0 0 w) := by
  refine sMet_intro lay_nd kX9_bad xX9_ok (by decide +kernel) rfl ?_
  intro K hK
  iterate 2 refine hK _ _ _ _ ?_
  refine And.intro (fun h1 => absurd h1 (by decide)) (fun _ => ?_)
  iterate 3 refine hK _ _ _ _ ?_
  refine And.intro (fun h8 => absurd h h8) (fun _ => ?_)
  iterate 6 refine hK _ _ _ _ ?_
  rw [sUp_at]
  refine And.intro (fun h20 => absurd h20 hw) (fun _ => ?_)
  iterate 3 refine hK _ _ _ _ ?_
  exact ⟨Or.inr rfl, rfl, rfl⟩
/-- x is one of the first n -/
def isN (x n : Int32) : Prop := 0 ≤ x ∧ x ≤ n - 1
theorem c9_isPlace (d : Nat) (σ : sMem) (x : Int32) : sMet l D b0 ty lay (d + 1) mX9_isPlace [aR 0, aI x] σ (fun r σ' => r = [aI (if 0 ≤ x ∧ x ≤ σ 3 0 0 - 1 then 1 else 0)] ∧ σ' = σ) := by
  refine sMet_intro lay_nd kX9_isPlace xX9_ok (by decide +kernel) rfl ?_
  intro K hK
  iterate 6 refine hK _ _ _ _ ?_
  refine And.intro (vp_in_nI (n := 0) (by decide) (by decide)) ?_
  iterate 3 refine hK _ _ _ _ ?_
  refine calD (c9_in d _ _ _ _) ?_
  rintro r σ' ⟨rfl, rfl⟩
  refine hK _ _ _ _ ?_
  refine ⟨?_, rfl, rfl⟩
  split
  · exact Or.inr rfl
  · exact Or.inl rfl
theorem c9_isPerson (d : Nat) (σ : sMem) (x : Int32) : sMet l D b0 ty lay (d + 1) mX9_isPerson [aR 0, aI x] σ (fun r σ' => r = [aI (if 0 ≤ x ∧ x ≤ σ 3 0 1 - 1 then 1 else 0)] ∧ σ' = σ) := by
  refine sMet_intro lay_nd kX9_isPerson xX9_ok (by decide +kernel) rfl ?_
  intro K hK
  iterate 6 refine hK _ _ _ _ ?_
  refine And.intro (vp_in_nI (n := 1) (by decide) (by decide)) ?_
  iterate 3 refine hK _ _ _ _ ?_
  refine calD (c9_in d _ _ _ _) ?_
  rintro r σ' ⟨rfl, rfl⟩
  refine hK _ _ _ _ ?_
  refine ⟨?_, rfl, rfl⟩
  split
  · exact Or.inr rfl
  · exact Or.inl rfl
theorem c9_isStranger (d : Nat) (σ : sMem) (x : Int32) : sMet l D b0 ty lay (d + 1) mX9_isStranger [aR 0, aI x] σ (fun r σ' => r = [aI (if 0 ≤ x ∧ x ≤ σ 3 0 2 - 1 then 1 else 0)] ∧ σ' = σ) := by
  refine sMet_intro lay_nd kX9_isStranger xX9_ok (by decide +kernel) rfl ?_
  intro K hK
  iterate 6 refine hK _ _ _ _ ?_
  refine And.intro (vp_in_nI (n := 2) (by decide) (by decide)) ?_
  iterate 3 refine hK _ _ _ _ ?_
  refine calD (c9_in d _ _ _ _) ?_
  rintro r σ' ⟨rfl, rfl⟩
  refine hK _ _ _ _ ?_
  refine ⟨?_, rfl, rfl⟩
  split
  · exact Or.inr rfl
  · exact Or.inl rfl
theorem c9_isKind (d : Nat) (σ : sMem) (x : Int32) : sMet l D b0 ty lay (d + 1) mX9_isKind [aI x] σ (fun r σ' => r = [aI (if 0 ≤ x ∧ x ≤ 4 then 1 else 0)] ∧ σ' = σ) := by
  refine sMet_intro lay_nd kX9_isKind xX9_ok (by decide +kernel) rfl ?_
  intro K hK
  iterate 4 refine hK _ _ _ _ ?_
  refine calD (c9_in d _ _ _ _) ?_
  rintro r σ' ⟨rfl, rfl⟩
  refine hK _ _ _ _ ?_
  refine ⟨?_, rfl, rfl⟩
  split
  · exact Or.inr rfl
  · exact Or.inl rfl
theorem c9_isWay (d : Nat) (σ : sMem) (a b : Nat) (ha : a < 12) (hb : b < 12) : sMet l D b0 ty lay d mX9_isWay [aR 0, aI (nI a), aI (nI b)] σ (fun r σ' => r = [aI (if σ 14 a b < 1000000 then 1 else 0)] ∧ σ' = σ) := by
  refine sMet_intro lay_nd kX9_isWay xX9_ok (by decide +kernel) rfl ?_
  intro K hK
  iterate 4 refine hK _ _ _ _ ?_
  refine And.intro (vp_in_nI (by omega) (by decide)) ?_
  iterate 2 refine hK _ _ _ _ ?_
  refine And.intro (by rw [nI_clamp (by omega)]; omega) (And.intro (vp_in_nI (by omega) (by decide)) ?_)
  iterate 2 refine hK _ _ _ _ ?_
  rw [nI_clamp (by omega), nI_clamp (by omega)]
  refine And.intro (fun h10 => ?_) (fun h10 => ?_)
  · iterate 2 refine hK _ _ _ _ ?_
    refine ⟨Or.inl rfl, ?_, rfl⟩
    rw [if_neg (Int32.not_lt.mpr h10)]; rfl
  · iterate 3 refine hK _ _ _ _ ?_
    refine ⟨Or.inr rfl, ?_, rfl⟩
    rw [if_pos (Int32.not_le.mp h10)]; rfl
theorem c9_fault (d : Nat) (σ : sMem) : sMet l D b0 ty lay d mX9_fault [aR 0] σ (fun r σ' => r = [aI (σ 0 0 3)] ∧ σ' = sUp σ 0 0 0 0) := by
  refine sMet_intro lay_nd kX9_fault xX9_ok (by decide +kernel) rfl ?_
  intro K hK
  iterate 6 refine hK _ _ _ _ ?_
  refine ⟨?_, rfl⟩
  simp [sUp]
theorem c9_told (d : Nat) (σ : sMem) (w : Int32) : sMet l D b0 ty lay (d + 1) mX9_told [aR 0, aI w] σ (fun r σ' => (0 ≤ w ∧ w ≤ 4 → r = [aI (σ 3 0 w.toNatClampNeg)] ∧ σ' = sUp σ 0 0 0 0) ∧ (¬ (0 ≤ w ∧ w ≤ 4) → r = [aI 0] ∧ σ' = sUp σ 0 0 0 1)) := by
  refine sMet_intro lay_nd kX9_told xX9_ok (by decide +kernel) rfl ?_
  intro K hK
  iterate 8 refine hK _ _ _ _ ?_
  refine calD (c9_in d _ w 0 4) ?_
  rintro r σ' ⟨rfl, rfl⟩
  refine hK _ _ _ _ ?_
  refine And.intro (fun h12 => ?_) (fun h12 => ?_)
  · have hq := ite_ne h12
    iterate 3 refine hK _ _ _ _ ?_
    refine calD (c9_bad0 d _ _ (sUp_at _ _ _ _ _)) ?_
    rintro r σ' ⟨rfl, rfl⟩
    refine hK _ _ _ _ ?_
    refine And.intro (fun _ => ?_) (fun h24 => absurd rfl h24)
    iterate 4 refine hK _ _ _ _ ?_
    obtain ⟨k, -, hk, rfl⟩ := nI_rng (lo := 0) (hi := 4) hq.1 hq.2 (by decide) (by decide)
    refine And.intro (vp_in_nI (by omega) (by decide)) ?_
    refine hK _ _ _ _ ?_
    refine ⟨fun _ => ⟨?_, rfl⟩, fun q => absurd hq q⟩
    rw [sUp_off (by decide)]
  · have hq := ite_eq h12
    iterate 4 refine hK _ _ _ _ ?_
    refine calD (c9_bad1 d _ _ (sUp_at _ _ _ _ _) (by decide)) ?_
    rintro r σ' ⟨rfl, rfl⟩
    refine hK _ _ _ _ ?_
    refine And.intro (fun h24 => absurd h24 (by decide)) (fun _ => ?_)
    iterate 2 refine hK _ _ _ _ ?_
    refine ⟨fun q => absurd q hq, fun _ => ⟨rfl, ?_⟩⟩
    rw [sUp_twice]; rfl
theorem c9_count (d : Nat) (σ : sMem) (w : Int32) : sMet l D b0 ty lay d mX9_count [aR 0, aI w] σ (fun r σ' => r = [aI (if w = 0 then σ 0 0 25 else if w = 1 then σ 0 0 1 else -1)] ∧ σ' = sUp σ 0 0 0 0) := by
  refine sMet_intro lay_nd kX9_count xX9_ok (by decide +kernel) rfl ?_
  intro K hK
  iterate 5 refine hK _ _ _ _ ?_
  refine And.intro (fun h => ?_) (fun h => ?_)
  · iterate 3 refine hK _ _ _ _ ?_
    refine And.intro (fun h2 => ?_) (fun h2 => ?_)
    · have h2' : ¬ w = 1 := h2
      iterate 2 refine hK _ _ _ _ ?_
      refine ⟨?_, rfl⟩
      rw [if_neg h, if_neg h2']; rfl
    · have h2' : w = 1 := h2
      iterate 4 refine hK _ _ _ _ ?_
      refine ⟨?_, rfl⟩
      rw [if_neg h, if_pos h2']; simp [sUp]
  · iterate 4 refine hK _ _ _ _ ?_
    refine ⟨?_, rfl⟩
    rw [if_pos h]; simp [sUp]
end
