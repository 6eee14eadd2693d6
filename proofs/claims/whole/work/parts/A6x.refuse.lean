/-! THE REFERENCE: refusals that need no more -/
section
variable {l : Launch} {D : va_G} {b0 : Nat} {ty : Nat → ClassId}
theorem c9_leads_r (d : Nat) (σ : sMem) (N P S G : Nat) (hJ : MJ σ N P S G) (kd x i : Int32) (hno : ¬ ((0 ≤ x ∧ x ≤ nI S - 1) ∧ (0 ≤ kd ∧ kd ≤ 4))) : sMet l D b0 ty lay (d + 6) mX9_leads [aR 0, aI (kd), aI (x), aI (i)] σ (fun r σ' => ((0 ≤ x ∧ x ≤ nI S - 1) → (0 ≤ kd ∧ kd ≤ 4) → True) ∧ (¬ (0 ≤ x ∧ x ≤ nI S - 1) → r = [aI 0] ∧ σ' = sUp σ 0 0 0 1) ∧ ((0 ≤ x ∧ x ≤ nI S - 1) → ¬ (0 ≤ kd ∧ kd ≤ 4) → r = [aI 0] ∧ σ' = sUp σ 0 0 0 2)) := by
  refine sMet_intro lay_nd kX9_leads xX9_ok (by decide +kernel) rfl ?_
  intro K hK
  have hN := hJ.1.1.1
  have hN2 := hJ.1.2.1
  have hP := hJ.1.2.2.2.1.2
  have hS := hJ.1.2.2.2.2.1.2
  have hG4 := hJ.2.2.2.2.2
  iterate 3 refine hK _ _ _ _ ?_
  show K _ _ _ (sUp σ 0 0 0 0)
  have hJz := hJ.z0 0 0
  have z0 : sUp σ 0 0 0 0 0 0 0 = 0 := sUp_at _ _ _ _ _
  generalize hz : sUp σ 0 0 0 0 = z at hJz z0 ⊢
  iterate 4 refine hK _ _ _ _ ?_
  refine calD (c9_isStranger _ _ _) ?_
  rintro r σ' ⟨rfl, hσ⟩
  subst σ'
  rw [show z 3 0 2 = nI S from hJz.1.2.2.2.2.1.1]
  refine hK _ _ _ _ ?_
  refine And.intro (fun h00 => ?_) (fun h00 => ?_)
  · have hg0 : (0 ≤ x ∧ x ≤ nI S - 1) := ite_ne h00
    iterate 3 refine hK _ _ _ _ ?_
    refine calD (c9_bad0 _ _ _ z0) ?_
    rintro r σ' ⟨rfl, hσ⟩
    subst σ'
    refine hK _ _ _ _ ?_
    refine And.intro (fun h => absurd rfl h) (fun _ => ?_)
    iterate 3 refine hK _ _ _ _ ?_
    refine calD (c9_isKind _ _ _) ?_
    rintro r σ' ⟨rfl, hσ⟩
    subst σ'
    refine hK _ _ _ _ ?_
    refine And.intro (fun h10 => ?_) (fun h10 => ?_)
    · have hg1 : (0 ≤ kd ∧ kd ≤ 4) := ite_ne h10
      iterate 3 refine hK _ _ _ _ ?_
      refine calD (c9_bad0 _ _ _ z0) ?_
      rintro r σ' ⟨rfl, hσ⟩
      subst σ'
      refine hK _ _ _ _ ?_
      refine And.intro (fun _ => ?_) (fun h => absurd rfl h)
      exact absurd ⟨hg0, hg1⟩ hno
    · have hn : ¬ (0 ≤ kd ∧ kd ≤ 4) := ite_eq h10
      iterate 4 refine hK _ _ _ _ ?_
      refine calD (c9_bad1 _ _ _ z0 (by decide)) ?_
      rintro r σ' ⟨rfl, rfl⟩
      refine hK _ _ _ _ ?_
      refine And.intro (fun h => absurd h (by decide)) (fun _ => ?_)
      iterate 2 refine hK _ _ _ _ ?_
      exact ⟨fun q0 q1 => absurd q1 hn, fun n => absurd hg0 n, fun _ _ => ⟨rfl, by rw [← hz, sUp_twice]; try rfl⟩⟩
  · have hn : ¬ (0 ≤ x ∧ x ≤ nI S - 1) := ite_eq h00
    iterate 4 refine hK _ _ _ _ ?_
    refine calD (c9_bad1 _ _ _ z0 (by decide)) ?_
    rintro r σ' ⟨rfl, rfl⟩
    refine hK _ _ _ _ ?_
    refine And.intro (fun _ => ?_) (fun h => absurd h (by decide))
    iterate 2 refine hK _ _ _ _ ?_
    exact ⟨fun q0 q1 => absurd q0 hn, fun _ => ⟨rfl, by rw [← hz, sUp_twice]; try rfl⟩, fun q0 _ => absurd q0 hn⟩
theorem c9_where_r (d : Nat) (σ : sMem) (N P S G : Nat) (hJ : MJ σ N P S G) (fee w : Int32) (hno : ¬ ((0 ≤ fee ∧ fee ≤ 9) ∧ (0 ≤ w ∧ w ≤ 1))) : sMet l D b0 ty lay (d + 8) mX9_where [aR 0, aI (fee), aI (w)] σ (fun r σ' => (((0 ≤ fee ∧ fee ≤ 9) ∧ (0 ≤ w ∧ w ≤ 1)) → True) ∧ (¬ ((0 ≤ fee ∧ fee ≤ 9) ∧ (0 ≤ w ∧ w ≤ 1)) → r = [aI 0] ∧ σ' = sUp σ 0 0 0 1)) := by
  refine sMet_intro lay_nd kX9_where xX9_ok (by decide +kernel) rfl ?_
  intro K hK
  have hN := hJ.1.1.1
  have hN2 := hJ.1.2.1
  have hP := hJ.1.2.2.2.1.2
  have hS := hJ.1.2.2.2.2.1.2
  have hG4 := hJ.2.2.2.2.2
  iterate 3 refine hK _ _ _ _ ?_
  show K _ _ _ (sUp σ 0 0 0 0)
  have hJz := hJ.z0 0 0
  have z0 : sUp σ 0 0 0 0 0 0 0 = 0 := sUp_at _ _ _ _ _
  generalize hz : sUp σ 0 0 0 0 = z at hJz z0 ⊢
  iterate 5 refine hK _ _ _ _ ?_
  refine calD (c9_in _ _ _ _ _) ?_
  rintro r σ' ⟨rfl, hσ⟩
  subst σ'
  refine hK _ _ _ _ ?_
  refine And.intro (fun h00 => ?_) (fun h00 => ?_)
  · have hn : ¬ ((0 ≤ fee ∧ fee ≤ 9) ∧ (0 ≤ w ∧ w ≤ 1)) := fun q => ite_eq h00 q.1
    iterate 4 refine hK _ _ _ _ ?_
    refine calD (c9_bad1 _ _ _ z0 (by decide)) ?_
    rintro r σ' ⟨rfl, rfl⟩
    refine hK _ _ _ _ ?_
    refine And.intro (fun h => absurd h (by decide)) (fun _ => ?_)
    iterate 2 refine hK _ _ _ _ ?_
    exact ⟨fun q0 => absurd q0 hn, fun _ => ⟨rfl, by rw [← hz, sUp_twice]; try rfl⟩⟩
  · iterate 4 refine hK _ _ _ _ ?_
    refine calD (c9_in _ _ _ _ _) ?_
    rintro r σ' ⟨rfl, hσ⟩
    subst σ'
    refine hK _ _ _ _ ?_
    refine And.intro (fun h01 => ?_) (fun h01 => ?_)
    · have hg0 : ((0 ≤ fee ∧ fee ≤ 9) ∧ (0 ≤ w ∧ w ≤ 1)) := ⟨ite_ne h00, ite_ne h01⟩
      iterate 3 refine hK _ _ _ _ ?_
      refine calD (c9_bad0 _ _ _ z0) ?_
      rintro r σ' ⟨rfl, hσ⟩
      subst σ'
      refine hK _ _ _ _ ?_
      refine And.intro (fun _ => ?_) (fun h => absurd rfl h)
      exact absurd hg0 hno
    · have hn : ¬ ((0 ≤ fee ∧ fee ≤ 9) ∧ (0 ≤ w ∧ w ≤ 1)) := fun q => ite_eq h01 q.2
      iterate 4 refine hK _ _ _ _ ?_
      refine calD (c9_bad1 _ _ _ z0 (by decide)) ?_
      rintro r σ' ⟨rfl, rfl⟩
      refine hK _ _ _ _ ?_
      refine And.intro (fun h => absurd h (by decide)) (fun _ => ?_)
      iterate 2 refine hK _ _ _ _ ?_
      exact ⟨fun q0 => absurd q0 hn, fun _ => ⟨rfl, by rw [← hz, sUp_twice]; try rfl⟩⟩
theorem c9_many_r (d : Nat) (σ : sMem) (N P S G : Nat) (hJ : MJ σ N P S G) (fee w : Int32) (hno : ¬ ((0 ≤ fee ∧ fee ≤ 9) ∧ (0 ≤ w ∧ w ≤ 1))) : sMet l D b0 ty lay (d + 8) mX9_many [aR 0, aI (fee), aI (w)] σ (fun r σ' => (((0 ≤ fee ∧ fee ≤ 9) ∧ (0 ≤ w ∧ w ≤ 1)) → True) ∧ (¬ ((0 ≤ fee ∧ fee ≤ 9) ∧ (0 ≤ w ∧ w ≤ 1)) → r = [aI 0] ∧ σ' = sUp σ 0 0 0 1)) := by
  refine sMet_intro lay_nd kX9_many xX9_ok (by decide +kernel) rfl ?_
  intro K hK
  have hN := hJ.1.1.1
  have hN2 := hJ.1.2.1
  have hP := hJ.1.2.2.2.1.2
  have hS := hJ.1.2.2.2.2.1.2
  have hG4 := hJ.2.2.2.2.2
  iterate 3 refine hK _ _ _ _ ?_
  show K _ _ _ (sUp σ 0 0 0 0)
  have hJz := hJ.z0 0 0
  have z0 : sUp σ 0 0 0 0 0 0 0 = 0 := sUp_at _ _ _ _ _
  generalize hz : sUp σ 0 0 0 0 = z at hJz z0 ⊢
  iterate 5 refine hK _ _ _ _ ?_
  refine calD (c9_in _ _ _ _ _) ?_
  rintro r σ' ⟨rfl, hσ⟩
  subst σ'
  refine hK _ _ _ _ ?_
  refine And.intro (fun h00 => ?_) (fun h00 => ?_)
  · have hn : ¬ ((0 ≤ fee ∧ fee ≤ 9) ∧ (0 ≤ w ∧ w ≤ 1)) := fun q => ite_eq h00 q.1
    iterate 4 refine hK _ _ _ _ ?_
    refine calD (c9_bad1 _ _ _ z0 (by decide)) ?_
    rintro r σ' ⟨rfl, rfl⟩
    refine hK _ _ _ _ ?_
    refine And.intro (fun h => absurd h (by decide)) (fun _ => ?_)
    iterate 2 refine hK _ _ _ _ ?_
    exact ⟨fun q0 => absurd q0 hn, fun _ => ⟨rfl, by rw [← hz, sUp_twice]; try rfl⟩⟩
  · iterate 4 refine hK _ _ _ _ ?_
    refine calD (c9_in _ _ _ _ _) ?_
    rintro r σ' ⟨rfl, hσ⟩
    subst σ'
    refine hK _ _ _ _ ?_
    refine And.intro (fun h01 => ?_) (fun h01 => ?_)
    · have hg0 : ((0 ≤ fee ∧ fee ≤ 9) ∧ (0 ≤ w ∧ w ≤ 1)) := ⟨ite_ne h00, ite_ne h01⟩
      iterate 3 refine hK _ _ _ _ ?_
      refine calD (c9_bad0 _ _ _ z0) ?_
      rintro r σ' ⟨rfl, hσ⟩
      subst σ'
      refine hK _ _ _ _ ?_
      refine And.intro (fun _ => ?_) (fun h => absurd rfl h)
      exact absurd hg0 hno
    · have hn : ¬ ((0 ≤ fee ∧ fee ≤ 9) ∧ (0 ≤ w ∧ w ≤ 1)) := fun q => ite_eq h01 q.2
      iterate 4 refine hK _ _ _ _ ?_
      refine calD (c9_bad1 _ _ _ z0 (by decide)) ?_
      rintro r σ' ⟨rfl, rfl⟩
      refine hK _ _ _ _ ?_
      refine And.intro (fun h => absurd h (by decide)) (fun _ => ?_)
      iterate 2 refine hK _ _ _ _ ?_
      exact ⟨fun q0 => absurd q0 hn, fun _ => ⟨rfl, by rw [← hz, sUp_twice]; try rfl⟩⟩
theorem c9_where_x (d : Nat) (σ : sMem) (N P S G : Nat) (hJ : MJ σ N P S G) (fee w : Int32) (hno : ¬ ((0 ≤ fee ∧ fee ≤ 9) ∧ (0 ≤ w ∧ w ≤ 1))) : sMet l D b0 ty lay (d + 8) mX9_where [aR 0, aI fee, aI w] σ (fun r σ' => r = [aI 0] ∧ σ' = sUp σ 0 0 0 1) := sMet_mono (c9_where_r d σ N P S G hJ fee w hno) (fun r σ' h => h.2 hno)
theorem c9_many_x (d : Nat) (σ : sMem) (N P S G : Nat) (hJ : MJ σ N P S G) (fee w : Int32) (hno : ¬ ((0 ≤ fee ∧ fee ≤ 9) ∧ (0 ≤ w ∧ w ≤ 1))) : sMet l D b0 ty lay (d + 8) mX9_many [aR 0, aI fee, aI w] σ (fun r σ' => r = [aI 0] ∧ σ' = sUp σ 0 0 0 1) := sMet_mono (c9_many_r d σ N P S G hJ fee w hno) (fun r σ' h => h.2 hno)
end
