/-! THE REFERENCE: many -/
section
variable {l : Launch} {D : va_G} {b0 : Nat} {ty : Nat → ClassId}
set_option maxHeartbeats 4000000 in
theorem c9_many (d : Nat) (σ : sMem) (N P S G : Nat) (hJ : MJ σ N P S G) (fee w F0 : Int32) (F1 : Nat → Int32) (F2 : Nat → Nat → Int32) (hF0 : ∀ τ, KP G (sUp σ 0 0 0 0) τ → fcC τ P S = F0) (hF1 : ∀ τ p, KP G (sUp σ 0 0 0 0) τ → p < N → gcC τ (nI p) (-1) fee P S = F1 p) (hF2 : ∀ τ a b, KP G (sUp σ 0 0 0 0) τ → a < N → b < N → gcC τ (nI a) (nI b) fee P S = F2 a b) : sMet l D b0 ty lay (d + 8) mX9_many [aR 0, aI (fee), aI (w)] σ (fun r σ' => (((0 ≤ fee ∧ fee ≤ 9) ∧ (0 ≤ w ∧ w ≤ 1)) → r = [aI (if w = 0 then (mnA F2 N N 0 (if F1 (whL F1 (N - 1) 1 0) < F0 then (1, F1 (whL F1 (N - 1) 1 0)) else (0, F0))).1 else (mnA F2 N N 0 (if F1 (whL F1 (N - 1) 1 0) < F0 then (1, F1 (whL F1 (N - 1) 1 0)) else (0, F0))).2)] ∧ KP G (sUp σ 0 0 0 0) σ') ∧ (¬ ((0 ≤ fee ∧ fee ≤ 9) ∧ (0 ≤ w ∧ w ≤ 1)) → r = [aI 0] ∧ σ' = sUp σ 0 0 0 1)) := by
  refine sMet_intro lay_nd kX9_many xX9_ok (by decide +kernel) rfl ?_
  intro K hK
  have hN := hJ.1.1.1
  have hN2 := hJ.1.2.1
  have hP := hJ.1.2.2.2.1.2
  have hS := hJ.1.2.2.2.2.1.2
  have hG4 := hJ.2.2.2.2.2
  iterate 3 refine hK _ _ _ _ ?_
  show K _ _ _ (sUp σ 0 0 0 0)
  have hJz := hJ.z0 0 0
  have z0 : sUp σ 0 0 0 0 0 0 0 = 0 := sUp_at _ _ _ _ _
  generalize hz : sUp σ 0 0 0 0 = z at hJz z0 ⊢
  iterate 5 refine hK _ _ _ _ ?_
  refine calD (c9_in _ _ _ _ _) ?_
  rintro r σ' ⟨rfl, hσ⟩
  subst σ'
  refine hK _ _ _ _ ?_
  refine And.intro (fun h00 => ?_) (fun h00 => ?_)
  · have hn : ¬ ((0 ≤ fee ∧ fee ≤ 9) ∧ (0 ≤ w ∧ w ≤ 1)) := fun q => ite_eq h00 q.1
    iterate 4 refine hK _ _ _ _ ?_
    refine calD (c9_bad1 _ _ _ z0 (by decide)) ?_
    rintro r σ' ⟨rfl, rfl⟩
    refine hK _ _ _ _ ?_
    refine And.intro (fun h => absurd h (by decide)) (fun _ => ?_)
    iterate 2 refine hK _ _ _ _ ?_
    exact ⟨fun q0 => absurd q0 hn, fun _ => ⟨rfl, by rw [← hz, sUp_twice]; rfl⟩⟩
  · iterate 4 refine hK _ _ _ _ ?_
    refine calD (c9_in _ _ _ _ _) ?_
    rintro r σ' ⟨rfl, hσ⟩
    subst σ'
    refine hK _ _ _ _ ?_
    refine And.intro (fun h01 => ?_) (fun h01 => ?_)
    · have hg0 : ((0 ≤ fee ∧ fee ≤ 9) ∧ (0 ≤ w ∧ w ≤ 1)) := ⟨ite_ne h00, ite_ne h01⟩
      iterate 3 refine hK _ _ _ _ ?_
      refine calD (c9_bad0 _ _ _ z0) ?_
      rintro r σ' ⟨rfl, hσ⟩
      subst σ'
      refine hK _ _ _ _ ?_
      refine And.intro (fun _ => ?_) (fun h => absurd rfl h)
      rw [hz] at hF0 hF1 hF2
      iterate 4 refine hK _ _ _ _ ?_
      refine calD (c9_firstCost _ z N P S G hJz) ?_
      rintro r σ' ⟨rfl, rfl⟩
      have hk0 : KP G z (goM z 0 P S) := goM_KP _ _ _ _ _
      rw [hF0 z KP.rfl']
      generalize goM z 0 P S = τ0 at hk0 ⊢
      iterate 5 refine hK _ _ _ _ ?_
      refine calD (c9_bestPlace _ z N P S G hJz fee F1 hF1 τ0 hk0) ?_
      rintro r τ1 ⟨rfl, hk1⟩
      have hb := whL_lt (F := F1) (N - 1) 1 0 N (by omega) (by omega)
      generalize whL F1 (N - 1) 1 0 = b at hb hK ⊢
      iterate 3 refine hK _ _ _ _ ?_
      refine calD (c9_guidedCost _ τ1 N P S G (hk1.MJ hJz) (nI b) (-1) fee) ?_
      rintro r σ' ⟨rfl, rfl⟩
      have hk2 : KP G z (gcM τ1 (nI b) (-1) fee P S) := hk1.trans (gcM_KP _ _ _ (hk1.MJ hJz))
      rw [hF1 τ1 b hk1 hb]
      generalize gcM τ1 (nI b) (-1) fee P S = τ2 at hk2 ⊢
      generalize hR : mnA F2 N N 0 (if F1 b < F0 then (1, F1 b) else (0, F0)) = R at hK
      have l73 : ∀ (p : Int32 × Int32), mnA F2 N N 0 p = R → K 73 [some (aR 0), some (aI (fee)), some (aI (w)), some (aI (p.1)), some (aI (p.2)), some (aI (F1 b)), none, none, none] [] τ2 := by
        intro p hp
        iterate 2 refine hK _ _ _ _ ?_
        have key : ∀ (f : Nat) (a : Nat) (p : Int32 × Int32) (τ : sMem) (e7 e8 : Option AV), a + f = N → KP G z τ → mnA F2 N f a p = R → K 76 [some (aR 0), some (aI (fee)), some (aI (w)), some (aI (p.1)), some (aI (p.2)), some (aI (F1 b)), some (aI (nI a)), e7, e8] [] τ := by
          intro f
          induction f with
          | zero =>
            intro a p τ e7 e8 ha hk he
            have haN : a = N := by omega
            subst a
            have e0 := (hk.MJ hJz).1.2.2.1
            iterate 5 refine hK _ _ _ _ ?_
            refine And.intro (vp_in_nI (n := 0) (by decide) (by decide)) ?_
            rw [show (Int32.ofInt 0).toNatClampNeg = 0 from rfl]
            rw [show τ 3 0 0 = nI N from e0]
            refine hK _ _ _ _ ?_
            refine And.intro (fun _ => ?_) (fun h => absurd (Int32.le_refl _) h)
            iterate 2 refine hK _ _ _ _ ?_
            refine And.intro (fun h => ?_) (fun h => ?_)
            · iterate 2 refine hK _ _ _ _ ?_
              refine ⟨fun _ => ?_, fun n => absurd hg0 n⟩
              exact ⟨by rw [if_neg h, ← he]; rfl, by rw [hz]; exact hk⟩
            · iterate 3 refine hK _ _ _ _ ?_
              refine ⟨fun _ => ?_, fun n => absurd hg0 n⟩
              exact ⟨by rw [if_pos h, ← he]; rfl, by rw [hz]; exact hk⟩
          | succ f ih =>
            intro a p τ e7 e8 ha hk he
            unfold mnA at he
            have e0 := (hk.MJ hJz).1.2.2.1
            iterate 5 refine hK _ _ _ _ ?_
            refine And.intro (vp_in_nI (n := 0) (by decide) (by decide)) ?_
            rw [show (Int32.ofInt 0).toNatClampNeg = 0 from rfl]
            rw [show τ 3 0 0 = nI N from e0]
            refine hK _ _ _ _ ?_
            refine And.intro (fun h => absurd h (nI_ge (by omega) (by omega))) (fun _ => ?_)
            iterate 2 refine hK _ _ _ _ ?_
            generalize hQ : mnB F2 a (N - a) a p = Q at he
            have inner : ∀ (g : Nat) (c : Nat) (p : Int32 × Int32) (υ : sMem) (e8 : Option AV), c + g = N → KP G z υ → mnB F2 a g c p = Q → K 91 [some (aR 0), some (aI (fee)), some (aI (w)), some (aI (p.1)), some (aI (p.2)), some (aI (F1 b)), some (aI (nI a)), some (aI (nI c)), e8] [] υ := by
              intro g
              induction g with
              | zero =>
                intro c p υ e8 hc hk2 he2
                have hpQ : p = Q := he2
                subst hpQ
                have hbN : c = N := by omega
                subst c
                have e02 := (hk2.MJ hJz).1.2.2.1
                iterate 5 refine hK _ _ _ _ ?_
                refine And.intro (vp_in_nI (n := 0) (by decide) (by decide)) ?_
                rw [show (Int32.ofInt 0).toNatClampNeg = 0 from rfl]
                rw [show υ 3 0 0 = nI N from e02]
                refine hK _ _ _ _ ?_
                refine And.intro (fun _ => ?_) (fun h => absurd (Int32.le_refl _) h)
                refine hK _ _ _ _ ?_
                show K _ _ _ _
                rw [show nI a + Int32.ofInt 1 = nI (a + 1) from nIs _]
                refine hK _ _ _ _ ?_
                exact ih (a + 1) p υ _ _ (by omega) hk2 he
              | succ g ih2 =>
                intro c p υ e8 hc hk2 he2
                unfold mnB at he2
                have hJu := hk2.MJ hJz
                have e02 := hJu.1.2.2.1
                iterate 5 refine hK _ _ _ _ ?_
                refine And.intro (vp_in_nI (n := 0) (by decide) (by decide)) ?_
                rw [show (Int32.ofInt 0).toNatClampNeg = 0 from rfl]
                rw [show υ 3 0 0 = nI N from e02]
                refine hK _ _ _ _ ?_
                refine And.intro (fun h => absurd h (nI_ge (by omega) (by omega))) (fun _ => ?_)
                iterate 5 refine hK _ _ _ _ ?_
                refine calD (c9_guidedCost _ υ N P S G hJu (nI a) (nI c) fee) ?_
                rintro r σ' ⟨rfl, rfl⟩
                have hk3 : KP G z (gcM υ (nI a) (nI c) fee P S) := hk2.trans (gcM_KP _ _ _ hJu)
                rw [hF2 υ a c hk2 (by omega) (by omega)]
                generalize gcM υ (nI a) (nI c) fee P S = υ1 at hk3 ⊢
                iterate 4 refine hK _ _ _ _ ?_
                refine And.intro (fun h => ?_) (fun h => ?_)
                · rw [if_pos h] at he2
                  iterate 5 refine hK _ _ _ _ ?_
                  show K _ _ _ _
                  rw [show nI c + Int32.ofInt 1 = nI (c + 1) from nIs _]
                  refine hK _ _ _ _ ?_
                  exact ih2 (c + 1) (2, F2 a c) υ1 _ (by omega) hk3 he2
                · rw [if_neg h] at he2
                  iterate 2 refine hK _ _ _ _ ?_
                  show K _ _ _ _
                  rw [show nI c + Int32.ofInt 1 = nI (c + 1) from nIs _]
                  refine hK _ _ _ _ ?_
                  exact ih2 (c + 1) p υ1 _ (by omega) hk3 he2
            exact inner (N - a) a p τ _ (by omega) hk hQ
        exact key N 0 p τ2 _ _ (by omega) hk2 hp
      iterate 4 refine hK _ _ _ _ ?_
      refine And.intro (fun h => ?_) (fun h => ?_)
      · rw [if_neg (Int32.not_lt.mpr h)] at hR
        exact l73 (0, F0) hR
      · rw [if_pos (Int32.not_le.mp h)] at hR
        iterate 4 refine hK _ _ _ _ ?_
        exact l73 (1, F1 b) hR
    · have hn : ¬ ((0 ≤ fee ∧ fee ≤ 9) ∧ (0 ≤ w ∧ w ≤ 1)) := fun q => ite_eq h01 q.2
      iterate 4 refine hK _ _ _ _ ?_
      refine calD (c9_bad1 _ _ _ z0 (by decide)) ?_
      rintro r σ' ⟨rfl, rfl⟩
      refine hK _ _ _ _ ?_
      refine And.intro (fun h => absurd h (by decide)) (fun _ => ?_)
      iterate 2 refine hK _ _ _ _ ?_
      exact ⟨fun q0 => absurd q0 hn, fun _ => ⟨rfl, by rw [← hz, sUp_twice]; rfl⟩⟩
end
