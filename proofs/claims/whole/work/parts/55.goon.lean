/-! THE CLASS'S COURSE: a stranger goes on -/
section
variable {c : sMem} {D : DA} {P G s kd m : Nat}
theorem ldC_p {p : Nat} (h4 : ¬ kd = 4) (h2 : ¬ kd = 2) (hp : pfA c D s m (decide (kd = 1)) P 0 none = some p) : ldC c D P G s kd m = nI p := by
  unfold ldC asGA asPA
  rw [if_neg h4, if_neg h4, hp]
  cases gfA c D s m G 0 with
  | none => rfl
  | some g => dsimp only; rw [if_neg h2]
theorem ldC_g (h4 : ¬ kd = 4) (hp : pfA c D s m (decide (kd = 1)) P 0 none = none) : ldC c D P G s kd m = gC (gfA c D s m G 0) := by
  unfold ldC asGA asPA
  rw [if_neg h4, if_neg h4, hp]
  cases gfA c D s m G 0 with
  | none => rfl
  | some g => rfl
theorem ldC_2g {g : Nat} (h2 : kd = 2) (hg : gfA c D s m G 0 = some g) : ldC c D P G s kd m = nI (100 + g) := by
  subst h2
  unfold ldC asGA asPA
  rw [if_neg (by decide), if_neg (by decide), hg]
  cases pfA c D s m (decide (2 = 1)) P 0 none with
  | none => rfl
  | some p => rfl
theorem ldC_2p (h2 : kd = 2) (hg : gfA c D s m G 0 = none) : ldC c D P G s kd m = oI (pfA c D s m false P 0 none) := by
  subst h2
  unfold ldC asGA asPA
  rw [if_neg (by decide), if_neg (by decide), hg, show decide (2 = 1) = false from rfl]
  cases pfA c D s m false P 0 none with
  | none => rfl
  | some p => rfl
theorem ldC_4 (h4 : kd = 4) : ldC c D P G s kd m = (match tlO c s with | none => -1 | some p => if caA c D p s m = true then nI p else -1) := by
  subst h4
  unfold ldC asGA asPA
  rw [if_pos rfl, if_pos rfl]
  cases tlO c s with
  | none => rfl
  | some p =>
    dsimp only
    cases caA c D p s m with
    | true => rfl
    | false => rfl
end
section
variable {l : Launch} {D0 : va_G} {b0 : Nat} {ty : Nat → ClassId}
theorem c0_leaderFor_36 (d : Nat) (σ c : sMem) (cm : Nat → Bool) (kd N P S G : Nat) (D : DA) (m j B : Nat) (h : CE σ c cm 36 kd N P S G D m j true B) (hm : m ≤ 999) (hk : kd ≤ 4) (s : Nat) (hs : s < S) (hf : fN c (D.2.1 s).1 (sY c s) < 1000000) : sMet l D0 b0 ty lay (d + 2) mX0_leaderFor [aR 81, aI (nI s), aI (nI m)] σ (fun r σ' => r = [aI (ldC c D P G s kd m)] ∧ σ' = σ) := by
  refine sMet_intro lay_nd kX0_leaderFor xX0_ok (by decide +kernel) rfl ?_
  intro K hK
  have h0 := h
  obtain ⟨hT, hM, hS, hSC, ⟨hO, hA, hC, hW⟩, hV⟩ := h
  have hN := hM.1.1.1
  have hP := hM.2.2.1
  have hS8 := hM.2.2.2.1
  obtain ⟨x1, x2, x3, x4, x5, x6, x7⟩ := hV.2.1 s hs
  obtain ⟨⟨ex, hx⟩, ⟨ey, hy⟩, ⟨et, ht⟩, hxy⟩ := hM.2.2.2.2.2 s hs
  have g84 : σ 84 0 s = nI (D.2.1 s).1 := (hC.1 s hs).1
  have g11 : σ 47 0 s = nI (sY c s) := (hT.2.2.2.2.2 s hs).2.1
  have kt : ∀ n : Nat, (nI kd).toInt = (n : Int) → kd = n := fun n e => by
    rw [nI_toInt (by omega)] at e
    omega
  have gn : ∀ o : Option Nat, (∀ g, o = some g → g < 2 ^ 30) → (gC o = -1 ↔ o = none) := fun o ho => by
    cases o with
    | none => exact ⟨fun _ => rfl, fun _ => rfl⟩
    | some g => exact ⟨fun e => absurd e (nI_ne (by have := ho g rfl; omega)), fun e => by cases e⟩
  have pb : ∀ ch q, pfA c D s m ch P 0 none = some q → q < P := fun ch q hq => (pfA_some P 0 none P q (by omega) (fun r hr => by cases hr) hq).1
  have gb : ∀ g, gfA c D s m G 0 = some g → g < 2 ^ 30 := fun g hg => by have := gfA_some G 0 g hg; have := hSC.2.1; omega
  iterate 2 refine hK _ _ _ _ ?_
  show K _ _ _ _
  rw [show σ 81 0 2 = nI kd from hO.2.2]
  refine hK _ _ _ _ ?_
  refine ⟨fun hsw => ?_, fun hsw => ?_, fun hsw => ?_, fun hsw => ?_, fun hsw => ?_, trivial⟩
  · have k0 : kd = 0 := by
      rw [nI_toInt (by omega)] at hsw
      omega
    iterate 4 refine hK _ _ _ _ ?_
    refine calD (c0_firstPerson_36 _ _ c cm kd N P S G D m j B h0 hm s hs hf) ?_
    rintro r σ' ⟨rfl, hσ⟩
    subst σ'
    iterate 4 refine hK _ _ _ _ ?_
    refine And.intro (fun h => ?_) (fun h => ?_)
    · have hn : pfA c D s m false P 0 none = none := (oI_inj (fun q hq => by have := pb _ q hq; omega)).mp h
      iterate 4 refine hK _ _ _ _ ?_
      refine calD (c0_firstGuide_36 _ _ c cm kd N P S G D m j B h0 hm s hs hf) ?_
      rintro r σ' ⟨rfl, hσ⟩
      subst σ'
      refine hK _ _ _ _ ?_
      exact ⟨by rw [ldC_g (by omega) (by rw [decide_eq_false (show ¬ kd = 1 by omega)]; exact hn)], rfl⟩
    · obtain ⟨q, hq⟩ : ∃ q, pfA c D s m false P 0 none = some q := by
        cases hh : pfA c D s m false P 0 none with
        | none => rw [hh] at h; exact absurd rfl h
        | some q => exact ⟨q, rfl⟩
      iterate 3 refine hK _ _ _ _ ?_
      exact ⟨by rw [hq, ldC_p (by omega) (by omega) (by rw [decide_eq_false (show ¬ kd = 1 by omega)]; exact hq)]; rfl, rfl⟩
  · have k1 := kt 1 hsw
    iterate 4 refine hK _ _ _ _ ?_
    refine calD (c0_cheapestPerson_36 _ _ c cm kd N P S G D m j B h0 hm s hs hf) ?_
    rintro r σ' ⟨rfl, hσ⟩
    subst σ'
    iterate 4 refine hK _ _ _ _ ?_
    refine And.intro (fun h => ?_) (fun h => ?_)
    · have hn : pfA c D s m true P 0 none = none := (oI_inj (fun q hq => by have := pb _ q hq; omega)).mp h
      iterate 4 refine hK _ _ _ _ ?_
      refine calD (c0_firstGuide_36 _ _ c cm kd N P S G D m j B h0 hm s hs hf) ?_
      rintro r σ' ⟨rfl, hσ⟩
      subst σ'
      refine hK _ _ _ _ ?_
      exact ⟨by rw [ldC_g (by omega) (by rw [decide_eq_true k1]; exact hn)], rfl⟩
    · obtain ⟨q, hq⟩ : ∃ q, pfA c D s m true P 0 none = some q := by
        cases hh : pfA c D s m true P 0 none with
        | none => rw [hh] at h; exact absurd rfl h
        | some q => exact ⟨q, rfl⟩
      iterate 3 refine hK _ _ _ _ ?_
      exact ⟨by rw [hq, ldC_p (by omega) (by omega) (by rw [decide_eq_true k1]; exact hq)]; rfl, rfl⟩
  · have k2 := kt 2 hsw
    iterate 4 refine hK _ _ _ _ ?_
    refine calD (c0_firstGuide_36 _ _ c cm kd N P S G D m j B h0 hm s hs hf) ?_
    rintro r σ' ⟨rfl, hσ⟩
    subst σ'
    iterate 4 refine hK _ _ _ _ ?_
    refine And.intro (fun h => ?_) (fun h => ?_)
    · have hn : gfA c D s m G 0 = none := (gn _ gb).mp h
      iterate 4 refine hK _ _ _ _ ?_
      refine calD (c0_firstPerson_36 _ _ c cm kd N P S G D m j B h0 hm s hs hf) ?_
      rintro r σ' ⟨rfl, hσ⟩
      subst σ'
      refine hK _ _ _ _ ?_
      exact ⟨by rw [ldC_2p k2 hn], rfl⟩
    · obtain ⟨g, hg⟩ : ∃ g, gfA c D s m G 0 = some g := by
        cases hh : gfA c D s m G 0 with
        | none => rw [hh] at h; exact absurd rfl h
        | some g => exact ⟨g, rfl⟩
      iterate 3 refine hK _ _ _ _ ?_
      exact ⟨by rw [hg, ldC_2g k2 hg]; rfl, rfl⟩
  · have k3 := kt 3 hsw
    iterate 4 refine hK _ _ _ _ ?_
    refine calD (c0_firstPerson_36 _ _ c cm kd N P S G D m j B h0 hm s hs hf) ?_
    rintro r σ' ⟨rfl, hσ⟩
    subst σ'
    iterate 4 refine hK _ _ _ _ ?_
    refine And.intro (fun h => ?_) (fun h => ?_)
    · have hn : pfA c D s m false P 0 none = none := (oI_inj (fun q hq => by have := pb _ q hq; omega)).mp h
      iterate 4 refine hK _ _ _ _ ?_
      refine calD (c0_firstGuide_36 _ _ c cm kd N P S G D m j B h0 hm s hs hf) ?_
      rintro r σ' ⟨rfl, hσ⟩
      subst σ'
      refine hK _ _ _ _ ?_
      exact ⟨by rw [ldC_g (by omega) (by rw [decide_eq_false (show ¬ kd = 1 by omega)]; exact hn)], rfl⟩
    · obtain ⟨q, hq⟩ : ∃ q, pfA c D s m false P 0 none = some q := by
        cases hh : pfA c D s m false P 0 none with
        | none => rw [hh] at h; exact absurd rfl h
        | some q => exact ⟨q, rfl⟩
      iterate 3 refine hK _ _ _ _ ?_
      exact ⟨by rw [hq, ldC_p (by omega) (by omega) (by rw [decide_eq_false (show ¬ kd = 1 by omega)]; exact hq)]; rfl, rfl⟩
  · have k4 := kt 4 hsw
    have e80 : σ 80 0 s = oI (tlO c s) := hS.2.2.2.2.1 s hs
    iterate 2 refine hK _ _ _ _ ?_
    show K _ _ _ _
    rw [show σ 81 0 1 = nI 76 from hO.2.1]
    show K _ _ _ _
    rw [show (nI 76).toNatClampNeg = 76 from rfl]
    iterate 3 refine hK _ _ _ _ ?_
    refine And.intro (vp_in_nI (n := s) (by omega) (by decide)) ?_
    rw [nI_clamp (show s < 2 ^ 31 by omega)]
    rw [show σ 80 0 s = oI (tlO c s) from e80]
    iterate 4 refine hK _ _ _ _ ?_
    refine And.intro (fun h => ?_) (fun h => ?_)
    · have hn : tlO c s = none := (oI_inj (fun q hq => by have := (hSC.2.2.2 s hs q hq).1; omega)).mp h
      iterate 2 refine hK _ _ _ _ ?_
      exact ⟨by rw [ldC_4 k4, hn]; rfl, rfl⟩
    · obtain ⟨q, hq⟩ : ∃ q, tlO c s = some q := by
        cases hh : tlO c s with
        | none => rw [hh] at h; exact absurd rfl h
        | some q => exact ⟨q, rfl⟩
      have hqP := (hSC.2.2.2 s hs q hq).1
      rw [hq]
      iterate 5 refine hK _ _ _ _ ?_
      refine calD (c0_canLead_36 _ _ c cm kd N P S G D m j B h0 hm q s hqP hs hf) ?_
      rintro r σ' ⟨rfl, hσ⟩
      subst σ'
      refine hK _ _ _ _ ?_
      refine And.intro (fun h2 => ?_) (fun h2 => ?_)
      · have hc := bI_f h2
        iterate 2 refine hK _ _ _ _ ?_
        exact ⟨by rw [ldC_4 k4, hq]; dsimp only; rw [if_neg (by rw [hc]; decide)]; rfl, rfl⟩
      · have hc := bI_t h2
        iterate 3 refine hK _ _ _ _ ?_
        exact ⟨by rw [ldC_4 k4, hq]; dsimp only; rw [if_pos hc]; rfl, rfl⟩
theorem c0_move_36 (d : Nat) (σ c : sMem) (N P S : Nat) (hT : TT σ c 36 N P S) (hM : MC c N P S) (kd : Nat) (hO : CO σ 36 kd) (s : Nat) (hs : s < S) (x z f m w0 : Nat) (hx : x < N) (hz : z < N) (e84 : σ 84 0 s = nI x) (e85 : σ 85 0 s = nI f) (hfm : f ≤ m) (hm : m < 2 ^ 30) (ew : σ 81 0 12 = nI w0) : sMet l D0 b0 ty lay d mX0_move [aR 81, aI (nI s), aI (nI z), aI (nI m)] σ (fun r σ' => r = [] ∧ σ' = mvC σ (w0 + (m - f)) s z (sY c s) (m + fN c x z)) := by
  refine sMet_intro lay_nd kX0_move xX0_ok (by decide +kernel) rfl ?_
  intro K hK
  have hN := hM.1.1.1
  have hS8 := hM.2.2.2.1
  obtain ⟨-, ⟨ey, hy⟩, -⟩ := hM.2.2.2.2.2 s hs
  have g11 := (hT.2.2.2.2.2 s hs).2.1
  have gm := (hT.2.2.2.1 x z hx hz).1
  have hle := (hM.1.1.2.1 x z hx hz).2.1
  iterate 3 refine hK _ _ _ _ ?_
  show K _ _ _ _
  rw [show σ 81 0 12 = nI w0 from ew]
  iterate 5 refine hK _ _ _ _ ?_
  refine And.intro (vp_in_nI (n := s) (by omega) (by decide)) ?_
  rw [nI_clamp (show s < 2 ^ 31 by omega)]
  rw [show σ 85 0 s = nI f from e85]
  iterate 2 refine hK _ _ _ _ ?_
  show K _ _ _ _
  rw [nIm hfm, nIa]
  iterate 7 refine hK _ _ _ _ ?_
  show K _ _ _ _
  rw [sUp_k (by decide), show σ 81 0 0 = nI 36 from hO.1]
  show K _ _ _ _
  rw [show (nI 36).toNatClampNeg = 36 from rfl]
  iterate 6 refine hK _ _ _ _ ?_
  refine And.intro (vp_in_nI (n := s) (by omega) (by decide)) ?_
  rw [nI_clamp (show s < 2 ^ 31 by omega)]
  rw [sUp_off (by decide), show σ 84 0 s = nI x from e84]
  refine hK _ _ _ _ ?_
  refine And.intro (vp_in_nI (n := x) (by omega) (by decide)) ?_
  rw [nI_clamp (show x < 2 ^ 31 by omega)]
  iterate 2 refine hK _ _ _ _ ?_
  refine And.intro (by first | omega | (rw [nI_clamp (by omega)]; omega)) (And.intro (vp_in_nI (n := z) (by omega) (by decide)) ?_)
  rw [nI_clamp (show z < 2 ^ 31 by omega)]
  rw [sUp_off (by decide), show σ 39 x z = nI (fN c x z) from gm]
  refine hK _ _ _ _ ?_
  show K _ _ _ _
  rw [nIa]
  refine hK _ _ _ _ ?_
  refine And.intro (vp_in_nI (n := s) (by omega) (by decide)) ?_
  rw [nI_clamp (show s < 2 ^ 31 by omega)]
  iterate 5 refine hK _ _ _ _ ?_
  refine And.intro (vp_in_nI (n := s) (by omega) (by decide)) ?_
  rw [nI_clamp (show s < 2 ^ 31 by omega)]
  iterate 3 refine hK _ _ _ _ ?_
  show K _ _ _ _
  rw [sUp_off (by decide), sUp_off (by decide), sUp_k (by decide), show σ 81 0 0 = nI 36 from hO.1]
  show K _ _ _ _
  rw [show (nI 36).toNatClampNeg = 36 from rfl]
  iterate 3 refine hK _ _ _ _ ?_
  refine And.intro (vp_in_nI (n := s) (by omega) (by decide)) ?_
  rw [nI_clamp (show s < 2 ^ 31 by omega)]
  rw [sUp_off (by decide), sUp_off (by decide), sUp_off (by decide), show σ 47 0 s = nI (sY c s) from g11]
  refine hK _ _ _ _ ?_
  refine And.intro (fun h => ?_) (fun h => ?_)
  · refine hK _ _ _ _ ?_
    exact ⟨rfl, by unfold mvC; rw [if_neg (fun e => h (by rw [e]))]⟩
  · iterate 7 refine hK _ _ _ _ ?_
    refine And.intro (vp_in_nI (n := s) (by omega) (by decide)) ?_
    rw [nI_clamp (show s < 2 ^ 31 by omega)]
    rw [sUp_off (by decide), sUp_at]
    refine hK _ _ _ _ ?_
    refine And.intro (vp_in_nI (n := s) (by omega) (by decide)) ?_
    rw [nI_clamp (show s < 2 ^ 31 by omega)]
    refine hK _ _ _ _ ?_
    exact ⟨rfl, by unfold mvC; rw [if_pos ((nI_eq (by omega) (by omega)).mp h)]⟩
theorem c0_leaderFor_54 (d : Nat) (σ c : sMem) (cm : Nat → Bool) (kd N P S G : Nat) (D : DA) (m j B : Nat) (h : CE σ c cm 54 kd N P S G D m j true B) (hm : m ≤ 999) (hk : kd ≤ 4) (s : Nat) (hs : s < S) (hf : fN c (D.2.1 s).1 (sY c s) < 1000000) : sMet l D0 b0 ty lay (d + 2) mX0_leaderFor [aR 81, aI (nI s), aI (nI m)] σ (fun r σ' => r = [aI (ldC c D P G s kd m)] ∧ σ' = σ) := by
  refine sMet_intro lay_nd kX0_leaderFor xX0_ok (by decide +kernel) rfl ?_
  intro K hK
  have h0 := h
  obtain ⟨hT, hM, hS, hSC, ⟨hO, hA, hC, hW⟩, hV⟩ := h
  have hN := hM.1.1.1
  have hP := hM.2.2.1
  have hS8 := hM.2.2.2.1
  obtain ⟨x1, x2, x3, x4, x5, x6, x7⟩ := hV.2.1 s hs
  obtain ⟨⟨ex, hx⟩, ⟨ey, hy⟩, ⟨et, ht⟩, hxy⟩ := hM.2.2.2.2.2 s hs
  have g84 : σ 84 0 s = nI (D.2.1 s).1 := (hC.1 s hs).1
  have g11 : σ 65 0 s = nI (sY c s) := (hT.2.2.2.2.2 s hs).2.1
  have kt : ∀ n : Nat, (nI kd).toInt = (n : Int) → kd = n := fun n e => by
    rw [nI_toInt (by omega)] at e
    omega
  have gn : ∀ o : Option Nat, (∀ g, o = some g → g < 2 ^ 30) → (gC o = -1 ↔ o = none) := fun o ho => by
    cases o with
    | none => exact ⟨fun _ => rfl, fun _ => rfl⟩
    | some g => exact ⟨fun e => absurd e (nI_ne (by have := ho g rfl; omega)), fun e => by cases e⟩
  have pb : ∀ ch q, pfA c D s m ch P 0 none = some q → q < P := fun ch q hq => (pfA_some P 0 none P q (by omega) (fun r hr => by cases hr) hq).1
  have gb : ∀ g, gfA c D s m G 0 = some g → g < 2 ^ 30 := fun g hg => by have := gfA_some G 0 g hg; have := hSC.2.1; omega
  iterate 2 refine hK _ _ _ _ ?_
  show K _ _ _ _
  rw [show σ 81 0 2 = nI kd from hO.2.2]
  refine hK _ _ _ _ ?_
  refine ⟨fun hsw => ?_, fun hsw => ?_, fun hsw => ?_, fun hsw => ?_, fun hsw => ?_, trivial⟩
  · have k0 : kd = 0 := by
      rw [nI_toInt (by omega)] at hsw
      omega
    iterate 4 refine hK _ _ _ _ ?_
    refine calD (c0_firstPerson_54 _ _ c cm kd N P S G D m j B h0 hm s hs hf) ?_
    rintro r σ' ⟨rfl, hσ⟩
    subst σ'
    iterate 4 refine hK _ _ _ _ ?_
    refine And.intro (fun h => ?_) (fun h => ?_)
    · have hn : pfA c D s m false P 0 none = none := (oI_inj (fun q hq => by have := pb _ q hq; omega)).mp h
      iterate 4 refine hK _ _ _ _ ?_
      refine calD (c0_firstGuide_54 _ _ c cm kd N P S G D m j B h0 hm s hs hf) ?_
      rintro r σ' ⟨rfl, hσ⟩
      subst σ'
      refine hK _ _ _ _ ?_
      exact ⟨by rw [ldC_g (by omega) (by rw [decide_eq_false (show ¬ kd = 1 by omega)]; exact hn)], rfl⟩
    · obtain ⟨q, hq⟩ : ∃ q, pfA c D s m false P 0 none = some q := by
        cases hh : pfA c D s m false P 0 none with
        | none => rw [hh] at h; exact absurd rfl h
        | some q => exact ⟨q, rfl⟩
      iterate 3 refine hK _ _ _ _ ?_
      exact ⟨by rw [hq, ldC_p (by omega) (by omega) (by rw [decide_eq_false (show ¬ kd = 1 by omega)]; exact hq)]; rfl, rfl⟩
  · have k1 := kt 1 hsw
    iterate 4 refine hK _ _ _ _ ?_
    refine calD (c0_cheapestPerson_54 _ _ c cm kd N P S G D m j B h0 hm s hs hf) ?_
    rintro r σ' ⟨rfl, hσ⟩
    subst σ'
    iterate 4 refine hK _ _ _ _ ?_
    refine And.intro (fun h => ?_) (fun h => ?_)
    · have hn : pfA c D s m true P 0 none = none := (oI_inj (fun q hq => by have := pb _ q hq; omega)).mp h
      iterate 4 refine hK _ _ _ _ ?_
      refine calD (c0_firstGuide_54 _ _ c cm kd N P S G D m j B h0 hm s hs hf) ?_
      rintro r σ' ⟨rfl, hσ⟩
      subst σ'
      refine hK _ _ _ _ ?_
      exact ⟨by rw [ldC_g (by omega) (by rw [decide_eq_true k1]; exact hn)], rfl⟩
    · obtain ⟨q, hq⟩ : ∃ q, pfA c D s m true P 0 none = some q := by
        cases hh : pfA c D s m true P 0 none with
        | none => rw [hh] at h; exact absurd rfl h
        | some q => exact ⟨q, rfl⟩
      iterate 3 refine hK _ _ _ _ ?_
      exact ⟨by rw [hq, ldC_p (by omega) (by omega) (by rw [decide_eq_true k1]; exact hq)]; rfl, rfl⟩
  · have k2 := kt 2 hsw
    iterate 4 refine hK _ _ _ _ ?_
    refine calD (c0_firstGuide_54 _ _ c cm kd N P S G D m j B h0 hm s hs hf) ?_
    rintro r σ' ⟨rfl, hσ⟩
    subst σ'
    iterate 4 refine hK _ _ _ _ ?_
    refine And.intro (fun h => ?_) (fun h => ?_)
    · have hn : gfA c D s m G 0 = none := (gn _ gb).mp h
      iterate 4 refine hK _ _ _ _ ?_
      refine calD (c0_firstPerson_54 _ _ c cm kd N P S G D m j B h0 hm s hs hf) ?_
      rintro r σ' ⟨rfl, hσ⟩
      subst σ'
      refine hK _ _ _ _ ?_
      exact ⟨by rw [ldC_2p k2 hn], rfl⟩
    · obtain ⟨g, hg⟩ : ∃ g, gfA c D s m G 0 = some g := by
        cases hh : gfA c D s m G 0 with
        | none => rw [hh] at h; exact absurd rfl h
        | some g => exact ⟨g, rfl⟩
      iterate 3 refine hK _ _ _ _ ?_
      exact ⟨by rw [hg, ldC_2g k2 hg]; rfl, rfl⟩
  · have k3 := kt 3 hsw
    iterate 4 refine hK _ _ _ _ ?_
    refine calD (c0_firstPerson_54 _ _ c cm kd N P S G D m j B h0 hm s hs hf) ?_
    rintro r σ' ⟨rfl, hσ⟩
    subst σ'
    iterate 4 refine hK _ _ _ _ ?_
    refine And.intro (fun h => ?_) (fun h => ?_)
    · have hn : pfA c D s m false P 0 none = none := (oI_inj (fun q hq => by have := pb _ q hq; omega)).mp h
      iterate 4 refine hK _ _ _ _ ?_
      refine calD (c0_firstGuide_54 _ _ c cm kd N P S G D m j B h0 hm s hs hf) ?_
      rintro r σ' ⟨rfl, hσ⟩
      subst σ'
      refine hK _ _ _ _ ?_
      exact ⟨by rw [ldC_g (by omega) (by rw [decide_eq_false (show ¬ kd = 1 by omega)]; exact hn)], rfl⟩
    · obtain ⟨q, hq⟩ : ∃ q, pfA c D s m false P 0 none = some q := by
        cases hh : pfA c D s m false P 0 none with
        | none => rw [hh] at h; exact absurd rfl h
        | some q => exact ⟨q, rfl⟩
      iterate 3 refine hK _ _ _ _ ?_
      exact ⟨by rw [hq, ldC_p (by omega) (by omega) (by rw [decide_eq_false (show ¬ kd = 1 by omega)]; exact hq)]; rfl, rfl⟩
  · have k4 := kt 4 hsw
    have e80 : σ 80 0 s = oI (tlO c s) := hS.2.2.2.2.1 s hs
    iterate 2 refine hK _ _ _ _ ?_
    show K _ _ _ _
    rw [show σ 81 0 1 = nI 76 from hO.2.1]
    show K _ _ _ _
    rw [show (nI 76).toNatClampNeg = 76 from rfl]
    iterate 3 refine hK _ _ _ _ ?_
    refine And.intro (vp_in_nI (n := s) (by omega) (by decide)) ?_
    rw [nI_clamp (show s < 2 ^ 31 by omega)]
    rw [show σ 80 0 s = oI (tlO c s) from e80]
    iterate 4 refine hK _ _ _ _ ?_
    refine And.intro (fun h => ?_) (fun h => ?_)
    · have hn : tlO c s = none := (oI_inj (fun q hq => by have := (hSC.2.2.2 s hs q hq).1; omega)).mp h
      iterate 2 refine hK _ _ _ _ ?_
      exact ⟨by rw [ldC_4 k4, hn]; rfl, rfl⟩
    · obtain ⟨q, hq⟩ : ∃ q, tlO c s = some q := by
        cases hh : tlO c s with
        | none => rw [hh] at h; exact absurd rfl h
        | some q => exact ⟨q, rfl⟩
      have hqP := (hSC.2.2.2 s hs q hq).1
      rw [hq]
      iterate 5 refine hK _ _ _ _ ?_
      refine calD (c0_canLead_54 _ _ c cm kd N P S G D m j B h0 hm q s hqP hs hf) ?_
      rintro r σ' ⟨rfl, hσ⟩
      subst σ'
      refine hK _ _ _ _ ?_
      refine And.intro (fun h2 => ?_) (fun h2 => ?_)
      · have hc := bI_f h2
        iterate 2 refine hK _ _ _ _ ?_
        exact ⟨by rw [ldC_4 k4, hq]; dsimp only; rw [if_neg (by rw [hc]; decide)]; rfl, rfl⟩
      · have hc := bI_t h2
        iterate 3 refine hK _ _ _ _ ?_
        exact ⟨by rw [ldC_4 k4, hq]; dsimp only; rw [if_pos hc]; rfl, rfl⟩
theorem c0_move_54 (d : Nat) (σ c : sMem) (N P S : Nat) (hT : TT σ c 54 N P S) (hM : MC c N P S) (kd : Nat) (hO : CO σ 54 kd) (s : Nat) (hs : s < S) (x z f m w0 : Nat) (hx : x < N) (hz : z < N) (e84 : σ 84 0 s = nI x) (e85 : σ 85 0 s = nI f) (hfm : f ≤ m) (hm : m < 2 ^ 30) (ew : σ 81 0 12 = nI w0) : sMet l D0 b0 ty lay d mX0_move [aR 81, aI (nI s), aI (nI z), aI (nI m)] σ (fun r σ' => r = [] ∧ σ' = mvC σ (w0 + (m - f)) s z (sY c s) (m + fN c x z)) := by
  refine sMet_intro lay_nd kX0_move xX0_ok (by decide +kernel) rfl ?_
  intro K hK
  have hN := hM.1.1.1
  have hS8 := hM.2.2.2.1
  obtain ⟨-, ⟨ey, hy⟩, -⟩ := hM.2.2.2.2.2 s hs
  have g11 := (hT.2.2.2.2.2 s hs).2.1
  have gm := (hT.2.2.2.1 x z hx hz).1
  have hle := (hM.1.1.2.1 x z hx hz).2.1
  iterate 3 refine hK _ _ _ _ ?_
  show K _ _ _ _
  rw [show σ 81 0 12 = nI w0 from ew]
  iterate 5 refine hK _ _ _ _ ?_
  refine And.intro (vp_in_nI (n := s) (by omega) (by decide)) ?_
  rw [nI_clamp (show s < 2 ^ 31 by omega)]
  rw [show σ 85 0 s = nI f from e85]
  iterate 2 refine hK _ _ _ _ ?_
  show K _ _ _ _
  rw [nIm hfm, nIa]
  iterate 7 refine hK _ _ _ _ ?_
  show K _ _ _ _
  rw [sUp_k (by decide), show σ 81 0 0 = nI 54 from hO.1]
  show K _ _ _ _
  rw [show (nI 54).toNatClampNeg = 54 from rfl]
  iterate 6 refine hK _ _ _ _ ?_
  refine And.intro (vp_in_nI (n := s) (by omega) (by decide)) ?_
  rw [nI_clamp (show s < 2 ^ 31 by omega)]
  rw [sUp_off (by decide), show σ 84 0 s = nI x from e84]
  refine hK _ _ _ _ ?_
  refine And.intro (vp_in_nI (n := x) (by omega) (by decide)) ?_
  rw [nI_clamp (show x < 2 ^ 31 by omega)]
  iterate 2 refine hK _ _ _ _ ?_
  refine And.intro (by first | omega | (rw [nI_clamp (by omega)]; omega)) (And.intro (vp_in_nI (n := z) (by omega) (by decide)) ?_)
  rw [nI_clamp (show z < 2 ^ 31 by omega)]
  rw [sUp_off (by decide), show σ 57 x z = nI (fN c x z) from gm]
  refine hK _ _ _ _ ?_
  show K _ _ _ _
  rw [nIa]
  refine hK _ _ _ _ ?_
  refine And.intro (vp_in_nI (n := s) (by omega) (by decide)) ?_
  rw [nI_clamp (show s < 2 ^ 31 by omega)]
  iterate 5 refine hK _ _ _ _ ?_
  refine And.intro (vp_in_nI (n := s) (by omega) (by decide)) ?_
  rw [nI_clamp (show s < 2 ^ 31 by omega)]
  iterate 3 refine hK _ _ _ _ ?_
  show K _ _ _ _
  rw [sUp_off (by decide), sUp_off (by decide), sUp_k (by decide), show σ 81 0 0 = nI 54 from hO.1]
  show K _ _ _ _
  rw [show (nI 54).toNatClampNeg = 54 from rfl]
  iterate 3 refine hK _ _ _ _ ?_
  refine And.intro (vp_in_nI (n := s) (by omega) (by decide)) ?_
  rw [nI_clamp (show s < 2 ^ 31 by omega)]
  rw [sUp_off (by decide), sUp_off (by decide), sUp_off (by decide), show σ 65 0 s = nI (sY c s) from g11]
  refine hK _ _ _ _ ?_
  refine And.intro (fun h => ?_) (fun h => ?_)
  · refine hK _ _ _ _ ?_
    exact ⟨rfl, by unfold mvC; rw [if_neg (fun e => h (by rw [e]))]⟩
  · iterate 7 refine hK _ _ _ _ ?_
    refine And.intro (vp_in_nI (n := s) (by omega) (by decide)) ?_
    rw [nI_clamp (show s < 2 ^ 31 by omega)]
    rw [sUp_off (by decide), sUp_at]
    refine hK _ _ _ _ ?_
    refine And.intro (vp_in_nI (n := s) (by omega) (by decide)) ?_
    rw [nI_clamp (show s < 2 ^ 31 by omega)]
    refine hK _ _ _ _ ?_
    exact ⟨rfl, by unfold mvC; rw [if_pos ((nI_eq (by omega) (by omega)).mp h)]⟩
end
