/-! THE CLASS'S COURSE: a day begins -/
theorem flR_off {σ : sMem} {i j k : Nat} {x : Int32} {a : Nat} (h : a ≠ i) : flR σ i j k x a = σ a := sRow_off h
theorem flR_at {σ : sMem} {i j k n : Nat} {x : Int32} (h : n < k) : flR σ i j k x i j n = x := by
  unfold flR
  rw [sRow_at]
  exact if_pos h
theorem flR_ne {σ : sMem} {i j k b : Nat} {x : Int32} (h : b ≠ j) : flR σ i j k x i b = σ i b := by
  unfold flR
  rw [sRow_ne h]
section
variable {l : Launch} {D0 : va_G} {b0 : Nat} {ty : Nat → ClassId} {ad av : Nat → Nat}
theorem c0_goesOut_36 (d : Nat) (σ c : sMem) (N P S : Nat) (hT : TT σ c 36 N P S) (hM : MC c N P S) (kd : Nat) (hO : CO σ 36 kd) (e7 : σ 76 0 7 = c 0 0 28) (p : Nat) (hp : p < P) : sMet l D0 b0 ty lay (d + 2) mX0_goesOut [aR 81, aI (nI p)] σ (fun r σ' => r = [aI (bI (ouP c p))] ∧ σ' = σ) := by
  refine sMet_intro lay_nd kX0_goesOut xX0_ok (by decide +kernel) rfl ?_
  intro K hK
  have hP := hM.2.2.1
  iterate 3 refine hK _ _ _ _ ?_
  show K _ _ _ _
  rw [show σ 81 0 1 = nI 76 from hO.2.1]
  show K _ _ _ _
  rw [show (nI 76).toNatClampNeg = 76 from rfl]
  refine hK _ _ _ _ ?_
  show K _ _ _ _
  rw [show σ 76 0 7 = c 0 0 28 from e7]
  refine hK _ _ _ _ ?_
  refine And.intro (fun h1 => ?_) (fun h1 => ?_)
  · iterate 2 refine hK _ _ _ _ ?_
    exact ⟨Or.inl rfl, by unfold ouP; rw [decide_eq_true h1]; rfl, rfl⟩
  · iterate 2 refine hK _ _ _ _ ?_
    show K _ _ _ _
    rw [show σ 81 0 0 = nI 36 from hO.1]
    show K _ _ _ _
    rw [show (nI 36).toNatClampNeg = 36 from rfl]
    iterate 2 refine hK _ _ _ _ ?_
    refine calD (t7_goes_36 _ _ c N P S hT hM p hp) ?_
    rintro r σ' ⟨rfl, hσ⟩
    subst σ'
    refine hK _ _ _ _ ?_
    refine And.intro (fun h2 => ?_) (fun h2 => ?_)
    · iterate 2 refine hK _ _ _ _ ?_
      exact ⟨Or.inl rfl, by unfold ouP; rw [bI_f h2, Bool.and_false]; rfl, rfl⟩
    · iterate 3 refine hK _ _ _ _ ?_
      exact ⟨Or.inr rfl, by unfold ouP; rw [bI_t h2, decide_eq_false h1]; rfl, rfl⟩
set_option maxHeartbeats 2000000 in
theorem c0_begin_36 (d : Nat) (σ c : sMem) (cm : Nat → Bool) (kd N P S G : Nat) (hT : TT σ c 36 N P S) (hM : MC c N P S) (hS : SS σ c cm N S G) (hSC : SC c N P S G) (hO : CO σ 36 kd) : yMet l D0 b0 ty ad av lay (d + 3) 0 mX0_begin [aR 81] σ (fun r σ' => r = [] ∧ CE σ' c cm 36 kd N P S G (beA c cm) 0 0 false 0 ∧ ∀ i, i < 81 ∨ 89 < i → σ' i = σ i) (fun _ _ => False) := by
  refine yMet_intro lay_nd kX0_begin xX0_ok (yY0_ok _) (by decide +kernel) rfl ?_
  intro K hK
  have hN := hM.1.1.1
  have hP := hM.2.2.1
  have hS8 := hM.2.2.2.1
  have hG6 := hSC.2.1
  iterate 9 refine hK _ _ _ _ _ ?_
  show K _ _ _ _ (sUp (sUp (sUp σ 81 0 11 (Int32.ofInt 0)) 81 0 12 (Int32.ofInt 0)) 81 0 13 (Int32.ofInt 0))
  have z81 : ∀ k, k < 11 → (sUp (sUp (sUp σ 81 0 11 (Int32.ofInt 0)) 81 0 12 (Int32.ofInt 0)) 81 0 13 (Int32.ofInt 0)) 81 0 k = σ 81 0 k := fun k hk => by rw [sUp_k (by omega), sUp_k (by omega), sUp_k (by omega)]
  have z11 : (sUp (sUp (sUp σ 81 0 11 (Int32.ofInt 0)) 81 0 12 (Int32.ofInt 0)) 81 0 13 (Int32.ofInt 0)) 81 0 11 = nI 0 := by rw [sUp_k (by decide), sUp_k (by decide), sUp_at]; rfl
  have z12 : (sUp (sUp (sUp σ 81 0 11 (Int32.ofInt 0)) 81 0 12 (Int32.ofInt 0)) 81 0 13 (Int32.ofInt 0)) 81 0 12 = nI 0 := by rw [sUp_k (by decide), sUp_at]; rfl
  have z13 : (sUp (sUp (sUp σ 81 0 11 (Int32.ofInt 0)) 81 0 12 (Int32.ofInt 0)) 81 0 13 (Int32.ofInt 0)) 81 0 13 = nI 0 := by rw [sUp_at]; rfl
  have zo : ∀ a, a ≠ 81 → (sUp (sUp (sUp σ 81 0 11 (Int32.ofInt 0)) 81 0 12 (Int32.ofInt 0)) 81 0 13 (Int32.ofInt 0)) a = σ a := fun a ha => by rw [sUp_off ha, sUp_off ha, sUp_off ha]
  generalize (sUp (sUp (sUp σ 81 0 11 (Int32.ofInt 0)) 81 0 12 (Int32.ofInt 0)) 81 0 13 (Int32.ofInt 0)) = z at z81 z11 z12 z13 zo ⊢
  iterate 4 refine hK _ _ _ _ _ ?_
  refine Or.inl (calD (cJ_fill86 _ _ _) ?_)
  rintro r σ' ⟨rfl, rfl⟩
  have y81 : (flR z 86 0 6 (Int32.ofInt 0)) 81 = z 81 := flR_off (by decide)
  have y86 : ∀ g, g < 6 → (flR z 86 0 6 (Int32.ofInt 0)) 86 0 g = nI 0 := fun g hg => (flR_at hg).trans rfl
  have yo : ∀ a, a ≠ 81 → a ≠ 86 → (flR z 86 0 6 (Int32.ofInt 0)) a = σ a := fun a h1 h2 => (flR_off h2).trans (zo a h1)
  generalize (flR z 86 0 6 (Int32.ofInt 0)) = y at y81 y86 yo ⊢
  iterate 2 refine hK _ _ _ _ _ ?_
  have L25 : ∀ (f : Nat) (p : Nat) (μ : sMem), p + f = P → (∀ i, i ≠ 82 → i ≠ 83 → μ i = y i) → (∀ r, r < p → μ 82 0 r = nI (pP c r) ∧ μ 83 0 r = nI (if ouP c r then pT c r else 1000000)) → K 0 25 [some (aR 81), some (aI (nI p))] [] μ := by
    intro f
    induction f with
    | zero =>
      intro p μ hpP hfr h1
      have x81 : ∀ k, k < 11 → μ 81 0 k = σ 81 0 k := fun k hk => by rw [hfr 81 (by decide) (by decide), y81]; exact z81 k hk
      have x76 : μ 76 = σ 76 := (hfr 76 (by decide) (by decide)).trans (yo 76 (by decide) (by decide))
      have hT1 : TT μ c 36 N P S := hT.cg (fun i h1 h2 => (hfr i (by omega) (by omega)).trans (yo i (by omega) (by omega)))
      have hO1 : CO μ 36 kd := ⟨by rw [x81 0 (by omega)]; exact hO.1, by rw [x81 1 (by omega)]; exact hO.2.1, by rw [x81 2 (by omega)]; exact hO.2.2⟩
      have x767 : μ 76 0 7 = c 0 0 28 := by rw [x76]; exact hS.2.2.2.2.2.1
      iterate 3 refine hK _ _ _ _ _ ?_
      show K _ _ _ _ _
      rw [show μ 81 0 0 = nI 36 from hO1.1]
      show K _ _ _ _ _
      rw [show (nI 36).toNatClampNeg = 36 from rfl]
      refine hK _ _ _ _ _ ?_
      show K _ _ _ _ _
      rw [show μ 36 0 1 = nI P from hT1.2.1]
      refine hK _ _ _ _ _ ?_
      refine And.intro (fun _ => ?_) (fun h => absurd ((nI_leI (by omega) (by omega)).mpr (by omega)) h)
      iterate 2 refine hK _ _ _ _ _ ?_
      have L87 : ∀ (f2 : Nat) (s : Nat) (ν : sMem), s + f2 = S → (∀ i, i ≠ 84 → i ≠ 85 → i ≠ 87 → i ≠ 89 → ν i = μ i) → (∀ r, r < s → ν 84 0 r = nI (sX c r) ∧ ν 85 0 r = nI (if cm r then sT c r else 1000000) ∧ ν 87 0 r = -1 ∧ ν 89 0 r = 0) → K 0 87 [some (aR 81), some (aI (nI s))] [] ν := by
        intro f2
        induction f2 with
        | zero =>
          intro s ν hsS hg h2
          have w81 : ν 81 = μ 81 := hg 81 (by decide) (by decide) (by decide) (by decide)
          have hT2 : TT ν c 36 N P S := hT1.cg (fun i h1 h2 => hg i (by omega) (by omega) (by omega) (by omega))
          have hO2 : CO ν 36 kd := ⟨by rw [w81]; exact hO1.1, by rw [w81]; exact hO1.2.1, by rw [w81]; exact hO1.2.2⟩
          have w76 : ν 76 = σ 76 := (hg 76 (by decide) (by decide) (by decide) (by decide)).trans x76
          iterate 3 refine hK _ _ _ _ _ ?_
          show K _ _ _ _ _
          rw [show ν 81 0 0 = nI 36 from hO2.1]
          show K _ _ _ _ _
          rw [show (nI 36).toNatClampNeg = 36 from rfl]
          refine hK _ _ _ _ _ ?_
          show K _ _ _ _ _
          rw [show ν 36 0 7 = nI S from hT2.2.2.1]
          refine hK _ _ _ _ _ ?_
          refine And.intro (fun _ => ?_) (fun h => absurd ((nI_leI (by omega) (by omega)).mpr (by omega)) h)
          refine hK _ _ _ _ _ ?_
          have hfin : ∀ i, i < 81 ∨ 89 < i → ν i = σ i := fun i hi => (hg i (by omega) (by omega) (by omega) (by omega)).trans ((hfr i (by omega) (by omega)).trans (yo i (by omega) (by omega)))
          have v81 : ν 81 = z 81 := w81.trans ((hfr 81 (by decide) (by decide)).trans y81)
          refine ⟨rfl, ⟨hT2, hM, hS.cg (fun i _ _ => hfin i (by omega)), hSC, ⟨hO2, fun r hr => ?_, ⟨fun u hu => ?_, fun g hg9 => ?_, by rw [v81]; exact z13, by rw [v81]; exact z11⟩, 0, by rw [v81]; exact z12, ?_⟩, beA_DV hM⟩, hfin⟩
          · obtain ⟨q1, q2⟩ := h1 r (by omega)
            have w82 := congrFun (congrFun (hg 82 (by decide) (by decide) (by decide) (by decide)) 0) r
            have w83 := congrFun (congrFun (hg 83 (by decide) (by decide) (by decide) (by decide)) 0) r
            refine ⟨fun ho => ⟨0, Nat.zero_le _, fun j hj => absurd hj (Nat.not_lt_zero _), fun h => (by cases h), w82.trans q1, ?_⟩, fun ho => ⟨?_, pP c r, (hM.2.2.2.2.1 r hr).1.2, w82.trans q1⟩⟩
            · rw [w83, q2, ho]; rfl
            · rw [w83, q2, ho]; rfl
          · obtain ⟨q1, q2, q3, q4⟩ := h2 u (by omega)
            exact ⟨q1, q2, q3, q4, fun i w hi => (by cases hi)⟩
          · have w86 := congrFun (congrFun ((hg 86 (by decide) (by decide) (by decide) (by decide)).trans (hfr 86 (by decide) (by decide))) 0) g
            rw [w86]; exact y86 g (by omega)
          · have : ∀ n, peS (beA c cm) 0 0 n = 0 := by
              intro n
              induction n with
              | zero => rfl
              | succ n ih => unfold peS; rw [ih]; show 0 + (if none = none then (if n < 0 then 0 + 1 else 0) - _ else 0) = 0; rw [if_pos rfl, if_neg (Nat.not_lt_zero _), Nat.zero_sub]
            show 0 + peS (beA c cm) 0 0 S = 0
            rw [this]
        | succ f2 ihs =>
          intro s ν hsS hg h2
          have w81 : ν 81 = μ 81 := hg 81 (by decide) (by decide) (by decide) (by decide)
          have hT2 : TT ν c 36 N P S := hT1.cg (fun i h1 h2 => hg i (by omega) (by omega) (by omega) (by omega))
          have hO2 : CO ν 36 kd := ⟨by rw [w81]; exact hO1.1, by rw [w81]; exact hO1.2.1, by rw [w81]; exact hO1.2.2⟩
          have w76 : ν 76 = σ 76 := (hg 76 (by decide) (by decide) (by decide) (by decide)).trans x76
          have k10 := (hT2.2.2.2.2.2 s (by omega)).1
          have k12 := (hT2.2.2.2.2.2 s (by omega)).2.2.1
          have kc : hb (ν 76 0 6) (nI s) = cm s := by rw [w76]; exact hS.2.2.2.2.2.2 s (by omega)
          iterate 3 refine hK _ _ _ _ _ ?_
          show K _ _ _ _ _
          rw [show ν 81 0 0 = nI 36 from hO2.1]
          show K _ _ _ _ _
          rw [show (nI 36).toNatClampNeg = 36 from rfl]
          refine hK _ _ _ _ _ ?_
          show K _ _ _ _ _
          rw [show ν 36 0 7 = nI S from hT2.2.2.1]
          refine hK _ _ _ _ _ ?_
          refine And.intro (fun h => absurd ((nI_leI (by omega) (by omega)).mp h) (by omega)) (fun _ => ?_)
          iterate 5 refine hK _ _ _ _ _ ?_
          show K _ _ _ _ _
          rw [show ν 81 0 0 = nI 36 from hO2.1]
          show K _ _ _ _ _
          rw [show (nI 36).toNatClampNeg = 36 from rfl]
          iterate 3 refine hK _ _ _ _ _ ?_
          refine And.intro (vp_in_nI (n := s) (by omega) (by decide)) ?_
          rw [nI_clamp (show s < 2 ^ 31 by omega)]
          rw [show ν 46 0 s = nI (sX c s) from k10]
          refine hK _ _ _ _ _ ?_
          refine And.intro (vp_in_nI (n := s) (by omega) (by decide)) ?_
          rw [nI_clamp (show s < 2 ^ 31 by omega)]
          iterate 5 refine hK _ _ _ _ _ ?_
          show K _ _ _ _ _
          rw [sUp_off (by decide), show ν 81 0 1 = nI 76 from hO2.2.1]
          show K _ _ _ _ _
          rw [show (nI 76).toNatClampNeg = 76 from rfl]
          refine hK _ _ _ _ _ ?_
          show K _ _ _ _ _
          rw [sUp_off (by decide)]
          iterate 2 refine hK _ _ _ _ _ ?_
          refine calD (c8_hasBit _ _ _ _) ?_
          rintro r σ' ⟨rfl, rfl⟩
          rw [kc]
          refine hK _ _ _ _ _ ?_
          refine And.intro (fun h => ?_) (fun h => ?_)
          · have hc := bI_f h
            iterate 2 refine hK _ _ _ _ _ ?_
            refine And.intro (vp_in_nI (n := s) (by omega) (by decide)) ?_
            rw [nI_clamp (show s < 2 ^ 31 by omega)]
            iterate 5 refine hK _ _ _ _ _ ?_
            refine And.intro (vp_in_nI (n := s) (by omega) (by decide)) ?_
            rw [nI_clamp (show s < 2 ^ 31 by omega)]
            iterate 5 refine hK _ _ _ _ _ ?_
            refine And.intro (vp_in_nI (n := s) (by omega) (by decide)) ?_
            rw [nI_clamp (show s < 2 ^ 31 by omega)]
            refine hK _ _ _ _ _ ?_
            show K _ _ _ _ _
            rw [show nI s + Int32.ofInt 1 = nI (s + 1) from nIs _]
            refine hK _ _ _ _ _ ?_
            refine ihs (s + 1) (sUp (sUp (sUp (sUp ν 84 0 s (nI (sX c s))) 85 0 s (1000000)) 87 0 s (Int32.ofInt (-1))) 89 0 s (Int32.ofInt 0)) (by omega) (fun i h1 h2 h3 h4 => by rw [sUp_off h4, sUp_off h3, sUp_off h2, sUp_off h1]; exact hg i h1 h2 h3 h4) (fun r hr => ?_)
            by_cases e : r = s
            · subst e
              refine ⟨by rw [sUp_off (by decide), sUp_off (by decide), sUp_off (by decide), sUp_at], ?_, by rw [sUp_off (by decide), sUp_at]; rfl, by rw [sUp_at]; rfl⟩
              rw [sUp_off (by decide), sUp_off (by decide), sUp_at, hc]; rfl
            · obtain ⟨q1, q2, q3, q4⟩ := h2 r (by omega)
              exact ⟨by rw [sUp_off (by decide), sUp_off (by decide), sUp_off (by decide), sUp_k e]; exact q1, by rw [sUp_off (by decide), sUp_off (by decide), sUp_k e, sUp_off (by decide)]; exact q2, by rw [sUp_off (by decide), sUp_k e, sUp_off (by decide), sUp_off (by decide)]; exact q3, by rw [sUp_k e, sUp_off (by decide), sUp_off (by decide), sUp_off (by decide)]; exact q4⟩
          · have hc := bI_t h
            iterate 2 refine hK _ _ _ _ _ ?_
            show K _ _ _ _ _
            rw [sUp_off (by decide), show ν 81 0 0 = nI 36 from hO2.1]
            show K _ _ _ _ _
            rw [show (nI 36).toNatClampNeg = 36 from rfl]
            iterate 3 refine hK _ _ _ _ _ ?_
            refine And.intro (vp_in_nI (n := s) (by omega) (by decide)) ?_
            rw [nI_clamp (show s < 2 ^ 31 by omega)]
            rw [sUp_off (by decide), show ν 48 0 s = nI (sT c s) from k12]
            iterate 2 refine hK _ _ _ _ _ ?_
            refine And.intro (vp_in_nI (n := s) (by omega) (by decide)) ?_
            rw [nI_clamp (show s < 2 ^ 31 by omega)]
            iterate 5 refine hK _ _ _ _ _ ?_
            refine And.intro (vp_in_nI (n := s) (by omega) (by decide)) ?_
            rw [nI_clamp (show s < 2 ^ 31 by omega)]
            iterate 5 refine hK _ _ _ _ _ ?_
            refine And.intro (vp_in_nI (n := s) (by omega) (by decide)) ?_
            rw [nI_clamp (show s < 2 ^ 31 by omega)]
            refine hK _ _ _ _ _ ?_
            show K _ _ _ _ _
            rw [show nI s + Int32.ofInt 1 = nI (s + 1) from nIs _]
            refine hK _ _ _ _ _ ?_
            refine ihs (s + 1) (sUp (sUp (sUp (sUp ν 84 0 s (nI (sX c s))) 85 0 s (nI (sT c s))) 87 0 s (Int32.ofInt (-1))) 89 0 s (Int32.ofInt 0)) (by omega) (fun i h1 h2 h3 h4 => by rw [sUp_off h4, sUp_off h3, sUp_off h2, sUp_off h1]; exact hg i h1 h2 h3 h4) (fun r hr => ?_)
            by_cases e : r = s
            · subst e
              refine ⟨by rw [sUp_off (by decide), sUp_off (by decide), sUp_off (by decide), sUp_at], ?_, by rw [sUp_off (by decide), sUp_at]; rfl, by rw [sUp_at]; rfl⟩
              rw [sUp_off (by decide), sUp_off (by decide), sUp_at, hc]; rfl
            · obtain ⟨q1, q2, q3, q4⟩ := h2 r (by omega)
              exact ⟨by rw [sUp_off (by decide), sUp_off (by decide), sUp_off (by decide), sUp_k e]; exact q1, by rw [sUp_off (by decide), sUp_off (by decide), sUp_k e, sUp_off (by decide)]; exact q2, by rw [sUp_off (by decide), sUp_k e, sUp_off (by decide), sUp_off (by decide)]; exact q3, by rw [sUp_k e, sUp_off (by decide), sUp_off (by decide), sUp_off (by decide)]; exact q4⟩
      exact L87 S 0 μ (by omega) (fun _ _ _ _ _ => rfl) (fun r hr => absurd hr (Nat.not_lt_zero _))
    | succ f ih =>
      intro p μ hpP hfr h1
      have x81 : ∀ k, k < 11 → μ 81 0 k = σ 81 0 k := fun k hk => by rw [hfr 81 (by decide) (by decide), y81]; exact z81 k hk
      have x76 : μ 76 = σ 76 := (hfr 76 (by decide) (by decide)).trans (yo 76 (by decide) (by decide))
      have hT1 : TT μ c 36 N P S := hT.cg (fun i h1 h2 => (hfr i (by omega) (by omega)).trans (yo i (by omega) (by omega)))
      have hO1 : CO μ 36 kd := ⟨by rw [x81 0 (by omega)]; exact hO.1, by rw [x81 1 (by omega)]; exact hO.2.1, by rw [x81 2 (by omega)]; exact hO.2.2⟩
      have x767 : μ 76 0 7 = c 0 0 28 := by rw [x76]; exact hS.2.2.2.2.2.1
      have k5 := (hT1.2.2.2.2.1 p (by omega)).1
      have k7 := (hT1.2.2.2.2.1 p (by omega)).2.2.1
      iterate 3 refine hK _ _ _ _ _ ?_
      show K _ _ _ _ _
      rw [show μ 81 0 0 = nI 36 from hO1.1]
      show K _ _ _ _ _
      rw [show (nI 36).toNatClampNeg = 36 from rfl]
      refine hK _ _ _ _ _ ?_
      show K _ _ _ _ _
      rw [show μ 36 0 1 = nI P from hT1.2.1]
      refine hK _ _ _ _ _ ?_
      refine And.intro (fun h => absurd ((nI_leI (by omega) (by omega)).mp h) (by omega)) (fun _ => ?_)
      iterate 5 refine hK _ _ _ _ _ ?_
      show K _ _ _ _ _
      rw [show μ 81 0 0 = nI 36 from hO1.1]
      show K _ _ _ _ _
      rw [show (nI 36).toNatClampNeg = 36 from rfl]
      iterate 3 refine hK _ _ _ _ _ ?_
      refine And.intro (vp_in_nI (n := p) (by omega) (by decide)) ?_
      rw [nI_clamp (show p < 2 ^ 31 by omega)]
      rw [show μ 41 0 p = nI (pP c p) from k5]
      refine hK _ _ _ _ _ ?_
      refine And.intro (vp_in_nI (n := p) (by omega) (by decide)) ?_
      rw [nI_clamp (show p < 2 ^ 31 by omega)]
      iterate 6 refine hK _ _ _ _ _ ?_
      refine Or.inl (calD (c0_goesOut_36 _ (sUp μ 82 0 p (nI (pP c p))) c N P S (hT1.cg (fun i h1 h2 => sUp_off (by omega))) hM kd ⟨(congrFun (congrFun (sUp_off (by decide)) 0) 0).trans hO1.1, (congrFun (congrFun (sUp_off (by decide)) 0) 1).trans hO1.2.1, (congrFun (congrFun (sUp_off (by decide)) 0) 2).trans hO1.2.2⟩ ((congrFun (congrFun (sUp_off (by decide)) 0) 7).trans x767) p (by omega)) ?_)
      rintro r σ' ⟨rfl, rfl⟩
      refine hK _ _ _ _ _ ?_
      refine And.intro (fun h => ?_) (fun h => ?_)
      · have ho := bI_f h
        iterate 2 refine hK _ _ _ _ _ ?_
        refine And.intro (vp_in_nI (n := p) (by omega) (by decide)) ?_
        rw [nI_clamp (show p < 2 ^ 31 by omega)]
        refine hK _ _ _ _ _ ?_
        show K _ _ _ _ _
        rw [show nI p + Int32.ofInt 1 = nI (p + 1) from nIs _]
        refine hK _ _ _ _ _ ?_
        refine ih (p + 1) (sUp (sUp μ 82 0 p (nI (pP c p))) 83 0 p (1000000)) (by omega) (fun i h1 h2 => by rw [sUp_off h2, sUp_off h1]; exact hfr i h1 h2) (fun r hr => ?_)
        by_cases e : r = p
        · subst e
          refine ⟨by rw [sUp_off (by decide), sUp_at], ?_⟩
          rw [sUp_at, ho]; rfl
        · obtain ⟨q1, q2⟩ := h1 r (by omega)
          exact ⟨by rw [sUp_off (by decide), sUp_k e]; exact q1, by rw [sUp_k e, sUp_off (by decide)]; exact q2⟩
      · have ho := bI_t h
        iterate 2 refine hK _ _ _ _ _ ?_
        show K _ _ _ _ _
        rw [sUp_off (by decide), show μ 81 0 0 = nI 36 from hO1.1]
        show K _ _ _ _ _
        rw [show (nI 36).toNatClampNeg = 36 from rfl]
        iterate 3 refine hK _ _ _ _ _ ?_
        refine And.intro (vp_in_nI (n := p) (by omega) (by decide)) ?_
        rw [nI_clamp (show p < 2 ^ 31 by omega)]
        rw [sUp_off (by decide), show μ 43 0 p = nI (pT c p) from k7]
        iterate 2 refine hK _ _ _ _ _ ?_
        refine And.intro (vp_in_nI (n := p) (by omega) (by decide)) ?_
        rw [nI_clamp (show p < 2 ^ 31 by omega)]
        refine hK _ _ _ _ _ ?_
        show K _ _ _ _ _
        rw [show nI p + Int32.ofInt 1 = nI (p + 1) from nIs _]
        refine hK _ _ _ _ _ ?_
        refine ih (p + 1) (sUp (sUp μ 82 0 p (nI (pP c p))) 83 0 p (nI (pT c p))) (by omega) (fun i h1 h2 => by rw [sUp_off h2, sUp_off h1]; exact hfr i h1 h2) (fun r hr => ?_)
        by_cases e : r = p
        · subst e
          refine ⟨by rw [sUp_off (by decide), sUp_at], ?_⟩
          rw [sUp_at, ho]; rfl
        · obtain ⟨q1, q2⟩ := h1 r (by omega)
          exact ⟨by rw [sUp_off (by decide), sUp_k e]; exact q1, by rw [sUp_k e, sUp_off (by decide)]; exact q2⟩
  exact L25 P 0 y (by omega) (fun _ _ _ => rfl) (fun r hr => absurd hr (Nat.not_lt_zero _))
theorem c0_goesOut_54 (d : Nat) (σ c : sMem) (N P S : Nat) (hT : TT σ c 54 N P S) (hM : MC c N P S) (kd : Nat) (hO : CO σ 54 kd) (e7 : σ 76 0 7 = c 0 0 28) (p : Nat) (hp : p < P) : sMet l D0 b0 ty lay (d + 2) mX0_goesOut [aR 81, aI (nI p)] σ (fun r σ' => r = [aI (bI (ouP c p))] ∧ σ' = σ) := by
  refine sMet_intro lay_nd kX0_goesOut xX0_ok (by decide +kernel) rfl ?_
  intro K hK
  have hP := hM.2.2.1
  iterate 3 refine hK _ _ _ _ ?_
  show K _ _ _ _
  rw [show σ 81 0 1 = nI 76 from hO.2.1]
  show K _ _ _ _
  rw [show (nI 76).toNatClampNeg = 76 from rfl]
  refine hK _ _ _ _ ?_
  show K _ _ _ _
  rw [show σ 76 0 7 = c 0 0 28 from e7]
  refine hK _ _ _ _ ?_
  refine And.intro (fun h1 => ?_) (fun h1 => ?_)
  · iterate 2 refine hK _ _ _ _ ?_
    exact ⟨Or.inl rfl, by unfold ouP; rw [decide_eq_true h1]; rfl, rfl⟩
  · iterate 2 refine hK _ _ _ _ ?_
    show K _ _ _ _
    rw [show σ 81 0 0 = nI 54 from hO.1]
    show K _ _ _ _
    rw [show (nI 54).toNatClampNeg = 54 from rfl]
    iterate 2 refine hK _ _ _ _ ?_
    refine calD (t7_goes_54 _ _ c N P S hT hM p hp) ?_
    rintro r σ' ⟨rfl, hσ⟩
    subst σ'
    refine hK _ _ _ _ ?_
    refine And.intro (fun h2 => ?_) (fun h2 => ?_)
    · iterate 2 refine hK _ _ _ _ ?_
      exact ⟨Or.inl rfl, by unfold ouP; rw [bI_f h2, Bool.and_false]; rfl, rfl⟩
    · iterate 3 refine hK _ _ _ _ ?_
      exact ⟨Or.inr rfl, by unfold ouP; rw [bI_t h2, decide_eq_false h1]; rfl, rfl⟩
set_option maxHeartbeats 2000000 in
theorem c0_begin_54 (d : Nat) (σ c : sMem) (cm : Nat → Bool) (kd N P S G : Nat) (hT : TT σ c 54 N P S) (hM : MC c N P S) (hS : SS σ c cm N S G) (hSC : SC c N P S G) (hO : CO σ 54 kd) : yMet l D0 b0 ty ad av lay (d + 3) 0 mX0_begin [aR 81] σ (fun r σ' => r = [] ∧ CE σ' c cm 54 kd N P S G (beA c cm) 0 0 false 0 ∧ ∀ i, i < 81 ∨ 89 < i → σ' i = σ i) (fun _ _ => False) := by
  refine yMet_intro lay_nd kX0_begin xX0_ok (yY0_ok _) (by decide +kernel) rfl ?_
  intro K hK
  have hN := hM.1.1.1
  have hP := hM.2.2.1
  have hS8 := hM.2.2.2.1
  have hG6 := hSC.2.1
  iterate 9 refine hK _ _ _ _ _ ?_
  show K _ _ _ _ (sUp (sUp (sUp σ 81 0 11 (Int32.ofInt 0)) 81 0 12 (Int32.ofInt 0)) 81 0 13 (Int32.ofInt 0))
  have z81 : ∀ k, k < 11 → (sUp (sUp (sUp σ 81 0 11 (Int32.ofInt 0)) 81 0 12 (Int32.ofInt 0)) 81 0 13 (Int32.ofInt 0)) 81 0 k = σ 81 0 k := fun k hk => by rw [sUp_k (by omega), sUp_k (by omega), sUp_k (by omega)]
  have z11 : (sUp (sUp (sUp σ 81 0 11 (Int32.ofInt 0)) 81 0 12 (Int32.ofInt 0)) 81 0 13 (Int32.ofInt 0)) 81 0 11 = nI 0 := by rw [sUp_k (by decide), sUp_k (by decide), sUp_at]; rfl
  have z12 : (sUp (sUp (sUp σ 81 0 11 (Int32.ofInt 0)) 81 0 12 (Int32.ofInt 0)) 81 0 13 (Int32.ofInt 0)) 81 0 12 = nI 0 := by rw [sUp_k (by decide), sUp_at]; rfl
  have z13 : (sUp (sUp (sUp σ 81 0 11 (Int32.ofInt 0)) 81 0 12 (Int32.ofInt 0)) 81 0 13 (Int32.ofInt 0)) 81 0 13 = nI 0 := by rw [sUp_at]; rfl
  have zo : ∀ a, a ≠ 81 → (sUp (sUp (sUp σ 81 0 11 (Int32.ofInt 0)) 81 0 12 (Int32.ofInt 0)) 81 0 13 (Int32.ofInt 0)) a = σ a := fun a ha => by rw [sUp_off ha, sUp_off ha, sUp_off ha]
  generalize (sUp (sUp (sUp σ 81 0 11 (Int32.ofInt 0)) 81 0 12 (Int32.ofInt 0)) 81 0 13 (Int32.ofInt 0)) = z at z81 z11 z12 z13 zo ⊢
  iterate 4 refine hK _ _ _ _ _ ?_
  refine Or.inl (calD (cJ_fill86 _ _ _) ?_)
  rintro r σ' ⟨rfl, rfl⟩
  have y81 : (flR z 86 0 6 (Int32.ofInt 0)) 81 = z 81 := flR_off (by decide)
  have y86 : ∀ g, g < 6 → (flR z 86 0 6 (Int32.ofInt 0)) 86 0 g = nI 0 := fun g hg => (flR_at hg).trans rfl
  have yo : ∀ a, a ≠ 81 → a ≠ 86 → (flR z 86 0 6 (Int32.ofInt 0)) a = σ a := fun a h1 h2 => (flR_off h2).trans (zo a h1)
  generalize (flR z 86 0 6 (Int32.ofInt 0)) = y at y81 y86 yo ⊢
  iterate 2 refine hK _ _ _ _ _ ?_
  have L25 : ∀ (f : Nat) (p : Nat) (μ : sMem), p + f = P → (∀ i, i ≠ 82 → i ≠ 83 → μ i = y i) → (∀ r, r < p → μ 82 0 r = nI (pP c r) ∧ μ 83 0 r = nI (if ouP c r then pT c r else 1000000)) → K 0 25 [some (aR 81), some (aI (nI p))] [] μ := by
    intro f
    induction f with
    | zero =>
      intro p μ hpP hfr h1
      have x81 : ∀ k, k < 11 → μ 81 0 k = σ 81 0 k := fun k hk => by rw [hfr 81 (by decide) (by decide), y81]; exact z81 k hk
      have x76 : μ 76 = σ 76 := (hfr 76 (by decide) (by decide)).trans (yo 76 (by decide) (by decide))
      have hT1 : TT μ c 54 N P S := hT.cg (fun i h1 h2 => (hfr i (by omega) (by omega)).trans (yo i (by omega) (by omega)))
      have hO1 : CO μ 54 kd := ⟨by rw [x81 0 (by omega)]; exact hO.1, by rw [x81 1 (by omega)]; exact hO.2.1, by rw [x81 2 (by omega)]; exact hO.2.2⟩
      have x767 : μ 76 0 7 = c 0 0 28 := by rw [x76]; exact hS.2.2.2.2.2.1
      iterate 3 refine hK _ _ _ _ _ ?_
      show K _ _ _ _ _
      rw [show μ 81 0 0 = nI 54 from hO1.1]
      show K _ _ _ _ _
      rw [show (nI 54).toNatClampNeg = 54 from rfl]
      refine hK _ _ _ _ _ ?_
      show K _ _ _ _ _
      rw [show μ 54 0 1 = nI P from hT1.2.1]
      refine hK _ _ _ _ _ ?_
      refine And.intro (fun _ => ?_) (fun h => absurd ((nI_leI (by omega) (by omega)).mpr (by omega)) h)
      iterate 2 refine hK _ _ _ _ _ ?_
      have L87 : ∀ (f2 : Nat) (s : Nat) (ν : sMem), s + f2 = S → (∀ i, i ≠ 84 → i ≠ 85 → i ≠ 87 → i ≠ 89 → ν i = μ i) → (∀ r, r < s → ν 84 0 r = nI (sX c r) ∧ ν 85 0 r = nI (if cm r then sT c r else 1000000) ∧ ν 87 0 r = -1 ∧ ν 89 0 r = 0) → K 0 87 [some (aR 81), some (aI (nI s))] [] ν := by
        intro f2
        induction f2 with
        | zero =>
          intro s ν hsS hg h2
          have w81 : ν 81 = μ 81 := hg 81 (by decide) (by decide) (by decide) (by decide)
          have hT2 : TT ν c 54 N P S := hT1.cg (fun i h1 h2 => hg i (by omega) (by omega) (by omega) (by omega))
          have hO2 : CO ν 54 kd := ⟨by rw [w81]; exact hO1.1, by rw [w81]; exact hO1.2.1, by rw [w81]; exact hO1.2.2⟩
          have w76 : ν 76 = σ 76 := (hg 76 (by decide) (by decide) (by decide) (by decide)).trans x76
          iterate 3 refine hK _ _ _ _ _ ?_
          show K _ _ _ _ _
          rw [show ν 81 0 0 = nI 54 from hO2.1]
          show K _ _ _ _ _
          rw [show (nI 54).toNatClampNeg = 54 from rfl]
          refine hK _ _ _ _ _ ?_
          show K _ _ _ _ _
          rw [show ν 54 0 7 = nI S from hT2.2.2.1]
          refine hK _ _ _ _ _ ?_
          refine And.intro (fun _ => ?_) (fun h => absurd ((nI_leI (by omega) (by omega)).mpr (by omega)) h)
          refine hK _ _ _ _ _ ?_
          have hfin : ∀ i, i < 81 ∨ 89 < i → ν i = σ i := fun i hi => (hg i (by omega) (by omega) (by omega) (by omega)).trans ((hfr i (by omega) (by omega)).trans (yo i (by omega) (by omega)))
          have v81 : ν 81 = z 81 := w81.trans ((hfr 81 (by decide) (by decide)).trans y81)
          refine ⟨rfl, ⟨hT2, hM, hS.cg (fun i _ _ => hfin i (by omega)), hSC, ⟨hO2, fun r hr => ?_, ⟨fun u hu => ?_, fun g hg9 => ?_, by rw [v81]; exact z13, by rw [v81]; exact z11⟩, 0, by rw [v81]; exact z12, ?_⟩, beA_DV hM⟩, hfin⟩
          · obtain ⟨q1, q2⟩ := h1 r (by omega)
            have w82 := congrFun (congrFun (hg 82 (by decide) (by decide) (by decide) (by decide)) 0) r
            have w83 := congrFun (congrFun (hg 83 (by decide) (by decide) (by decide) (by decide)) 0) r
            refine ⟨fun ho => ⟨0, Nat.zero_le _, fun j hj => absurd hj (Nat.not_lt_zero _), fun h => (by cases h), w82.trans q1, ?_⟩, fun ho => ⟨?_, pP c r, (hM.2.2.2.2.1 r hr).1.2, w82.trans q1⟩⟩
            · rw [w83, q2, ho]; rfl
            · rw [w83, q2, ho]; rfl
          · obtain ⟨q1, q2, q3, q4⟩ := h2 u (by omega)
            exact ⟨q1, q2, q3, q4, fun i w hi => (by cases hi)⟩
          · have w86 := congrFun (congrFun ((hg 86 (by decide) (by decide) (by decide) (by decide)).trans (hfr 86 (by decide) (by decide))) 0) g
            rw [w86]; exact y86 g (by omega)
          · have : ∀ n, peS (beA c cm) 0 0 n = 0 := by
              intro n
              induction n with
              | zero => rfl
              | succ n ih => unfold peS; rw [ih]; show 0 + (if none = none then (if n < 0 then 0 + 1 else 0) - _ else 0) = 0; rw [if_pos rfl, if_neg (Nat.not_lt_zero _), Nat.zero_sub]
            show 0 + peS (beA c cm) 0 0 S = 0
            rw [this]
        | succ f2 ihs =>
          intro s ν hsS hg h2
          have w81 : ν 81 = μ 81 := hg 81 (by decide) (by decide) (by decide) (by decide)
          have hT2 : TT ν c 54 N P S := hT1.cg (fun i h1 h2 => hg i (by omega) (by omega) (by omega) (by omega))
          have hO2 : CO ν 54 kd := ⟨by rw [w81]; exact hO1.1, by rw [w81]; exact hO1.2.1, by rw [w81]; exact hO1.2.2⟩
          have w76 : ν 76 = σ 76 := (hg 76 (by decide) (by decide) (by decide) (by decide)).trans x76
          have k10 := (hT2.2.2.2.2.2 s (by omega)).1
          have k12 := (hT2.2.2.2.2.2 s (by omega)).2.2.1
          have kc : hb (ν 76 0 6) (nI s) = cm s := by rw [w76]; exact hS.2.2.2.2.2.2 s (by omega)
          iterate 3 refine hK _ _ _ _ _ ?_
          show K _ _ _ _ _
          rw [show ν 81 0 0 = nI 54 from hO2.1]
          show K _ _ _ _ _
          rw [show (nI 54).toNatClampNeg = 54 from rfl]
          refine hK _ _ _ _ _ ?_
          show K _ _ _ _ _
          rw [show ν 54 0 7 = nI S from hT2.2.2.1]
          refine hK _ _ _ _ _ ?_
          refine And.intro (fun h => absurd ((nI_leI (by omega) (by omega)).mp h) (by omega)) (fun _ => ?_)
          iterate 5 refine hK _ _ _ _ _ ?_
          show K _ _ _ _ _
          rw [show ν 81 0 0 = nI 54 from hO2.1]
          show K _ _ _ _ _
          rw [show (nI 54).toNatClampNeg = 54 from rfl]
          iterate 3 refine hK _ _ _ _ _ ?_
          refine And.intro (vp_in_nI (n := s) (by omega) (by decide)) ?_
          rw [nI_clamp (show s < 2 ^ 31 by omega)]
          rw [show ν 64 0 s = nI (sX c s) from k10]
          refine hK _ _ _ _ _ ?_
          refine And.intro (vp_in_nI (n := s) (by omega) (by decide)) ?_
          rw [nI_clamp (show s < 2 ^ 31 by omega)]
          iterate 5 refine hK _ _ _ _ _ ?_
          show K _ _ _ _ _
          rw [sUp_off (by decide), show ν 81 0 1 = nI 76 from hO2.2.1]
          show K _ _ _ _ _
          rw [show (nI 76).toNatClampNeg = 76 from rfl]
          refine hK _ _ _ _ _ ?_
          show K _ _ _ _ _
          rw [sUp_off (by decide)]
          iterate 2 refine hK _ _ _ _ _ ?_
          refine calD (c8_hasBit _ _ _ _) ?_
          rintro r σ' ⟨rfl, rfl⟩
          rw [kc]
          refine hK _ _ _ _ _ ?_
          refine And.intro (fun h => ?_) (fun h => ?_)
          · have hc := bI_f h
            iterate 2 refine hK _ _ _ _ _ ?_
            refine And.intro (vp_in_nI (n := s) (by omega) (by decide)) ?_
            rw [nI_clamp (show s < 2 ^ 31 by omega)]
            iterate 5 refine hK _ _ _ _ _ ?_
            refine And.intro (vp_in_nI (n := s) (by omega) (by decide)) ?_
            rw [nI_clamp (show s < 2 ^ 31 by omega)]
            iterate 5 refine hK _ _ _ _ _ ?_
            refine And.intro (vp_in_nI (n := s) (by omega) (by decide)) ?_
            rw [nI_clamp (show s < 2 ^ 31 by omega)]
            refine hK _ _ _ _ _ ?_
            show K _ _ _ _ _
            rw [show nI s + Int32.ofInt 1 = nI (s + 1) from nIs _]
            refine hK _ _ _ _ _ ?_
            refine ihs (s + 1) (sUp (sUp (sUp (sUp ν 84 0 s (nI (sX c s))) 85 0 s (1000000)) 87 0 s (Int32.ofInt (-1))) 89 0 s (Int32.ofInt 0)) (by omega) (fun i h1 h2 h3 h4 => by rw [sUp_off h4, sUp_off h3, sUp_off h2, sUp_off h1]; exact hg i h1 h2 h3 h4) (fun r hr => ?_)
            by_cases e : r = s
            · subst e
              refine ⟨by rw [sUp_off (by decide), sUp_off (by decide), sUp_off (by decide), sUp_at], ?_, by rw [sUp_off (by decide), sUp_at]; rfl, by rw [sUp_at]; rfl⟩
              rw [sUp_off (by decide), sUp_off (by decide), sUp_at, hc]; rfl
            · obtain ⟨q1, q2, q3, q4⟩ := h2 r (by omega)
              exact ⟨by rw [sUp_off (by decide), sUp_off (by decide), sUp_off (by decide), sUp_k e]; exact q1, by rw [sUp_off (by decide), sUp_off (by decide), sUp_k e, sUp_off (by decide)]; exact q2, by rw [sUp_off (by decide), sUp_k e, sUp_off (by decide), sUp_off (by decide)]; exact q3, by rw [sUp_k e, sUp_off (by decide), sUp_off (by decide), sUp_off (by decide)]; exact q4⟩
          · have hc := bI_t h
            iterate 2 refine hK _ _ _ _ _ ?_
            show K _ _ _ _ _
            rw [sUp_off (by decide), show ν 81 0 0 = nI 54 from hO2.1]
            show K _ _ _ _ _
            rw [show (nI 54).toNatClampNeg = 54 from rfl]
            iterate 3 refine hK _ _ _ _ _ ?_
            refine And.intro (vp_in_nI (n := s) (by omega) (by decide)) ?_
            rw [nI_clamp (show s < 2 ^ 31 by omega)]
            rw [sUp_off (by decide), show ν 66 0 s = nI (sT c s) from k12]
            iterate 2 refine hK _ _ _ _ _ ?_
            refine And.intro (vp_in_nI (n := s) (by omega) (by decide)) ?_
            rw [nI_clamp (show s < 2 ^ 31 by omega)]
            iterate 5 refine hK _ _ _ _ _ ?_
            refine And.intro (vp_in_nI (n := s) (by omega) (by decide)) ?_
            rw [nI_clamp (show s < 2 ^ 31 by omega)]
            iterate 5 refine hK _ _ _ _ _ ?_
            refine And.intro (vp_in_nI (n := s) (by omega) (by decide)) ?_
            rw [nI_clamp (show s < 2 ^ 31 by omega)]
            refine hK _ _ _ _ _ ?_
            show K _ _ _ _ _
            rw [show nI s + Int32.ofInt 1 = nI (s + 1) from nIs _]
            refine hK _ _ _ _ _ ?_
            refine ihs (s + 1) (sUp (sUp (sUp (sUp ν 84 0 s (nI (sX c s))) 85 0 s (nI (sT c s))) 87 0 s (Int32.ofInt (-1))) 89 0 s (Int32.ofInt 0)) (by omega) (fun i h1 h2 h3 h4 => by rw [sUp_off h4, sUp_off h3, sUp_off h2, sUp_off h1]; exact hg i h1 h2 h3 h4) (fun r hr => ?_)
            by_cases e : r = s
            · subst e
              refine ⟨by rw [sUp_off (by decide), sUp_off (by decide), sUp_off (by decide), sUp_at], ?_, by rw [sUp_off (by decide), sUp_at]; rfl, by rw [sUp_at]; rfl⟩
              rw [sUp_off (by decide), sUp_off (by decide), sUp_at, hc]; rfl
            · obtain ⟨q1, q2, q3, q4⟩ := h2 r (by omega)
              exact ⟨by rw [sUp_off (by decide), sUp_off (by decide), sUp_off (by decide), sUp_k e]; exact q1, by rw [sUp_off (by decide), sUp_off (by decide), sUp_k e, sUp_off (by decide)]; exact q2, by rw [sUp_off (by decide), sUp_k e, sUp_off (by decide), sUp_off (by decide)]; exact q3, by rw [sUp_k e, sUp_off (by decide), sUp_off (by decide), sUp_off (by decide)]; exact q4⟩
      exact L87 S 0 μ (by omega) (fun _ _ _ _ _ => rfl) (fun r hr => absurd hr (Nat.not_lt_zero _))
    | succ f ih =>
      intro p μ hpP hfr h1
      have x81 : ∀ k, k < 11 → μ 81 0 k = σ 81 0 k := fun k hk => by rw [hfr 81 (by decide) (by decide), y81]; exact z81 k hk
      have x76 : μ 76 = σ 76 := (hfr 76 (by decide) (by decide)).trans (yo 76 (by decide) (by decide))
      have hT1 : TT μ c 54 N P S := hT.cg (fun i h1 h2 => (hfr i (by omega) (by omega)).trans (yo i (by omega) (by omega)))
      have hO1 : CO μ 54 kd := ⟨by rw [x81 0 (by omega)]; exact hO.1, by rw [x81 1 (by omega)]; exact hO.2.1, by rw [x81 2 (by omega)]; exact hO.2.2⟩
      have x767 : μ 76 0 7 = c 0 0 28 := by rw [x76]; exact hS.2.2.2.2.2.1
      have k5 := (hT1.2.2.2.2.1 p (by omega)).1
      have k7 := (hT1.2.2.2.2.1 p (by omega)).2.2.1
      iterate 3 refine hK _ _ _ _ _ ?_
      show K _ _ _ _ _
      rw [show μ 81 0 0 = nI 54 from hO1.1]
      show K _ _ _ _ _
      rw [show (nI 54).toNatClampNeg = 54 from rfl]
      refine hK _ _ _ _ _ ?_
      show K _ _ _ _ _
      rw [show μ 54 0 1 = nI P from hT1.2.1]
      refine hK _ _ _ _ _ ?_
      refine And.intro (fun h => absurd ((nI_leI (by omega) (by omega)).mp h) (by omega)) (fun _ => ?_)
      iterate 5 refine hK _ _ _ _ _ ?_
      show K _ _ _ _ _
      rw [show μ 81 0 0 = nI 54 from hO1.1]
      show K _ _ _ _ _
      rw [show (nI 54).toNatClampNeg = 54 from rfl]
      iterate 3 refine hK _ _ _ _ _ ?_
      refine And.intro (vp_in_nI (n := p) (by omega) (by decide)) ?_
      rw [nI_clamp (show p < 2 ^ 31 by omega)]
      rw [show μ 59 0 p = nI (pP c p) from k5]
      refine hK _ _ _ _ _ ?_
      refine And.intro (vp_in_nI (n := p) (by omega) (by decide)) ?_
      rw [nI_clamp (show p < 2 ^ 31 by omega)]
      iterate 6 refine hK _ _ _ _ _ ?_
      refine Or.inl (calD (c0_goesOut_54 _ (sUp μ 82 0 p (nI (pP c p))) c N P S (hT1.cg (fun i h1 h2 => sUp_off (by omega))) hM kd ⟨(congrFun (congrFun (sUp_off (by decide)) 0) 0).trans hO1.1, (congrFun (congrFun (sUp_off (by decide)) 0) 1).trans hO1.2.1, (congrFun (congrFun (sUp_off (by decide)) 0) 2).trans hO1.2.2⟩ ((congrFun (congrFun (sUp_off (by decide)) 0) 7).trans x767) p (by omega)) ?_)
      rintro r σ' ⟨rfl, rfl⟩
      refine hK _ _ _ _ _ ?_
      refine And.intro (fun h => ?_) (fun h => ?_)
      · have ho := bI_f h
        iterate 2 refine hK _ _ _ _ _ ?_
        refine And.intro (vp_in_nI (n := p) (by omega) (by decide)) ?_
        rw [nI_clamp (show p < 2 ^ 31 by omega)]
        refine hK _ _ _ _ _ ?_
        show K _ _ _ _ _
        rw [show nI p + Int32.ofInt 1 = nI (p + 1) from nIs _]
        refine hK _ _ _ _ _ ?_
        refine ih (p + 1) (sUp (sUp μ 82 0 p (nI (pP c p))) 83 0 p (1000000)) (by omega) (fun i h1 h2 => by rw [sUp_off h2, sUp_off h1]; exact hfr i h1 h2) (fun r hr => ?_)
        by_cases e : r = p
        · subst e
          refine ⟨by rw [sUp_off (by decide), sUp_at], ?_⟩
          rw [sUp_at, ho]; rfl
        · obtain ⟨q1, q2⟩ := h1 r (by omega)
          exact ⟨by rw [sUp_off (by decide), sUp_k e]; exact q1, by rw [sUp_k e, sUp_off (by decide)]; exact q2⟩
      · have ho := bI_t h
        iterate 2 refine hK _ _ _ _ _ ?_
        show K _ _ _ _ _
        rw [sUp_off (by decide), show μ 81 0 0 = nI 54 from hO1.1]
        show K _ _ _ _ _
        rw [show (nI 54).toNatClampNeg = 54 from rfl]
        iterate 3 refine hK _ _ _ _ _ ?_
        refine And.intro (vp_in_nI (n := p) (by omega) (by decide)) ?_
        rw [nI_clamp (show p < 2 ^ 31 by omega)]
        rw [sUp_off (by decide), show μ 61 0 p = nI (pT c p) from k7]
        iterate 2 refine hK _ _ _ _ _ ?_
        refine And.intro (vp_in_nI (n := p) (by omega) (by decide)) ?_
        rw [nI_clamp (show p < 2 ^ 31 by omega)]
        refine hK _ _ _ _ _ ?_
        show K _ _ _ _ _
        rw [show nI p + Int32.ofInt 1 = nI (p + 1) from nIs _]
        refine hK _ _ _ _ _ ?_
        refine ih (p + 1) (sUp (sUp μ 82 0 p (nI (pP c p))) 83 0 p (nI (pT c p))) (by omega) (fun i h1 h2 => by rw [sUp_off h2, sUp_off h1]; exact hfr i h1 h2) (fun r hr => ?_)
        by_cases e : r = p
        · subst e
          refine ⟨by rw [sUp_off (by decide), sUp_at], ?_⟩
          rw [sUp_at, ho]; rfl
        · obtain ⟨q1, q2⟩ := h1 r (by omega)
          exact ⟨by rw [sUp_off (by decide), sUp_k e]; exact q1, by rw [sUp_k e, sUp_off (by decide)]; exact q2⟩
  exact L25 P 0 y (by omega) (fun _ _ _ => rfl) (fun r hr => absurd hr (Nat.not_lt_zero _))
end
