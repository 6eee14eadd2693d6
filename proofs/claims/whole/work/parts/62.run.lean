/-! THE CLASS'S COURSE: a day -/
section
variable {l : Launch} {D0 : va_G} {b0 : Nat} {ty : Nat → ClassId} {ad av : Nat → Nat}
set_option maxHeartbeats 2000000 in
theorem c0_run_36 (d : Nat) (σ c : sMem) (cm : Nat → Bool) (kd N P S G : Nat) (hT : TT σ c 36 N P S) (hM : MC c N P S) (hS : SS σ c cm N S G) (hSC : SC c N P S G) (hk : kd ≤ 4) : yMet l D0 b0 ty ad av lay (d + 4) 0 mX0_run [aR 81, aR 36, aR 76, aI (nI kd)] σ (fun r σ' => r = [] ∧ CF σ' c 36 kd N P S G (daA c cm P G S kd) ∧ ∀ i, i < 81 ∨ 89 < i → σ' i = σ i) (fun _ _ => False) := by
  refine yMet_intro lay_nd kX0_run xX0_ok (yY0_ok _) (by decide +kernel) rfl ?_
  intro K hK
  have hS8 := hM.2.2.2.1
  have hN := hM.1.1.1
  iterate 3 refine hK _ _ _ _ _ ?_
  refine And.intro (by decide) ?_
  iterate 3 refine hK _ _ _ _ _ ?_
  refine And.intro (by decide) ?_
  iterate 3 refine hK _ _ _ _ _ ?_
  show K _ _ _ _ (sUp (sUp (sUp σ 81 0 0 (nI 36)) 81 0 1 (nI 76)) 81 0 2 (nI kd))
  have hO0 : CO (sUp (sUp (sUp σ 81 0 0 (nI 36)) 81 0 1 (nI 76)) 81 0 2 (nI kd)) 36 kd := ⟨by rw [sUp_k (by decide), sUp_k (by decide), sUp_at], by rw [sUp_k (by decide), sUp_at], by rw [sUp_at]⟩
  have zo : ∀ a, a ≠ 81 → (sUp (sUp (sUp σ 81 0 0 (nI 36)) 81 0 1 (nI 76)) 81 0 2 (nI kd)) a = σ a := fun a ha => by rw [sUp_off ha, sUp_off ha, sUp_off ha]
  generalize (sUp (sUp (sUp σ 81 0 0 (nI 36)) 81 0 1 (nI 76)) 81 0 2 (nI kd)) = z at hO0 zo ⊢
  have hT0 : TT z c 36 N P S := hT.cg (fun i _ _ => zo i (by omega))
  have hS0 : SS z c cm N S G := hS.cg (fun i _ _ => zo i (by omega))
  iterate 2 refine hK _ _ _ _ _ ?_
  refine Or.inr (Or.inl (yD0 (c0_begin_36 _ z c cm kd N P S G hT0 hM hS0 hSC hO0) ?_))
  rintro r y ⟨rfl, hE0, hfy⟩
  iterate 2 refine hK _ _ _ _ _ ?_
  have L22 : ∀ (f : Nat) (M : Nat) (μ : sMem) (e5 : Option AV), 1000 ≤ min M 1000 + f → M ≤ 1000000 → CE μ c cm 36 kd N P S G (forG (dmA c P G S kd) (beA c cm) (min M 1000)) (min M 1000) 0 false (min M 1000 * S) → (∀ i, i < 81 ∨ 89 < i → μ i = y i) → K 0 22 [some (aR 81), some (aR 36), some (aR 76), some (aI (nI kd)), some (aI (nI M)), e5] [] μ := by
    intro f
    induction f with
    | zero =>
      intro M μ e5 hMf hM6 hE hfr
      have hM0 : 1000 ≤ M := by omega
      have hE9 := hE
      rw [show min M 1000 = 1000 by omega] at hE9
      iterate 3 refine hK _ _ _ _ _ ?_
      refine And.intro (fun _ => ?_) (fun h => absurd ((nI_ltI (a := 999) (by decide) (by omega)).mpr (by omega)) h)
      iterate 2 refine hK _ _ _ _ _ ?_
      refine Or.inl (calD (c0_count_36 _ _ c cm kd N P S G _ _ hE9) ?_)
      rintro r ω ⟨rfl, hF, hfo⟩
      refine hK _ _ _ _ _ ?_
      exact ⟨rfl, hF, fun i hi => (hfo i (by omega)).trans ((hfr i hi).trans ((hfy i hi).trans (zo i (by omega))))⟩
    | succ f ih =>
      intro M μ e5 hMf hM6 hE hfr
      rcases Nat.lt_or_ge M 1000 with hlt | hlt
      · have hMl : M ≤ 999 := by omega
        have hmin : min M 1000 = M := by omega
        rw [hmin] at hE
        have hV0 := hE.2.2.2.2.2
        iterate 3 refine hK _ _ _ _ _ ?_
        refine And.intro (fun h => absurd ((nI_ltI (a := 999) (by decide) (by omega)).mp h) (by omega)) (fun _ => ?_)
        iterate 3 refine hK _ _ _ _ _ ?_
        refine Or.inl (calD (c0_movePeople_36 _ _ c cm kd N P S G _ M _ hE (by omega)) ?_)
        rintro r ν0 ⟨rfl, hE1, hf1⟩
        iterate 2 refine hK _ _ _ _ _ ?_
        have L39 : ∀ (f2 : Nat) (s : Nat) (ν : sMem), s + f2 = S → CE ν c cm 36 kd N P S G (forG (dsA c P G kd M) (forG (dmA c P G S kd) (beA c cm) M) s) M s true (M * S + s) → (∀ i, i < 81 ∨ 89 < i → ν i = μ i) → K 0 39 [some (aR 81), some (aR 36), some (aR 76), some (aI (nI kd)), some (aI (nI M)), some (aI (nI s))] [] ν := by
          intro f2
          induction f2 with
          | zero =>
            intro s ν hsS hE2 hg
            have hfs : ∀ i, i < 81 ∨ 89 < i → ν i = μ i := hg
            have eS : s = S := by omega
            subst eS
            have hT1 := hE2.1
            have hO1 := hE2.2.2.2.2.1.1
            iterate 3 refine hK _ _ _ _ _ ?_
            show K _ _ _ _ _
            rw [show ν 81 0 0 = nI 36 from hO1.1]
            show K _ _ _ _ _
            rw [show (nI 36).toNatClampNeg = 36 from rfl]
            refine hK _ _ _ _ _ ?_
            show K _ _ _ _ _
            rw [show ν 36 0 7 = nI s from hT1.2.2.1]
            refine hK _ _ _ _ _ ?_
            refine And.intro (fun _ => ?_) (fun h => absurd (Int32.le_refl _) h)
            iterate 6 refine hK _ _ _ _ _ ?_
            refine Or.inr (Or.inl (yD0 (c0_nextMinute_36 _ _ c cm kd N P s G _ M _ hE2 (by omega)) ?_))
            rintro r σ' ⟨R, rfl, hR1, hR2, hσ⟩; subst σ'
            refine hK _ _ _ _ _ ?_
            show K _ _ _ _ _
            rw [show nI M + Int32.ofInt 1 = nI (M + 1) from nIs _, mx_nI (by omega) (by omega)]
            iterate 2 refine hK _ _ _ _ _ ?_
            obtain ⟨hT2, -, hS2, -, hC2, hV2⟩ := hE2
            have hH := dm_HI (kd := kd) hM hSC hV0 hMl s (Nat.le_refl _)
            obtain ⟨E, q1, q2, q3, q4, q5⟩ := quiet_n (D := forG (dsA c P G kd M) (forG (dmA c P G s kd) (beA c cm) M) s) hM hSC hV2 hH hR2 hC2.shift (min (max (M + 1) R) 1000 - (M + 1)) (by omega)
            have hm9 : M + 1 + (min (max (M + 1) R) 1000 - (M + 1)) = min (max (M + 1) R) 1000 := by omega
            have q6 := q1 (beA c cm) rfl
            have hBB : M * s + s + (min (max (M + 1) R) 1000 - (M + 1)) * s ≤ min (max (M + 1) R) 1000 * s := by
              have h8 : min (max (M + 1) R) 1000 = M + 1 + (min (max (M + 1) R) 1000 - (M + 1)) := by omega
              generalize min (max (M + 1) R) 1000 - (M + 1) = j at h8 ⊢
              rw [h8, Nat.add_mul, Nat.add_mul, Nat.one_mul]
              exact Nat.le_refl _
            rw [hm9] at q2 q6
            refine ih (max (M + 1) R) ν _ (by omega) (by omega) ⟨hT2, hM, hS2, hSC, by rw [q6]; exact q2, by rw [q6]; exact q3.mono hBB⟩ (fun i hi => (hfs i hi).trans (hfr i hi))
          | succ f2 ih2 =>
            intro s ν hsS hE2 hg
            have hfs : ∀ i, i < 81 ∨ 89 < i → ν i = μ i := hg
            have hT1 := hE2.1
            have hO1 := hE2.2.2.2.2.1.1
            have hC1 := hE2.2.2.2.2.1.2.2.1
            obtain ⟨-, x2, x3, -⟩ := hE2.2.2.2.2.2.2.1 s (by omega)
            have e87 := (hC1.1 s (by omega)).2.2.1
            have e85 := (hC1.1 s (by omega)).2.1
            have hds : forG (dsA c P G kd M) (forG (dmA c P G S kd) (beA c cm) M) (s + 1) = dsA c P G kd M s (forG (dsA c P G kd M) (forG (dmA c P G S kd) (beA c cm) M) s) := rfl
            generalize forG (dsA c P G kd M) (forG (dmA c P G S kd) (beA c cm) M) s = E at hE2 hC1 x2 x3 e87 e85 hds
            have hoi := oI_inj (a := (E.2.1 s).2.2.1) (fun k hk => by have := x3 k hk; omega)
            have stay : ¬ ((E.2.1 s).2.2.1 = none ∧ (E.2.1 s).2.1 ≤ M) → K 0 82 [some (aR 81), some (aR 36), some (aR 76), some (aI (nI kd)), some (aI (nI M)), some (aI (nI s))] [] ν := by
              intro hn
              refine hK _ _ _ _ _ ?_
              show K _ _ _ _ _
              rw [show nI s + Int32.ofInt 1 = nI (s + 1) from nIs _]
              refine hK _ _ _ _ _ ?_
              refine ih2 (s + 1) ν (by omega) ?_ hg
              rw [hds]
              unfold dsA
              rw [if_neg hn]
              obtain ⟨a1, a2, a3, a4, a5, a6⟩ := hE2
              exact ⟨a1, a2, a3, a4, stay_CR (by omega) a5 hn, a6.mono (by omega)⟩
            iterate 3 refine hK _ _ _ _ _ ?_
            show K _ _ _ _ _
            rw [show ν 81 0 0 = nI 36 from hO1.1]
            show K _ _ _ _ _
            rw [show (nI 36).toNatClampNeg = 36 from rfl]
            refine hK _ _ _ _ _ ?_
            show K _ _ _ _ _
            rw [show ν 36 0 7 = nI S from hT1.2.2.1]
            refine hK _ _ _ _ _ ?_
            refine And.intro (fun h => absurd ((nI_leI (by omega) (by omega)).mp h) (by omega)) (fun _ => ?_)
            iterate 4 refine hK _ _ _ _ _ ?_
            refine And.intro (vp_in_nI (n := s) (by omega) (by decide)) ?_
            rw [nI_clamp (show s < 2 ^ 31 by omega)]
            rw [show ν 87 0 s = oI (E.2.1 s).2.2.1 from e87]
            iterate 2 refine hK _ _ _ _ _ ?_
            refine And.intro (fun h9 => stay (fun q => h9 (hoi.mpr q.1))) (fun h9 => ?_)
            have hnn := hoi.mp h9
            iterate 4 refine hK _ _ _ _ _ ?_
            refine And.intro (vp_in_nI (n := s) (by omega) (by decide)) ?_
            rw [nI_clamp (show s < 2 ^ 31 by omega)]
            rw [show ν 85 0 s = nI (E.2.1 s).2.1 from e85]
            iterate 2 refine hK _ _ _ _ _ ?_
            refine And.intro (fun h8 => stay (fun q => absurd ((nI_ltI (by omega) (by omega)).mp h8) (by omega))) (fun h8 => ?_)
            have hfm : (E.2.1 s).2.1 ≤ M := (nI_leI (by omega) (by omega)).mp (Int32.not_lt.mp h8)
            iterate 4 refine hK _ _ _ _ _ ?_
            refine Or.inr (Or.inl (yD0 (c0_tryToGoOn_36 _ _ c cm kd N P S G E M _ s (by omega) hE2 (by omega) hk hnn hfm) ?_))
            rintro r ρ ⟨rfl, hE3, hfr3⟩
            refine hK _ _ _ _ _ ?_
            show K _ _ _ _ _
            rw [show nI s + Int32.ofInt 1 = nI (s + 1) from nIs _]
            refine hK _ _ _ _ _ ?_
            refine ih2 (s + 1) ρ (by omega) ?_ (fun i hi => (hfr3 i hi).trans (hg i hi))
            rw [hds]
            unfold dsA
            rw [if_pos ⟨hnn, hfm⟩]
            exact hE3
        exact L39 S 0 ν0 (by omega) hE1 (fun i hi => hf1 i (by omega))
      · have hM0 : 1000 ≤ M := hlt
        have hE9 := hE
        rw [show min M 1000 = 1000 by omega] at hE9
        iterate 3 refine hK _ _ _ _ _ ?_
        refine And.intro (fun _ => ?_) (fun h => absurd ((nI_ltI (a := 999) (by decide) (by omega)).mpr (by omega)) h)
        iterate 2 refine hK _ _ _ _ _ ?_
        refine Or.inl (calD (c0_count_36 _ _ c cm kd N P S G _ _ hE9) ?_)
        rintro r ω ⟨rfl, hF, hfo⟩
        refine hK _ _ _ _ _ ?_
        exact ⟨rfl, hF, fun i hi => (hfo i (by omega)).trans ((hfr i hi).trans ((hfy i hi).trans (zo i (by omega))))⟩
  exact L22 1000 0 y none (by omega) (by omega) (by rw [show min 0 1000 = 0 from rfl, Nat.zero_mul]; exact hE0) (fun _ _ => rfl)
set_option maxHeartbeats 2000000 in
theorem c0_run_54 (d : Nat) (σ c : sMem) (cm : Nat → Bool) (kd N P S G : Nat) (hT : TT σ c 54 N P S) (hM : MC c N P S) (hS : SS σ c cm N S G) (hSC : SC c N P S G) (hk : kd ≤ 4) : yMet l D0 b0 ty ad av lay (d + 4) 0 mX0_run [aR 81, aR 54, aR 76, aI (nI kd)] σ (fun r σ' => r = [] ∧ CF σ' c 54 kd N P S G (daA c cm P G S kd) ∧ ∀ i, i < 81 ∨ 89 < i → σ' i = σ i) (fun _ _ => False) := by
  refine yMet_intro lay_nd kX0_run xX0_ok (yY0_ok _) (by decide +kernel) rfl ?_
  intro K hK
  have hS8 := hM.2.2.2.1
  have hN := hM.1.1.1
  iterate 3 refine hK _ _ _ _ _ ?_
  refine And.intro (by decide) ?_
  iterate 3 refine hK _ _ _ _ _ ?_
  refine And.intro (by decide) ?_
  iterate 3 refine hK _ _ _ _ _ ?_
  show K _ _ _ _ (sUp (sUp (sUp σ 81 0 0 (nI 54)) 81 0 1 (nI 76)) 81 0 2 (nI kd))
  have hO0 : CO (sUp (sUp (sUp σ 81 0 0 (nI 54)) 81 0 1 (nI 76)) 81 0 2 (nI kd)) 54 kd := ⟨by rw [sUp_k (by decide), sUp_k (by decide), sUp_at], by rw [sUp_k (by decide), sUp_at], by rw [sUp_at]⟩
  have zo : ∀ a, a ≠ 81 → (sUp (sUp (sUp σ 81 0 0 (nI 54)) 81 0 1 (nI 76)) 81 0 2 (nI kd)) a = σ a := fun a ha => by rw [sUp_off ha, sUp_off ha, sUp_off ha]
  generalize (sUp (sUp (sUp σ 81 0 0 (nI 54)) 81 0 1 (nI 76)) 81 0 2 (nI kd)) = z at hO0 zo ⊢
  have hT0 : TT z c 54 N P S := hT.cg (fun i _ _ => zo i (by omega))
  have hS0 : SS z c cm N S G := hS.cg (fun i _ _ => zo i (by omega))
  iterate 2 refine hK _ _ _ _ _ ?_
  refine Or.inr (Or.inl (yD0 (c0_begin_54 _ z c cm kd N P S G hT0 hM hS0 hSC hO0) ?_))
  rintro r y ⟨rfl, hE0, hfy⟩
  iterate 2 refine hK _ _ _ _ _ ?_
  have L22 : ∀ (f : Nat) (M : Nat) (μ : sMem) (e5 : Option AV), 1000 ≤ min M 1000 + f → M ≤ 1000000 → CE μ c cm 54 kd N P S G (forG (dmA c P G S kd) (beA c cm) (min M 1000)) (min M 1000) 0 false (min M 1000 * S) → (∀ i, i < 81 ∨ 89 < i → μ i = y i) → K 0 22 [some (aR 81), some (aR 54), some (aR 76), some (aI (nI kd)), some (aI (nI M)), e5] [] μ := by
    intro f
    induction f with
    | zero =>
      intro M μ e5 hMf hM6 hE hfr
      have hM0 : 1000 ≤ M := by omega
      have hE9 := hE
      rw [show min M 1000 = 1000 by omega] at hE9
      iterate 3 refine hK _ _ _ _ _ ?_
      refine And.intro (fun _ => ?_) (fun h => absurd ((nI_ltI (a := 999) (by decide) (by omega)).mpr (by omega)) h)
      iterate 2 refine hK _ _ _ _ _ ?_
      refine Or.inl (calD (c0_count_54 _ _ c cm kd N P S G _ _ hE9) ?_)
      rintro r ω ⟨rfl, hF, hfo⟩
      refine hK _ _ _ _ _ ?_
      exact ⟨rfl, hF, fun i hi => (hfo i (by omega)).trans ((hfr i hi).trans ((hfy i hi).trans (zo i (by omega))))⟩
    | succ f ih =>
      intro M μ e5 hMf hM6 hE hfr
      rcases Nat.lt_or_ge M 1000 with hlt | hlt
      · have hMl : M ≤ 999 := by omega
        have hmin : min M 1000 = M := by omega
        rw [hmin] at hE
        have hV0 := hE.2.2.2.2.2
        iterate 3 refine hK _ _ _ _ _ ?_
        refine And.intro (fun h => absurd ((nI_ltI (a := 999) (by decide) (by omega)).mp h) (by omega)) (fun _ => ?_)
        iterate 3 refine hK _ _ _ _ _ ?_
        refine Or.inl (calD (c0_movePeople_54 _ _ c cm kd N P S G _ M _ hE (by omega)) ?_)
        rintro r ν0 ⟨rfl, hE1, hf1⟩
        iterate 2 refine hK _ _ _ _ _ ?_
        have L39 : ∀ (f2 : Nat) (s : Nat) (ν : sMem), s + f2 = S → CE ν c cm 54 kd N P S G (forG (dsA c P G kd M) (forG (dmA c P G S kd) (beA c cm) M) s) M s true (M * S + s) → (∀ i, i < 81 ∨ 89 < i → ν i = μ i) → K 0 39 [some (aR 81), some (aR 54), some (aR 76), some (aI (nI kd)), some (aI (nI M)), some (aI (nI s))] [] ν := by
          intro f2
          induction f2 with
          | zero =>
            intro s ν hsS hE2 hg
            have hfs : ∀ i, i < 81 ∨ 89 < i → ν i = μ i := hg
            have eS : s = S := by omega
            subst eS
            have hT1 := hE2.1
            have hO1 := hE2.2.2.2.2.1.1
            iterate 3 refine hK _ _ _ _ _ ?_
            show K _ _ _ _ _
            rw [show ν 81 0 0 = nI 54 from hO1.1]
            show K _ _ _ _ _
            rw [show (nI 54).toNatClampNeg = 54 from rfl]
            refine hK _ _ _ _ _ ?_
            show K _ _ _ _ _
            rw [show ν 54 0 7 = nI s from hT1.2.2.1]
            refine hK _ _ _ _ _ ?_
            refine And.intro (fun _ => ?_) (fun h => absurd (Int32.le_refl _) h)
            iterate 6 refine hK _ _ _ _ _ ?_
            refine Or.inr (Or.inl (yD0 (c0_nextMinute_54 _ _ c cm kd N P s G _ M _ hE2 (by omega)) ?_))
            rintro r σ' ⟨R, rfl, hR1, hR2, hσ⟩; subst σ'
            refine hK _ _ _ _ _ ?_
            show K _ _ _ _ _
            rw [show nI M + Int32.ofInt 1 = nI (M + 1) from nIs _, mx_nI (by omega) (by omega)]
            iterate 2 refine hK _ _ _ _ _ ?_
            obtain ⟨hT2, -, hS2, -, hC2, hV2⟩ := hE2
            have hH := dm_HI (kd := kd) hM hSC hV0 hMl s (Nat.le_refl _)
            obtain ⟨E, q1, q2, q3, q4, q5⟩ := quiet_n (D := forG (dsA c P G kd M) (forG (dmA c P G s kd) (beA c cm) M) s) hM hSC hV2 hH hR2 hC2.shift (min (max (M + 1) R) 1000 - (M + 1)) (by omega)
            have hm9 : M + 1 + (min (max (M + 1) R) 1000 - (M + 1)) = min (max (M + 1) R) 1000 := by omega
            have q6 := q1 (beA c cm) rfl
            have hBB : M * s + s + (min (max (M + 1) R) 1000 - (M + 1)) * s ≤ min (max (M + 1) R) 1000 * s := by
              have h8 : min (max (M + 1) R) 1000 = M + 1 + (min (max (M + 1) R) 1000 - (M + 1)) := by omega
              generalize min (max (M + 1) R) 1000 - (M + 1) = j at h8 ⊢
              rw [h8, Nat.add_mul, Nat.add_mul, Nat.one_mul]
              exact Nat.le_refl _
            rw [hm9] at q2 q6
            refine ih (max (M + 1) R) ν _ (by omega) (by omega) ⟨hT2, hM, hS2, hSC, by rw [q6]; exact q2, by rw [q6]; exact q3.mono hBB⟩ (fun i hi => (hfs i hi).trans (hfr i hi))
          | succ f2 ih2 =>
            intro s ν hsS hE2 hg
            have hfs : ∀ i, i < 81 ∨ 89 < i → ν i = μ i := hg
            have hT1 := hE2.1
            have hO1 := hE2.2.2.2.2.1.1
            have hC1 := hE2.2.2.2.2.1.2.2.1
            obtain ⟨-, x2, x3, -⟩ := hE2.2.2.2.2.2.2.1 s (by omega)
            have e87 := (hC1.1 s (by omega)).2.2.1
            have e85 := (hC1.1 s (by omega)).2.1
            have hds : forG (dsA c P G kd M) (forG (dmA c P G S kd) (beA c cm) M) (s + 1) = dsA c P G kd M s (forG (dsA c P G kd M) (forG (dmA c P G S kd) (beA c cm) M) s) := rfl
            generalize forG (dsA c P G kd M) (forG (dmA c P G S kd) (beA c cm) M) s = E at hE2 hC1 x2 x3 e87 e85 hds
            have hoi := oI_inj (a := (E.2.1 s).2.2.1) (fun k hk => by have := x3 k hk; omega)
            have stay : ¬ ((E.2.1 s).2.2.1 = none ∧ (E.2.1 s).2.1 ≤ M) → K 0 82 [some (aR 81), some (aR 54), some (aR 76), some (aI (nI kd)), some (aI (nI M)), some (aI (nI s))] [] ν := by
              intro hn
              refine hK _ _ _ _ _ ?_
              show K _ _ _ _ _
              rw [show nI s + Int32.ofInt 1 = nI (s + 1) from nIs _]
              refine hK _ _ _ _ _ ?_
              refine ih2 (s + 1) ν (by omega) ?_ hg
              rw [hds]
              unfold dsA
              rw [if_neg hn]
              obtain ⟨a1, a2, a3, a4, a5, a6⟩ := hE2
              exact ⟨a1, a2, a3, a4, stay_CR (by omega) a5 hn, a6.mono (by omega)⟩
            iterate 3 refine hK _ _ _ _ _ ?_
            show K _ _ _ _ _
            rw [show ν 81 0 0 = nI 54 from hO1.1]
            show K _ _ _ _ _
            rw [show (nI 54).toNatClampNeg = 54 from rfl]
            refine hK _ _ _ _ _ ?_
            show K _ _ _ _ _
            rw [show ν 54 0 7 = nI S from hT1.2.2.1]
            refine hK _ _ _ _ _ ?_
            refine And.intro (fun h => absurd ((nI_leI (by omega) (by omega)).mp h) (by omega)) (fun _ => ?_)
            iterate 4 refine hK _ _ _ _ _ ?_
            refine And.intro (vp_in_nI (n := s) (by omega) (by decide)) ?_
            rw [nI_clamp (show s < 2 ^ 31 by omega)]
            rw [show ν 87 0 s = oI (E.2.1 s).2.2.1 from e87]
            iterate 2 refine hK _ _ _ _ _ ?_
            refine And.intro (fun h9 => stay (fun q => h9 (hoi.mpr q.1))) (fun h9 => ?_)
            have hnn := hoi.mp h9
            iterate 4 refine hK _ _ _ _ _ ?_
            refine And.intro (vp_in_nI (n := s) (by omega) (by decide)) ?_
            rw [nI_clamp (show s < 2 ^ 31 by omega)]
            rw [show ν 85 0 s = nI (E.2.1 s).2.1 from e85]
            iterate 2 refine hK _ _ _ _ _ ?_
            refine And.intro (fun h8 => stay (fun q => absurd ((nI_ltI (by omega) (by omega)).mp h8) (by omega))) (fun h8 => ?_)
            have hfm : (E.2.1 s).2.1 ≤ M := (nI_leI (by omega) (by omega)).mp (Int32.not_lt.mp h8)
            iterate 4 refine hK _ _ _ _ _ ?_
            refine Or.inr (Or.inl (yD0 (c0_tryToGoOn_54 _ _ c cm kd N P S G E M _ s (by omega) hE2 (by omega) hk hnn hfm) ?_))
            rintro r ρ ⟨rfl, hE3, hfr3⟩
            refine hK _ _ _ _ _ ?_
            show K _ _ _ _ _
            rw [show nI s + Int32.ofInt 1 = nI (s + 1) from nIs _]
            refine hK _ _ _ _ _ ?_
            refine ih2 (s + 1) ρ (by omega) ?_ (fun i hi => (hfr3 i hi).trans (hg i hi))
            rw [hds]
            unfold dsA
            rw [if_pos ⟨hnn, hfm⟩]
            exact hE3
        exact L39 S 0 ν0 (by omega) hE1 (fun i hi => hf1 i (by omega))
      · have hM0 : 1000 ≤ M := hlt
        have hE9 := hE
        rw [show min M 1000 = 1000 by omega] at hE9
        iterate 3 refine hK _ _ _ _ _ ?_
        refine And.intro (fun _ => ?_) (fun h => absurd ((nI_ltI (a := 999) (by decide) (by omega)).mpr (by omega)) h)
        iterate 2 refine hK _ _ _ _ _ ?_
        refine Or.inl (calD (c0_count_54 _ _ c cm kd N P S G _ _ hE9) ?_)
        rintro r ω ⟨rfl, hF, hfo⟩
        refine hK _ _ _ _ _ ?_
        exact ⟨rfl, hF, fun i hi => (hfo i (by omega)).trans ((hfr i hi).trans ((hfy i hi).trans (zo i (by omega))))⟩
  exact L22 1000 0 y none (by omega) (by omega) (by rw [show min 0 1000 = 0 from rfl, Nat.zero_mul]; exact hE0) (fun _ _ => rfl)
end
