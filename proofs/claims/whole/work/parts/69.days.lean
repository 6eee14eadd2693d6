/-! THE CLASS: the calls that go through one day -/
def FR (σ σ' : sMem) : Prop := ∀ i, i < 76 ∨ 89 < i → σ' i = σ i
theorem nI_isIn {k n : Nat} (hn : n < 2 ^ 31) (h : k < n) : 0 ≤ nI k ∧ nI k ≤ nI n - 1 := ⟨(nI_leI (a := 0) (by decide) (by omega)).mpr (Nat.zero_le _), (lt_pre hn _).mp ((nI_ltI (by omega) hn).mpr h)⟩
theorem uP_0 {t : sMem} {N P S G : Nat} (hT : HT t) (hM : MI t N P S G) : UI t (uP t) N G G (t 3 0 4) (-1) (-1) := uP_UI hM hT.1 hT.2.1 (fun _ _ => rfl)
theorem juB_n {c : sMem} {D : DA} {w : Int32} {s : Nat} (hw : ¬ w = 0) (h : tlO c s = none) : juB c D w s = false := by
  unfold juB
  rw [if_neg hw, h]
theorem juB_s {c : sMem} {D : DA} {w : Int32} {s p : Nat} (hw : ¬ w = 0) (h : tlO c s = some p) : juB c D w s = !(D.2.1 s).2.2.2.contains p := by
  unfold juB
  rw [if_neg hw, h]
section
variable {l : Launch} {D0 : va_G} {b0 : Nat} {ty : Nat → ClassId} {ad av : Nat → Nat}
theorem c8_day_36_x0 (d : Nat) (σ t : sMem) (N P S G : Nat) (h : HR σ t 36 N P S G) (kd w : Int32) (h0 : ¬ (0 ≤ kd ∧ kd ≤ 4)) : yMet l D0 b0 ty ad av lay (d + 7) 1 mX8_day [aR 34, aI (kd), aI (w)] σ (fun _ _ => False) (fun e σ' => e = yIAE ∧ σ' = σ) := by
  refine yMet_intro lay_nd kX8_day xX8_ok (yY8_ok _) (by decide +kernel) rfl ?_
  intro K hK
  have hN := h.2.2.1.1.1.1.1
  have hP := h.2.2.1.1.1.2.2.2.1.2
  have hS8 := h.2.2.1.1.1.2.2.2.2.1.2
  iterate 2 refine hK _ _ _ _ _ ?_
  refine Or.inr (Or.inr ⟨0, 1, rfl, yDX (c8_checkKind_x _ _ kd h0) (fun _ _ h => h.elim) ?_⟩)
  exact fun e σ' h => h
theorem c8_day_36_x1 (d : Nat) (σ t : sMem) (N P S G : Nat) (h : HR σ t 36 N P S G) (kd w : Int32) (h0 : 0 ≤ kd ∧ kd ≤ 4) (h1 : ¬ (0 ≤ w ∧ w ≤ nI 5 - 1)) : yMet l D0 b0 ty ad av lay (d + 7) 1 mX8_day [aR 34, aI (kd), aI (w)] σ (fun _ _ => False) (fun e σ' => e = yIAE ∧ σ' = σ) := by
  refine yMet_intro lay_nd kX8_day xX8_ok (yY8_ok _) (by decide +kernel) rfl ?_
  intro K hK
  have hN := h.2.2.1.1.1.1.1
  have hP := h.2.2.1.1.1.2.2.2.1.2
  have hS8 := h.2.2.1.1.1.2.2.2.2.1.2
  iterate 2 refine hK _ _ _ _ _ ?_
  refine Or.inl (calD (c8_checkKind_ok _ _ kd h0) ?_)
  rintro r σ' ⟨rfl, hσ⟩
  subst σ'
  iterate 3 refine hK _ _ _ _ _ ?_
  refine Or.inr (Or.inr ⟨0, 1, rfl, yDX (c8_checkBelow_x _ _ 5 (by decide) w h1) (fun _ _ h => h.elim) ?_⟩)
  exact fun e σ' h => h
theorem c8_day_36_ok (d : Nat) (σ t : sMem) (N P S G : Nat) (h : HR σ t 36 N P S G) (hT : HT t) (kd w : Nat) (hk : kd ≤ 4) (hw : w ≤ 4) : yMet l D0 b0 ty ad av lay (d + 7) 0 mX8_day [aR 34, aI (nI kd), aI (nI w)] σ (fun r σ' => r = [aI (dyA (cP t G) (daA (cP t G) aT P G S kd) P S (nI w))] ∧ FR σ σ') (fun _ _ => False) := by
  refine yMet_intro lay_nd kX8_day xX8_ok (yY8_ok _) (by decide +kernel) rfl ?_
  intro K hK
  have hN := h.2.2.1.1.1.1.1
  have hP := h.2.2.1.1.1.2.2.2.1.2
  have hS8 := h.2.2.1.1.1.2.2.2.2.1.2
  iterate 2 refine hK _ _ _ _ _ ?_
  refine Or.inl (calD (c8_checkKind_ok _ _ (nI kd) (nI_isIn (n := 5) (by decide) (by omega))) ?_)
  rintro r σ' ⟨rfl, hσ⟩
  subst σ'
  iterate 3 refine hK _ _ _ _ _ ?_
  refine Or.inl (calD (c8_checkBelow_ok _ _ 5 (by decide) (nI w) (nI_isIn (n := 5) (by decide) (by omega))) ?_)
  rintro r σ' ⟨rfl, hσ⟩
  subst σ'
  iterate 3 refine hK _ _ _ _ _ ?_
  refine Or.inr (Or.inl (yD0 (c8_goThrough_36 _ σ t (uP t) N P S G h kd hk (uP_0 hT h.2.2.1)) ?_))
  rintro r y ⟨rfl, hG0, hfr⟩
  have hG : CG y (cP t G) aT 36 kd N P S G (daA (cP t G) aT P G S kd) := hG0
  clear hG0
  obtain ⟨gT, gM, gS, gF, gV, gL, gI⟩ := id hG
  have y3 : y 34 0 3 = nI 36 := by rw [hfr 34 (by omega)]; exact h.1
  iterate 2 refine hK _ _ _ _ _ ?_
  have kt : ∀ i : Nat, (nI w).toInt = (i : Int) → w = i := fun i hi => by rw [nI_toInt (by omega)] at hi; omega
  refine ⟨fun hsw => ?_, fun hsw => ?_, fun hsw => ?_, fun hsw => ?_, fun hsw => ?_, trivial⟩
  · have e : w = 4 := by
      rw [nI_toInt (by omega)] at hsw
      omega
    subst e
    iterate 4 refine hK _ _ _ _ _ ?_
    refine Or.inl (calD (c0_arrivedBy_36 _ _ _ _ _ N P S G _ hG) ?_)
    rintro r σ' ⟨rfl, hσ⟩
    subst σ'
    refine hK _ _ _ _ _ ?_
    exact ⟨rfl, hfr⟩
  · have e := kt 0 hsw
    subst e
    iterate 3 refine hK _ _ _ _ _ ?_
    refine Or.inl (calD (c0_cost_36 _ _ _ _ _ N P S G _ hG) ?_)
    rintro r σ' ⟨rfl, hσ⟩
    subst σ'
    refine hK _ _ _ _ _ ?_
    exact ⟨rfl, hfr⟩
  · have e := kt 1 hsw
    subst e
    iterate 3 refine hK _ _ _ _ _ ?_
    refine Or.inr (Or.inl (yD0 (c0_leftCount_36 _ _ _ _ _ N P S G _ hG) ?_))
    rintro r σ' ⟨rfl, hσ⟩
    subst σ'
    refine hK _ _ _ _ _ ?_
    exact ⟨rfl, hfr⟩
  · have e := kt 2 hsw
    subst e
    iterate 3 refine hK _ _ _ _ _ ?_
    show K _ _ _ _ _
    rw [show y 81 0 12 = nI (daA (cP t G) aT P G S kd).2.2.2.2.2 from gF.2.2.2]
    refine hK _ _ _ _ _ ?_
    exact ⟨rfl, hfr⟩
  · have e := kt 3 hsw
    subst e
    iterate 3 refine hK _ _ _ _ _ ?_
    show K _ _ _ _ _
    rw [show y 81 0 11 = nI (daA (cP t G) aT P G S kd).2.2.2.2.1 from gF.2.2.1.2.2.2]
    refine hK _ _ _ _ _ ?_
    exact ⟨rfl, hfr⟩
theorem c8_fees_36_x0 (d : Nat) (σ t : sMem) (N P S G : Nat) (h : HR σ t 36 N P S G) (kd : Int32) (h0 : ¬ (0 ≤ kd ∧ kd ≤ 4)) : yMet l D0 b0 ty ad av lay (d + 7) 1 mX8_fees [aR 34, aI (kd)] σ (fun _ _ => False) (fun e σ' => e = yIAE ∧ σ' = σ) := by
  refine yMet_intro lay_nd kX8_fees xX8_ok (yY8_ok _) (by decide +kernel) rfl ?_
  intro K hK
  have hN := h.2.2.1.1.1.1.1
  have hP := h.2.2.1.1.1.2.2.2.1.2
  have hS8 := h.2.2.1.1.1.2.2.2.2.1.2
  iterate 2 refine hK _ _ _ _ _ ?_
  refine Or.inr (Or.inr ⟨0, 1, rfl, yDX (c8_checkKind_x _ _ kd h0) (fun _ _ h => h.elim) ?_⟩)
  exact fun e σ' h => h
theorem c8_fees_36_ok (d : Nat) (σ t : sMem) (N P S G : Nat) (h : HR σ t 36 N P S G) (hT : HT t) (kd : Nat) (hk : kd ≤ 4) : yMet l D0 b0 ty ad av lay (d + 7) 0 mX8_fees [aR 34, aI (nI kd)] σ (fun r σ' => r = [aI (nI (daA (cP t G) aT P G S kd).2.2.2.1)] ∧ FR σ σ') (fun _ _ => False) := by
  refine yMet_intro lay_nd kX8_fees xX8_ok (yY8_ok _) (by decide +kernel) rfl ?_
  intro K hK
  have hN := h.2.2.1.1.1.1.1
  have hP := h.2.2.1.1.1.2.2.2.1.2
  have hS8 := h.2.2.1.1.1.2.2.2.2.1.2
  iterate 2 refine hK _ _ _ _ _ ?_
  refine Or.inl (calD (c8_checkKind_ok _ _ (nI kd) (nI_isIn (n := 5) (by decide) (by omega))) ?_)
  rintro r σ' ⟨rfl, hσ⟩
  subst σ'
  iterate 3 refine hK _ _ _ _ _ ?_
  refine Or.inr (Or.inl (yD0 (c8_goThrough_36 _ σ t (uP t) N P S G h kd hk (uP_0 hT h.2.2.1)) ?_))
  rintro r y ⟨rfl, hG0, hfr⟩
  have hG : CG y (cP t G) aT 36 kd N P S G (daA (cP t G) aT P G S kd) := hG0
  clear hG0
  obtain ⟨gT, gM, gS, gF, gV, gL, gI⟩ := id hG
  have y3 : y 34 0 3 = nI 36 := by rw [hfr 34 (by omega)]; exact h.1
  iterate 3 refine hK _ _ _ _ _ ?_
  show K _ _ _ _ _
  rw [show y 81 0 13 = nI (daA (cP t G) aT P G S kd).2.2.2.1 from gF.2.2.1.2.2.1]
  refine hK _ _ _ _ _ ?_
  exact ⟨rfl, hfr⟩
theorem c8_lost_36_x0 (d : Nat) (σ t : sMem) (N P S G : Nat) (h : HR σ t 36 N P S G) (kd x : Int32) (h0 : ¬ (0 ≤ x ∧ x ≤ nI P - 1)) : yMet l D0 b0 ty ad av lay (d + 7) 1 mX8_lost [aR 34, aI (kd), aI (x)] σ (fun _ _ => False) (fun e σ' => e = yNSE ∧ σ' = σ) := by
  refine yMet_intro lay_nd kX8_lost xX8_ok (yY8_ok _) (by decide +kernel) rfl ?_
  intro K hK
  have hN := h.2.2.1.1.1.1.1
  have hP := h.2.2.1.1.1.2.2.2.1.2
  have hS8 := h.2.2.1.1.1.2.2.2.2.1.2
  iterate 3 refine hK _ _ _ _ _ ?_
  refine Or.inr (Or.inr ⟨0, 1, rfl, yDX (c8_checkPerson_36_x _ _ P (by omega) h.1 h.2.1.2.1 x h0) (fun _ _ h => h.elim) ?_⟩)
  exact fun e σ' h => h
theorem c8_lost_36_x1 (d : Nat) (σ t : sMem) (N P S G : Nat) (h : HR σ t 36 N P S G) (kd x : Int32) (h0 : 0 ≤ x ∧ x ≤ nI P - 1) (h1 : ¬ (0 ≤ kd ∧ kd ≤ 4)) : yMet l D0 b0 ty ad av lay (d + 7) 1 mX8_lost [aR 34, aI (kd), aI (x)] σ (fun _ _ => False) (fun e σ' => e = yIAE ∧ σ' = σ) := by
  refine yMet_intro lay_nd kX8_lost xX8_ok (yY8_ok _) (by decide +kernel) rfl ?_
  intro K hK
  have hN := h.2.2.1.1.1.1.1
  have hP := h.2.2.1.1.1.2.2.2.1.2
  have hS8 := h.2.2.1.1.1.2.2.2.2.1.2
  iterate 3 refine hK _ _ _ _ _ ?_
  refine Or.inl (calD (c8_checkPerson_36_ok _ _ P (by omega) h.1 h.2.1.2.1 x h0) ?_)
  rintro r σ' ⟨rfl, hσ⟩
  subst σ'
  iterate 2 refine hK _ _ _ _ _ ?_
  refine Or.inr (Or.inr ⟨0, 1, rfl, yDX (c8_checkKind_x _ _ kd h1) (fun _ _ h => h.elim) ?_⟩)
  exact fun e σ' h => h
theorem c8_lost_36_ok (d : Nat) (σ t : sMem) (N P S G : Nat) (h : HR σ t 36 N P S G) (hT : HT t) (kd p : Nat) (hk : kd ≤ 4) (hp : p < P) : yMet l D0 b0 ty ad av lay (d + 7) 0 mX8_lost [aR 34, aI (nI kd), aI (nI p)] σ (fun r σ' => r = [aI (nI (losP (cP t G) (daA (cP t G) aT P G S kd) p))] ∧ FR σ σ') (fun _ _ => False) := by
  refine yMet_intro lay_nd kX8_lost xX8_ok (yY8_ok _) (by decide +kernel) rfl ?_
  intro K hK
  have hN := h.2.2.1.1.1.1.1
  have hP := h.2.2.1.1.1.2.2.2.1.2
  have hS8 := h.2.2.1.1.1.2.2.2.2.1.2
  iterate 3 refine hK _ _ _ _ _ ?_
  refine Or.inl (calD (c8_checkPerson_36_ok _ _ P (by omega) h.1 h.2.1.2.1 (nI p) (nI_isIn (by omega) hp)) ?_)
  rintro r σ' ⟨rfl, hσ⟩
  subst σ'
  iterate 2 refine hK _ _ _ _ _ ?_
  refine Or.inl (calD (c8_checkKind_ok _ _ (nI kd) (nI_isIn (n := 5) (by decide) (by omega))) ?_)
  rintro r σ' ⟨rfl, hσ⟩
  subst σ'
  iterate 3 refine hK _ _ _ _ _ ?_
  refine Or.inr (Or.inl (yD0 (c8_goThrough_36 _ σ t (uP t) N P S G h kd hk (uP_0 hT h.2.2.1)) ?_))
  rintro r y ⟨rfl, hG0, hfr⟩
  have hG : CG y (cP t G) aT 36 kd N P S G (daA (cP t G) aT P G S kd) := hG0
  clear hG0
  obtain ⟨gT, gM, gS, gF, gV, gL, gI⟩ := id hG
  have y3 : y 34 0 3 = nI 36 := by rw [hfr 34 (by omega)]; exact h.1
  iterate 4 refine hK _ _ _ _ _ ?_
  refine Or.inl (calD (c0_lostBy_36 _ _ _ _ _ N P S G _ hG p hp) ?_)
  rintro r σ' ⟨rfl, hσ⟩
  subst σ'
  refine hK _ _ _ _ _ ?_
  exact ⟨rfl, hfr⟩
theorem c8_there_36_x0 (d : Nat) (σ t : sMem) (N P S G : Nat) (h : HR σ t 36 N P S G) (kd x : Int32) (h0 : ¬ (0 ≤ x ∧ x ≤ nI S - 1)) : yMet l D0 b0 ty ad av lay (d + 7) 1 mX8_there [aR 34, aI (kd), aI (x)] σ (fun _ _ => False) (fun e σ' => e = yNSE ∧ σ' = σ) := by
  refine yMet_intro lay_nd kX8_there xX8_ok (yY8_ok _) (by decide +kernel) rfl ?_
  intro K hK
  have hN := h.2.2.1.1.1.1.1
  have hP := h.2.2.1.1.1.2.2.2.1.2
  have hS8 := h.2.2.1.1.1.2.2.2.2.1.2
  iterate 3 refine hK _ _ _ _ _ ?_
  refine Or.inr (Or.inr ⟨0, 1, rfl, yDX (c8_checkStranger_36_x _ _ S (by omega) h.1 h.2.1.2.2.1 x h0) (fun _ _ h => h.elim) ?_⟩)
  exact fun e σ' h => h
theorem c8_there_36_x1 (d : Nat) (σ t : sMem) (N P S G : Nat) (h : HR σ t 36 N P S G) (kd x : Int32) (h0 : 0 ≤ x ∧ x ≤ nI S - 1) (h1 : ¬ (0 ≤ kd ∧ kd ≤ 4)) : yMet l D0 b0 ty ad av lay (d + 7) 1 mX8_there [aR 34, aI (kd), aI (x)] σ (fun _ _ => False) (fun e σ' => e = yIAE ∧ σ' = σ) := by
  refine yMet_intro lay_nd kX8_there xX8_ok (yY8_ok _) (by decide +kernel) rfl ?_
  intro K hK
  have hN := h.2.2.1.1.1.1.1
  have hP := h.2.2.1.1.1.2.2.2.1.2
  have hS8 := h.2.2.1.1.1.2.2.2.2.1.2
  iterate 3 refine hK _ _ _ _ _ ?_
  refine Or.inl (calD (c8_checkStranger_36_ok _ _ S (by omega) h.1 h.2.1.2.2.1 x h0) ?_)
  rintro r σ' ⟨rfl, hσ⟩
  subst σ'
  iterate 2 refine hK _ _ _ _ _ ?_
  refine Or.inr (Or.inr ⟨0, 1, rfl, yDX (c8_checkKind_x _ _ kd h1) (fun _ _ h => h.elim) ?_⟩)
  exact fun e σ' h => h
theorem c8_there_36_ok (d : Nat) (σ t : sMem) (N P S G : Nat) (h : HR σ t 36 N P S G) (hT : HT t) (kd s : Nat) (hk : kd ≤ 4) (hs : s < S) : yMet l D0 b0 ty ad av lay (d + 7) 0 mX8_there [aR 34, aI (nI kd), aI (nI s)] σ (fun r σ' => r = [aI (oI ((daA (cP t G) aT P G S kd).2.1 s).2.2.1)] ∧ FR σ σ') (fun _ _ => False) := by
  refine yMet_intro lay_nd kX8_there xX8_ok (yY8_ok _) (by decide +kernel) rfl ?_
  intro K hK
  have hN := h.2.2.1.1.1.1.1
  have hP := h.2.2.1.1.1.2.2.2.1.2
  have hS8 := h.2.2.1.1.1.2.2.2.2.1.2
  iterate 3 refine hK _ _ _ _ _ ?_
  refine Or.inl (calD (c8_checkStranger_36_ok _ _ S (by omega) h.1 h.2.1.2.2.1 (nI s) (nI_isIn (by omega) hs)) ?_)
  rintro r σ' ⟨rfl, hσ⟩
  subst σ'
  iterate 2 refine hK _ _ _ _ _ ?_
  refine Or.inl (calD (c8_checkKind_ok _ _ (nI kd) (nI_isIn (n := 5) (by decide) (by omega))) ?_)
  rintro r σ' ⟨rfl, hσ⟩
  subst σ'
  iterate 3 refine hK _ _ _ _ _ ?_
  refine Or.inr (Or.inl (yD0 (c8_goThrough_36 _ σ t (uP t) N P S G h kd hk (uP_0 hT h.2.2.1)) ?_))
  rintro r y ⟨rfl, hG0, hfr⟩
  have hG : CG y (cP t G) aT 36 kd N P S G (daA (cP t G) aT P G S kd) := hG0
  clear hG0
  obtain ⟨gT, gM, gS, gF, gV, gL, gI⟩ := id hG
  have y3 : y 34 0 3 = nI 36 := by rw [hfr 34 (by omega)]; exact h.1
  iterate 5 refine hK _ _ _ _ _ ?_
  refine And.intro (vp_in_nI (n := s) (by omega) (by decide)) ?_
  rw [nI_clamp (show s < 2 ^ 31 by omega)]
  rw [show y 87 0 s = oI ((daA (cP t G) aT P G S kd).2.1 s).2.2.1 from (gF.2.2.1.1 s hs).2.2.1]
  refine hK _ _ _ _ _ ?_
  exact ⟨rfl, hfr⟩
theorem c8_leads_36_x0 (d : Nat) (σ t : sMem) (N P S G : Nat) (h : HR σ t 36 N P S G) (kd x i : Int32) (h0 : ¬ (0 ≤ x ∧ x ≤ nI S - 1)) : yMet l D0 b0 ty ad av lay (d + 7) 1 mX8_leads [aR 34, aI (kd), aI (x), aI (i)] σ (fun _ _ => False) (fun e σ' => e = yNSE ∧ σ' = σ) := by
  refine yMet_intro lay_nd kX8_leads xX8_ok (yY8_ok _) (by decide +kernel) rfl ?_
  intro K hK
  have hN := h.2.2.1.1.1.1.1
  have hP := h.2.2.1.1.1.2.2.2.1.2
  have hS8 := h.2.2.1.1.1.2.2.2.2.1.2
  iterate 3 refine hK _ _ _ _ _ ?_
  refine Or.inr (Or.inr ⟨0, 1, rfl, yDX (c8_checkStranger_36_x _ _ S (by omega) h.1 h.2.1.2.2.1 x h0) (fun _ _ h => h.elim) ?_⟩)
  exact fun e σ' h => h
theorem c8_leads_36_x1 (d : Nat) (σ t : sMem) (N P S G : Nat) (h : HR σ t 36 N P S G) (kd x i : Int32) (h0 : 0 ≤ x ∧ x ≤ nI S - 1) (h1 : ¬ (0 ≤ kd ∧ kd ≤ 4)) : yMet l D0 b0 ty ad av lay (d + 7) 1 mX8_leads [aR 34, aI (kd), aI (x), aI (i)] σ (fun _ _ => False) (fun e σ' => e = yIAE ∧ σ' = σ) := by
  refine yMet_intro lay_nd kX8_leads xX8_ok (yY8_ok _) (by decide +kernel) rfl ?_
  intro K hK
  have hN := h.2.2.1.1.1.1.1
  have hP := h.2.2.1.1.1.2.2.2.1.2
  have hS8 := h.2.2.1.1.1.2.2.2.2.1.2
  iterate 3 refine hK _ _ _ _ _ ?_
  refine Or.inl (calD (c8_checkStranger_36_ok _ _ S (by omega) h.1 h.2.1.2.2.1 x h0) ?_)
  rintro r σ' ⟨rfl, hσ⟩
  subst σ'
  iterate 2 refine hK _ _ _ _ _ ?_
  refine Or.inr (Or.inr ⟨0, 1, rfl, yDX (c8_checkKind_x _ _ kd h1) (fun _ _ h => h.elim) ?_⟩)
  exact fun e σ' h => h
theorem c8_leads_36_ok (d : Nat) (σ t : sMem) (N P S G : Nat) (h : HR σ t 36 N P S G) (hT : HT t) (kd s : Nat) (i : Int32) (hk : kd ≤ 4) (hs : s < S) : yMet l D0 b0 ty ad av lay (d + 7) 0 mX8_leads [aR 34, aI (nI kd), aI (nI s), aI (i)] σ (fun r σ' => r = [aI (leA ((daA (cP t G) aT P G S kd).2.1 s).2.2.2 i)] ∧ FR σ σ') (fun _ _ => False) := by
  refine yMet_intro lay_nd kX8_leads xX8_ok (yY8_ok _) (by decide +kernel) rfl ?_
  intro K hK
  have hN := h.2.2.1.1.1.1.1
  have hP := h.2.2.1.1.1.2.2.2.1.2
  have hS8 := h.2.2.1.1.1.2.2.2.2.1.2
  iterate 3 refine hK _ _ _ _ _ ?_
  refine Or.inl (calD (c8_checkStranger_36_ok _ _ S (by omega) h.1 h.2.1.2.2.1 (nI s) (nI_isIn (by omega) hs)) ?_)
  rintro r σ' ⟨rfl, hσ⟩
  subst σ'
  iterate 2 refine hK _ _ _ _ _ ?_
  refine Or.inl (calD (c8_checkKind_ok _ _ (nI kd) (nI_isIn (n := 5) (by decide) (by omega))) ?_)
  rintro r σ' ⟨rfl, hσ⟩
  subst σ'
  iterate 3 refine hK _ _ _ _ _ ?_
  refine Or.inr (Or.inl (yD0 (c8_goThrough_36 _ σ t (uP t) N P S G h kd hk (uP_0 hT h.2.2.1)) ?_))
  rintro r y ⟨rfl, hG0, hfr⟩
  have hG : CG y (cP t G) aT 36 kd N P S G (daA (cP t G) aT P G S kd) := hG0
  clear hG0
  obtain ⟨gT, gM, gS, gF, gV, gL, gI⟩ := id hG
  have y3 : y 34 0 3 = nI 36 := by rw [hfr 34 (by omega)]; exact h.1
  have e89 := (gF.2.2.1.1 s hs).2.2.2.1
  have e88 := (gF.2.2.1.1 s hs).2.2.2.2
  have hlen := (gV.2.1 s hs).2.2.2.2.2.1
  generalize ((daA (cP t G) aT P G S kd).2.1 s).2.2.2 = L at e89 e88 hlen hK
  iterate 2 refine hK _ _ _ _ _ ?_
  refine And.intro (fun h9 => ?_) (fun h9 => ?_)
  · iterate 3 refine hK _ _ _ _ _ ?_
    exact ⟨by unfold leA; rw [if_neg (fun q => Int32.not_lt.mpr q.1 h9)]; rfl, hfr⟩
  · iterate 6 refine hK _ _ _ _ _ ?_
    refine And.intro (vp_in_nI (n := s) (by omega) (by decide)) ?_
    rw [nI_clamp (show s < 2 ^ 31 by omega)]
    rw [show y 89 0 s = nI L.length from e89]
    refine hK _ _ _ _ _ ?_
    refine And.intro (fun h8 => ?_) (fun h8 => ?_)
    · obtain ⟨k, rfl, hkL⟩ := in_nI (n := L.length) (by omega) ⟨Int32.not_lt.mp h9, (lt_pre (by omega) i).mp h8⟩
      have ek := e88 k _ (List.getElem?_eq_getElem hkL)
      iterate 5 refine hK _ _ _ _ _ ?_
      refine And.intro (vp_in_nI (n := s) (by omega) (by decide)) ?_
      rw [nI_clamp (show s < 2 ^ 31 by omega)]
      iterate 2 refine hK _ _ _ _ _ ?_
      refine And.intro (by first | omega | (rw [nI_clamp (by omega)]; omega)) (And.intro (vp_in_nI (n := k) (by omega) (by decide)) ?_)
      rw [nI_clamp (show k < 2 ^ 31 by omega)]
      rw [show y 88 s k = nI L[k] from ek]
      refine hK _ _ _ _ _ ?_
      refine ⟨?_, hfr⟩
      unfold leA
      rw [if_pos (nI_isIn (by omega) hkL), nI_clamp (show k < 2 ^ 31 by omega), List.getD_eq_getElem?_getD, List.getElem?_eq_getElem hkL]
      rfl
    · iterate 3 refine hK _ _ _ _ _ ?_
      exact ⟨by unfold leA; rw [if_neg (fun q => h8 ((lt_pre (by omega) i).mpr q.2))]; rfl, hfr⟩
theorem c8_judge_36_x0 (d : Nat) (σ t : sMem) (N P S G : Nat) (h : HR σ t 36 N P S G) (w : Int32) (h0 : ¬ (0 ≤ w ∧ w ≤ nI 2 - 1)) : yMet l D0 b0 ty ad av lay (d + 7) 1 mX8_judge [aR 34, aI (w)] σ (fun _ _ => False) (fun e σ' => e = yIAE ∧ σ' = σ) := by
  refine yMet_intro lay_nd kX8_judge xX8_ok (yY8_ok _) (by decide +kernel) rfl ?_
  intro K hK
  have hN := h.2.2.1.1.1.1.1
  have hP := h.2.2.1.1.1.2.2.2.1.2
  have hS8 := h.2.2.1.1.1.2.2.2.2.1.2
  iterate 3 refine hK _ _ _ _ _ ?_
  refine Or.inr (Or.inr ⟨0, 1, rfl, yDX (c8_checkBelow_x _ _ 2 (by decide) w h0) (fun _ _ h => h.elim) ?_⟩)
  exact fun e σ' h => h
set_option maxHeartbeats 1000000 in
theorem c8_judge_36_ok (d : Nat) (σ t : sMem) (N P S G : Nat) (h : HR σ t 36 N P S G) (hT : HT t) (w : Nat) (hw : w ≤ 1) : yMet l D0 b0 ty ad av lay (d + 7) 0 mX8_judge [aR 34, aI (nI w)] σ (fun r σ' => r = [aI (juA (cP t G) (daA (cP t G) aT P G S 4) (nI w) S 0)] ∧ FR σ σ') (fun _ _ => False) := by
  refine yMet_intro lay_nd kX8_judge xX8_ok (yY8_ok _) (by decide +kernel) rfl ?_
  intro K hK
  have hN := h.2.2.1.1.1.1.1
  have hP := h.2.2.1.1.1.2.2.2.1.2
  have hS8 := h.2.2.1.1.1.2.2.2.2.1.2
  iterate 3 refine hK _ _ _ _ _ ?_
  refine Or.inl (calD (c8_checkBelow_ok _ _ 2 (by decide) (nI w) (nI_isIn (n := 2) (by decide) (by omega))) ?_)
  rintro r σ' ⟨rfl, hσ⟩
  subst σ'
  iterate 3 refine hK _ _ _ _ _ ?_
  refine Or.inr (Or.inl (yD0 (c8_goThrough_36 _ σ t (uP t) N P S G h 4 (by omega) (uP_0 hT h.2.2.1)) ?_))
  rintro r y ⟨rfl, hG0, hfr⟩
  have hG : CG y (cP t G) aT 36 4 N P S G (daA (cP t G) aT P G S 4) := hG0
  clear hG0
  obtain ⟨gT, gM, gS, gF, gV, gL, gI⟩ := id hG
  have y3 : y 34 0 3 = nI 36 := by rw [hfr 34 (by omega)]; exact h.1
  have yS : y 36 0 7 = nI S := gT.2.2.1
  have y72 : ∀ s, s < S → y 72 0 s = oI (tlO (cP t G) s) := fun s hs => by
    rw [hfr 72 (by omega), h.2.2.2 s (by omega), ← (uP_0 hT h.2.2.1).at (by omega)]
    have := (gS.2.2.2.2.1 s hs)
    have h7 := ((uP_0 hT h.2.2.1).OK h.2.2.1).2.2.2.2 s hs
    show cP t G 16 0 s = _
    cases e : tlO (cP t G) s with
    | none =>
      unfold tlO at e
      split at e
      · rename_i h9; exact h9
      · cases e
    | some p => exact (h7 p e).2
  have hju : ∀ s f, juA (cP t G) (daA (cP t G) aT P G S 4) (nI w) (f + 1) s = if juB (cP t G) (daA (cP t G) aT P G S 4) (nI w) s = true then nI s else juA (cP t G) (daA (cP t G) aT P G S 4) (nI w) f (s + 1) := fun _ _ => rfl
  have hlef : ∀ s, s < S → lefA (daA (cP t G) aT P G S 4) s = decide (((daA (cP t G) aT P G S 4).2.1 s).2.2.1 = none) := fun s hs => by
    have h5 := (gI s hs)
    have h6 := (gV.2.1 s hs).2.1
    unfold lefA
    have h8 : ¬ ((daA (cP t G) aT P G S 4).2.1 s).2.1 = 1000000 := fun q => by have := h5.mp q; cases this
    rw [decide_eq_decide]
    exact ⟨fun q => q.1, fun q => ⟨q, by omega⟩⟩
  have h16 : ∀ s p, s < S → tlO (cP t G) s = some p → p < P := fun s p hs hp => (((uP_0 hT h.2.2.1).OK h.2.2.1).2.2.2.2 s hs p hp).1
  generalize hDD : daA (cP t G) aT P G S 4 = D at *
  generalize hZ : juA (cP t G) D (nI w) S 0 = Z at hK
  iterate 2 refine hK _ _ _ _ _ ?_
  have L12 : ∀ (f : Nat) (s : Nat) (e3 : Option AV), s + f = S → juA (cP t G) D (nI w) f s = Z → K 0 12 [some (aR 34), some (aI (nI w)), some (aI (nI s)), e3] [] y := by
    intro f
    induction f with
    | zero =>
      intro s e3 hsS hz
      iterate 3 refine hK _ _ _ _ _ ?_
      show K _ _ _ _ _
      rw [show y 34 0 3 = nI 36 from y3]
      show K _ _ _ _ _
      rw [show (nI 36).toNatClampNeg = 36 from rfl]
      refine hK _ _ _ _ _ ?_
      show K _ _ _ _ _
      rw [show y 36 0 7 = nI S from yS]
      refine hK _ _ _ _ _ ?_
      refine And.intro (fun _ => ?_) (fun h9 => absurd ((nI_leI (by omega) (by omega)).mpr (by omega)) h9)
      iterate 2 refine hK _ _ _ _ _ ?_
      exact ⟨by rw [← hz]; rfl, hfr⟩
    | succ f ih =>
      intro s e3 hsS hz
      rw [hju] at hz
      iterate 3 refine hK _ _ _ _ _ ?_
      show K _ _ _ _ _
      rw [show y 34 0 3 = nI 36 from y3]
      show K _ _ _ _ _
      rw [show (nI 36).toNatClampNeg = 36 from rfl]
      refine hK _ _ _ _ _ ?_
      show K _ _ _ _ _
      rw [show y 36 0 7 = nI S from yS]
      refine hK _ _ _ _ _ ?_
      refine And.intro (fun h9 => absurd ((nI_leI (by omega) (by omega)).mp h9) (by omega)) (fun _ => ?_)
      iterate 2 refine hK _ _ _ _ _ ?_
      refine And.intro (fun h8 => ?_) (fun h8 => ?_)
      · have hw1 : ¬ nI w = 0 := h8
        iterate 4 refine hK _ _ _ _ _ ?_
        refine And.intro (vp_in_nI (n := s) (by omega) (by decide)) ?_
        rw [nI_clamp (show s < 2 ^ 31 by omega)]
        rw [show y 72 0 s = oI (tlO (cP t G) s) from y72 s (by omega)]
        iterate 2 refine hK _ _ _ _ _ ?_
        refine And.intro (fun h7 => ?_) (fun h7 => ?_)
        · have hn : tlO (cP t G) s = none := (oI_inj (fun q hq => by have := h16 s q (by omega) hq; omega)).mp h7
          rw [if_neg (by rw [juB_n hw1 hn]; decide)] at hz
          iterate 4 refine hK _ _ _ _ _ ?_
          refine And.intro (fun _ => ?_) (fun h6 => absurd rfl h6)
          refine hK _ _ _ _ _ ?_
          show K _ _ _ _ _
          rw [show nI s + Int32.ofInt 1 = nI (s + 1) from nIs _]
          refine hK _ _ _ _ _ ?_
          exact ih (s + 1) _ (by omega) hz
        · obtain ⟨p, hp⟩ : ∃ p, tlO (cP t G) s = some p := by
            cases hh : tlO (cP t G) s with
            | none => rw [hh] at h7; exact absurd rfl h7
            | some p => exact ⟨p, rfl⟩
          have hpP := h16 s p (by omega) hp
          have hB := juB_s (D := D) hw1 hp
          have e72 : y 72 0 s = nI p := by rw [y72 s (by omega), hp]; rfl
          iterate 7 refine hK _ _ _ _ _ ?_
          refine And.intro (vp_in_nI (n := s) (by omega) (by decide)) ?_
          rw [nI_clamp (show s < 2 ^ 31 by omega)]
          rw [show y 72 0 s = nI p from e72]
          refine hK _ _ _ _ _ ?_
          refine Or.inl (calD (c0_isLedBy_36 _ _ _ _ _ N P S G _ hG s p (by omega) (by omega)) ?_)
          rintro r σ' ⟨rfl, hσ⟩
          subst σ'
          refine hK _ _ _ _ _ ?_
          refine And.intro (fun h6 => ?_) (fun h6 => ?_)
          · have hcn : (D.2.1 s).2.2.2.contains p = true := by
              cases hh : (D.2.1 s).2.2.2.contains p with
              | true => rfl
              | false => rw [hh] at h6; exact absurd rfl h6
            rw [if_neg (by rw [hB, hcn]; decide)] at hz
            iterate 4 refine hK _ _ _ _ _ ?_
            refine And.intro (fun _ => ?_) (fun h5 => absurd rfl h5)
            refine hK _ _ _ _ _ ?_
            show K _ _ _ _ _
            rw [show nI s + Int32.ofInt 1 = nI (s + 1) from nIs _]
            refine hK _ _ _ _ _ ?_
            exact ih (s + 1) _ (by omega) hz
          · have hcn : (D.2.1 s).2.2.2.contains p = false := by
              cases hh : (D.2.1 s).2.2.2.contains p with
              | false => rfl
              | true => rw [hh] at h6; exact absurd h6 (by decide)
            rw [if_pos (by rw [hB, hcn]; rfl)] at hz
            iterate 5 refine hK _ _ _ _ _ ?_
            refine And.intro (fun h5 => absurd h5 (by decide)) (fun _ => ?_)
            iterate 2 refine hK _ _ _ _ _ ?_
            exact ⟨by rw [← hz], hfr⟩
      · have hw0 : nI w = 0 := h8
        have hB : juB (cP t G) D (nI w) s = lefA D s := by unfold juB; rw [if_pos hw0, hlef s (by omega)]
        iterate 4 refine hK _ _ _ _ _ ?_
        refine Or.inr (Or.inl (yD0 (c0_isLeft_36 _ _ _ _ _ N P S G _ hG s (by omega)) ?_))
        rintro r σ' ⟨rfl, hσ⟩
        subst σ'
        iterate 4 refine hK _ _ _ _ _ ?_
        refine And.intro (fun h6 => ?_) (fun h6 => ?_)
        · rw [if_neg (by rw [hB, bI_f h6]; decide)] at hz
          refine hK _ _ _ _ _ ?_
          show K _ _ _ _ _
          rw [show nI s + Int32.ofInt 1 = nI (s + 1) from nIs _]
          refine hK _ _ _ _ _ ?_
          exact ih (s + 1) _ (by omega) hz
        · rw [if_pos (by rw [hB, bI_t h6])] at hz
          iterate 2 refine hK _ _ _ _ _ ?_
          exact ⟨by rw [← hz], hfr⟩
  exact L12 S 0 none (by omega) hZ
theorem c8_day_54_x0 (d : Nat) (σ t : sMem) (N P S G : Nat) (h : HR σ t 54 N P S G) (kd w : Int32) (h0 : ¬ (0 ≤ kd ∧ kd ≤ 4)) : yMet l D0 b0 ty ad av lay (d + 7) 1 mX8_day [aR 34, aI (kd), aI (w)] σ (fun _ _ => False) (fun e σ' => e = yIAE ∧ σ' = σ) := by
  refine yMet_intro lay_nd kX8_day xX8_ok (yY8_ok _) (by decide +kernel) rfl ?_
  intro K hK
  have hN := h.2.2.1.1.1.1.1
  have hP := h.2.2.1.1.1.2.2.2.1.2
  have hS8 := h.2.2.1.1.1.2.2.2.2.1.2
  iterate 2 refine hK _ _ _ _ _ ?_
  refine Or.inr (Or.inr ⟨0, 1, rfl, yDX (c8_checkKind_x _ _ kd h0) (fun _ _ h => h.elim) ?_⟩)
  exact fun e σ' h => h
theorem c8_day_54_x1 (d : Nat) (σ t : sMem) (N P S G : Nat) (h : HR σ t 54 N P S G) (kd w : Int32) (h0 : 0 ≤ kd ∧ kd ≤ 4) (h1 : ¬ (0 ≤ w ∧ w ≤ nI 5 - 1)) : yMet l D0 b0 ty ad av lay (d + 7) 1 mX8_day [aR 34, aI (kd), aI (w)] σ (fun _ _ => False) (fun e σ' => e = yIAE ∧ σ' = σ) := by
  refine yMet_intro lay_nd kX8_day xX8_ok (yY8_ok _) (by decide +kernel) rfl ?_
  intro K hK
  have hN := h.2.2.1.1.1.1.1
  have hP := h.2.2.1.1.1.2.2.2.1.2
  have hS8 := h.2.2.1.1.1.2.2.2.2.1.2
  iterate 2 refine hK _ _ _ _ _ ?_
  refine Or.inl (calD (c8_checkKind_ok _ _ kd h0) ?_)
  rintro r σ' ⟨rfl, hσ⟩
  subst σ'
  iterate 3 refine hK _ _ _ _ _ ?_
  refine Or.inr (Or.inr ⟨0, 1, rfl, yDX (c8_checkBelow_x _ _ 5 (by decide) w h1) (fun _ _ h => h.elim) ?_⟩)
  exact fun e σ' h => h
theorem c8_day_54_ok (d : Nat) (σ t : sMem) (N P S G : Nat) (h : HR σ t 54 N P S G) (hT : HT t) (kd w : Nat) (hk : kd ≤ 4) (hw : w ≤ 4) : yMet l D0 b0 ty ad av lay (d + 7) 0 mX8_day [aR 34, aI (nI kd), aI (nI w)] σ (fun r σ' => r = [aI (dyA (cP t G) (daA (cP t G) aT P G S kd) P S (nI w))] ∧ FR σ σ') (fun _ _ => False) := by
  refine yMet_intro lay_nd kX8_day xX8_ok (yY8_ok _) (by decide +kernel) rfl ?_
  intro K hK
  have hN := h.2.2.1.1.1.1.1
  have hP := h.2.2.1.1.1.2.2.2.1.2
  have hS8 := h.2.2.1.1.1.2.2.2.2.1.2
  iterate 2 refine hK _ _ _ _ _ ?_
  refine Or.inl (calD (c8_checkKind_ok _ _ (nI kd) (nI_isIn (n := 5) (by decide) (by omega))) ?_)
  rintro r σ' ⟨rfl, hσ⟩
  subst σ'
  iterate 3 refine hK _ _ _ _ _ ?_
  refine Or.inl (calD (c8_checkBelow_ok _ _ 5 (by decide) (nI w) (nI_isIn (n := 5) (by decide) (by omega))) ?_)
  rintro r σ' ⟨rfl, hσ⟩
  subst σ'
  iterate 3 refine hK _ _ _ _ _ ?_
  refine Or.inr (Or.inl (yD0 (c8_goThrough_54 _ σ t (uP t) N P S G h kd hk (uP_0 hT h.2.2.1)) ?_))
  rintro r y ⟨rfl, hG0, hfr⟩
  have hG : CG y (cP t G) aT 54 kd N P S G (daA (cP t G) aT P G S kd) := hG0
  clear hG0
  obtain ⟨gT, gM, gS, gF, gV, gL, gI⟩ := id hG
  have y3 : y 34 0 3 = nI 54 := by rw [hfr 34 (by omega)]; exact h.1
  iterate 2 refine hK _ _ _ _ _ ?_
  have kt : ∀ i : Nat, (nI w).toInt = (i : Int) → w = i := fun i hi => by rw [nI_toInt (by omega)] at hi; omega
  refine ⟨fun hsw => ?_, fun hsw => ?_, fun hsw => ?_, fun hsw => ?_, fun hsw => ?_, trivial⟩
  · have e : w = 4 := by
      rw [nI_toInt (by omega)] at hsw
      omega
    subst e
    iterate 4 refine hK _ _ _ _ _ ?_
    refine Or.inl (calD (c0_arrivedBy_54 _ _ _ _ _ N P S G _ hG) ?_)
    rintro r σ' ⟨rfl, hσ⟩
    subst σ'
    refine hK _ _ _ _ _ ?_
    exact ⟨rfl, hfr⟩
  · have e := kt 0 hsw
    subst e
    iterate 3 refine hK _ _ _ _ _ ?_
    refine Or.inl (calD (c0_cost_54 _ _ _ _ _ N P S G _ hG) ?_)
    rintro r σ' ⟨rfl, hσ⟩
    subst σ'
    refine hK _ _ _ _ _ ?_
    exact ⟨rfl, hfr⟩
  · have e := kt 1 hsw
    subst e
    iterate 3 refine hK _ _ _ _ _ ?_
    refine Or.inr (Or.inl (yD0 (c0_leftCount_54 _ _ _ _ _ N P S G _ hG) ?_))
    rintro r σ' ⟨rfl, hσ⟩
    subst σ'
    refine hK _ _ _ _ _ ?_
    exact ⟨rfl, hfr⟩
  · have e := kt 2 hsw
    subst e
    iterate 3 refine hK _ _ _ _ _ ?_
    show K _ _ _ _ _
    rw [show y 81 0 12 = nI (daA (cP t G) aT P G S kd).2.2.2.2.2 from gF.2.2.2]
    refine hK _ _ _ _ _ ?_
    exact ⟨rfl, hfr⟩
  · have e := kt 3 hsw
    subst e
    iterate 3 refine hK _ _ _ _ _ ?_
    show K _ _ _ _ _
    rw [show y 81 0 11 = nI (daA (cP t G) aT P G S kd).2.2.2.2.1 from gF.2.2.1.2.2.2]
    refine hK _ _ _ _ _ ?_
    exact ⟨rfl, hfr⟩
theorem c8_fees_54_x0 (d : Nat) (σ t : sMem) (N P S G : Nat) (h : HR σ t 54 N P S G) (kd : Int32) (h0 : ¬ (0 ≤ kd ∧ kd ≤ 4)) : yMet l D0 b0 ty ad av lay (d + 7) 1 mX8_fees [aR 34, aI (kd)] σ (fun _ _ => False) (fun e σ' => e = yIAE ∧ σ' = σ) := by
  refine yMet_intro lay_nd kX8_fees xX8_ok (yY8_ok _) (by decide +kernel) rfl ?_
  intro K hK
  have hN := h.2.2.1.1.1.1.1
  have hP := h.2.2.1.1.1.2.2.2.1.2
  have hS8 := h.2.2.1.1.1.2.2.2.2.1.2
  iterate 2 refine hK _ _ _ _ _ ?_
  refine Or.inr (Or.inr ⟨0, 1, rfl, yDX (c8_checkKind_x _ _ kd h0) (fun _ _ h => h.elim) ?_⟩)
  exact fun e σ' h => h
theorem c8_fees_54_ok (d : Nat) (σ t : sMem) (N P S G : Nat) (h : HR σ t 54 N P S G) (hT : HT t) (kd : Nat) (hk : kd ≤ 4) : yMet l D0 b0 ty ad av lay (d + 7) 0 mX8_fees [aR 34, aI (nI kd)] σ (fun r σ' => r = [aI (nI (daA (cP t G) aT P G S kd).2.2.2.1)] ∧ FR σ σ') (fun _ _ => False) := by
  refine yMet_intro lay_nd kX8_fees xX8_ok (yY8_ok _) (by decide +kernel) rfl ?_
  intro K hK
  have hN := h.2.2.1.1.1.1.1
  have hP := h.2.2.1.1.1.2.2.2.1.2
  have hS8 := h.2.2.1.1.1.2.2.2.2.1.2
  iterate 2 refine hK _ _ _ _ _ ?_
  refine Or.inl (calD (c8_checkKind_ok _ _ (nI kd) (nI_isIn (n := 5) (by decide) (by omega))) ?_)
  rintro r σ' ⟨rfl, hσ⟩
  subst σ'
  iterate 3 refine hK _ _ _ _ _ ?_
  refine Or.inr (Or.inl (yD0 (c8_goThrough_54 _ σ t (uP t) N P S G h kd hk (uP_0 hT h.2.2.1)) ?_))
  rintro r y ⟨rfl, hG0, hfr⟩
  have hG : CG y (cP t G) aT 54 kd N P S G (daA (cP t G) aT P G S kd) := hG0
  clear hG0
  obtain ⟨gT, gM, gS, gF, gV, gL, gI⟩ := id hG
  have y3 : y 34 0 3 = nI 54 := by rw [hfr 34 (by omega)]; exact h.1
  iterate 3 refine hK _ _ _ _ _ ?_
  show K _ _ _ _ _
  rw [show y 81 0 13 = nI (daA (cP t G) aT P G S kd).2.2.2.1 from gF.2.2.1.2.2.1]
  refine hK _ _ _ _ _ ?_
  exact ⟨rfl, hfr⟩
theorem c8_lost_54_x0 (d : Nat) (σ t : sMem) (N P S G : Nat) (h : HR σ t 54 N P S G) (kd x : Int32) (h0 : ¬ (0 ≤ x ∧ x ≤ nI P - 1)) : yMet l D0 b0 ty ad av lay (d + 7) 1 mX8_lost [aR 34, aI (kd), aI (x)] σ (fun _ _ => False) (fun e σ' => e = yNSE ∧ σ' = σ) := by
  refine yMet_intro lay_nd kX8_lost xX8_ok (yY8_ok _) (by decide +kernel) rfl ?_
  intro K hK
  have hN := h.2.2.1.1.1.1.1
  have hP := h.2.2.1.1.1.2.2.2.1.2
  have hS8 := h.2.2.1.1.1.2.2.2.2.1.2
  iterate 3 refine hK _ _ _ _ _ ?_
  refine Or.inr (Or.inr ⟨0, 1, rfl, yDX (c8_checkPerson_54_x _ _ P (by omega) h.1 h.2.1.2.1 x h0) (fun _ _ h => h.elim) ?_⟩)
  exact fun e σ' h => h
theorem c8_lost_54_x1 (d : Nat) (σ t : sMem) (N P S G : Nat) (h : HR σ t 54 N P S G) (kd x : Int32) (h0 : 0 ≤ x ∧ x ≤ nI P - 1) (h1 : ¬ (0 ≤ kd ∧ kd ≤ 4)) : yMet l D0 b0 ty ad av lay (d + 7) 1 mX8_lost [aR 34, aI (kd), aI (x)] σ (fun _ _ => False) (fun e σ' => e = yIAE ∧ σ' = σ) := by
  refine yMet_intro lay_nd kX8_lost xX8_ok (yY8_ok _) (by decide +kernel) rfl ?_
  intro K hK
  have hN := h.2.2.1.1.1.1.1
  have hP := h.2.2.1.1.1.2.2.2.1.2
  have hS8 := h.2.2.1.1.1.2.2.2.2.1.2
  iterate 3 refine hK _ _ _ _ _ ?_
  refine Or.inl (calD (c8_checkPerson_54_ok _ _ P (by omega) h.1 h.2.1.2.1 x h0) ?_)
  rintro r σ' ⟨rfl, hσ⟩
  subst σ'
  iterate 2 refine hK _ _ _ _ _ ?_
  refine Or.inr (Or.inr ⟨0, 1, rfl, yDX (c8_checkKind_x _ _ kd h1) (fun _ _ h => h.elim) ?_⟩)
  exact fun e σ' h => h
theorem c8_lost_54_ok (d : Nat) (σ t : sMem) (N P S G : Nat) (h : HR σ t 54 N P S G) (hT : HT t) (kd p : Nat) (hk : kd ≤ 4) (hp : p < P) : yMet l D0 b0 ty ad av lay (d + 7) 0 mX8_lost [aR 34, aI (nI kd), aI (nI p)] σ (fun r σ' => r = [aI (nI (losP (cP t G) (daA (cP t G) aT P G S kd) p))] ∧ FR σ σ') (fun _ _ => False) := by
  refine yMet_intro lay_nd kX8_lost xX8_ok (yY8_ok _) (by decide +kernel) rfl ?_
  intro K hK
  have hN := h.2.2.1.1.1.1.1
  have hP := h.2.2.1.1.1.2.2.2.1.2
  have hS8 := h.2.2.1.1.1.2.2.2.2.1.2
  iterate 3 refine hK _ _ _ _ _ ?_
  refine Or.inl (calD (c8_checkPerson_54_ok _ _ P (by omega) h.1 h.2.1.2.1 (nI p) (nI_isIn (by omega) hp)) ?_)
  rintro r σ' ⟨rfl, hσ⟩
  subst σ'
  iterate 2 refine hK _ _ _ _ _ ?_
  refine Or.inl (calD (c8_checkKind_ok _ _ (nI kd) (nI_isIn (n := 5) (by decide) (by omega))) ?_)
  rintro r σ' ⟨rfl, hσ⟩
  subst σ'
  iterate 3 refine hK _ _ _ _ _ ?_
  refine Or.inr (Or.inl (yD0 (c8_goThrough_54 _ σ t (uP t) N P S G h kd hk (uP_0 hT h.2.2.1)) ?_))
  rintro r y ⟨rfl, hG0, hfr⟩
  have hG : CG y (cP t G) aT 54 kd N P S G (daA (cP t G) aT P G S kd) := hG0
  clear hG0
  obtain ⟨gT, gM, gS, gF, gV, gL, gI⟩ := id hG
  have y3 : y 34 0 3 = nI 54 := by rw [hfr 34 (by omega)]; exact h.1
  iterate 4 refine hK _ _ _ _ _ ?_
  refine Or.inl (calD (c0_lostBy_54 _ _ _ _ _ N P S G _ hG p hp) ?_)
  rintro r σ' ⟨rfl, hσ⟩
  subst σ'
  refine hK _ _ _ _ _ ?_
  exact ⟨rfl, hfr⟩
theorem c8_there_54_x0 (d : Nat) (σ t : sMem) (N P S G : Nat) (h : HR σ t 54 N P S G) (kd x : Int32) (h0 : ¬ (0 ≤ x ∧ x ≤ nI S - 1)) : yMet l D0 b0 ty ad av lay (d + 7) 1 mX8_there [aR 34, aI (kd), aI (x)] σ (fun _ _ => False) (fun e σ' => e = yNSE ∧ σ' = σ) := by
  refine yMet_intro lay_nd kX8_there xX8_ok (yY8_ok _) (by decide +kernel) rfl ?_
  intro K hK
  have hN := h.2.2.1.1.1.1.1
  have hP := h.2.2.1.1.1.2.2.2.1.2
  have hS8 := h.2.2.1.1.1.2.2.2.2.1.2
  iterate 3 refine hK _ _ _ _ _ ?_
  refine Or.inr (Or.inr ⟨0, 1, rfl, yDX (c8_checkStranger_54_x _ _ S (by omega) h.1 h.2.1.2.2.1 x h0) (fun _ _ h => h.elim) ?_⟩)
  exact fun e σ' h => h
theorem c8_there_54_x1 (d : Nat) (σ t : sMem) (N P S G : Nat) (h : HR σ t 54 N P S G) (kd x : Int32) (h0 : 0 ≤ x ∧ x ≤ nI S - 1) (h1 : ¬ (0 ≤ kd ∧ kd ≤ 4)) : yMet l D0 b0 ty ad av lay (d + 7) 1 mX8_there [aR 34, aI (kd), aI (x)] σ (fun _ _ => False) (fun e σ' => e = yIAE ∧ σ' = σ) := by
  refine yMet_intro lay_nd kX8_there xX8_ok (yY8_ok _) (by decide +kernel) rfl ?_
  intro K hK
  have hN := h.2.2.1.1.1.1.1
  have hP := h.2.2.1.1.1.2.2.2.1.2
  have hS8 := h.2.2.1.1.1.2.2.2.2.1.2
  iterate 3 refine hK _ _ _ _ _ ?_
  refine Or.inl (calD (c8_checkStranger_54_ok _ _ S (by omega) h.1 h.2.1.2.2.1 x h0) ?_)
  rintro r σ' ⟨rfl, hσ⟩
  subst σ'
  iterate 2 refine hK _ _ _ _ _ ?_
  refine Or.inr (Or.inr ⟨0, 1, rfl, yDX (c8_checkKind_x _ _ kd h1) (fun _ _ h => h.elim) ?_⟩)
  exact fun e σ' h => h
theorem c8_there_54_ok (d : Nat) (σ t : sMem) (N P S G : Nat) (h : HR σ t 54 N P S G) (hT : HT t) (kd s : Nat) (hk : kd ≤ 4) (hs : s < S) : yMet l D0 b0 ty ad av lay (d + 7) 0 mX8_there [aR 34, aI (nI kd), aI (nI s)] σ (fun r σ' => r = [aI (oI ((daA (cP t G) aT P G S kd).2.1 s).2.2.1)] ∧ FR σ σ') (fun _ _ => False) := by
  refine yMet_intro lay_nd kX8_there xX8_ok (yY8_ok _) (by decide +kernel) rfl ?_
  intro K hK
  have hN := h.2.2.1.1.1.1.1
  have hP := h.2.2.1.1.1.2.2.2.1.2
  have hS8 := h.2.2.1.1.1.2.2.2.2.1.2
  iterate 3 refine hK _ _ _ _ _ ?_
  refine Or.inl (calD (c8_checkStranger_54_ok _ _ S (by omega) h.1 h.2.1.2.2.1 (nI s) (nI_isIn (by omega) hs)) ?_)
  rintro r σ' ⟨rfl, hσ⟩
  subst σ'
  iterate 2 refine hK _ _ _ _ _ ?_
  refine Or.inl (calD (c8_checkKind_ok _ _ (nI kd) (nI_isIn (n := 5) (by decide) (by omega))) ?_)
  rintro r σ' ⟨rfl, hσ⟩
  subst σ'
  iterate 3 refine hK _ _ _ _ _ ?_
  refine Or.inr (Or.inl (yD0 (c8_goThrough_54 _ σ t (uP t) N P S G h kd hk (uP_0 hT h.2.2.1)) ?_))
  rintro r y ⟨rfl, hG0, hfr⟩
  have hG : CG y (cP t G) aT 54 kd N P S G (daA (cP t G) aT P G S kd) := hG0
  clear hG0
  obtain ⟨gT, gM, gS, gF, gV, gL, gI⟩ := id hG
  have y3 : y 34 0 3 = nI 54 := by rw [hfr 34 (by omega)]; exact h.1
  iterate 5 refine hK _ _ _ _ _ ?_
  refine And.intro (vp_in_nI (n := s) (by omega) (by decide)) ?_
  rw [nI_clamp (show s < 2 ^ 31 by omega)]
  rw [show y 87 0 s = oI ((daA (cP t G) aT P G S kd).2.1 s).2.2.1 from (gF.2.2.1.1 s hs).2.2.1]
  refine hK _ _ _ _ _ ?_
  exact ⟨rfl, hfr⟩
theorem c8_leads_54_x0 (d : Nat) (σ t : sMem) (N P S G : Nat) (h : HR σ t 54 N P S G) (kd x i : Int32) (h0 : ¬ (0 ≤ x ∧ x ≤ nI S - 1)) : yMet l D0 b0 ty ad av lay (d + 7) 1 mX8_leads [aR 34, aI (kd), aI (x), aI (i)] σ (fun _ _ => False) (fun e σ' => e = yNSE ∧ σ' = σ) := by
  refine yMet_intro lay_nd kX8_leads xX8_ok (yY8_ok _) (by decide +kernel) rfl ?_
  intro K hK
  have hN := h.2.2.1.1.1.1.1
  have hP := h.2.2.1.1.1.2.2.2.1.2
  have hS8 := h.2.2.1.1.1.2.2.2.2.1.2
  iterate 3 refine hK _ _ _ _ _ ?_
  refine Or.inr (Or.inr ⟨0, 1, rfl, yDX (c8_checkStranger_54_x _ _ S (by omega) h.1 h.2.1.2.2.1 x h0) (fun _ _ h => h.elim) ?_⟩)
  exact fun e σ' h => h
theorem c8_leads_54_x1 (d : Nat) (σ t : sMem) (N P S G : Nat) (h : HR σ t 54 N P S G) (kd x i : Int32) (h0 : 0 ≤ x ∧ x ≤ nI S - 1) (h1 : ¬ (0 ≤ kd ∧ kd ≤ 4)) : yMet l D0 b0 ty ad av lay (d + 7) 1 mX8_leads [aR 34, aI (kd), aI (x), aI (i)] σ (fun _ _ => False) (fun e σ' => e = yIAE ∧ σ' = σ) := by
  refine yMet_intro lay_nd kX8_leads xX8_ok (yY8_ok _) (by decide +kernel) rfl ?_
  intro K hK
  have hN := h.2.2.1.1.1.1.1
  have hP := h.2.2.1.1.1.2.2.2.1.2
  have hS8 := h.2.2.1.1.1.2.2.2.2.1.2
  iterate 3 refine hK _ _ _ _ _ ?_
  refine Or.inl (calD (c8_checkStranger_54_ok _ _ S (by omega) h.1 h.2.1.2.2.1 x h0) ?_)
  rintro r σ' ⟨rfl, hσ⟩
  subst σ'
  iterate 2 refine hK _ _ _ _ _ ?_
  refine Or.inr (Or.inr ⟨0, 1, rfl, yDX (c8_checkKind_x _ _ kd h1) (fun _ _ h => h.elim) ?_⟩)
  exact fun e σ' h => h
theorem c8_leads_54_ok (d : Nat) (σ t : sMem) (N P S G : Nat) (h : HR σ t 54 N P S G) (hT : HT t) (kd s : Nat) (i : Int32) (hk : kd ≤ 4) (hs : s < S) : yMet l D0 b0 ty ad av lay (d + 7) 0 mX8_leads [aR 34, aI (nI kd), aI (nI s), aI (i)] σ (fun r σ' => r = [aI (leA ((daA (cP t G) aT P G S kd).2.1 s).2.2.2 i)] ∧ FR σ σ') (fun _ _ => False) := by
  refine yMet_intro lay_nd kX8_leads xX8_ok (yY8_ok _) (by decide +kernel) rfl ?_
  intro K hK
  have hN := h.2.2.1.1.1.1.1
  have hP := h.2.2.1.1.1.2.2.2.1.2
  have hS8 := h.2.2.1.1.1.2.2.2.2.1.2
  iterate 3 refine hK _ _ _ _ _ ?_
  refine Or.inl (calD (c8_checkStranger_54_ok _ _ S (by omega) h.1 h.2.1.2.2.1 (nI s) (nI_isIn (by omega) hs)) ?_)
  rintro r σ' ⟨rfl, hσ⟩
  subst σ'
  iterate 2 refine hK _ _ _ _ _ ?_
  refine Or.inl (calD (c8_checkKind_ok _ _ (nI kd) (nI_isIn (n := 5) (by decide) (by omega))) ?_)
  rintro r σ' ⟨rfl, hσ⟩
  subst σ'
  iterate 3 refine hK _ _ _ _ _ ?_
  refine Or.inr (Or.inl (yD0 (c8_goThrough_54 _ σ t (uP t) N P S G h kd hk (uP_0 hT h.2.2.1)) ?_))
  rintro r y ⟨rfl, hG0, hfr⟩
  have hG : CG y (cP t G) aT 54 kd N P S G (daA (cP t G) aT P G S kd) := hG0
  clear hG0
  obtain ⟨gT, gM, gS, gF, gV, gL, gI⟩ := id hG
  have y3 : y 34 0 3 = nI 54 := by rw [hfr 34 (by omega)]; exact h.1
  have e89 := (gF.2.2.1.1 s hs).2.2.2.1
  have e88 := (gF.2.2.1.1 s hs).2.2.2.2
  have hlen := (gV.2.1 s hs).2.2.2.2.2.1
  generalize ((daA (cP t G) aT P G S kd).2.1 s).2.2.2 = L at e89 e88 hlen hK
  iterate 2 refine hK _ _ _ _ _ ?_
  refine And.intro (fun h9 => ?_) (fun h9 => ?_)
  · iterate 3 refine hK _ _ _ _ _ ?_
    exact ⟨by unfold leA; rw [if_neg (fun q => Int32.not_lt.mpr q.1 h9)]; rfl, hfr⟩
  · iterate 6 refine hK _ _ _ _ _ ?_
    refine And.intro (vp_in_nI (n := s) (by omega) (by decide)) ?_
    rw [nI_clamp (show s < 2 ^ 31 by omega)]
    rw [show y 89 0 s = nI L.length from e89]
    refine hK _ _ _ _ _ ?_
    refine And.intro (fun h8 => ?_) (fun h8 => ?_)
    · obtain ⟨k, rfl, hkL⟩ := in_nI (n := L.length) (by omega) ⟨Int32.not_lt.mp h9, (lt_pre (by omega) i).mp h8⟩
      have ek := e88 k _ (List.getElem?_eq_getElem hkL)
      iterate 5 refine hK _ _ _ _ _ ?_
      refine And.intro (vp_in_nI (n := s) (by omega) (by decide)) ?_
      rw [nI_clamp (show s < 2 ^ 31 by omega)]
      iterate 2 refine hK _ _ _ _ _ ?_
      refine And.intro (by first | omega | (rw [nI_clamp (by omega)]; omega)) (And.intro (vp_in_nI (n := k) (by omega) (by decide)) ?_)
      rw [nI_clamp (show k < 2 ^ 31 by omega)]
      rw [show y 88 s k = nI L[k] from ek]
      refine hK _ _ _ _ _ ?_
      refine ⟨?_, hfr⟩
      unfold leA
      rw [if_pos (nI_isIn (by omega) hkL), nI_clamp (show k < 2 ^ 31 by omega), List.getD_eq_getElem?_getD, List.getElem?_eq_getElem hkL]
      rfl
    · iterate 3 refine hK _ _ _ _ _ ?_
      exact ⟨by unfold leA; rw [if_neg (fun q => h8 ((lt_pre (by omega) i).mpr q.2))]; rfl, hfr⟩
theorem c8_judge_54_x0 (d : Nat) (σ t : sMem) (N P S G : Nat) (h : HR σ t 54 N P S G) (w : Int32) (h0 : ¬ (0 ≤ w ∧ w ≤ nI 2 - 1)) : yMet l D0 b0 ty ad av lay (d + 7) 1 mX8_judge [aR 34, aI (w)] σ (fun _ _ => False) (fun e σ' => e = yIAE ∧ σ' = σ) := by
  refine yMet_intro lay_nd kX8_judge xX8_ok (yY8_ok _) (by decide +kernel) rfl ?_
  intro K hK
  have hN := h.2.2.1.1.1.1.1
  have hP := h.2.2.1.1.1.2.2.2.1.2
  have hS8 := h.2.2.1.1.1.2.2.2.2.1.2
  iterate 3 refine hK _ _ _ _ _ ?_
  refine Or.inr (Or.inr ⟨0, 1, rfl, yDX (c8_checkBelow_x _ _ 2 (by decide) w h0) (fun _ _ h => h.elim) ?_⟩)
  exact fun e σ' h => h
set_option maxHeartbeats 1000000 in
theorem c8_judge_54_ok (d : Nat) (σ t : sMem) (N P S G : Nat) (h : HR σ t 54 N P S G) (hT : HT t) (w : Nat) (hw : w ≤ 1) : yMet l D0 b0 ty ad av lay (d + 7) 0 mX8_judge [aR 34, aI (nI w)] σ (fun r σ' => r = [aI (juA (cP t G) (daA (cP t G) aT P G S 4) (nI w) S 0)] ∧ FR σ σ') (fun _ _ => False) := by
  refine yMet_intro lay_nd kX8_judge xX8_ok (yY8_ok _) (by decide +kernel) rfl ?_
  intro K hK
  have hN := h.2.2.1.1.1.1.1
  have hP := h.2.2.1.1.1.2.2.2.1.2
  have hS8 := h.2.2.1.1.1.2.2.2.2.1.2
  iterate 3 refine hK _ _ _ _ _ ?_
  refine Or.inl (calD (c8_checkBelow_ok _ _ 2 (by decide) (nI w) (nI_isIn (n := 2) (by decide) (by omega))) ?_)
  rintro r σ' ⟨rfl, hσ⟩
  subst σ'
  iterate 3 refine hK _ _ _ _ _ ?_
  refine Or.inr (Or.inl (yD0 (c8_goThrough_54 _ σ t (uP t) N P S G h 4 (by omega) (uP_0 hT h.2.2.1)) ?_))
  rintro r y ⟨rfl, hG0, hfr⟩
  have hG : CG y (cP t G) aT 54 4 N P S G (daA (cP t G) aT P G S 4) := hG0
  clear hG0
  obtain ⟨gT, gM, gS, gF, gV, gL, gI⟩ := id hG
  have y3 : y 34 0 3 = nI 54 := by rw [hfr 34 (by omega)]; exact h.1
  have yS : y 54 0 7 = nI S := gT.2.2.1
  have y72 : ∀ s, s < S → y 72 0 s = oI (tlO (cP t G) s) := fun s hs => by
    rw [hfr 72 (by omega), h.2.2.2 s (by omega), ← (uP_0 hT h.2.2.1).at (by omega)]
    have := (gS.2.2.2.2.1 s hs)
    have h7 := ((uP_0 hT h.2.2.1).OK h.2.2.1).2.2.2.2 s hs
    show cP t G 16 0 s = _
    cases e : tlO (cP t G) s with
    | none =>
      unfold tlO at e
      split at e
      · rename_i h9; exact h9
      · cases e
    | some p => exact (h7 p e).2
  have hju : ∀ s f, juA (cP t G) (daA (cP t G) aT P G S 4) (nI w) (f + 1) s = if juB (cP t G) (daA (cP t G) aT P G S 4) (nI w) s = true then nI s else juA (cP t G) (daA (cP t G) aT P G S 4) (nI w) f (s + 1) := fun _ _ => rfl
  have hlef : ∀ s, s < S → lefA (daA (cP t G) aT P G S 4) s = decide (((daA (cP t G) aT P G S 4).2.1 s).2.2.1 = none) := fun s hs => by
    have h5 := (gI s hs)
    have h6 := (gV.2.1 s hs).2.1
    unfold lefA
    have h8 : ¬ ((daA (cP t G) aT P G S 4).2.1 s).2.1 = 1000000 := fun q => by have := h5.mp q; cases this
    rw [decide_eq_decide]
    exact ⟨fun q => q.1, fun q => ⟨q, by omega⟩⟩
  have h16 : ∀ s p, s < S → tlO (cP t G) s = some p → p < P := fun s p hs hp => (((uP_0 hT h.2.2.1).OK h.2.2.1).2.2.2.2 s hs p hp).1
  generalize hDD : daA (cP t G) aT P G S 4 = D at *
  generalize hZ : juA (cP t G) D (nI w) S 0 = Z at hK
  iterate 2 refine hK _ _ _ _ _ ?_
  have L12 : ∀ (f : Nat) (s : Nat) (e3 : Option AV), s + f = S → juA (cP t G) D (nI w) f s = Z → K 0 12 [some (aR 34), some (aI (nI w)), some (aI (nI s)), e3] [] y := by
    intro f
    induction f with
    | zero =>
      intro s e3 hsS hz
      iterate 3 refine hK _ _ _ _ _ ?_
      show K _ _ _ _ _
      rw [show y 34 0 3 = nI 54 from y3]
      show K _ _ _ _ _
      rw [show (nI 54).toNatClampNeg = 54 from rfl]
      refine hK _ _ _ _ _ ?_
      show K _ _ _ _ _
      rw [show y 54 0 7 = nI S from yS]
      refine hK _ _ _ _ _ ?_
      refine And.intro (fun _ => ?_) (fun h9 => absurd ((nI_leI (by omega) (by omega)).mpr (by omega)) h9)
      iterate 2 refine hK _ _ _ _ _ ?_
      exact ⟨by rw [← hz]; rfl, hfr⟩
    | succ f ih =>
      intro s e3 hsS hz
      rw [hju] at hz
      iterate 3 refine hK _ _ _ _ _ ?_
      show K _ _ _ _ _
      rw [show y 34 0 3 = nI 54 from y3]
      show K _ _ _ _ _
      rw [show (nI 54).toNatClampNeg = 54 from rfl]
      refine hK _ _ _ _ _ ?_
      show K _ _ _ _ _
      rw [show y 54 0 7 = nI S from yS]
      refine hK _ _ _ _ _ ?_
      refine And.intro (fun h9 => absurd ((nI_leI (by omega) (by omega)).mp h9) (by omega)) (fun _ => ?_)
      iterate 2 refine hK _ _ _ _ _ ?_
      refine And.intro (fun h8 => ?_) (fun h8 => ?_)
      · have hw1 : ¬ nI w = 0 := h8
        iterate 4 refine hK _ _ _ _ _ ?_
        refine And.intro (vp_in_nI (n := s) (by omega) (by decide)) ?_
        rw [nI_clamp (show s < 2 ^ 31 by omega)]
        rw [show y 72 0 s = oI (tlO (cP t G) s) from y72 s (by omega)]
        iterate 2 refine hK _ _ _ _ _ ?_
        refine And.intro (fun h7 => ?_) (fun h7 => ?_)
        · have hn : tlO (cP t G) s = none := (oI_inj (fun q hq => by have := h16 s q (by omega) hq; omega)).mp h7
          rw [if_neg (by rw [juB_n hw1 hn]; decide)] at hz
          iterate 4 refine hK _ _ _ _ _ ?_
          refine And.intro (fun _ => ?_) (fun h6 => absurd rfl h6)
          refine hK _ _ _ _ _ ?_
          show K _ _ _ _ _
          rw [show nI s + Int32.ofInt 1 = nI (s + 1) from nIs _]
          refine hK _ _ _ _ _ ?_
          exact ih (s + 1) _ (by omega) hz
        · obtain ⟨p, hp⟩ : ∃ p, tlO (cP t G) s = some p := by
            cases hh : tlO (cP t G) s with
            | none => rw [hh] at h7; exact absurd rfl h7
            | some p => exact ⟨p, rfl⟩
          have hpP := h16 s p (by omega) hp
          have hB := juB_s (D := D) hw1 hp
          have e72 : y 72 0 s = nI p := by rw [y72 s (by omega), hp]; rfl
          iterate 7 refine hK _ _ _ _ _ ?_
          refine And.intro (vp_in_nI (n := s) (by omega) (by decide)) ?_
          rw [nI_clamp (show s < 2 ^ 31 by omega)]
          rw [show y 72 0 s = nI p from e72]
          refine hK _ _ _ _ _ ?_
          refine Or.inl (calD (c0_isLedBy_54 _ _ _ _ _ N P S G _ hG s p (by omega) (by omega)) ?_)
          rintro r σ' ⟨rfl, hσ⟩
          subst σ'
          refine hK _ _ _ _ _ ?_
          refine And.intro (fun h6 => ?_) (fun h6 => ?_)
          · have hcn : (D.2.1 s).2.2.2.contains p = true := by
              cases hh : (D.2.1 s).2.2.2.contains p with
              | true => rfl
              | false => rw [hh] at h6; exact absurd rfl h6
            rw [if_neg (by rw [hB, hcn]; decide)] at hz
            iterate 4 refine hK _ _ _ _ _ ?_
            refine And.intro (fun _ => ?_) (fun h5 => absurd rfl h5)
            refine hK _ _ _ _ _ ?_
            show K _ _ _ _ _
            rw [show nI s + Int32.ofInt 1 = nI (s + 1) from nIs _]
            refine hK _ _ _ _ _ ?_
            exact ih (s + 1) _ (by omega) hz
          · have hcn : (D.2.1 s).2.2.2.contains p = false := by
              cases hh : (D.2.1 s).2.2.2.contains p with
              | false => rfl
              | true => rw [hh] at h6; exact absurd h6 (by decide)
            rw [if_pos (by rw [hB, hcn]; rfl)] at hz
            iterate 5 refine hK _ _ _ _ _ ?_
            refine And.intro (fun h5 => absurd h5 (by decide)) (fun _ => ?_)
            iterate 2 refine hK _ _ _ _ _ ?_
            exact ⟨by rw [← hz], hfr⟩
      · have hw0 : nI w = 0 := h8
        have hB : juB (cP t G) D (nI w) s = lefA D s := by unfold juB; rw [if_pos hw0, hlef s (by omega)]
        iterate 4 refine hK _ _ _ _ _ ?_
        refine Or.inr (Or.inl (yD0 (c0_isLeft_54 _ _ _ _ _ N P S G _ hG s (by omega)) ?_))
        rintro r σ' ⟨rfl, hσ⟩
        subst σ'
        iterate 4 refine hK _ _ _ _ _ ?_
        refine And.intro (fun h6 => ?_) (fun h6 => ?_)
        · rw [if_neg (by rw [hB, bI_f h6]; decide)] at hz
          refine hK _ _ _ _ _ ?_
          show K _ _ _ _ _
          rw [show nI s + Int32.ofInt 1 = nI (s + 1) from nIs _]
          refine hK _ _ _ _ _ ?_
          exact ih (s + 1) _ (by omega) hz
        · rw [if_pos (by rw [hB, bI_t h6])] at hz
          iterate 2 refine hK _ _ _ _ _ ?_
          exact ⟨by rw [← hz], hfr⟩
  exact L12 S 0 none (by omega) hZ
end
