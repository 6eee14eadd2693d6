/-! THE CLASS: what the town tells; images -/
theorem rng_of {w : Int32} {i n : Nat} (h : w.toInt = (i : Int)) (hi : i ≤ n) (hn : n < 2 ^ 31) : 0 ≤ w ∧ w ≤ nI n := by
  have e : (nI n).toInt = n := by
    show (Int32.ofNat n).toInt = n
    exact Int32.toInt_ofNat_of_lt (by omega)
  rw [Int32.le_iff_toInt_le, Int32.le_iff_toInt_le, h, e, show (0 : Int32).toInt = 0 from rfl]
  omega
def peA (t : sMem) (p w : Nat) : Int32 := if w < 5 then t 6 p w else if fN t (t 6 p 0).toNatClampNeg (t 6 p 1).toNatClampNeg < 1000000 then t 6 p 2 + t 14 (t 6 p 0).toNatClampNeg (t 6 p 1).toNatClampNeg else -1
section
variable {l : Launch} {D0 : va_G} {b0 : Nat} {ty : Nat → ClassId} {ad av : Nat → Nat}
theorem c8_fault (d : Nat) (σ : sMem) : sMet l D0 b0 ty lay d mX8_fault [aR 34] σ (fun r σ' => r = [aI (σ 34 0 2)] ∧ σ' = σ) := by
  refine sMet_intro lay_nd kX8_fault xX8_ok (by decide +kernel) rfl ?_
  intro K hK
  iterate 3 refine hK _ _ _ _ ?_
  exact ⟨rfl, rfl⟩
theorem c8_count (d : Nat) (σ : sMem) (w : Int32) : sMet l D0 b0 ty lay d mX8_count [aR 34, aI (w)] σ (fun r σ' => r = [aI (if w = 0 then σ 34 0 7 else if w = 1 then σ 34 0 1 else -1)] ∧ σ' = σ) := by
  refine sMet_intro lay_nd kX8_count xX8_ok (by decide +kernel) rfl ?_
  intro K hK
  iterate 2 refine hK _ _ _ _ ?_
  refine ⟨fun hsw => ?_, fun hsw => ?_, fun hsw => ?_, trivial⟩
  · have h0 : ¬ w = 0 := fun e => hsw.1 (by rw [e]; rfl)
    have h1 : ¬ w = 1 := fun e => hsw.2.1 (by rw [e]; rfl)
    iterate 2 refine hK _ _ _ _ ?_
    exact ⟨by rw [if_neg h0, if_neg h1]; rfl, rfl⟩
  · have e : w = 0 := Int32.toInt_inj.mp hsw
    subst e
    iterate 2 refine hK _ _ _ _ ?_
    refine hK _ _ _ _ ?_
    exact ⟨rfl, rfl⟩
  · have e : w = 1 := Int32.toInt_inj.mp hsw
    subst e
    iterate 2 refine hK _ _ _ _ ?_
    refine hK _ _ _ _ ?_
    exact ⟨rfl, rfl⟩
theorem c8_told_36_ok (d : Nat) (σ t : sMem) (N P S G : Nat) (h : HR σ t 36 N P S G) (w : Nat) (hw : w ≤ 4) : sMet l D0 b0 ty lay d mX8_told [aR 34, aI (nI w)] σ (fun r σ' => r = [aI (t 3 0 w)] ∧ σ' = σ) := by
  refine sMet_intro lay_nd kX8_told xX8_ok (by decide +kernel) rfl ?_
  intro K hK
  have kt : ∀ i : Nat, (nI w).toInt = (i : Int) → w = i := fun i hi => by rw [nI_toInt (by omega)] at hi; omega
  have hM := h.2.2.1
  iterate 2 refine hK _ _ _ _ ?_
  refine ⟨fun hsw => ?_, fun hsw => ?_, fun hsw => ?_, fun hsw => ?_, fun hsw => ?_, fun hsw => ?_, trivial⟩
  · exfalso
    rw [nI_toInt (by omega)] at hsw
    omega
  · have e := kt 0 hsw
    subst e
    iterate 2 refine hK _ _ _ _ ?_
    show K _ _ _ _
    rw [show σ 34 0 3 = nI 36 from h.1]
    show K _ _ _ _
    rw [show (nI 36).toNatClampNeg = 36 from rfl]
    iterate 2 refine hK _ _ _ _ ?_
    show K _ _ _ _
    rw [show σ 37 0 0 = t 3 0 0 from h.2.1.1.trans hM.1.1.2.2.1.symm]
    refine hK _ _ _ _ ?_
    exact ⟨rfl, rfl⟩
  · have e := kt 1 hsw
    subst e
    iterate 2 refine hK _ _ _ _ ?_
    show K _ _ _ _
    rw [show σ 34 0 3 = nI 36 from h.1]
    show K _ _ _ _
    rw [show (nI 36).toNatClampNeg = 36 from rfl]
    refine hK _ _ _ _ ?_
    show K _ _ _ _
    rw [show σ 36 0 1 = t 3 0 1 from h.2.1.2.1.trans hM.1.1.2.2.2.1.1.symm]
    refine hK _ _ _ _ ?_
    exact ⟨rfl, rfl⟩
  · have e := kt 2 hsw
    subst e
    iterate 2 refine hK _ _ _ _ ?_
    show K _ _ _ _
    rw [show σ 34 0 3 = nI 36 from h.1]
    show K _ _ _ _
    rw [show (nI 36).toNatClampNeg = 36 from rfl]
    refine hK _ _ _ _ ?_
    show K _ _ _ _
    rw [show σ 36 0 7 = t 3 0 2 from h.2.1.2.2.1.trans hM.1.1.2.2.2.2.1.1.symm]
    refine hK _ _ _ _ ?_
    exact ⟨rfl, rfl⟩
  · have e := kt 3 hsw
    subst e
    iterate 2 refine hK _ _ _ _ ?_
    show K _ _ _ _
    rw [show σ 34 0 3 = nI 36 from h.1]
    show K _ _ _ _
    rw [show (nI 36).toNatClampNeg = 36 from rfl]
    refine hK _ _ _ _ ?_
    show K _ _ _ _
    rw [show σ 36 0 13 = t 3 0 3 from h.2.1.2.2.2.1.trans hM.1.2.2.2.2.1.symm]
    refine hK _ _ _ _ ?_
    exact ⟨rfl, rfl⟩
  · have e := kt 4 hsw
    subst e
    iterate 2 refine hK _ _ _ _ ?_
    show K _ _ _ _
    rw [show σ 34 0 3 = nI 36 from h.1]
    show K _ _ _ _
    rw [show (nI 36).toNatClampNeg = 36 from rfl]
    refine hK _ _ _ _ ?_
    show K _ _ _ _
    rw [show σ 36 0 17 = t 3 0 4 from h.2.1.2.2.2.2.1]
    refine hK _ _ _ _ ?_
    exact ⟨rfl, rfl⟩
theorem c8_told_36_x0 (d : Nat) (σ t : sMem) (N P S G : Nat) (h : HR σ t 36 N P S G) (w : Int32) (h0 : ¬ (0 ≤ w ∧ w ≤ 4)) : yMet l D0 b0 ty ad av lay (d + 7) 1 mX8_told [aR 34, aI (w)] σ (fun _ _ => False) (fun e σ' => e = yIAE ∧ σ' = σ) := by
  refine yMet_intro lay_nd kX8_told xX8_ok (yYX8_told_ok) (by decide +kernel) rfl ?_
  intro K hK
  iterate 2 refine hK _ _ _ _ _ ?_
  refine ⟨fun hsw => ?_, fun hsw => ?_, fun hsw => ?_, fun hsw => ?_, fun hsw => ?_, fun hsw => ?_, trivial⟩
  · refine hK _ _ _ _ _ ?_
    exact ⟨0, rfl, rfl, rfl⟩
  · exact absurd (rng_of (i := 0) (n := 4) hsw (by decide) (by decide)) h0
  · exact absurd (rng_of (i := 1) (n := 4) hsw (by decide) (by decide)) h0
  · exact absurd (rng_of (i := 2) (n := 4) hsw (by decide) (by decide)) h0
  · exact absurd (rng_of (i := 3) (n := 4) hsw (by decide) (by decide)) h0
  · exact absurd (rng_of (i := 4) (n := 4) hsw (by decide) (by decide)) h0
theorem c8_far_36_x0 (d : Nat) (σ t : sMem) (N P S G : Nat) (h : HR σ t 36 N P S G) (x y : Int32) (h0 : ¬ (0 ≤ x ∧ x ≤ nI N - 1)) : yMet l D0 b0 ty ad av lay (d + 7) 1 mX8_far [aR 34, aI (x), aI (y)] σ (fun _ _ => False) (fun e σ' => e = yIOE ∧ σ' = σ) := by
  refine yMet_intro lay_nd kX8_far xX8_ok (yY8_ok _) (by decide +kernel) rfl ?_
  intro K hK
  have hN := h.2.2.1.1.1.1.1
  have hP := h.2.2.1.1.1.2.2.2.1.2
  have hS8 := h.2.2.1.1.1.2.2.2.2.1.2
  iterate 3 refine hK _ _ _ _ _ ?_
  refine Or.inr (Or.inr ⟨0, 1, rfl, yDX (c8_checkPlace_36_x _ _ N (by omega) h.1 h.2.1.1 x h0) (fun _ _ h => h.elim) ?_⟩)
  exact fun e σ' h => h
theorem c8_far_36_x1 (d : Nat) (σ t : sMem) (N P S G : Nat) (h : HR σ t 36 N P S G) (x y : Int32) (h0 : 0 ≤ x ∧ x ≤ nI N - 1) (h1 : ¬ (0 ≤ y ∧ y ≤ nI N - 1)) : yMet l D0 b0 ty ad av lay (d + 7) 1 mX8_far [aR 34, aI (x), aI (y)] σ (fun _ _ => False) (fun e σ' => e = yIOE ∧ σ' = σ) := by
  refine yMet_intro lay_nd kX8_far xX8_ok (yY8_ok _) (by decide +kernel) rfl ?_
  intro K hK
  have hN := h.2.2.1.1.1.1.1
  have hP := h.2.2.1.1.1.2.2.2.1.2
  have hS8 := h.2.2.1.1.1.2.2.2.2.1.2
  iterate 3 refine hK _ _ _ _ _ ?_
  refine Or.inl (calD (c8_checkPlace_36_ok _ _ N (by omega) h.1 h.2.1.1 x h0) ?_)
  rintro r σ' ⟨rfl, hσ⟩
  subst σ'
  iterate 3 refine hK _ _ _ _ _ ?_
  refine Or.inr (Or.inr ⟨0, 1, rfl, yDX (c8_checkPlace_36_x _ _ N (by omega) h.1 h.2.1.1 y h1) (fun _ _ h => h.elim) ?_⟩)
  exact fun e σ' h => h
theorem c8_far_36_ok (d : Nat) (σ t : sMem) (N P S G : Nat) (h : HR σ t 36 N P S G) (a b : Nat) (ha : a < N) (hb : b < N) : sMet l D0 b0 ty lay (d + 1) mX8_far [aR 34, aI (nI a), aI (nI b)] σ (fun r σ' => r = [aI (if fN t a b < 1000000 then t 14 a b else -1)] ∧ σ' = σ) := by
  refine sMet_intro lay_nd kX8_far xX8_ok (by decide +kernel) rfl ?_
  intro K hK
  have hN := h.2.2.1.1.1.1.1
  have hP := h.2.2.1.1.1.2.2.2.1.2
  have hS8 := h.2.2.1.1.1.2.2.2.2.1.2
  iterate 3 refine hK _ _ _ _ ?_
  refine calD (c8_checkPlace_36_ok _ _ N (by omega) h.1 h.2.1.1 (nI a) (nI_isIn (by omega) ha)) ?_
  rintro r σ' ⟨rfl, hσ⟩
  subst σ'
  iterate 3 refine hK _ _ _ _ ?_
  refine calD (c8_checkPlace_36_ok _ _ N (by omega) h.1 h.2.1.1 (nI b) (nI_isIn (by omega) hb)) ?_
  rintro r σ' ⟨rfl, hσ⟩
  subst σ'
  iterate 2 refine hK _ _ _ _ ?_
  show K _ _ _ _
  rw [show σ 34 0 3 = nI 36 from h.1]
  show K _ _ _ _
  rw [show (nI 36).toNatClampNeg = 36 from rfl]
  iterate 4 refine hK _ _ _ _ ?_
  refine calD (c6_reaches_36 _ _ t N P S G h.2.1 h.2.2.1 a b ha hb) ?_
  rintro r σ' ⟨rfl, hσ⟩
  subst σ'
  refine hK _ _ _ _ ?_
  refine And.intro (fun h9 => ?_) (fun h9 => ?_)
  · have hf := of_decide_eq_false (bI_f h9)
    iterate 2 refine hK _ _ _ _ ?_
    exact ⟨by rw [if_neg hf]; rfl, rfl⟩
  · have hf := of_decide_eq_true (bI_t h9)
    iterate 2 refine hK _ _ _ _ ?_
    show K _ _ _ _
    rw [show σ 34 0 3 = nI 36 from h.1]
    show K _ _ _ _
    rw [show (nI 36).toNatClampNeg = 36 from rfl]
    iterate 4 refine hK _ _ _ _ ?_
    refine And.intro (vp_in_nI (n := a) (by omega) (by decide)) ?_
    rw [nI_clamp (show a < 2 ^ 31 by omega)]
    iterate 2 refine hK _ _ _ _ ?_
    refine And.intro (by first | omega | (rw [nI_clamp (by omega)]; omega)) (And.intro (vp_in_nI (n := b) (by omega) (by decide)) ?_)
    rw [nI_clamp (show b < 2 ^ 31 by omega)]
    rw [show σ 39 a b = t 14 a b from (h.2.1.2.2.2.2.2.1 a b ha hb).2.1]
    iterate 2 refine hK _ _ _ _ ?_
    exact ⟨by rw [if_pos hf], rfl⟩
theorem c8_person_36_x0 (d : Nat) (σ t : sMem) (N P S G : Nat) (h : HR σ t 36 N P S G) (x w : Int32) (h0 : ¬ (0 ≤ x ∧ x ≤ nI P - 1)) : yMet l D0 b0 ty ad av lay (d + 7) 1 mX8_person [aR 34, aI (x), aI (w)] σ (fun _ _ => False) (fun e σ' => e = yNSE ∧ σ' = σ) := by
  refine yMet_intro lay_nd kX8_person xX8_ok (yY8_ok _) (by decide +kernel) rfl ?_
  intro K hK
  have hN := h.2.2.1.1.1.1.1
  have hP := h.2.2.1.1.1.2.2.2.1.2
  have hS8 := h.2.2.1.1.1.2.2.2.2.1.2
  iterate 3 refine hK _ _ _ _ _ ?_
  refine Or.inr (Or.inr ⟨0, 1, rfl, yDX (c8_checkPerson_36_x _ _ P (by omega) h.1 h.2.1.2.1 x h0) (fun _ _ h => h.elim) ?_⟩)
  exact fun e σ' h => h
theorem c8_stranger_36_x0 (d : Nat) (σ t : sMem) (N P S G : Nat) (h : HR σ t 36 N P S G) (x w : Int32) (h0 : ¬ (0 ≤ x ∧ x ≤ nI S - 1)) : yMet l D0 b0 ty ad av lay (d + 7) 1 mX8_stranger [aR 34, aI (x), aI (w)] σ (fun _ _ => False) (fun e σ' => e = yNSE ∧ σ' = σ) := by
  refine yMet_intro lay_nd kX8_stranger xX8_ok (yY8_ok _) (by decide +kernel) rfl ?_
  intro K hK
  have hN := h.2.2.1.1.1.1.1
  have hP := h.2.2.1.1.1.2.2.2.1.2
  have hS8 := h.2.2.1.1.1.2.2.2.2.1.2
  iterate 3 refine hK _ _ _ _ _ ?_
  refine Or.inr (Or.inr ⟨0, 1, rfl, yDX (c8_checkStranger_36_x _ _ S (by omega) h.1 h.2.1.2.2.1 x h0) (fun _ _ h => h.elim) ?_⟩)
  exact fun e σ' h => h
theorem c8_person_36_x1 (d : Nat) (σ t : sMem) (N P S G : Nat) (h : HR σ t 36 N P S G) (x w : Int32) (hx : 0 ≤ x ∧ x ≤ nI P - 1) (h0 : ¬ (0 ≤ w ∧ w ≤ 5)) : yMet l D0 b0 ty ad av lay (d + 7) 1 mX8_person [aR 34, aI (x), aI (w)] σ (fun _ _ => False) (fun e σ' => e = yIAE ∧ σ' = σ) := by
  refine yMet_intro lay_nd kX8_person xX8_ok (yYX8_person_ok) (by decide +kernel) rfl ?_
  intro K hK
  have hN := h.2.2.1.1.1.1.1
  have hP := h.2.2.1.1.1.2.2.2.1.2
  have hS8 := h.2.2.1.1.1.2.2.2.2.1.2
  iterate 3 refine hK _ _ _ _ _ ?_
  refine Or.inl (calD (c8_checkPerson_36_ok _ _ P (by omega) h.1 h.2.1.2.1 x hx) ?_)
  rintro r σ' ⟨rfl, hσ⟩
  subst σ'
  iterate 2 refine hK _ _ _ _ _ ?_
  refine ⟨fun hsw => ?_, fun hsw => ?_, fun hsw => ?_, fun hsw => ?_, fun hsw => ?_, fun hsw => ?_, fun hsw => ?_, trivial⟩
  · refine hK _ _ _ _ _ ?_
    exact ⟨0, rfl, rfl, rfl⟩
  · exact absurd (rng_of (i := 0) (n := 5) hsw (by decide) (by decide)) h0
  · exact absurd (rng_of (i := 1) (n := 5) hsw (by decide) (by decide)) h0
  · exact absurd (rng_of (i := 2) (n := 5) hsw (by decide) (by decide)) h0
  · exact absurd (rng_of (i := 3) (n := 5) hsw (by decide) (by decide)) h0
  · exact absurd (rng_of (i := 4) (n := 5) hsw (by decide) (by decide)) h0
  · exact absurd (rng_of (i := 5) (n := 5) hsw (by decide) (by decide)) h0
theorem c8_person_36_ok (d : Nat) (σ t : sMem) (N P S G : Nat) (h : HR σ t 36 N P S G) (p w : Nat) (hp : p < P) (hw : w ≤ 5) : sMet l D0 b0 ty lay (d + 2) mX8_person [aR 34, aI (nI p), aI (nI w)] σ (fun r σ' => r = [aI (peA t p w)] ∧ σ' = σ) := by
  refine sMet_intro lay_nd kX8_person xX8_ok (by decide +kernel) rfl ?_
  intro K hK
  have hN := h.2.2.1.1.1.1.1
  have hP := h.2.2.1.1.1.2.2.2.1.2
  have hS8 := h.2.2.1.1.1.2.2.2.2.1.2
  iterate 3 refine hK _ _ _ _ ?_
  refine calD (c8_checkPerson_36_ok _ _ P (by omega) h.1 h.2.1.2.1 (nI p) (nI_isIn (by omega) hp)) ?_
  rintro r σ' ⟨rfl, hσ⟩
  subst σ'
  have kt : ∀ i : Nat, (nI w).toInt = (i : Int) → w = i := fun i hi => by rw [nI_toInt (by omega)] at hi; omega
  iterate 2 refine hK _ _ _ _ ?_
  refine ⟨fun hsw => ?_, fun hsw => ?_, fun hsw => ?_, fun hsw => ?_, fun hsw => ?_, fun hsw => ?_, fun hsw => ?_, trivial⟩
  · exfalso
    rw [nI_toInt (by omega)] at hsw
    omega
  · have e := kt 0 hsw
    subst e
    iterate 2 refine hK _ _ _ _ ?_
    show K _ _ _ _
    rw [show σ 34 0 3 = nI 36 from h.1]
    show K _ _ _ _
    rw [show (nI 36).toNatClampNeg = 36 from rfl]
    iterate 3 refine hK _ _ _ _ ?_
    refine And.intro (vp_in_nI (n := p) (by omega) (by decide)) ?_
    rw [nI_clamp (show p < 2 ^ 31 by omega)]
    rw [show σ 41 0 p = t 6 p 0 from (h.2.1.2.2.2.2.2.2.1 p hp).1]
    refine hK _ _ _ _ ?_
    exact ⟨rfl, rfl⟩
  · have e := kt 1 hsw
    subst e
    iterate 2 refine hK _ _ _ _ ?_
    show K _ _ _ _
    rw [show σ 34 0 3 = nI 36 from h.1]
    show K _ _ _ _
    rw [show (nI 36).toNatClampNeg = 36 from rfl]
    iterate 3 refine hK _ _ _ _ ?_
    refine And.intro (vp_in_nI (n := p) (by omega) (by decide)) ?_
    rw [nI_clamp (show p < 2 ^ 31 by omega)]
    rw [show σ 42 0 p = t 6 p 1 from (h.2.1.2.2.2.2.2.2.1 p hp).2.1]
    refine hK _ _ _ _ ?_
    exact ⟨rfl, rfl⟩
  · have e := kt 2 hsw
    subst e
    iterate 2 refine hK _ _ _ _ ?_
    show K _ _ _ _
    rw [show σ 34 0 3 = nI 36 from h.1]
    show K _ _ _ _
    rw [show (nI 36).toNatClampNeg = 36 from rfl]
    iterate 3 refine hK _ _ _ _ ?_
    refine And.intro (vp_in_nI (n := p) (by omega) (by decide)) ?_
    rw [nI_clamp (show p < 2 ^ 31 by omega)]
    rw [show σ 43 0 p = t 6 p 2 from (h.2.1.2.2.2.2.2.2.1 p hp).2.2.1]
    refine hK _ _ _ _ ?_
    exact ⟨rfl, rfl⟩
  · have e := kt 3 hsw
    subst e
    iterate 2 refine hK _ _ _ _ ?_
    show K _ _ _ _
    rw [show σ 34 0 3 = nI 36 from h.1]
    show K _ _ _ _
    rw [show (nI 36).toNatClampNeg = 36 from rfl]
    iterate 3 refine hK _ _ _ _ ?_
    refine And.intro (vp_in_nI (n := p) (by omega) (by decide)) ?_
    rw [nI_clamp (show p < 2 ^ 31 by omega)]
    rw [show σ 44 0 p = t 6 p 3 from (h.2.1.2.2.2.2.2.2.1 p hp).2.2.2.1]
    refine hK _ _ _ _ ?_
    exact ⟨rfl, rfl⟩
  · have e := kt 4 hsw
    subst e
    iterate 2 refine hK _ _ _ _ ?_
    show K _ _ _ _
    rw [show σ 34 0 3 = nI 36 from h.1]
    show K _ _ _ _
    rw [show (nI 36).toNatClampNeg = 36 from rfl]
    iterate 3 refine hK _ _ _ _ ?_
    refine And.intro (vp_in_nI (n := p) (by omega) (by decide)) ?_
    rw [nI_clamp (show p < 2 ^ 31 by omega)]
    rw [show σ 45 0 p = t 6 p 4 from (h.2.1.2.2.2.2.2.2.1 p hp).2.2.2.2]
    refine hK _ _ _ _ ?_
    exact ⟨rfl, rfl⟩
  · have e := kt 5 hsw
    subst e
    iterate 2 refine hK _ _ _ _ ?_
    show K _ _ _ _
    rw [show σ 34 0 3 = nI 36 from h.1]
    show K _ _ _ _
    rw [show (nI 36).toNatClampNeg = 36 from rfl]
    iterate 2 refine hK _ _ _ _ ?_
    refine calD (c7_goes_36 _ _ t N P S G h.2.1 h.2.2.1 p hp) ?_
    rintro r σ' ⟨rfl, hσ⟩
    subst σ'
    refine hK _ _ _ _ ?_
    refine And.intro (fun h9 => ?_) (fun h9 => ?_)
    · have hf := of_decide_eq_false (bI_f h9)
      iterate 2 refine hK _ _ _ _ ?_
      exact ⟨by unfold peA; rw [if_neg (by decide), if_neg hf]; rfl, rfl⟩
    · have hf := of_decide_eq_true (bI_t h9)
      iterate 2 refine hK _ _ _ _ ?_
      show K _ _ _ _
      rw [show σ 34 0 3 = nI 36 from h.1]
      show K _ _ _ _
      rw [show (nI 36).toNatClampNeg = 36 from rfl]
      iterate 2 refine hK _ _ _ _ ?_
      refine calD (c7_arrival_36 _ _ t N P S G h.2.1 h.2.2.1 p hp) ?_
      rintro r σ' ⟨rfl, hσ⟩
      subst σ'
      iterate 2 refine hK _ _ _ _ ?_
      exact ⟨by unfold peA; rw [if_neg (by decide), if_pos hf], rfl⟩
theorem c8_stranger_36_x1 (d : Nat) (σ t : sMem) (N P S G : Nat) (h : HR σ t 36 N P S G) (x w : Int32) (hx : 0 ≤ x ∧ x ≤ nI S - 1) (h0 : ¬ (0 ≤ w ∧ w ≤ 4)) : yMet l D0 b0 ty ad av lay (d + 7) 1 mX8_stranger [aR 34, aI (x), aI (w)] σ (fun _ _ => False) (fun e σ' => e = yIAE ∧ σ' = σ) := by
  refine yMet_intro lay_nd kX8_stranger xX8_ok (yYX8_stranger_ok) (by decide +kernel) rfl ?_
  intro K hK
  have hN := h.2.2.1.1.1.1.1
  have hP := h.2.2.1.1.1.2.2.2.1.2
  have hS8 := h.2.2.1.1.1.2.2.2.2.1.2
  iterate 3 refine hK _ _ _ _ _ ?_
  refine Or.inl (calD (c8_checkStranger_36_ok _ _ S (by omega) h.1 h.2.1.2.2.1 x hx) ?_)
  rintro r σ' ⟨rfl, hσ⟩
  subst σ'
  iterate 2 refine hK _ _ _ _ _ ?_
  refine ⟨fun hsw => ?_, fun hsw => ?_, fun hsw => ?_, fun hsw => ?_, fun hsw => ?_, fun hsw => ?_, trivial⟩
  · refine hK _ _ _ _ _ ?_
    exact ⟨0, rfl, rfl, rfl⟩
  · exact absurd (rng_of (i := 0) (n := 4) hsw (by decide) (by decide)) h0
  · exact absurd (rng_of (i := 1) (n := 4) hsw (by decide) (by decide)) h0
  · exact absurd (rng_of (i := 2) (n := 4) hsw (by decide) (by decide)) h0
  · exact absurd (rng_of (i := 3) (n := 4) hsw (by decide) (by decide)) h0
  · exact absurd (rng_of (i := 4) (n := 4) hsw (by decide) (by decide)) h0
theorem c8_stranger_36_ok (d : Nat) (σ t : sMem) (N P S G : Nat) (h : HR σ t 36 N P S G) (s w : Nat) (hs : s < S) (hw : w ≤ 4) : sMet l D0 b0 ty lay (d + 2) mX8_stranger [aR 34, aI (nI s), aI (nI w)] σ (fun r σ' => r = [aI (t 8 s w)] ∧ σ' = σ) := by
  refine sMet_intro lay_nd kX8_stranger xX8_ok (by decide +kernel) rfl ?_
  intro K hK
  have hN := h.2.2.1.1.1.1.1
  have hP := h.2.2.1.1.1.2.2.2.1.2
  have hS8 := h.2.2.1.1.1.2.2.2.2.1.2
  iterate 3 refine hK _ _ _ _ ?_
  refine calD (c8_checkStranger_36_ok _ _ S (by omega) h.1 h.2.1.2.2.1 (nI s) (nI_isIn (by omega) hs)) ?_
  rintro r σ' ⟨rfl, hσ⟩
  subst σ'
  have kt : ∀ i : Nat, (nI w).toInt = (i : Int) → w = i := fun i hi => by rw [nI_toInt (by omega)] at hi; omega
  iterate 2 refine hK _ _ _ _ ?_
  refine ⟨fun hsw => ?_, fun hsw => ?_, fun hsw => ?_, fun hsw => ?_, fun hsw => ?_, fun hsw => ?_, trivial⟩
  · exfalso
    rw [nI_toInt (by omega)] at hsw
    omega
  · have e := kt 0 hsw
    subst e
    iterate 2 refine hK _ _ _ _ ?_
    show K _ _ _ _
    rw [show σ 34 0 3 = nI 36 from h.1]
    show K _ _ _ _
    rw [show (nI 36).toNatClampNeg = 36 from rfl]
    iterate 3 refine hK _ _ _ _ ?_
    refine And.intro (vp_in_nI (n := s) (by omega) (by decide)) ?_
    rw [nI_clamp (show s < 2 ^ 31 by omega)]
    rw [show σ 46 0 s = t 8 s 0 from (h.2.1.2.2.2.2.2.2.2.1 s hs).1]
    refine hK _ _ _ _ ?_
    exact ⟨rfl, rfl⟩
  · have e := kt 1 hsw
    subst e
    iterate 2 refine hK _ _ _ _ ?_
    show K _ _ _ _
    rw [show σ 34 0 3 = nI 36 from h.1]
    show K _ _ _ _
    rw [show (nI 36).toNatClampNeg = 36 from rfl]
    iterate 3 refine hK _ _ _ _ ?_
    refine And.intro (vp_in_nI (n := s) (by omega) (by decide)) ?_
    rw [nI_clamp (show s < 2 ^ 31 by omega)]
    rw [show σ 47 0 s = t 8 s 1 from (h.2.1.2.2.2.2.2.2.2.1 s hs).2.1]
    refine hK _ _ _ _ ?_
    exact ⟨rfl, rfl⟩
  · have e := kt 2 hsw
    subst e
    iterate 2 refine hK _ _ _ _ ?_
    show K _ _ _ _
    rw [show σ 34 0 3 = nI 36 from h.1]
    show K _ _ _ _
    rw [show (nI 36).toNatClampNeg = 36 from rfl]
    iterate 3 refine hK _ _ _ _ ?_
    refine And.intro (vp_in_nI (n := s) (by omega) (by decide)) ?_
    rw [nI_clamp (show s < 2 ^ 31 by omega)]
    rw [show σ 48 0 s = t 8 s 2 from (h.2.1.2.2.2.2.2.2.2.1 s hs).2.2.1]
    refine hK _ _ _ _ ?_
    exact ⟨rfl, rfl⟩
  · have e := kt 3 hsw
    subst e
    iterate 2 refine hK _ _ _ _ ?_
    show K _ _ _ _
    rw [show σ 34 0 3 = nI 36 from h.1]
    show K _ _ _ _
    rw [show (nI 36).toNatClampNeg = 36 from rfl]
    iterate 3 refine hK _ _ _ _ ?_
    refine And.intro (vp_in_nI (n := s) (by omega) (by decide)) ?_
    rw [nI_clamp (show s < 2 ^ 31 by omega)]
    rw [show σ 49 0 s = t 8 s 3 from (h.2.1.2.2.2.2.2.2.2.1 s hs).2.2.2.1]
    refine hK _ _ _ _ ?_
    exact ⟨rfl, rfl⟩
  · have e := kt 4 hsw
    subst e
    iterate 2 refine hK _ _ _ _ ?_
    show K _ _ _ _
    rw [show σ 34 0 3 = nI 36 from h.1]
    show K _ _ _ _
    rw [show (nI 36).toNatClampNeg = 36 from rfl]
    iterate 3 refine hK _ _ _ _ ?_
    refine And.intro (vp_in_nI (n := s) (by omega) (by decide)) ?_
    rw [nI_clamp (show s < 2 ^ 31 by omega)]
    rw [show σ 50 0 s = t 8 s 4 from (h.2.1.2.2.2.2.2.2.2.1 s hs).2.2.2.2]
    refine hK _ _ _ _ ?_
    exact ⟨rfl, rfl⟩
theorem c8_tell_36_x0 (d : Nat) (σ t : sMem) (N P S G : Nat) (h : HR σ t 36 N P S G) (x y : Int32) (h0 : ¬ (0 ≤ x ∧ x ≤ nI S - 1)) : yMet l D0 b0 ty ad av lay (d + 7) 1 mX8_tell [aR 34, aI (x), aI (y)] σ (fun _ _ => False) (fun e σ' => e = yNSE ∧ σ' = σ) := by
  refine yMet_intro lay_nd kX8_tell xX8_ok (yY8_ok _) (by decide +kernel) rfl ?_
  intro K hK
  have hN := h.2.2.1.1.1.1.1
  have hP := h.2.2.1.1.1.2.2.2.1.2
  have hS8 := h.2.2.1.1.1.2.2.2.2.1.2
  iterate 3 refine hK _ _ _ _ _ ?_
  refine Or.inr (Or.inr ⟨0, 1, rfl, yDX (c8_checkStranger_36_x _ _ S (by omega) h.1 h.2.1.2.2.1 x h0) (fun _ _ h => h.elim) ?_⟩)
  exact fun e σ' h => h
theorem c8_tell_36_x1 (d : Nat) (σ t : sMem) (N P S G : Nat) (h : HR σ t 36 N P S G) (x y : Int32) (hx : 0 ≤ x ∧ x ≤ nI S - 1) (h0 : ¬ (y = -1 ∨ (0 ≤ y ∧ y ≤ nI P - 1))) : yMet l D0 b0 ty ad av lay (d + 7) 1 mX8_tell [aR 34, aI (x), aI (y)] σ (fun _ _ => False) (fun e σ' => e = yIAE ∧ σ' = σ) := by
  refine yMet_intro lay_nd kX8_tell xX8_ok (yYX8_tell_ok) (by decide +kernel) rfl ?_
  intro K hK
  have hN := h.2.2.1.1.1.1.1
  have hP := h.2.2.1.1.1.2.2.2.1.2
  have hS8 := h.2.2.1.1.1.2.2.2.2.1.2
  iterate 3 refine hK _ _ _ _ _ ?_
  refine Or.inl (calD (c8_checkStranger_36_ok _ _ S (by omega) h.1 h.2.1.2.2.1 x hx) ?_)
  rintro r σ' ⟨rfl, hσ⟩
  subst σ'
  iterate 3 refine hK _ _ _ _ _ ?_
  refine And.intro (fun h9 => absurd (Or.inl h9) h0) (fun _ => ?_)
  iterate 2 refine hK _ _ _ _ _ ?_
  refine And.intro (fun h9 => ?_) (fun h9 => ?_)
  · refine hK _ _ _ _ _ ?_
    exact ⟨0, rfl, rfl, rfl⟩
  · iterate 3 refine hK _ _ _ _ _ ?_
    show K _ _ _ _ _
    rw [show σ 34 0 3 = nI 36 from h.1]
    show K _ _ _ _ _
    rw [show (nI 36).toNatClampNeg = 36 from rfl]
    refine hK _ _ _ _ _ ?_
    show K _ _ _ _ _
    rw [show σ 36 0 1 = nI P from h.2.1.2.1]
    refine hK _ _ _ _ _ ?_
    refine And.intro (fun h8 => absurd (Or.inr ⟨Int32.not_lt.mp h9, (lt_pre (by omega) y).mp h8⟩) h0) (fun _ => ?_)
    refine hK _ _ _ _ _ ?_
    exact ⟨0, rfl, rfl, rfl⟩
theorem c8_tell_36_ok (d : Nat) (σ t : sMem) (N P S G : Nat) (h : HR σ t 36 N P S G) (s : Nat) (y : Int32) (hs : s < S) (h0 : y = -1 ∨ (0 ≤ y ∧ y ≤ nI P - 1)) : sMet l D0 b0 ty lay (d + 1) mX8_tell [aR 34, aI (nI s), aI (y)] σ (fun r σ' => r = [aI (t 16 0 s)] ∧ σ' = sUp σ 72 0 s y) := by
  refine sMet_intro lay_nd kX8_tell xX8_ok (by decide +kernel) rfl ?_
  intro K hK
  have hN := h.2.2.1.1.1.1.1
  have hP := h.2.2.1.1.1.2.2.2.1.2
  have hS8 := h.2.2.1.1.1.2.2.2.2.1.2
  iterate 3 refine hK _ _ _ _ ?_
  refine calD (c8_checkStranger_36_ok _ _ S (by omega) h.1 h.2.1.2.2.1 (nI s) (nI_isIn (by omega) hs)) ?_
  rintro r σ' ⟨rfl, hσ⟩
  subst σ'
  iterate 3 refine hK _ _ _ _ ?_
  have L35 : K 35 [some (aR 34), some (aI (nI s)), some (aI (y)), none] [] σ := by
    iterate 4 refine hK _ _ _ _ ?_
    refine And.intro (vp_in_nI (n := s) (by omega) (by decide)) ?_
    rw [nI_clamp (show s < 2 ^ 31 by omega)]
    rw [show σ 72 0 s = t 16 0 s from h.2.2.2 s (by omega)]
    iterate 6 refine hK _ _ _ _ ?_
    refine And.intro (vp_in_nI (n := s) (by omega) (by decide)) ?_
    rw [nI_clamp (show s < 2 ^ 31 by omega)]
    iterate 2 refine hK _ _ _ _ ?_
    exact ⟨rfl, rfl⟩
  refine And.intro (fun h9 => L35) (fun h9 => ?_)
  iterate 2 refine hK _ _ _ _ ?_
  refine And.intro (fun h8 => absurd h8 (Int32.not_lt.mpr (h0.elim (fun e => absurd e h9) (fun e => e.1)))) (fun _ => ?_)
  iterate 3 refine hK _ _ _ _ ?_
  show K _ _ _ _
  rw [show σ 34 0 3 = nI 36 from h.1]
  show K _ _ _ _
  rw [show (nI 36).toNatClampNeg = 36 from rfl]
  refine hK _ _ _ _ ?_
  show K _ _ _ _
  rw [show σ 36 0 1 = nI P from h.2.1.2.1]
  refine hK _ _ _ _ ?_
  refine And.intro (fun _ => ?_) (fun h8 => absurd ((lt_pre (by omega) y).mpr (h0.elim (fun e => absurd e h9) (fun e => e.2))) h8)
  exact L35
theorem c8_told_54_ok (d : Nat) (σ t : sMem) (N P S G : Nat) (h : HR σ t 54 N P S G) (w : Nat) (hw : w ≤ 4) : sMet l D0 b0 ty lay d mX8_told [aR 34, aI (nI w)] σ (fun r σ' => r = [aI (t 3 0 w)] ∧ σ' = σ) := by
  refine sMet_intro lay_nd kX8_told xX8_ok (by decide +kernel) rfl ?_
  intro K hK
  have kt : ∀ i : Nat, (nI w).toInt = (i : Int) → w = i := fun i hi => by rw [nI_toInt (by omega)] at hi; omega
  have hM := h.2.2.1
  iterate 2 refine hK _ _ _ _ ?_
  refine ⟨fun hsw => ?_, fun hsw => ?_, fun hsw => ?_, fun hsw => ?_, fun hsw => ?_, fun hsw => ?_, trivial⟩
  · exfalso
    rw [nI_toInt (by omega)] at hsw
    omega
  · have e := kt 0 hsw
    subst e
    iterate 2 refine hK _ _ _ _ ?_
    show K _ _ _ _
    rw [show σ 34 0 3 = nI 54 from h.1]
    show K _ _ _ _
    rw [show (nI 54).toNatClampNeg = 54 from rfl]
    iterate 2 refine hK _ _ _ _ ?_
    show K _ _ _ _
    rw [show σ 55 0 0 = t 3 0 0 from h.2.1.1.trans hM.1.1.2.2.1.symm]
    refine hK _ _ _ _ ?_
    exact ⟨rfl, rfl⟩
  · have e := kt 1 hsw
    subst e
    iterate 2 refine hK _ _ _ _ ?_
    show K _ _ _ _
    rw [show σ 34 0 3 = nI 54 from h.1]
    show K _ _ _ _
    rw [show (nI 54).toNatClampNeg = 54 from rfl]
    refine hK _ _ _ _ ?_
    show K _ _ _ _
    rw [show σ 54 0 1 = t 3 0 1 from h.2.1.2.1.trans hM.1.1.2.2.2.1.1.symm]
    refine hK _ _ _ _ ?_
    exact ⟨rfl, rfl⟩
  · have e := kt 2 hsw
    subst e
    iterate 2 refine hK _ _ _ _ ?_
    show K _ _ _ _
    rw [show σ 34 0 3 = nI 54 from h.1]
    show K _ _ _ _
    rw [show (nI 54).toNatClampNeg = 54 from rfl]
    refine hK _ _ _ _ ?_
    show K _ _ _ _
    rw [show σ 54 0 7 = t 3 0 2 from h.2.1.2.2.1.trans hM.1.1.2.2.2.2.1.1.symm]
    refine hK _ _ _ _ ?_
    exact ⟨rfl, rfl⟩
  · have e := kt 3 hsw
    subst e
    iterate 2 refine hK _ _ _ _ ?_
    show K _ _ _ _
    rw [show σ 34 0 3 = nI 54 from h.1]
    show K _ _ _ _
    rw [show (nI 54).toNatClampNeg = 54 from rfl]
    refine hK _ _ _ _ ?_
    show K _ _ _ _
    rw [show σ 54 0 13 = t 3 0 3 from h.2.1.2.2.2.1.trans hM.1.2.2.2.2.1.symm]
    refine hK _ _ _ _ ?_
    exact ⟨rfl, rfl⟩
  · have e := kt 4 hsw
    subst e
    iterate 2 refine hK _ _ _ _ ?_
    show K _ _ _ _
    rw [show σ 34 0 3 = nI 54 from h.1]
    show K _ _ _ _
    rw [show (nI 54).toNatClampNeg = 54 from rfl]
    refine hK _ _ _ _ ?_
    show K _ _ _ _
    rw [show σ 54 0 17 = t 3 0 4 from h.2.1.2.2.2.2.1]
    refine hK _ _ _ _ ?_
    exact ⟨rfl, rfl⟩
theorem c8_told_54_x0 (d : Nat) (σ t : sMem) (N P S G : Nat) (h : HR σ t 54 N P S G) (w : Int32) (h0 : ¬ (0 ≤ w ∧ w ≤ 4)) : yMet l D0 b0 ty ad av lay (d + 7) 1 mX8_told [aR 34, aI (w)] σ (fun _ _ => False) (fun e σ' => e = yIAE ∧ σ' = σ) := by
  refine yMet_intro lay_nd kX8_told xX8_ok (yYX8_told_ok) (by decide +kernel) rfl ?_
  intro K hK
  iterate 2 refine hK _ _ _ _ _ ?_
  refine ⟨fun hsw => ?_, fun hsw => ?_, fun hsw => ?_, fun hsw => ?_, fun hsw => ?_, fun hsw => ?_, trivial⟩
  · refine hK _ _ _ _ _ ?_
    exact ⟨0, rfl, rfl, rfl⟩
  · exact absurd (rng_of (i := 0) (n := 4) hsw (by decide) (by decide)) h0
  · exact absurd (rng_of (i := 1) (n := 4) hsw (by decide) (by decide)) h0
  · exact absurd (rng_of (i := 2) (n := 4) hsw (by decide) (by decide)) h0
  · exact absurd (rng_of (i := 3) (n := 4) hsw (by decide) (by decide)) h0
  · exact absurd (rng_of (i := 4) (n := 4) hsw (by decide) (by decide)) h0
theorem c8_far_54_x0 (d : Nat) (σ t : sMem) (N P S G : Nat) (h : HR σ t 54 N P S G) (x y : Int32) (h0 : ¬ (0 ≤ x ∧ x ≤ nI N - 1)) : yMet l D0 b0 ty ad av lay (d + 7) 1 mX8_far [aR 34, aI (x), aI (y)] σ (fun _ _ => False) (fun e σ' => e = yIOE ∧ σ' = σ) := by
  refine yMet_intro lay_nd kX8_far xX8_ok (yY8_ok _) (by decide +kernel) rfl ?_
  intro K hK
  have hN := h.2.2.1.1.1.1.1
  have hP := h.2.2.1.1.1.2.2.2.1.2
  have hS8 := h.2.2.1.1.1.2.2.2.2.1.2
  iterate 3 refine hK _ _ _ _ _ ?_
  refine Or.inr (Or.inr ⟨0, 1, rfl, yDX (c8_checkPlace_54_x _ _ N (by omega) h.1 h.2.1.1 x h0) (fun _ _ h => h.elim) ?_⟩)
  exact fun e σ' h => h
theorem c8_far_54_x1 (d : Nat) (σ t : sMem) (N P S G : Nat) (h : HR σ t 54 N P S G) (x y : Int32) (h0 : 0 ≤ x ∧ x ≤ nI N - 1) (h1 : ¬ (0 ≤ y ∧ y ≤ nI N - 1)) : yMet l D0 b0 ty ad av lay (d + 7) 1 mX8_far [aR 34, aI (x), aI (y)] σ (fun _ _ => False) (fun e σ' => e = yIOE ∧ σ' = σ) := by
  refine yMet_intro lay_nd kX8_far xX8_ok (yY8_ok _) (by decide +kernel) rfl ?_
  intro K hK
  have hN := h.2.2.1.1.1.1.1
  have hP := h.2.2.1.1.1.2.2.2.1.2
  have hS8 := h.2.2.1.1.1.2.2.2.2.1.2
  iterate 3 refine hK _ _ _ _ _ ?_
  refine Or.inl (calD (c8_checkPlace_54_ok _ _ N (by omega) h.1 h.2.1.1 x h0) ?_)
  rintro r σ' ⟨rfl, hσ⟩
  subst σ'
  iterate 3 refine hK _ _ _ _ _ ?_
  refine Or.inr (Or.inr ⟨0, 1, rfl, yDX (c8_checkPlace_54_x _ _ N (by omega) h.1 h.2.1.1 y h1) (fun _ _ h => h.elim) ?_⟩)
  exact fun e σ' h => h
theorem c8_far_54_ok (d : Nat) (σ t : sMem) (N P S G : Nat) (h : HR σ t 54 N P S G) (a b : Nat) (ha : a < N) (hb : b < N) : sMet l D0 b0 ty lay (d + 1) mX8_far [aR 34, aI (nI a), aI (nI b)] σ (fun r σ' => r = [aI (if fN t a b < 1000000 then t 14 a b else -1)] ∧ σ' = σ) := by
  refine sMet_intro lay_nd kX8_far xX8_ok (by decide +kernel) rfl ?_
  intro K hK
  have hN := h.2.2.1.1.1.1.1
  have hP := h.2.2.1.1.1.2.2.2.1.2
  have hS8 := h.2.2.1.1.1.2.2.2.2.1.2
  iterate 3 refine hK _ _ _ _ ?_
  refine calD (c8_checkPlace_54_ok _ _ N (by omega) h.1 h.2.1.1 (nI a) (nI_isIn (by omega) ha)) ?_
  rintro r σ' ⟨rfl, hσ⟩
  subst σ'
  iterate 3 refine hK _ _ _ _ ?_
  refine calD (c8_checkPlace_54_ok _ _ N (by omega) h.1 h.2.1.1 (nI b) (nI_isIn (by omega) hb)) ?_
  rintro r σ' ⟨rfl, hσ⟩
  subst σ'
  iterate 2 refine hK _ _ _ _ ?_
  show K _ _ _ _
  rw [show σ 34 0 3 = nI 54 from h.1]
  show K _ _ _ _
  rw [show (nI 54).toNatClampNeg = 54 from rfl]
  iterate 4 refine hK _ _ _ _ ?_
  refine calD (c6_reaches_54 _ _ t N P S G h.2.1 h.2.2.1 a b ha hb) ?_
  rintro r σ' ⟨rfl, hσ⟩
  subst σ'
  refine hK _ _ _ _ ?_
  refine And.intro (fun h9 => ?_) (fun h9 => ?_)
  · have hf := of_decide_eq_false (bI_f h9)
    iterate 2 refine hK _ _ _ _ ?_
    exact ⟨by rw [if_neg hf]; rfl, rfl⟩
  · have hf := of_decide_eq_true (bI_t h9)
    iterate 2 refine hK _ _ _ _ ?_
    show K _ _ _ _
    rw [show σ 34 0 3 = nI 54 from h.1]
    show K _ _ _ _
    rw [show (nI 54).toNatClampNeg = 54 from rfl]
    iterate 4 refine hK _ _ _ _ ?_
    refine And.intro (vp_in_nI (n := a) (by omega) (by decide)) ?_
    rw [nI_clamp (show a < 2 ^ 31 by omega)]
    iterate 2 refine hK _ _ _ _ ?_
    refine And.intro (by first | omega | (rw [nI_clamp (by omega)]; omega)) (And.intro (vp_in_nI (n := b) (by omega) (by decide)) ?_)
    rw [nI_clamp (show b < 2 ^ 31 by omega)]
    rw [show σ 57 a b = t 14 a b from (h.2.1.2.2.2.2.2.1 a b ha hb).2.1]
    iterate 2 refine hK _ _ _ _ ?_
    exact ⟨by rw [if_pos hf], rfl⟩
theorem c8_person_54_x0 (d : Nat) (σ t : sMem) (N P S G : Nat) (h : HR σ t 54 N P S G) (x w : Int32) (h0 : ¬ (0 ≤ x ∧ x ≤ nI P - 1)) : yMet l D0 b0 ty ad av lay (d + 7) 1 mX8_person [aR 34, aI (x), aI (w)] σ (fun _ _ => False) (fun e σ' => e = yNSE ∧ σ' = σ) := by
  refine yMet_intro lay_nd kX8_person xX8_ok (yY8_ok _) (by decide +kernel) rfl ?_
  intro K hK
  have hN := h.2.2.1.1.1.1.1
  have hP := h.2.2.1.1.1.2.2.2.1.2
  have hS8 := h.2.2.1.1.1.2.2.2.2.1.2
  iterate 3 refine hK _ _ _ _ _ ?_
  refine Or.inr (Or.inr ⟨0, 1, rfl, yDX (c8_checkPerson_54_x _ _ P (by omega) h.1 h.2.1.2.1 x h0) (fun _ _ h => h.elim) ?_⟩)
  exact fun e σ' h => h
theorem c8_stranger_54_x0 (d : Nat) (σ t : sMem) (N P S G : Nat) (h : HR σ t 54 N P S G) (x w : Int32) (h0 : ¬ (0 ≤ x ∧ x ≤ nI S - 1)) : yMet l D0 b0 ty ad av lay (d + 7) 1 mX8_stranger [aR 34, aI (x), aI (w)] σ (fun _ _ => False) (fun e σ' => e = yNSE ∧ σ' = σ) := by
  refine yMet_intro lay_nd kX8_stranger xX8_ok (yY8_ok _) (by decide +kernel) rfl ?_
  intro K hK
  have hN := h.2.2.1.1.1.1.1
  have hP := h.2.2.1.1.1.2.2.2.1.2
  have hS8 := h.2.2.1.1.1.2.2.2.2.1.2
  iterate 3 refine hK _ _ _ _ _ ?_
  refine Or.inr (Or.inr ⟨0, 1, rfl, yDX (c8_checkStranger_54_x _ _ S (by omega) h.1 h.2.1.2.2.1 x h0) (fun _ _ h => h.elim) ?_⟩)
  exact fun e σ' h => h
theorem c8_person_54_x1 (d : Nat) (σ t : sMem) (N P S G : Nat) (h : HR σ t 54 N P S G) (x w : Int32) (hx : 0 ≤ x ∧ x ≤ nI P - 1) (h0 : ¬ (0 ≤ w ∧ w ≤ 5)) : yMet l D0 b0 ty ad av lay (d + 7) 1 mX8_person [aR 34, aI (x), aI (w)] σ (fun _ _ => False) (fun e σ' => e = yIAE ∧ σ' = σ) := by
  refine yMet_intro lay_nd kX8_person xX8_ok (yYX8_person_ok) (by decide +kernel) rfl ?_
  intro K hK
  have hN := h.2.2.1.1.1.1.1
  have hP := h.2.2.1.1.1.2.2.2.1.2
  have hS8 := h.2.2.1.1.1.2.2.2.2.1.2
  iterate 3 refine hK _ _ _ _ _ ?_
  refine Or.inl (calD (c8_checkPerson_54_ok _ _ P (by omega) h.1 h.2.1.2.1 x hx) ?_)
  rintro r σ' ⟨rfl, hσ⟩
  subst σ'
  iterate 2 refine hK _ _ _ _ _ ?_
  refine ⟨fun hsw => ?_, fun hsw => ?_, fun hsw => ?_, fun hsw => ?_, fun hsw => ?_, fun hsw => ?_, fun hsw => ?_, trivial⟩
  · refine hK _ _ _ _ _ ?_
    exact ⟨0, rfl, rfl, rfl⟩
  · exact absurd (rng_of (i := 0) (n := 5) hsw (by decide) (by decide)) h0
  · exact absurd (rng_of (i := 1) (n := 5) hsw (by decide) (by decide)) h0
  · exact absurd (rng_of (i := 2) (n := 5) hsw (by decide) (by decide)) h0
  · exact absurd (rng_of (i := 3) (n := 5) hsw (by decide) (by decide)) h0
  · exact absurd (rng_of (i := 4) (n := 5) hsw (by decide) (by decide)) h0
  · exact absurd (rng_of (i := 5) (n := 5) hsw (by decide) (by decide)) h0
theorem c8_person_54_ok (d : Nat) (σ t : sMem) (N P S G : Nat) (h : HR σ t 54 N P S G) (p w : Nat) (hp : p < P) (hw : w ≤ 5) : sMet l D0 b0 ty lay (d + 2) mX8_person [aR 34, aI (nI p), aI (nI w)] σ (fun r σ' => r = [aI (peA t p w)] ∧ σ' = σ) := by
  refine sMet_intro lay_nd kX8_person xX8_ok (by decide +kernel) rfl ?_
  intro K hK
  have hN := h.2.2.1.1.1.1.1
  have hP := h.2.2.1.1.1.2.2.2.1.2
  have hS8 := h.2.2.1.1.1.2.2.2.2.1.2
  iterate 3 refine hK _ _ _ _ ?_
  refine calD (c8_checkPerson_54_ok _ _ P (by omega) h.1 h.2.1.2.1 (nI p) (nI_isIn (by omega) hp)) ?_
  rintro r σ' ⟨rfl, hσ⟩
  subst σ'
  have kt : ∀ i : Nat, (nI w).toInt = (i : Int) → w = i := fun i hi => by rw [nI_toInt (by omega)] at hi; omega
  iterate 2 refine hK _ _ _ _ ?_
  refine ⟨fun hsw => ?_, fun hsw => ?_, fun hsw => ?_, fun hsw => ?_, fun hsw => ?_, fun hsw => ?_, fun hsw => ?_, trivial⟩
  · exfalso
    rw [nI_toInt (by omega)] at hsw
    omega
  · have e := kt 0 hsw
    subst e
    iterate 2 refine hK _ _ _ _ ?_
    show K _ _ _ _
    rw [show σ 34 0 3 = nI 54 from h.1]
    show K _ _ _ _
    rw [show (nI 54).toNatClampNeg = 54 from rfl]
    iterate 3 refine hK _ _ _ _ ?_
    refine And.intro (vp_in_nI (n := p) (by omega) (by decide)) ?_
    rw [nI_clamp (show p < 2 ^ 31 by omega)]
    rw [show σ 59 0 p = t 6 p 0 from (h.2.1.2.2.2.2.2.2.1 p hp).1]
    refine hK _ _ _ _ ?_
    exact ⟨rfl, rfl⟩
  · have e := kt 1 hsw
    subst e
    iterate 2 refine hK _ _ _ _ ?_
    show K _ _ _ _
    rw [show σ 34 0 3 = nI 54 from h.1]
    show K _ _ _ _
    rw [show (nI 54).toNatClampNeg = 54 from rfl]
    iterate 3 refine hK _ _ _ _ ?_
    refine And.intro (vp_in_nI (n := p) (by omega) (by decide)) ?_
    rw [nI_clamp (show p < 2 ^ 31 by omega)]
    rw [show σ 60 0 p = t 6 p 1 from (h.2.1.2.2.2.2.2.2.1 p hp).2.1]
    refine hK _ _ _ _ ?_
    exact ⟨rfl, rfl⟩
  · have e := kt 2 hsw
    subst e
    iterate 2 refine hK _ _ _ _ ?_
    show K _ _ _ _
    rw [show σ 34 0 3 = nI 54 from h.1]
    show K _ _ _ _
    rw [show (nI 54).toNatClampNeg = 54 from rfl]
    iterate 3 refine hK _ _ _ _ ?_
    refine And.intro (vp_in_nI (n := p) (by omega) (by decide)) ?_
    rw [nI_clamp (show p < 2 ^ 31 by omega)]
    rw [show σ 61 0 p = t 6 p 2 from (h.2.1.2.2.2.2.2.2.1 p hp).2.2.1]
    refine hK _ _ _ _ ?_
    exact ⟨rfl, rfl⟩
  · have e := kt 3 hsw
    subst e
    iterate 2 refine hK _ _ _ _ ?_
    show K _ _ _ _
    rw [show σ 34 0 3 = nI 54 from h.1]
    show K _ _ _ _
    rw [show (nI 54).toNatClampNeg = 54 from rfl]
    iterate 3 refine hK _ _ _ _ ?_
    refine And.intro (vp_in_nI (n := p) (by omega) (by decide)) ?_
    rw [nI_clamp (show p < 2 ^ 31 by omega)]
    rw [show σ 62 0 p = t 6 p 3 from (h.2.1.2.2.2.2.2.2.1 p hp).2.2.2.1]
    refine hK _ _ _ _ ?_
    exact ⟨rfl, rfl⟩
  · have e := kt 4 hsw
    subst e
    iterate 2 refine hK _ _ _ _ ?_
    show K _ _ _ _
    rw [show σ 34 0 3 = nI 54 from h.1]
    show K _ _ _ _
    rw [show (nI 54).toNatClampNeg = 54 from rfl]
    iterate 3 refine hK _ _ _ _ ?_
    refine And.intro (vp_in_nI (n := p) (by omega) (by decide)) ?_
    rw [nI_clamp (show p < 2 ^ 31 by omega)]
    rw [show σ 63 0 p = t 6 p 4 from (h.2.1.2.2.2.2.2.2.1 p hp).2.2.2.2]
    refine hK _ _ _ _ ?_
    exact ⟨rfl, rfl⟩
  · have e := kt 5 hsw
    subst e
    iterate 2 refine hK _ _ _ _ ?_
    show K _ _ _ _
    rw [show σ 34 0 3 = nI 54 from h.1]
    show K _ _ _ _
    rw [show (nI 54).toNatClampNeg = 54 from rfl]
    iterate 2 refine hK _ _ _ _ ?_
    refine calD (c7_goes_54 _ _ t N P S G h.2.1 h.2.2.1 p hp) ?_
    rintro r σ' ⟨rfl, hσ⟩
    subst σ'
    refine hK _ _ _ _ ?_
    refine And.intro (fun h9 => ?_) (fun h9 => ?_)
    · have hf := of_decide_eq_false (bI_f h9)
      iterate 2 refine hK _ _ _ _ ?_
      exact ⟨by unfold peA; rw [if_neg (by decide), if_neg hf]; rfl, rfl⟩
    · have hf := of_decide_eq_true (bI_t h9)
      iterate 2 refine hK _ _ _ _ ?_
      show K _ _ _ _
      rw [show σ 34 0 3 = nI 54 from h.1]
      show K _ _ _ _
      rw [show (nI 54).toNatClampNeg = 54 from rfl]
      iterate 2 refine hK _ _ _ _ ?_
      refine calD (c7_arrival_54 _ _ t N P S G h.2.1 h.2.2.1 p hp) ?_
      rintro r σ' ⟨rfl, hσ⟩
      subst σ'
      iterate 2 refine hK _ _ _ _ ?_
      exact ⟨by unfold peA; rw [if_neg (by decide), if_pos hf], rfl⟩
theorem c8_stranger_54_x1 (d : Nat) (σ t : sMem) (N P S G : Nat) (h : HR σ t 54 N P S G) (x w : Int32) (hx : 0 ≤ x ∧ x ≤ nI S - 1) (h0 : ¬ (0 ≤ w ∧ w ≤ 4)) : yMet l D0 b0 ty ad av lay (d + 7) 1 mX8_stranger [aR 34, aI (x), aI (w)] σ (fun _ _ => False) (fun e σ' => e = yIAE ∧ σ' = σ) := by
  refine yMet_intro lay_nd kX8_stranger xX8_ok (yYX8_stranger_ok) (by decide +kernel) rfl ?_
  intro K hK
  have hN := h.2.2.1.1.1.1.1
  have hP := h.2.2.1.1.1.2.2.2.1.2
  have hS8 := h.2.2.1.1.1.2.2.2.2.1.2
  iterate 3 refine hK _ _ _ _ _ ?_
  refine Or.inl (calD (c8_checkStranger_54_ok _ _ S (by omega) h.1 h.2.1.2.2.1 x hx) ?_)
  rintro r σ' ⟨rfl, hσ⟩
  subst σ'
  iterate 2 refine hK _ _ _ _ _ ?_
  refine ⟨fun hsw => ?_, fun hsw => ?_, fun hsw => ?_, fun hsw => ?_, fun hsw => ?_, fun hsw => ?_, trivial⟩
  · refine hK _ _ _ _ _ ?_
    exact ⟨0, rfl, rfl, rfl⟩
  · exact absurd (rng_of (i := 0) (n := 4) hsw (by decide) (by decide)) h0
  · exact absurd (rng_of (i := 1) (n := 4) hsw (by decide) (by decide)) h0
  · exact absurd (rng_of (i := 2) (n := 4) hsw (by decide) (by decide)) h0
  · exact absurd (rng_of (i := 3) (n := 4) hsw (by decide) (by decide)) h0
  · exact absurd (rng_of (i := 4) (n := 4) hsw (by decide) (by decide)) h0
theorem c8_stranger_54_ok (d : Nat) (σ t : sMem) (N P S G : Nat) (h : HR σ t 54 N P S G) (s w : Nat) (hs : s < S) (hw : w ≤ 4) : sMet l D0 b0 ty lay (d + 2) mX8_stranger [aR 34, aI (nI s), aI (nI w)] σ (fun r σ' => r = [aI (t 8 s w)] ∧ σ' = σ) := by
  refine sMet_intro lay_nd kX8_stranger xX8_ok (by decide +kernel) rfl ?_
  intro K hK
  have hN := h.2.2.1.1.1.1.1
  have hP := h.2.2.1.1.1.2.2.2.1.2
  have hS8 := h.2.2.1.1.1.2.2.2.2.1.2
  iterate 3 refine hK _ _ _ _ ?_
  refine calD (c8_checkStranger_54_ok _ _ S (by omega) h.1 h.2.1.2.2.1 (nI s) (nI_isIn (by omega) hs)) ?_
  rintro r σ' ⟨rfl, hσ⟩
  subst σ'
  have kt : ∀ i : Nat, (nI w).toInt = (i : Int) → w = i := fun i hi => by rw [nI_toInt (by omega)] at hi; omega
  iterate 2 refine hK _ _ _ _ ?_
  refine ⟨fun hsw => ?_, fun hsw => ?_, fun hsw => ?_, fun hsw => ?_, fun hsw => ?_, fun hsw => ?_, trivial⟩
  · exfalso
    rw [nI_toInt (by omega)] at hsw
    omega
  · have e := kt 0 hsw
    subst e
    iterate 2 refine hK _ _ _ _ ?_
    show K _ _ _ _
    rw [show σ 34 0 3 = nI 54 from h.1]
    show K _ _ _ _
    rw [show (nI 54).toNatClampNeg = 54 from rfl]
    iterate 3 refine hK _ _ _ _ ?_
    refine And.intro (vp_in_nI (n := s) (by omega) (by decide)) ?_
    rw [nI_clamp (show s < 2 ^ 31 by omega)]
    rw [show σ 64 0 s = t 8 s 0 from (h.2.1.2.2.2.2.2.2.2.1 s hs).1]
    refine hK _ _ _ _ ?_
    exact ⟨rfl, rfl⟩
  · have e := kt 1 hsw
    subst e
    iterate 2 refine hK _ _ _ _ ?_
    show K _ _ _ _
    rw [show σ 34 0 3 = nI 54 from h.1]
    show K _ _ _ _
    rw [show (nI 54).toNatClampNeg = 54 from rfl]
    iterate 3 refine hK _ _ _ _ ?_
    refine And.intro (vp_in_nI (n := s) (by omega) (by decide)) ?_
    rw [nI_clamp (show s < 2 ^ 31 by omega)]
    rw [show σ 65 0 s = t 8 s 1 from (h.2.1.2.2.2.2.2.2.2.1 s hs).2.1]
    refine hK _ _ _ _ ?_
    exact ⟨rfl, rfl⟩
  · have e := kt 2 hsw
    subst e
    iterate 2 refine hK _ _ _ _ ?_
    show K _ _ _ _
    rw [show σ 34 0 3 = nI 54 from h.1]
    show K _ _ _ _
    rw [show (nI 54).toNatClampNeg = 54 from rfl]
    iterate 3 refine hK _ _ _ _ ?_
    refine And.intro (vp_in_nI (n := s) (by omega) (by decide)) ?_
    rw [nI_clamp (show s < 2 ^ 31 by omega)]
    rw [show σ 66 0 s = t 8 s 2 from (h.2.1.2.2.2.2.2.2.2.1 s hs).2.2.1]
    refine hK _ _ _ _ ?_
    exact ⟨rfl, rfl⟩
  · have e := kt 3 hsw
    subst e
    iterate 2 refine hK _ _ _ _ ?_
    show K _ _ _ _
    rw [show σ 34 0 3 = nI 54 from h.1]
    show K _ _ _ _
    rw [show (nI 54).toNatClampNeg = 54 from rfl]
    iterate 3 refine hK _ _ _ _ ?_
    refine And.intro (vp_in_nI (n := s) (by omega) (by decide)) ?_
    rw [nI_clamp (show s < 2 ^ 31 by omega)]
    rw [show σ 67 0 s = t 8 s 3 from (h.2.1.2.2.2.2.2.2.2.1 s hs).2.2.2.1]
    refine hK _ _ _ _ ?_
    exact ⟨rfl, rfl⟩
  · have e := kt 4 hsw
    subst e
    iterate 2 refine hK _ _ _ _ ?_
    show K _ _ _ _
    rw [show σ 34 0 3 = nI 54 from h.1]
    show K _ _ _ _
    rw [show (nI 54).toNatClampNeg = 54 from rfl]
    iterate 3 refine hK _ _ _ _ ?_
    refine And.intro (vp_in_nI (n := s) (by omega) (by decide)) ?_
    rw [nI_clamp (show s < 2 ^ 31 by omega)]
    rw [show σ 68 0 s = t 8 s 4 from (h.2.1.2.2.2.2.2.2.2.1 s hs).2.2.2.2]
    refine hK _ _ _ _ ?_
    exact ⟨rfl, rfl⟩
theorem c8_tell_54_x0 (d : Nat) (σ t : sMem) (N P S G : Nat) (h : HR σ t 54 N P S G) (x y : Int32) (h0 : ¬ (0 ≤ x ∧ x ≤ nI S - 1)) : yMet l D0 b0 ty ad av lay (d + 7) 1 mX8_tell [aR 34, aI (x), aI (y)] σ (fun _ _ => False) (fun e σ' => e = yNSE ∧ σ' = σ) := by
  refine yMet_intro lay_nd kX8_tell xX8_ok (yY8_ok _) (by decide +kernel) rfl ?_
  intro K hK
  have hN := h.2.2.1.1.1.1.1
  have hP := h.2.2.1.1.1.2.2.2.1.2
  have hS8 := h.2.2.1.1.1.2.2.2.2.1.2
  iterate 3 refine hK _ _ _ _ _ ?_
  refine Or.inr (Or.inr ⟨0, 1, rfl, yDX (c8_checkStranger_54_x _ _ S (by omega) h.1 h.2.1.2.2.1 x h0) (fun _ _ h => h.elim) ?_⟩)
  exact fun e σ' h => h
theorem c8_tell_54_x1 (d : Nat) (σ t : sMem) (N P S G : Nat) (h : HR σ t 54 N P S G) (x y : Int32) (hx : 0 ≤ x ∧ x ≤ nI S - 1) (h0 : ¬ (y = -1 ∨ (0 ≤ y ∧ y ≤ nI P - 1))) : yMet l D0 b0 ty ad av lay (d + 7) 1 mX8_tell [aR 34, aI (x), aI (y)] σ (fun _ _ => False) (fun e σ' => e = yIAE ∧ σ' = σ) := by
  refine yMet_intro lay_nd kX8_tell xX8_ok (yYX8_tell_ok) (by decide +kernel) rfl ?_
  intro K hK
  have hN := h.2.2.1.1.1.1.1
  have hP := h.2.2.1.1.1.2.2.2.1.2
  have hS8 := h.2.2.1.1.1.2.2.2.2.1.2
  iterate 3 refine hK _ _ _ _ _ ?_
  refine Or.inl (calD (c8_checkStranger_54_ok _ _ S (by omega) h.1 h.2.1.2.2.1 x hx) ?_)
  rintro r σ' ⟨rfl, hσ⟩
  subst σ'
  iterate 3 refine hK _ _ _ _ _ ?_
  refine And.intro (fun h9 => absurd (Or.inl h9) h0) (fun _ => ?_)
  iterate 2 refine hK _ _ _ _ _ ?_
  refine And.intro (fun h9 => ?_) (fun h9 => ?_)
  · refine hK _ _ _ _ _ ?_
    exact ⟨0, rfl, rfl, rfl⟩
  · iterate 3 refine hK _ _ _ _ _ ?_
    show K _ _ _ _ _
    rw [show σ 34 0 3 = nI 54 from h.1]
    show K _ _ _ _ _
    rw [show (nI 54).toNatClampNeg = 54 from rfl]
    refine hK _ _ _ _ _ ?_
    show K _ _ _ _ _
    rw [show σ 54 0 1 = nI P from h.2.1.2.1]
    refine hK _ _ _ _ _ ?_
    refine And.intro (fun h8 => absurd (Or.inr ⟨Int32.not_lt.mp h9, (lt_pre (by omega) y).mp h8⟩) h0) (fun _ => ?_)
    refine hK _ _ _ _ _ ?_
    exact ⟨0, rfl, rfl, rfl⟩
theorem c8_tell_54_ok (d : Nat) (σ t : sMem) (N P S G : Nat) (h : HR σ t 54 N P S G) (s : Nat) (y : Int32) (hs : s < S) (h0 : y = -1 ∨ (0 ≤ y ∧ y ≤ nI P - 1)) : sMet l D0 b0 ty lay (d + 1) mX8_tell [aR 34, aI (nI s), aI (y)] σ (fun r σ' => r = [aI (t 16 0 s)] ∧ σ' = sUp σ 72 0 s y) := by
  refine sMet_intro lay_nd kX8_tell xX8_ok (by decide +kernel) rfl ?_
  intro K hK
  have hN := h.2.2.1.1.1.1.1
  have hP := h.2.2.1.1.1.2.2.2.1.2
  have hS8 := h.2.2.1.1.1.2.2.2.2.1.2
  iterate 3 refine hK _ _ _ _ ?_
  refine calD (c8_checkStranger_54_ok _ _ S (by omega) h.1 h.2.1.2.2.1 (nI s) (nI_isIn (by omega) hs)) ?_
  rintro r σ' ⟨rfl, hσ⟩
  subst σ'
  iterate 3 refine hK _ _ _ _ ?_
  have L35 : K 35 [some (aR 34), some (aI (nI s)), some (aI (y)), none] [] σ := by
    iterate 4 refine hK _ _ _ _ ?_
    refine And.intro (vp_in_nI (n := s) (by omega) (by decide)) ?_
    rw [nI_clamp (show s < 2 ^ 31 by omega)]
    rw [show σ 72 0 s = t 16 0 s from h.2.2.2 s (by omega)]
    iterate 6 refine hK _ _ _ _ ?_
    refine And.intro (vp_in_nI (n := s) (by omega) (by decide)) ?_
    rw [nI_clamp (show s < 2 ^ 31 by omega)]
    iterate 2 refine hK _ _ _ _ ?_
    exact ⟨rfl, rfl⟩
  refine And.intro (fun h9 => L35) (fun h9 => ?_)
  iterate 2 refine hK _ _ _ _ ?_
  refine And.intro (fun h8 => absurd h8 (Int32.not_lt.mpr (h0.elim (fun e => absurd e h9) (fun e => e.1)))) (fun _ => ?_)
  iterate 3 refine hK _ _ _ _ ?_
  show K _ _ _ _
  rw [show σ 34 0 3 = nI 54 from h.1]
  show K _ _ _ _
  rw [show (nI 54).toNatClampNeg = 54 from rfl]
  refine hK _ _ _ _ ?_
  show K _ _ _ _
  rw [show σ 54 0 1 = nI P from h.2.1.2.1]
  refine hK _ _ _ _ ?_
  refine And.intro (fun _ => ?_) (fun h8 => absurd ((lt_pre (by omega) y).mpr (h0.elim (fun e => absurd e h9) (fun e => e.2))) h8)
  exact L35
end
