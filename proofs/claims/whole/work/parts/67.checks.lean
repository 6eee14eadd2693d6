/-! THE CLASS: what is refused -/
theorem lt_pre {n : Nat} (hn : n < 2 ^ 31) (x : Int32) : x < nI n ↔ x ≤ nI n - 1 := by
  cases n with
  | zero =>
    rw [Int32.lt_iff_toInt_lt, Int32.le_iff_toInt_le, show (nI 0).toInt = 0 from rfl, show (nI 0 - 1).toInt = -1 from by decide]
    omega
  | succ n =>
    have e : nI (n + 1) - 1 = nI n := by
      have : nI (n + 1) = nI n + 1 := (nIs n).symm
      rw [this, Int32.add_sub_cancel]
    have h1 : (nI n).toInt = n := by
      show (Int32.ofNat n).toInt = n
      exact Int32.toInt_ofNat_of_lt (by omega)
    have h2 : (nI (n + 1)).toInt = (n : Int) + 1 := by
      show (Int32.ofNat (n + 1)).toInt = (n : Int) + 1
      rw [Int32.toInt_ofNat_of_lt (by omega)]
      omega
    rw [e, Int32.lt_iff_toInt_lt, Int32.le_iff_toInt_le, h1, h2]
    omega
/-- what stands in a number between 0 and an end -/
theorem in_nI {n : Nat} (hn : n < 2 ^ 31) {x : Int32} (h : 0 ≤ x ∧ x ≤ nI n - 1) : ∃ k : Nat, x = nI k ∧ k < n := by
  have h2 := (lt_pre hn x).mpr h.2
  have h3 : (nI n).toInt = n := by
    show (Int32.ofNat n).toInt = n
    exact Int32.toInt_ofNat_of_lt (by omega)
  have h0 : 0 ≤ x.toInt := Int32.le_iff_toInt_le.mp h.1
  rw [Int32.lt_iff_toInt_lt, h3] at h2
  refine ⟨x.toInt.toNat, ?_, by omega⟩
  apply Int32.toInt_inj.mp
  show x.toInt = (Int32.ofNat x.toInt.toNat).toInt
  rw [Int32.toInt_ofNat_of_lt (by omega)]
  omega
section
variable {l : Launch} {D0 : va_G} {b0 : Nat} {ty : Nat → ClassId} {ad av : Nat → Nat}
theorem c8_checkPlace_36_ok (d : Nat) (σ : sMem) (n : Nat) (hn : n < 2 ^ 31) (e3 : σ 34 0 3 = nI 36) (e0 : σ 37 0 0 = nI n) (x : Int32) (h : 0 ≤ x ∧ x ≤ nI n - 1) : sMet l D0 b0 ty lay d mX8_checkPlace [aR 34, aI (x)] σ (fun r σ' => r = [] ∧ σ' = σ) := by
  refine sMet_intro lay_nd kX8_checkPlace xX8_ok (by decide +kernel) rfl ?_
  intro K hK
  iterate 2 refine hK _ _ _ _ ?_
  refine And.intro (fun h9 => absurd h9 (Int32.not_lt.mpr h.1)) (fun _ => ?_)
  iterate 3 refine hK _ _ _ _ ?_
  show K _ _ _ _
  rw [show σ 34 0 3 = nI 36 from e3]
  show K _ _ _ _
  rw [show (nI 36).toNatClampNeg = 36 from rfl]
  iterate 2 refine hK _ _ _ _ ?_
  show K _ _ _ _
  rw [show σ 37 0 0 = nI n from e0]
  refine hK _ _ _ _ ?_
  refine And.intro (fun _ => ?_) (fun h9 => absurd ((lt_pre hn x).mpr h.2) h9)
  refine hK _ _ _ _ ?_
  exact ⟨rfl, rfl⟩
theorem c8_checkPlace_36_x (d : Nat) (σ : sMem) (n : Nat) (hn : n < 2 ^ 31) (e3 : σ 34 0 3 = nI 36) (e0 : σ 37 0 0 = nI n) (x : Int32) (h : ¬ (0 ≤ x ∧ x ≤ nI n - 1)) : yMet l D0 b0 ty ad av lay (d + 6) 1 mX8_checkPlace [aR 34, aI (x)] σ (fun _ _ => False) (fun e σ' => e = yIOE ∧ σ' = σ) := by
  refine yMet_intro lay_nd kX8_checkPlace xX8_ok (yYX8_checkPlace_ok) (by decide +kernel) rfl ?_
  intro K hK
  iterate 2 refine hK _ _ _ _ _ ?_
  refine And.intro (fun h9 => ?_) (fun h9 => ?_)
  · refine hK _ _ _ _ _ ?_
    exact ⟨0, rfl, rfl, rfl⟩
  · iterate 3 refine hK _ _ _ _ _ ?_
    show K _ _ _ _ _
    rw [show σ 34 0 3 = nI 36 from e3]
    show K _ _ _ _ _
    rw [show (nI 36).toNatClampNeg = 36 from rfl]
    iterate 2 refine hK _ _ _ _ _ ?_
    show K _ _ _ _ _
    rw [show σ 37 0 0 = nI n from e0]
    refine hK _ _ _ _ _ ?_
    refine And.intro (fun h8 => absurd ⟨Int32.not_lt.mp h9, (lt_pre hn x).mp h8⟩ h) (fun _ => ?_)
    refine hK _ _ _ _ _ ?_
    exact ⟨0, rfl, rfl, rfl⟩
theorem c8_checkPlace_54_ok (d : Nat) (σ : sMem) (n : Nat) (hn : n < 2 ^ 31) (e3 : σ 34 0 3 = nI 54) (e0 : σ 55 0 0 = nI n) (x : Int32) (h : 0 ≤ x ∧ x ≤ nI n - 1) : sMet l D0 b0 ty lay d mX8_checkPlace [aR 34, aI (x)] σ (fun r σ' => r = [] ∧ σ' = σ) := by
  refine sMet_intro lay_nd kX8_checkPlace xX8_ok (by decide +kernel) rfl ?_
  intro K hK
  iterate 2 refine hK _ _ _ _ ?_
  refine And.intro (fun h9 => absurd h9 (Int32.not_lt.mpr h.1)) (fun _ => ?_)
  iterate 3 refine hK _ _ _ _ ?_
  show K _ _ _ _
  rw [show σ 34 0 3 = nI 54 from e3]
  show K _ _ _ _
  rw [show (nI 54).toNatClampNeg = 54 from rfl]
  iterate 2 refine hK _ _ _ _ ?_
  show K _ _ _ _
  rw [show σ 55 0 0 = nI n from e0]
  refine hK _ _ _ _ ?_
  refine And.intro (fun _ => ?_) (fun h9 => absurd ((lt_pre hn x).mpr h.2) h9)
  refine hK _ _ _ _ ?_
  exact ⟨rfl, rfl⟩
theorem c8_checkPlace_54_x (d : Nat) (σ : sMem) (n : Nat) (hn : n < 2 ^ 31) (e3 : σ 34 0 3 = nI 54) (e0 : σ 55 0 0 = nI n) (x : Int32) (h : ¬ (0 ≤ x ∧ x ≤ nI n - 1)) : yMet l D0 b0 ty ad av lay (d + 6) 1 mX8_checkPlace [aR 34, aI (x)] σ (fun _ _ => False) (fun e σ' => e = yIOE ∧ σ' = σ) := by
  refine yMet_intro lay_nd kX8_checkPlace xX8_ok (yYX8_checkPlace_ok) (by decide +kernel) rfl ?_
  intro K hK
  iterate 2 refine hK _ _ _ _ _ ?_
  refine And.intro (fun h9 => ?_) (fun h9 => ?_)
  · refine hK _ _ _ _ _ ?_
    exact ⟨0, rfl, rfl, rfl⟩
  · iterate 3 refine hK _ _ _ _ _ ?_
    show K _ _ _ _ _
    rw [show σ 34 0 3 = nI 54 from e3]
    show K _ _ _ _ _
    rw [show (nI 54).toNatClampNeg = 54 from rfl]
    iterate 2 refine hK _ _ _ _ _ ?_
    show K _ _ _ _ _
    rw [show σ 55 0 0 = nI n from e0]
    refine hK _ _ _ _ _ ?_
    refine And.intro (fun h8 => absurd ⟨Int32.not_lt.mp h9, (lt_pre hn x).mp h8⟩ h) (fun _ => ?_)
    refine hK _ _ _ _ _ ?_
    exact ⟨0, rfl, rfl, rfl⟩
theorem c8_checkPerson_36_ok (d : Nat) (σ : sMem) (n : Nat) (hn : n < 2 ^ 31) (e3 : σ 34 0 3 = nI 36) (e0 : σ 36 0 1 = nI n) (x : Int32) (h : 0 ≤ x ∧ x ≤ nI n - 1) : sMet l D0 b0 ty lay d mX8_checkPerson [aR 34, aI (x)] σ (fun r σ' => r = [] ∧ σ' = σ) := by
  refine sMet_intro lay_nd kX8_checkPerson xX8_ok (by decide +kernel) rfl ?_
  intro K hK
  iterate 2 refine hK _ _ _ _ ?_
  refine And.intro (fun h9 => absurd h9 (Int32.not_lt.mpr h.1)) (fun _ => ?_)
  iterate 3 refine hK _ _ _ _ ?_
  show K _ _ _ _
  rw [show σ 34 0 3 = nI 36 from e3]
  show K _ _ _ _
  rw [show (nI 36).toNatClampNeg = 36 from rfl]
  refine hK _ _ _ _ ?_
  show K _ _ _ _
  rw [show σ 36 0 1 = nI n from e0]
  refine hK _ _ _ _ ?_
  refine And.intro (fun _ => ?_) (fun h9 => absurd ((lt_pre hn x).mpr h.2) h9)
  refine hK _ _ _ _ ?_
  exact ⟨rfl, rfl⟩
theorem c8_checkPerson_36_x (d : Nat) (σ : sMem) (n : Nat) (hn : n < 2 ^ 31) (e3 : σ 34 0 3 = nI 36) (e0 : σ 36 0 1 = nI n) (x : Int32) (h : ¬ (0 ≤ x ∧ x ≤ nI n - 1)) : yMet l D0 b0 ty ad av lay (d + 6) 1 mX8_checkPerson [aR 34, aI (x)] σ (fun _ _ => False) (fun e σ' => e = yNSE ∧ σ' = σ) := by
  refine yMet_intro lay_nd kX8_checkPerson xX8_ok (yYX8_checkPerson_ok) (by decide +kernel) rfl ?_
  intro K hK
  iterate 2 refine hK _ _ _ _ _ ?_
  refine And.intro (fun h9 => ?_) (fun h9 => ?_)
  · refine hK _ _ _ _ _ ?_
    exact ⟨0, rfl, rfl, rfl⟩
  · iterate 3 refine hK _ _ _ _ _ ?_
    show K _ _ _ _ _
    rw [show σ 34 0 3 = nI 36 from e3]
    show K _ _ _ _ _
    rw [show (nI 36).toNatClampNeg = 36 from rfl]
    refine hK _ _ _ _ _ ?_
    show K _ _ _ _ _
    rw [show σ 36 0 1 = nI n from e0]
    refine hK _ _ _ _ _ ?_
    refine And.intro (fun h8 => absurd ⟨Int32.not_lt.mp h9, (lt_pre hn x).mp h8⟩ h) (fun _ => ?_)
    refine hK _ _ _ _ _ ?_
    exact ⟨0, rfl, rfl, rfl⟩
theorem c8_checkPerson_54_ok (d : Nat) (σ : sMem) (n : Nat) (hn : n < 2 ^ 31) (e3 : σ 34 0 3 = nI 54) (e0 : σ 54 0 1 = nI n) (x : Int32) (h : 0 ≤ x ∧ x ≤ nI n - 1) : sMet l D0 b0 ty lay d mX8_checkPerson [aR 34, aI (x)] σ (fun r σ' => r = [] ∧ σ' = σ) := by
  refine sMet_intro lay_nd kX8_checkPerson xX8_ok (by decide +kernel) rfl ?_
  intro K hK
  iterate 2 refine hK _ _ _ _ ?_
  refine And.intro (fun h9 => absurd h9 (Int32.not_lt.mpr h.1)) (fun _ => ?_)
  iterate 3 refine hK _ _ _ _ ?_
  show K _ _ _ _
  rw [show σ 34 0 3 = nI 54 from e3]
  show K _ _ _ _
  rw [show (nI 54).toNatClampNeg = 54 from rfl]
  refine hK _ _ _ _ ?_
  show K _ _ _ _
  rw [show σ 54 0 1 = nI n from e0]
  refine hK _ _ _ _ ?_
  refine And.intro (fun _ => ?_) (fun h9 => absurd ((lt_pre hn x).mpr h.2) h9)
  refine hK _ _ _ _ ?_
  exact ⟨rfl, rfl⟩
theorem c8_checkPerson_54_x (d : Nat) (σ : sMem) (n : Nat) (hn : n < 2 ^ 31) (e3 : σ 34 0 3 = nI 54) (e0 : σ 54 0 1 = nI n) (x : Int32) (h : ¬ (0 ≤ x ∧ x ≤ nI n - 1)) : yMet l D0 b0 ty ad av lay (d + 6) 1 mX8_checkPerson [aR 34, aI (x)] σ (fun _ _ => False) (fun e σ' => e = yNSE ∧ σ' = σ) := by
  refine yMet_intro lay_nd kX8_checkPerson xX8_ok (yYX8_checkPerson_ok) (by decide +kernel) rfl ?_
  intro K hK
  iterate 2 refine hK _ _ _ _ _ ?_
  refine And.intro (fun h9 => ?_) (fun h9 => ?_)
  · refine hK _ _ _ _ _ ?_
    exact ⟨0, rfl, rfl, rfl⟩
  · iterate 3 refine hK _ _ _ _ _ ?_
    show K _ _ _ _ _
    rw [show σ 34 0 3 = nI 54 from e3]
    show K _ _ _ _ _
    rw [show (nI 54).toNatClampNeg = 54 from rfl]
    refine hK _ _ _ _ _ ?_
    show K _ _ _ _ _
    rw [show σ 54 0 1 = nI n from e0]
    refine hK _ _ _ _ _ ?_
    refine And.intro (fun h8 => absurd ⟨Int32.not_lt.mp h9, (lt_pre hn x).mp h8⟩ h) (fun _ => ?_)
    refine hK _ _ _ _ _ ?_
    exact ⟨0, rfl, rfl, rfl⟩
theorem c8_checkStranger_36_ok (d : Nat) (σ : sMem) (n : Nat) (hn : n < 2 ^ 31) (e3 : σ 34 0 3 = nI 36) (e0 : σ 36 0 7 = nI n) (x : Int32) (h : 0 ≤ x ∧ x ≤ nI n - 1) : sMet l D0 b0 ty lay d mX8_checkStranger [aR 34, aI (x)] σ (fun r σ' => r = [] ∧ σ' = σ) := by
  refine sMet_intro lay_nd kX8_checkStranger xX8_ok (by decide +kernel) rfl ?_
  intro K hK
  iterate 2 refine hK _ _ _ _ ?_
  refine And.intro (fun h9 => absurd h9 (Int32.not_lt.mpr h.1)) (fun _ => ?_)
  iterate 3 refine hK _ _ _ _ ?_
  show K _ _ _ _
  rw [show σ 34 0 3 = nI 36 from e3]
  show K _ _ _ _
  rw [show (nI 36).toNatClampNeg = 36 from rfl]
  refine hK _ _ _ _ ?_
  show K _ _ _ _
  rw [show σ 36 0 7 = nI n from e0]
  refine hK _ _ _ _ ?_
  refine And.intro (fun _ => ?_) (fun h9 => absurd ((lt_pre hn x).mpr h.2) h9)
  refine hK _ _ _ _ ?_
  exact ⟨rfl, rfl⟩
theorem c8_checkStranger_36_x (d : Nat) (σ : sMem) (n : Nat) (hn : n < 2 ^ 31) (e3 : σ 34 0 3 = nI 36) (e0 : σ 36 0 7 = nI n) (x : Int32) (h : ¬ (0 ≤ x ∧ x ≤ nI n - 1)) : yMet l D0 b0 ty ad av lay (d + 6) 1 mX8_checkStranger [aR 34, aI (x)] σ (fun _ _ => False) (fun e σ' => e = yNSE ∧ σ' = σ) := by
  refine yMet_intro lay_nd kX8_checkStranger xX8_ok (yYX8_checkStranger_ok) (by decide +kernel) rfl ?_
  intro K hK
  iterate 2 refine hK _ _ _ _ _ ?_
  refine And.intro (fun h9 => ?_) (fun h9 => ?_)
  · refine hK _ _ _ _ _ ?_
    exact ⟨0, rfl, rfl, rfl⟩
  · iterate 3 refine hK _ _ _ _ _ ?_
    show K _ _ _ _ _
    rw [show σ 34 0 3 = nI 36 from e3]
    show K _ _ _ _ _
    rw [show (nI 36).toNatClampNeg = 36 from rfl]
    refine hK _ _ _ _ _ ?_
    show K _ _ _ _ _
    rw [show σ 36 0 7 = nI n from e0]
    refine hK _ _ _ _ _ ?_
    refine And.intro (fun h8 => absurd ⟨Int32.not_lt.mp h9, (lt_pre hn x).mp h8⟩ h) (fun _ => ?_)
    refine hK _ _ _ _ _ ?_
    exact ⟨0, rfl, rfl, rfl⟩
theorem c8_checkStranger_54_ok (d : Nat) (σ : sMem) (n : Nat) (hn : n < 2 ^ 31) (e3 : σ 34 0 3 = nI 54) (e0 : σ 54 0 7 = nI n) (x : Int32) (h : 0 ≤ x ∧ x ≤ nI n - 1) : sMet l D0 b0 ty lay d mX8_checkStranger [aR 34, aI (x)] σ (fun r σ' => r = [] ∧ σ' = σ) := by
  refine sMet_intro lay_nd kX8_checkStranger xX8_ok (by decide +kernel) rfl ?_
  intro K hK
  iterate 2 refine hK _ _ _ _ ?_
  refine And.intro (fun h9 => absurd h9 (Int32.not_lt.mpr h.1)) (fun _ => ?_)
  iterate 3 refine hK _ _ _ _ ?_
  show K _ _ _ _
  rw [show σ 34 0 3 = nI 54 from e3]
  show K _ _ _ _
  rw [show (nI 54).toNatClampNeg = 54 from rfl]
  refine hK _ _ _ _ ?_
  show K _ _ _ _
  rw [show σ 54 0 7 = nI n from e0]
  refine hK _ _ _ _ ?_
  refine And.intro (fun _ => ?_) (fun h9 => absurd ((lt_pre hn x).mpr h.2) h9)
  refine hK _ _ _ _ ?_
  exact ⟨rfl, rfl⟩
theorem c8_checkStranger_54_x (d : Nat) (σ : sMem) (n : Nat) (hn : n < 2 ^ 31) (e3 : σ 34 0 3 = nI 54) (e0 : σ 54 0 7 = nI n) (x : Int32) (h : ¬ (0 ≤ x ∧ x ≤ nI n - 1)) : yMet l D0 b0 ty ad av lay (d + 6) 1 mX8_checkStranger [aR 34, aI (x)] σ (fun _ _ => False) (fun e σ' => e = yNSE ∧ σ' = σ) := by
  refine yMet_intro lay_nd kX8_checkStranger xX8_ok (yYX8_checkStranger_ok) (by decide +kernel) rfl ?_
  intro K hK
  iterate 2 refine hK _ _ _ _ _ ?_
  refine And.intro (fun h9 => ?_) (fun h9 => ?_)
  · refine hK _ _ _ _ _ ?_
    exact ⟨0, rfl, rfl, rfl⟩
  · iterate 3 refine hK _ _ _ _ _ ?_
    show K _ _ _ _ _
    rw [show σ 34 0 3 = nI 54 from e3]
    show K _ _ _ _ _
    rw [show (nI 54).toNatClampNeg = 54 from rfl]
    refine hK _ _ _ _ _ ?_
    show K _ _ _ _ _
    rw [show σ 54 0 7 = nI n from e0]
    refine hK _ _ _ _ _ ?_
    refine And.intro (fun h8 => absurd ⟨Int32.not_lt.mp h9, (lt_pre hn x).mp h8⟩ h) (fun _ => ?_)
    refine hK _ _ _ _ _ ?_
    exact ⟨0, rfl, rfl, rfl⟩
theorem c8_checkKind_ok (d : Nat) (σ : sMem) (x : Int32) (h : 0 ≤ x ∧ x ≤ 4) : sMet l D0 b0 ty lay d mX8_checkKind [aI (x)] σ (fun r σ' => r = [] ∧ σ' = σ) := by
  refine sMet_intro lay_nd kX8_checkKind xX8_ok (by decide +kernel) rfl ?_
  intro K hK
  iterate 2 refine hK _ _ _ _ ?_
  refine And.intro (fun h9 => absurd h9 (Int32.not_lt.mpr h.1)) (fun _ => ?_)
  iterate 3 refine hK _ _ _ _ ?_
  refine And.intro (fun _ => ?_) (fun h9 => absurd ((lt_pre (n := 5) (by decide) x).mpr h.2) h9)
  refine hK _ _ _ _ ?_
  exact ⟨rfl, rfl⟩
theorem c8_checkKind_x (d : Nat) (σ : sMem) (x : Int32) (h : ¬ (0 ≤ x ∧ x ≤ 4)) : yMet l D0 b0 ty ad av lay (d + 6) 1 mX8_checkKind [aI (x)] σ (fun _ _ => False) (fun e σ' => e = yIAE ∧ σ' = σ) := by
  refine yMet_intro lay_nd kX8_checkKind xX8_ok (yYX8_checkKind_ok) (by decide +kernel) rfl ?_
  intro K hK
  iterate 2 refine hK _ _ _ _ _ ?_
  refine And.intro (fun h9 => ?_) (fun h9 => ?_)
  · refine hK _ _ _ _ _ ?_
    exact ⟨0, rfl, rfl, rfl⟩
  · iterate 3 refine hK _ _ _ _ _ ?_
    refine And.intro (fun h8 => absurd ⟨Int32.not_lt.mp h9, (lt_pre (n := 5) (by decide) x).mp h8⟩ h) (fun _ => ?_)
    refine hK _ _ _ _ _ ?_
    exact ⟨0, rfl, rfl, rfl⟩
theorem c8_checkBelow_ok (d : Nat) (σ : sMem) (n : Nat) (hn : n < 2 ^ 31) (x : Int32) (h : 0 ≤ x ∧ x ≤ nI n - 1) : sMet l D0 b0 ty lay d mX8_checkBelow [aI (x), aI (nI n)] σ (fun r σ' => r = [] ∧ σ' = σ) := by
  refine sMet_intro lay_nd kX8_checkBelow xX8_ok (by decide +kernel) rfl ?_
  intro K hK
  iterate 2 refine hK _ _ _ _ ?_
  refine And.intro (fun h9 => absurd h9 (Int32.not_lt.mpr h.1)) (fun _ => ?_)
  iterate 3 refine hK _ _ _ _ ?_
  refine And.intro (fun _ => ?_) (fun h9 => absurd ((lt_pre hn x).mpr h.2) h9)
  refine hK _ _ _ _ ?_
  exact ⟨rfl, rfl⟩
theorem c8_checkBelow_x (d : Nat) (σ : sMem) (n : Nat) (hn : n < 2 ^ 31) (x : Int32) (h : ¬ (0 ≤ x ∧ x ≤ nI n - 1)) : yMet l D0 b0 ty ad av lay (d + 6) 1 mX8_checkBelow [aI (x), aI (nI n)] σ (fun _ _ => False) (fun e σ' => e = yIAE ∧ σ' = σ) := by
  refine yMet_intro lay_nd kX8_checkBelow xX8_ok (yYX8_checkBelow_ok) (by decide +kernel) rfl ?_
  intro K hK
  iterate 2 refine hK _ _ _ _ _ ?_
  refine And.intro (fun h9 => ?_) (fun h9 => ?_)
  · refine hK _ _ _ _ _ ?_
    exact ⟨0, rfl, rfl, rfl⟩
  · iterate 3 refine hK _ _ _ _ _ ?_
    refine And.intro (fun h8 => absurd ⟨Int32.not_lt.mp h9, (lt_pre hn x).mp h8⟩ h) (fun _ => ?_)
    refine hK _ _ _ _ _ ?_
    exact ⟨0, rfl, rfl, rfl⟩
theorem c8_checkFee_ok (d : Nat) (σ : sMem) (x : Int32) (h : 0 ≤ x ∧ x ≤ 9) : sMet l D0 b0 ty lay d mX8_checkFee [aI (x)] σ (fun r σ' => r = [] ∧ σ' = σ) := by
  refine sMet_intro lay_nd kX8_checkFee xX8_ok (by decide +kernel) rfl ?_
  intro K hK
  iterate 2 refine hK _ _ _ _ ?_
  refine And.intro (fun h9 => absurd h9 (Int32.not_lt.mpr h.1)) (fun _ => ?_)
  iterate 3 refine hK _ _ _ _ ?_
  refine And.intro (fun _ => ?_) (fun h9 => absurd h.2 h9)
  refine hK _ _ _ _ ?_
  exact ⟨rfl, rfl⟩
theorem c8_checkFee_x (d : Nat) (σ : sMem) (x : Int32) (h : ¬ (0 ≤ x ∧ x ≤ 9)) : yMet l D0 b0 ty ad av lay (d + 6) 1 mX8_checkFee [aI (x)] σ (fun _ _ => False) (fun e σ' => e = yIAE ∧ σ' = σ) := by
  refine yMet_intro lay_nd kX8_checkFee xX8_ok (yYX8_checkFee_ok) (by decide +kernel) rfl ?_
  intro K hK
  iterate 2 refine hK _ _ _ _ _ ?_
  refine And.intro (fun h9 => ?_) (fun h9 => ?_)
  · refine hK _ _ _ _ _ ?_
    exact ⟨0, rfl, rfl, rfl⟩
  · iterate 3 refine hK _ _ _ _ _ ?_
    refine And.intro (fun h8 => absurd ⟨Int32.not_lt.mp h9, h8⟩ h) (fun _ => ?_)
    refine hK _ _ _ _ _ ?_
    exact ⟨0, rfl, rfl, rfl⟩
end
