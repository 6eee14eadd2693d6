/-! THE CLASS: Reader, from byte to number -/
/-- a byte as the class has it -/
def syB (b : Nat) : Int32 := if b < 128 then nI b else nI b - 256
def bSp (b : Nat) : Prop := (syB b = 32 ↔ nI b = 32) ∧ ((97 ≤ syB b ∧ syB b ≤ 122) ↔ (97 ≤ nI b ∧ nI b ≤ 122)) ∧ ((48 ≤ syB b ∧ syB b ≤ 57) ↔ (48 ≤ nI b ∧ nI b ≤ 57)) ∧ (syB b = 59 ↔ nI b = 59) ∧ ((48 ≤ nI b ∧ nI b ≤ 57) → syB b = nI b) ∧ ((97 ≤ nI b ∧ nI b ≤ 122) → syB b = nI b)
theorem sg_all : ((List.range 256).all fun b => decide ((syB b = 32 ↔ nI b = 32) ∧ ((97 ≤ syB b ∧ syB b ≤ 122) ↔ (97 ≤ nI b ∧ nI b ≤ 122)) ∧ ((48 ≤ syB b ∧ syB b ≤ 57) ↔ (48 ≤ nI b ∧ nI b ≤ 57)) ∧ (syB b = 59 ↔ nI b = 59) ∧ ((48 ≤ nI b ∧ nI b ≤ 57) → syB b = nI b) ∧ ((97 ≤ nI b ∧ nI b ≤ 122) → syB b = nI b))) = true := by decide +kernel
theorem sg_at {b : Nat} (h : b < 256) : bSp b := by
  unfold bSp
  exact of_decide_eq_true (List.all_eq_true.mp sg_all b (List.mem_range.mpr h))
/-- the class's text beside the reference's -/
def TXR (σ : sMem) (tx : Nat → Int32) (n : Nat) : Prop := σ 74 0 2 = nI 35 ∧ σ 74 0 3 = nI n ∧ n ≤ 600 ∧ ∀ j, j < n → ∃ b : Nat, b < 256 ∧ tx j = nI b ∧ σ 35 0 j = syB b
def cS (σ : sMem) (a : Nat) (f fa : Int32) : sMem := sUp (sUp (sUp σ 74 0 4 (nI a)) 74 0 0 f) 74 0 1 fa
theorem cS_4 (σ : sMem) (a : Nat) (f fa : Int32) : cS σ a f fa 74 0 4 = nI a := by simp [cS, sUp]
theorem cS_0 (σ : sMem) (a : Nat) (f fa : Int32) : cS σ a f fa 74 0 0 = f := by simp [cS, sUp]
theorem cS_1 (σ : sMem) (a : Nat) (f fa : Int32) : cS σ a f fa 74 0 1 = fa := by simp [cS, sUp]
theorem cS_2 (σ : sMem) (a : Nat) (f fa : Int32) : cS σ a f fa 74 0 2 = σ 74 0 2 := by simp [cS, sUp]
theorem cS_3 (σ : sMem) (a : Nat) (f fa : Int32) : cS σ a f fa 74 0 3 = σ 74 0 3 := by simp [cS, sUp]
theorem cS_i (σ : sMem) (a : Nat) (f fa : Int32) (i : Nat) (h : i ≠ 74) : cS σ a f fa i = σ i := by
  unfold cS
  rw [sUp_off h, sUp_off h, sUp_off h]
theorem cS_u4 (σ : sMem) (a b : Nat) (f fa : Int32) : sUp (cS σ a f fa) 74 0 4 (nI b) = cS σ b f fa := by
  funext x y z
  simp only [cS, sUp]
  by_cases h : x = 74 ∧ y = 0 ∧ z = 4
  · obtain ⟨rfl, rfl, rfl⟩ := h; simp
  · by_cases h1 : x = 74 ∧ y = 0 ∧ z = 0
    · obtain ⟨rfl, rfl, rfl⟩ := h1; simp
    · by_cases h2 : x = 74 ∧ y = 0 ∧ z = 1
      · obtain ⟨rfl, rfl, rfl⟩ := h2; simp
      · rw [if_neg h, if_neg h2, if_neg h1, if_neg h, if_neg h2, if_neg h1, if_neg h]
theorem cS_w (σ : sMem) (a : Nat) (f fa g ga : Int32) : sUp (sUp (cS σ a f fa) 74 0 0 g) 74 0 1 ga = cS σ a g ga := by
  funext x y z
  simp only [cS, sUp]
  by_cases h : x = 74 ∧ y = 0 ∧ z = 1
  · rw [if_pos h, if_pos h]
  · rw [if_neg h, if_neg h]
    by_cases h1 : x = 74 ∧ y = 0 ∧ z = 0
    · obtain ⟨rfl, rfl, rfl⟩ := h1; simp
    · rw [if_neg h1, if_neg h1, if_neg h, if_neg h1]
theorem cS_of (σ : sMem) (a : Nat) (h : σ 74 0 4 = nI a) : σ = cS σ a (σ 74 0 0) (σ 74 0 1) := by
  unfold cS
  rw [sUp_eq h, sUp_self, sUp_self]
theorem TXR.cS {σ : sMem} {tx : Nat → Int32} {n : Nat} (h : TXR σ tx n) (a : Nat) (f fa : Int32) : TXR (cS σ a f fa) tx n := by
  refine ⟨by rw [cS_2]; exact h.1, by rw [cS_3]; exact h.2.1, h.2.2.1, fun j hj => ?_⟩
  rw [cS_i _ _ _ _ _ (by decide)]
  exact h.2.2.2 j hj
theorem bS_in {tx : Nat → Int32} {n a : Nat} (h : a < n) : bS tx n a = tx a := if_pos h
theorem blS_s {tx : Nat → Int32} {n f a : Nat} : blS tx n (f + 1) a = if bS tx n a = 32 then blS tx n f (a + 1) else a := rfl
theorem ltS_s {tx : Nat → Int32} {n f a : Nat} : ltS tx n (f + 1) a = if 97 ≤ bS tx n a ∧ bS tx n a ≤ 122 then ltS tx n f (a + 1) else a := rfl
section
variable {l : Launch} {D0 : va_G} {b0 : Nat} {ty : Nat → ClassId} {ad av : Nat → Nat}
theorem c4_fail (d : Nat) (σ : sMem) (a : Nat) (f fa x : Int32) (h : Nat) : sMet l D0 b0 ty lay d mX4_fail [aR 74, aI (x), aI (nI h)] (cS σ a f fa) (fun r σ' => r = [] ∧ σ' = cS σ a (wrS f fa x h).1 (wrS f fa x h).2) := by
  refine sMet_intro lay_nd kX4_fail xX4_ok (by decide +kernel) rfl ?_
  intro K hK
  iterate 2 refine hK _ _ _ _ ?_
  show K _ _ _ _
  rw [show (cS σ a f fa) 74 0 0 = f from cS_0 σ a f fa]
  refine hK _ _ _ _ ?_
  refine And.intro (fun h9 => ?_) (fun h9 => ?_)
  · refine hK _ _ _ _ ?_
    exact ⟨rfl, by unfold wrS; rw [if_neg h9]⟩
  · iterate 7 refine hK _ _ _ _ ?_
    exact ⟨rfl, by unfold wrS; rw [if_pos h9, cS_w]⟩
theorem c4_isDigit (d : Nat) (σ : sMem) (x : Int32) : sMet l D0 b0 ty lay d mX4_isDigit [aI (x)] σ (fun r σ' => r = [aI (bI (decide (48 ≤ x ∧ x ≤ 57)))] ∧ σ' = σ) := by
  refine sMet_intro lay_nd kX4_isDigit xX4_ok (by decide +kernel) rfl ?_
  intro K hK
  iterate 3 refine hK _ _ _ _ ?_
  have L16 : ¬ (48 ≤ x ∧ x ≤ 57) → K 16 [some (aI (x))] [] σ := by
    intro hq
    iterate 2 refine hK _ _ _ _ ?_
    exact ⟨Or.inl rfl, by rw [decide_eq_false hq]; rfl, rfl⟩
  refine And.intro (fun h9 => L16 (fun q => absurd q.1 (Int32.not_le.mpr h9))) (fun h9 => ?_)
  iterate 3 refine hK _ _ _ _ ?_
  refine And.intro (fun h8 => L16 (fun q => absurd q.2 (Int32.not_le.mpr h8))) (fun h8 => ?_)
  iterate 3 refine hK _ _ _ _ ?_
  exact ⟨Or.inr rfl, by rw [decide_eq_true ⟨Int32.not_lt.mp h9, Int32.not_lt.mp h8⟩]; rfl, rfl⟩
theorem c4_skipBlanks (d : Nat) (σ : sMem) (tx : Nat → Int32) (n a : Nat) (f fa : Int32) (hT : TXR σ tx n) (ha : a ≤ n) : sMet l D0 b0 ty lay d mX4_skipBlanks [aR 74] (cS σ a f fa) (fun r σ' => r = [] ∧ σ' = cS σ (blk tx n a) f fa) := by
  refine sMet_intro lay_nd kX4_skipBlanks xX4_ok (by decide +kernel) rfl ?_
  intro K hK
  have hn := hT.2.2.1
  generalize hZ : blk tx n a = Z at hK
  have hZ9 : blS tx n (n - a) a = Z := hZ
  clear hZ
  have L0 : ∀ (g : Nat) (b : Nat), b + g = n → blS tx n g b = Z → K 0 [some (aR 74)] [] (cS σ b f fa) := by
    intro g
    induction g with
    | zero =>
      intro b hb9 hz
      have hTb := hT.cS b f fa
      iterate 2 refine hK _ _ _ _ ?_
      show K _ _ _ _
      rw [show (cS σ b f fa) 74 0 4 = nI b from cS_4 σ b f fa]
      iterate 2 refine hK _ _ _ _ ?_
      show K _ _ _ _
      rw [show (cS σ b f fa) 74 0 3 = nI n from hTb.2.1]
      refine hK _ _ _ _ ?_
      refine And.intro (fun _ => ?_) (fun h9 => absurd ((nI_leI (by omega) (by omega)).mpr (by omega)) h9)
      refine hK _ _ _ _ ?_
      exact ⟨rfl, by rw [← hz]; rfl⟩
    | succ g ih =>
      intro b hb9 hz
      have hTb := hT.cS b f fa
      rw [blS_s] at hz
      obtain ⟨c, hc, ec, es⟩ := hTb.2.2.2 b (by omega)
      have hsp := sg_at hc
      rw [bS_in (show b < n by omega), ec] at hz
      iterate 2 refine hK _ _ _ _ ?_
      show K _ _ _ _
      rw [show (cS σ b f fa) 74 0 4 = nI b from cS_4 σ b f fa]
      iterate 2 refine hK _ _ _ _ ?_
      show K _ _ _ _
      rw [show (cS σ b f fa) 74 0 3 = nI n from hTb.2.1]
      refine hK _ _ _ _ ?_
      refine And.intro (fun h9 => absurd ((nI_leI (by omega) (by omega)).mp h9) (by omega)) (fun _ => ?_)
      iterate 2 refine hK _ _ _ _ ?_
      show K _ _ _ _
      rw [show (cS σ b f fa) 74 0 2 = nI 35 from hTb.1]
      show K _ _ _ _
      rw [show (nI 35).toNatClampNeg = 35 from rfl]
      iterate 2 refine hK _ _ _ _ ?_
      show K _ _ _ _
      rw [show (cS σ b f fa) 74 0 4 = nI b from cS_4 σ b f fa]
      refine hK _ _ _ _ ?_
      refine And.intro (vp_in_nI (n := b) (by omega) (by decide)) ?_
      rw [nI_clamp (show b < 2 ^ 31 by omega)]
      rw [show (cS σ b f fa) 35 0 b = syB c from es]
      iterate 2 refine hK _ _ _ _ ?_
      refine And.intro (fun h8 => ?_) (fun h8 => ?_)
      · rw [if_neg (fun e => h8 (hsp.1.mpr e))] at hz
        refine hK _ _ _ _ ?_
        exact ⟨rfl, by rw [hz]⟩
      · rw [if_pos (hsp.1.mp h8)] at hz
        iterate 3 refine hK _ _ _ _ ?_
        show K _ _ _ _
        rw [show (cS σ b f fa) 74 0 4 = nI b from cS_4 σ b f fa]
        iterate 2 refine hK _ _ _ _ ?_
        show K _ _ _ _
        rw [show nI b + Int32.ofInt 1 = nI (b + 1) from nIs _]
        iterate 2 refine hK _ _ _ _ ?_
        rw [cS_u4]
        exact ih (b + 1) (by omega) hz
  exact L0 (n - a) a (by omega) hZ9
theorem dg_s {tx : Nat → Int32} {n f a : Nat} {v : Int32} : dgS tx n (f + 1) a v = if 48 ≤ bS tx n a ∧ bS tx n a ≤ 57 then dgS tx n f (a + 1) (if 100000 < 10 * v + bS tx n a - 48 then 100000 else 10 * v + bS tx n a - 48) else (a, v) := rfl
theorem cap_eq (v b : Int32) : mnI 100000 (v * 10 + (b - 48)) = if 100000 < 10 * v + b - 48 then 100000 else 10 * v + b - 48 := by
  have e : v * 10 + (b - 48) = 10 * v + b - 48 := by rw [Int32.mul_comm, Int32.sub_eq_add_neg, Int32.sub_eq_add_neg, Int32.add_assoc]
  rw [e]
  unfold mnI
  generalize 10 * v + b - 48 = x
  by_cases h : x < 100000
  · rw [if_pos h, if_neg (fun q => Int32.lt_irrefl (Int32.lt_trans h q))]
  · rw [if_neg h]
    by_cases h2 : 100000 < x
    · rw [if_pos h2]
    · rw [if_neg h2]
      exact (Int32.le_antisymm (Int32.not_lt.mp h2) (Int32.not_lt.mp h)).symm
/-- what the class reads as a number: value, place, fault, its place -/
def numC (tx : Nat → Int32) (n a : Nat) (lo hi fa : Int32) : Int32 × Nat × Int32 × Int32 :=
  let b := blk tx n a
  let q := dgS tx n (n - b) b 0
  if 48 ≤ bS tx n b ∧ bS tx n b ≤ 57 then (if lo ≤ q.2 ∧ q.2 ≤ hi then (q.2, q.1, 0, fa) else (0, q.1, 2, nI b)) else (0, b, 1, nI b)
theorem c4_readNumber0 (d : Nat) (σ : sMem) (tx : Nat → Int32) (n a : Nat) (fa lo hi : Int32) (hT : TXR σ tx n) (ha : a ≤ n) : yMet l D0 b0 ty ad av lay (d + 1) 0 mX4_readNumber [aR 74, aI (lo), aI (hi)] (cS σ a 0 fa) (fun r σ' => r = [aI (numC tx n a lo hi fa).1] ∧ σ' = cS σ (numC tx n a lo hi fa).2.1 (numC tx n a lo hi fa).2.2.1 (numC tx n a lo hi fa).2.2.2) (fun _ _ => False) := by
  refine yMet_intro lay_nd kX4_readNumber xX4_ok (yY4_ok _) (by decide +kernel) rfl ?_
  intro K hK
  have hn := hT.2.2.1
  generalize hZ : numC tx n a lo hi fa = Z at hK
  unfold numC at hZ
  try dsimp only at hZ
  have hbl := blk_le tx ha
  generalize hb0 : blk tx n a = b at hZ hbl
  iterate 2 refine hK _ _ _ _ _ ?_
  refine Or.inl (calD (c4_skipBlanks _ σ tx n a 0 fa hT ha) ?_)
  rintro r σ' ⟨rfl, hσ⟩
  rw [hb0] at hσ
  subst σ'
  show K 0 4 [some (aR 74), some (aI (lo)), some (aI (hi)), none, none] [] (cS σ b 0 fa)
  have hT_b := hT.cS b 0 fa
  iterate 2 refine hK _ _ _ _ _ ?_
  show K _ _ _ _ _
  rw [show (cS σ b 0 fa) 74 0 4 = nI b from cS_4 σ b 0 fa]
  refine hK _ _ _ _ _ ?_
  have L35 : ¬ (48 ≤ bS tx n b ∧ bS tx n b ≤ 57) → K 0 35 [some (aR 74), some (aI (lo)), some (aI (hi)), some (aI (nI b)), none] [] (cS σ b 0 fa) := by
    intro hnd
    rw [if_neg hnd] at hZ
    iterate 4 refine hK _ _ _ _ _ ?_
    show K _ _ _ _ _
    rw [show (cS σ b 0 fa) 74 0 4 = nI b from cS_4 σ b 0 fa]
    refine hK _ _ _ _ _ ?_
    refine Or.inl (calD (c4_fail _ σ b 0 fa 1 b) ?_)
    rintro r σ' ⟨rfl, hσ⟩
    have hw : wrS 0 fa 1 b = (1, nI b) := rfl
    rw [hw] at hσ
    subst σ'
    show K 0 44 [some (aR 74), some (aI (lo)), some (aI (hi)), some (aI (nI b)), none] [] (cS σ b 1 (nI b))
    have hT_b := hT.cS b 1 (nI b)
    iterate 2 refine hK _ _ _ _ _ ?_
    show K _ _ _ _ _
    rw [show (cS σ b 1 (nI b)) 74 0 0 = 1 from cS_0 σ b 1 (nI b)]
    refine hK _ _ _ _ _ ?_
    refine And.intro (fun h9 => absurd h9 (by decide)) (fun _ => ?_)
    iterate 2 refine hK _ _ _ _ _ ?_
    exact ⟨by rw [← hZ]; rfl, by rw [← hZ]⟩
  iterate 2 refine hK _ _ _ _ _ ?_
  show K _ _ _ _ _
  rw [show (cS σ b 0 fa) 74 0 4 = nI b from cS_4 σ b 0 fa]
  iterate 2 refine hK _ _ _ _ _ ?_
  show K _ _ _ _ _
  rw [show (cS σ b 0 fa) 74 0 3 = nI n from hT_b.2.1]
  refine hK _ _ _ _ _ ?_
  refine And.intro (fun h9 => L35 (fun q => by rw [bS_out tx ((nI_leI (by omega) (by omega)).mp h9)] at q; exact absurd q.1 (by decide))) (fun h9 => ?_)
  have hbn : b < n := Decidable.byContradiction fun q => h9 ((nI_leI (by omega) (by omega)).mpr (by omega))
  obtain ⟨c, hc, ec, es⟩ := hT_b.2.2.2 b hbn
  have hsp := sg_at hc
  have hbS : bS tx n b = nI c := (bS_in hbn).trans ec
  iterate 2 refine hK _ _ _ _ _ ?_
  show K _ _ _ _ _
  rw [show (cS σ b 0 fa) 74 0 2 = nI 35 from hT_b.1]
  show K _ _ _ _ _
  rw [show (nI 35).toNatClampNeg = 35 from rfl]
  iterate 2 refine hK _ _ _ _ _ ?_
  show K _ _ _ _ _
  rw [show (cS σ b 0 fa) 74 0 4 = nI b from cS_4 σ b 0 fa]
  refine hK _ _ _ _ _ ?_
  refine And.intro (vp_in_nI (n := b) (by omega) (by decide)) ?_
  rw [nI_clamp (show b < 2 ^ 31 by omega)]
  rw [show (cS σ b 0 fa) 35 0 b = syB c from es]
  refine hK _ _ _ _ _ ?_
  refine Or.inl (calD (c4_isDigit _ _ _) ?_)
  rintro r σ' ⟨rfl, rfl⟩
  show K 0 32 [some (aR 74), some (aI (lo)), some (aI (hi)), some (aI (nI b)), none] [aI (bI (decide (48 ≤ syB c ∧ syB c ≤ 57)))] (cS σ b 0 fa)
  refine hK _ _ _ _ _ ?_
  refine And.intro (fun h8 => ?_) (fun h8 => ?_)
  · have hd := of_decide_eq_true (bI_t h8)
    rw [if_pos (by rw [hbS]; exact hsp.2.2.1.mp hd)] at hZ
    iterate 2 refine hK _ _ _ _ _ ?_
    show K _ _ _ _ _
    rw [show (cS σ b 0 fa) 74 0 0 = 0 from cS_0 σ b 0 fa]
    refine hK _ _ _ _ _ ?_
    refine And.intro (fun _ => ?_) (fun h7 => absurd rfl h7)
    iterate 2 refine hK _ _ _ _ _ ?_
    have L120 : ∀ (e : Nat) (v : Int32), e ≤ n → (e, v) = dgS tx n (n - b) b 0 → K 0 120 [some (aR 74), some (aI (lo)), some (aI (hi)), some (aI (nI b)), some (aI (v))] [] (cS σ e 0 fa) := by
      intro e v hen he
      rw [← he] at hZ
      have L132 : ¬ (lo ≤ v ∧ v ≤ hi) → K 0 132 [some (aR 74), some (aI (lo)), some (aI (hi)), some (aI (nI b)), some (aI (v))] [] (cS σ e 0 fa) := by
        intro hr
        rw [if_neg hr] at hZ
        iterate 4 refine hK _ _ _ _ _ ?_
        refine Or.inl (calD (c4_fail _ σ e 0 fa 2 b) ?_)
        rintro r σ' ⟨rfl, hσ⟩
        have hw : wrS 0 fa 2 b = (2, nI b) := rfl
        rw [hw] at hσ
        subst σ'
        show K 0 138 [some (aR 74), some (aI (lo)), some (aI (hi)), some (aI (nI b)), some (aI (v))] [] (cS σ e 2 (nI b))
        iterate 2 refine hK _ _ _ _ _ ?_
        exact ⟨by rw [← hZ]; rfl, by rw [← hZ]⟩
      iterate 3 refine hK _ _ _ _ _ ?_
      refine And.intro (fun h6 => L132 (fun q => absurd q.1 (Int32.not_le.mpr h6))) (fun h6 => ?_)
      iterate 3 refine hK _ _ _ _ _ ?_
      refine And.intro (fun h5 => ?_) (fun h5 => L132 (fun q => h5 q.2))
      rw [if_pos ⟨Int32.not_lt.mp h6, h5⟩] at hZ
      iterate 2 refine hK _ _ _ _ _ ?_
      exact ⟨by rw [← hZ], by rw [← hZ]⟩
    generalize hQ : dgS tx n (n - b) b 0 = Q at hZ L120
    have L56 : ∀ (g : Nat) (e : Nat) (v : Int32), e + g = n → dgS tx n g e v = Q → K 0 56 [some (aR 74), some (aI (lo)), some (aI (hi)), some (aI (nI b)), some (aI (v))] [] (cS σ e 0 fa) := by
      intro g
      induction g with
      | zero =>
        intro e v he hz
        have hT_e := hT.cS e 0 fa
        iterate 2 refine hK _ _ _ _ _ ?_
        show K _ _ _ _ _
        rw [show (cS σ e 0 fa) 74 0 4 = nI e from cS_4 σ e 0 fa]
        iterate 2 refine hK _ _ _ _ _ ?_
        show K _ _ _ _ _
        rw [show (cS σ e 0 fa) 74 0 3 = nI n from hT_e.2.1]
        refine hK _ _ _ _ _ ?_
        refine And.intro (fun _ => ?_) (fun h6 => absurd ((nI_leI (by omega) (by omega)).mpr (by omega)) h6)
        exact L120 e v (by omega) hz
      | succ g ih =>
        intro e v he hz
        have hT_e := hT.cS e 0 fa
        rw [dg_s] at hz
        obtain ⟨c2, hc2, ec2, es2⟩ := hT_e.2.2.2 e (by omega)
        have hsp2 := sg_at hc2
        rw [bS_in (show e < n by omega), ec2] at hz
        iterate 2 refine hK _ _ _ _ _ ?_
        show K _ _ _ _ _
        rw [show (cS σ e 0 fa) 74 0 4 = nI e from cS_4 σ e 0 fa]
        iterate 2 refine hK _ _ _ _ _ ?_
        show K _ _ _ _ _
        rw [show (cS σ e 0 fa) 74 0 3 = nI n from hT_e.2.1]
        refine hK _ _ _ _ _ ?_
        refine And.intro (fun h6 => absurd ((nI_leI (by omega) (by omega)).mp h6) (by omega)) (fun _ => ?_)
        iterate 2 refine hK _ _ _ _ _ ?_
        show K _ _ _ _ _
        rw [show (cS σ e 0 fa) 74 0 2 = nI 35 from hT_e.1]
        show K _ _ _ _ _
        rw [show (nI 35).toNatClampNeg = 35 from rfl]
        iterate 2 refine hK _ _ _ _ _ ?_
        show K _ _ _ _ _
        rw [show (cS σ e 0 fa) 74 0 4 = nI e from cS_4 σ e 0 fa]
        refine hK _ _ _ _ _ ?_
        refine And.intro (vp_in_nI (n := e) (by omega) (by decide)) ?_
        rw [nI_clamp (show e < 2 ^ 31 by omega)]
        rw [show (cS σ e 0 fa) 35 0 e = syB c2 from es2]
        refine hK _ _ _ _ _ ?_
        refine Or.inl (calD (c4_isDigit _ _ _) ?_)
        rintro r σ' ⟨rfl, rfl⟩
        show K 0 79 [some (aR 74), some (aI (lo)), some (aI (hi)), some (aI (nI b)), some (aI (v))] [aI (bI (decide (48 ≤ syB c2 ∧ syB c2 ≤ 57)))] (cS σ e 0 fa)
        refine hK _ _ _ _ _ ?_
        refine And.intro (fun h5 => ?_) (fun h5 => ?_)
        · rw [if_neg (fun q => of_decide_eq_false (bI_f h5) (hsp2.2.2.1.mpr q))] at hz
          exact L120 e v (by omega) hz
        · have hd2 := hsp2.2.2.1.mp (of_decide_eq_true (bI_t h5))
          rw [if_pos hd2, ← cap_eq] at hz
          rw [← hsp2.2.2.2.2.1 hd2] at hz
          iterate 6 refine hK _ _ _ _ _ ?_
          show K _ _ _ _ _
          rw [show (cS σ e 0 fa) 74 0 2 = nI 35 from hT_e.1]
          show K _ _ _ _ _
          rw [show (nI 35).toNatClampNeg = 35 from rfl]
          iterate 2 refine hK _ _ _ _ _ ?_
          show K _ _ _ _ _
          rw [show (cS σ e 0 fa) 74 0 4 = nI e from cS_4 σ e 0 fa]
          refine hK _ _ _ _ _ ?_
          refine And.intro (vp_in_nI (n := e) (by omega) (by decide)) ?_
          rw [nI_clamp (show e < 2 ^ 31 by omega)]
          rw [show (cS σ e 0 fa) 35 0 e = syB c2 from es2]
          iterate 8 refine hK _ _ _ _ _ ?_
          show K _ _ _ _ _
          rw [show (cS σ e 0 fa) 74 0 4 = nI e from cS_4 σ e 0 fa]
          iterate 2 refine hK _ _ _ _ _ ?_
          show K _ _ _ _ _
          rw [show nI e + Int32.ofInt 1 = nI (e + 1) from nIs _]
          iterate 2 refine hK _ _ _ _ _ ?_
          rw [cS_u4]
          exact ih (e + 1) _ (by omega) hz
    exact L56 (n - b) b _ (by omega) hQ
  · exact L35 (fun q => of_decide_eq_false (bI_f h8) (hsp.2.2.1.mpr (by rw [← hbS]; exact q)))
theorem c4_readNumber1 (d : Nat) (σ : sMem) (tx : Nat → Int32) (n a : Nat) (f fa lo hi : Int32) (hT : TXR σ tx n) (ha : a ≤ n) (hf : ¬ f = 0) : yMet l D0 b0 ty ad av lay (d + 1) 0 mX4_readNumber [aR 74, aI (lo), aI (hi)] (cS σ a f fa) (fun r σ' => r = [aI 0] ∧ σ' = cS σ (blk tx n a) f fa) (fun _ _ => False) := by
  refine yMet_intro lay_nd kX4_readNumber xX4_ok (yY4_ok _) (by decide +kernel) rfl ?_
  intro K hK
  have hn := hT.2.2.1
  have hbl := blk_le tx ha
  generalize hb0 : blk tx n a = b at hK hbl
  iterate 2 refine hK _ _ _ _ _ ?_
  refine Or.inl (calD (c4_skipBlanks _ σ tx n a f fa hT ha) ?_)
  rintro r σ' ⟨rfl, hσ⟩
  rw [hb0] at hσ
  subst σ'
  show K 0 4 [some (aR 74), some (aI (lo)), some (aI (hi)), none, none] [] (cS σ b f fa)
  have hT_b := hT.cS b f fa
  iterate 2 refine hK _ _ _ _ _ ?_
  show K _ _ _ _ _
  rw [show (cS σ b f fa) 74 0 4 = nI b from cS_4 σ b f fa]
  refine hK _ _ _ _ _ ?_
  have L44 : K 0 44 [some (aR 74), some (aI (lo)), some (aI (hi)), some (aI (nI b)), none] [] (cS σ b f fa) := by
    iterate 2 refine hK _ _ _ _ _ ?_
    show K _ _ _ _ _
    rw [show (cS σ b f fa) 74 0 0 = f from cS_0 σ b f fa]
    refine hK _ _ _ _ _ ?_
    refine And.intro (fun h9 => absurd h9 hf) (fun _ => ?_)
    iterate 2 refine hK _ _ _ _ _ ?_
    exact ⟨rfl, rfl⟩
  have L35 : K 0 35 [some (aR 74), some (aI (lo)), some (aI (hi)), some (aI (nI b)), none] [] (cS σ b f fa) := by
    iterate 4 refine hK _ _ _ _ _ ?_
    show K _ _ _ _ _
    rw [show (cS σ b f fa) 74 0 4 = nI b from cS_4 σ b f fa]
    refine hK _ _ _ _ _ ?_
    refine Or.inl (calD (c4_fail _ σ b f fa 1 b) ?_)
    rintro r σ' ⟨rfl, hσ⟩
    have hw : wrS f fa 1 b = (f, fa) := if_neg hf
    rw [hw] at hσ
    subst σ'
    show K 0 44 [some (aR 74), some (aI (lo)), some (aI (hi)), some (aI (nI b)), none] [] (cS σ b f fa)
    exact L44
  iterate 2 refine hK _ _ _ _ _ ?_
  show K _ _ _ _ _
  rw [show (cS σ b f fa) 74 0 4 = nI b from cS_4 σ b f fa]
  iterate 2 refine hK _ _ _ _ _ ?_
  show K _ _ _ _ _
  rw [show (cS σ b f fa) 74 0 3 = nI n from hT_b.2.1]
  refine hK _ _ _ _ _ ?_
  refine And.intro (fun h9 => L35) (fun h9 => ?_)
  have hbn : b < n := Decidable.byContradiction fun q => h9 ((nI_leI (by omega) (by omega)).mpr (by omega))
  obtain ⟨c, hc, ec, es⟩ := hT_b.2.2.2 b hbn
  iterate 2 refine hK _ _ _ _ _ ?_
  show K _ _ _ _ _
  rw [show (cS σ b f fa) 74 0 2 = nI 35 from hT_b.1]
  show K _ _ _ _ _
  rw [show (nI 35).toNatClampNeg = 35 from rfl]
  iterate 2 refine hK _ _ _ _ _ ?_
  show K _ _ _ _ _
  rw [show (cS σ b f fa) 74 0 4 = nI b from cS_4 σ b f fa]
  refine hK _ _ _ _ _ ?_
  refine And.intro (vp_in_nI (n := b) (by omega) (by decide)) ?_
  rw [nI_clamp (show b < 2 ^ 31 by omega)]
  rw [show (cS σ b f fa) 35 0 b = syB c from es]
  refine hK _ _ _ _ _ ?_
  refine Or.inl (calD (c4_isDigit _ _ _) ?_)
  rintro r σ' ⟨rfl, rfl⟩
  show K 0 32 [some (aR 74), some (aI (lo)), some (aI (hi)), some (aI (nI b)), none] [aI (bI (decide (48 ≤ syB c ∧ syB c ≤ 57)))] (cS σ b f fa)
  refine hK _ _ _ _ _ ?_
  refine And.intro (fun h8 => L44) (fun h8 => L35)
end
