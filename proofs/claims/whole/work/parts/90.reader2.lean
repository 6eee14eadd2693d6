/-! THE CLASS: Reader beside the reference's reader: numbers, other places, ends -/
theorem dg_no {tx : Nat → Int32} {n b : Nat} (h : ¬ (48 ≤ bS tx n b ∧ bS tx n b ≤ 57)) : ∀ f (v : Int32), dgS tx n f b v = (b, v)
  | 0, _ => rfl
  | f + 1, v => by rw [dg_s, if_neg h]
def numN (tx : Nat → Int32) (n a : Nat) (hi nt fa : Int32) : Int32 × Nat × Int32 × Int32 := if (numC tx n a 0 hi fa).2.2.1 = 0 ∧ (numC tx n a 0 hi fa).1 = nt then (0, (numC tx n a 0 hi fa).2.1, 2, nI (blk tx n a)) else numC tx n a 0 hi fa
theorem wr0 (fa w : Int32) (h : Nat) : wrS 0 fa w h = (w, nI h) := rfl
theorem wr1 {f fa w : Int32} {h : Nat} (hf : ¬ f = 0) : wrS f fa w h = (f, fa) := if_neg hf
theorem numS_C {tx : Nat → Int32} {n a : Nat} {lo hi fa : Int32} (hlo : 0 ≤ lo) : numS tx n a lo hi (-1) fa = numC tx n a lo hi fa := by
  unfold numS numC
  by_cases hd : 48 ≤ bS tx n (blk tx n a) ∧ bS tx n (blk tx n a) ≤ 57
  · by_cases hr : lo ≤ (dgS tx n (n - blk tx n a) (blk tx n a) 0).2 ∧ (dgS tx n (n - blk tx n a) (blk tx n a) 0).2 ≤ hi
    · have hne : ¬ (dgS tx n (n - blk tx n a) (blk tx n a) 0).2 = -1 := fun e => by
        have := Int32.le_trans hlo hr.1
        rw [e] at this
        exact absurd this (by decide)
      simp only [if_pos hd, if_pos hr, if_pos (And.intro hr hne), if_true]
    · simp only [if_pos hd, if_neg hr, if_neg (fun q : _ ∧ _ => hr q.1), wr0, if_neg (show ¬ (2 : Int32) = 0 by decide)]
  · simp only [if_neg hd, dg_no hd, wr0, wr1 (show ¬ (1 : Int32) = 0 by decide), ite_self, if_neg (show ¬ (1 : Int32) = 0 by decide)]
theorem numS_N {tx : Nat → Int32} {n a : Nat} {hi nt fa : Int32} : numS tx n a 0 hi nt fa = numN tx n a hi nt fa := by
  unfold numN
  unfold numS numC
  by_cases hd : 48 ≤ bS tx n (blk tx n a) ∧ bS tx n (blk tx n a) ≤ 57
  · by_cases hr : 0 ≤ (dgS tx n (n - blk tx n a) (blk tx n a) 0).2 ∧ (dgS tx n (n - blk tx n a) (blk tx n a) 0).2 ≤ hi
    · by_cases hne : (dgS tx n (n - blk tx n a) (blk tx n a) 0).2 = nt
      · simp only [if_pos hd, if_pos hr, if_neg (fun q : _ ∧ ¬ _ => q.2 hne), wr0, if_neg (show ¬ (2 : Int32) = 0 by decide)]
        rw [if_pos ⟨trivial, hne⟩]
      · simp only [if_pos hd, if_pos hr, if_pos (And.intro hr hne), if_true, true_and, if_neg hne]
    · simp only [if_pos hd, if_neg hr, if_neg (fun q : _ ∧ _ => hr q.1), wr0, if_neg (show ¬ (2 : Int32) = 0 by decide)]
      rw [if_neg (fun q : _ ∧ _ => absurd q.1 (by decide))]
  · simp only [if_neg hd, dg_no hd, wr0, wr1 (show ¬ (1 : Int32) = 0 by decide), ite_self, if_neg (show ¬ (1 : Int32) = 0 by decide)]
    rw [if_neg (fun q : _ ∧ _ => absurd q.1 (by decide))]
theorem numC_le {tx : Nat → Int32} {n a : Nat} {lo hi fa : Int32} (ha : a ≤ n) : (numC tx n a lo hi fa).2.1 ≤ n := by
  have hb1 := blk_le tx ha
  have hd1 := dgS_le tx n (n - blk tx n a) (blk tx n a) 0 (by omega)
  unfold numC
  dsimp only
  split
  · split
    · exact hd1.2
    · exact hd1.2
  · exact hb1.2
theorem numC_bl {tx : Nat → Int32} {n a : Nat} {lo hi fa : Int32} (ha : a ≤ n) : numC tx n (blk tx n a) lo hi fa = numC tx n a lo hi fa := by
  unfold numC
  rw [blk_idem tx ha]
/-- the class's reader stands as the reference's does; behind a fault the fault alone counts -/
def CSR (σ ρ : sMem) (n : Nat) : Prop := TXR σ (ρ 1 0) n ∧ ρ 0 0 2 = nI n ∧ σ 74 0 0 = ρ 0 0 5 ∧ σ 74 0 1 = ρ 0 0 6 ∧ RI ρ ∧ ∃ a, σ 74 0 4 = nI a ∧ a ≤ n ∧ (ρ 0 0 5 = 0 → ρ 0 0 4 = nI a)
def R74 (σ σ' : sMem) : Prop := ∀ i, i ≠ 74 → σ' i = σ i
theorem R74.tr {a b c : sMem} (h : R74 a b) (h' : R74 b c) : R74 a c := fun i hi => (h' i hi).trans (h i hi)
theorem cS_R74 (σ : sMem) (a : Nat) (f fa : Int32) : R74 σ (cS σ a f fa) := fun i hi => cS_i _ _ _ _ _ hi
theorem CSR.up {σ ρ : sMem} {n : Nat} (h : CSR σ ρ n) (i j k : Nat) (v : Int32) (h0 : i ≠ 0) (h1 : i ≠ 1) : CSR σ (sUp ρ i j k v) n := by
  unfold CSR
  rw [sUp_off (Ne.symm h0), sUp_off (Ne.symm h1)]
  exact ⟨h.1, h.2.1, h.2.2.1, h.2.2.2.1, h.2.2.2.2.1.up i j k v h0, h.2.2.2.2.2⟩
theorem CSR.cg {σ σ' ρ : sMem} {n : Nat} (h : CSR σ ρ n) (h74 : σ' 74 = σ 74) (h35 : σ' 35 = σ 35) : CSR σ' ρ n := by
  unfold CSR TXR
  rw [h74, h35]
  exact h
theorem CSR.sz {σ ρ : sMem} {n : Nat} (h : CSR σ ρ n) : szN ρ = n := by
  unfold szN
  rw [h.2.1, nI_clamp (by have := h.1.2.2.1; omega)]
theorem CSR.to {σ ρ : sMem} {n : Nat} (h : CSR σ ρ n) {a : Nat} (f fa : Int32) (ha : a ≤ n) : CSR (cS σ a f fa) (pS ρ a f fa) n := by
  refine ⟨?_, by rw [pS_0 _ _ _ _ _ (by decide) (by decide) (by decide)]; exact h.2.1, by rw [cS_0, pS_5], by rw [cS_1, pS_6], h.2.2.2.2.1.pS f fa (by rw [h.sz]; exact ha), a, cS_4 _ _ _ _, ha, fun _ => pS_4 _ _ _ _⟩
  rw [pS_i _ _ _ _ _ (by decide)]
  exact h.1.cS a f fa
theorem CSR.fl {σ ρ : sMem} {n : Nat} (h : CSR σ ρ n) {a : Nat} (hf : ¬ ρ 0 0 5 = 0) (ha : a ≤ n) : CSR (cS σ a (ρ 0 0 5) (ρ 0 0 6)) ρ n :=
  ⟨h.1.cS _ _ _, h.2.1, cS_0 _ _ _ _, cS_1 _ _ _ _, h.2.2.2.2.1, a, cS_4 _ _ _ _, ha, fun e => absurd e hf⟩
section
variable {l : Launch} {D0 : va_G} {b0 : Nat} {ty : Nat → ClassId} {ad av : Nat → Nat}
theorem c4_other0 (d : Nat) (σ : sMem) (tx : Nat → Int32) (n a : Nat) (fa nt hi : Int32) (hT : TXR σ tx n) (ha : a ≤ n) : yMet l D0 b0 ty ad av lay (d + 2) 0 mX4_readOtherPlace [aR 74, aI (nt), aI (hi)] (cS σ a 0 fa) (fun r σ' => ∃ x, r = [aI x] ∧ ((numN tx n a hi nt fa).2.2.1 = 0 → x = (numN tx n a hi nt fa).1) ∧ σ' = cS σ (numN tx n a hi nt fa).2.1 (numN tx n a hi nt fa).2.2.1 (numN tx n a hi nt fa).2.2.2) (fun _ _ => False) := by
  refine yMet_intro lay_nd kX4_readOtherPlace xX4_ok (yY4_ok _) (by decide +kernel) rfl ?_
  intro K hK
  have hn := hT.2.2.1
  have hbl := blk_le tx ha
  have hNB := numC_bl (tx := tx) (lo := 0) (hi := hi) (fa := fa) ha
  generalize hZ : numN tx n a hi nt fa = Z at hK
  unfold numN at hZ
  generalize hb0 : blk tx n a = b at hZ hbl hNB
  iterate 2 refine hK _ _ _ _ _ ?_
  refine Or.inl (calD (c4_skipBlanks _ σ tx n a 0 fa hT ha) ?_)
  rintro r σ' ⟨rfl, hσ⟩
  rw [hb0] at hσ
  subst σ'
  show K 0 4 [some (aR 74), some (aI (nt)), some (aI (hi)), none, none] [] (cS σ b 0 fa)
  iterate 2 refine hK _ _ _ _ _ ?_
  show K _ _ _ _ _
  rw [show (cS σ b 0 fa) 74 0 4 = nI b from cS_4 σ b 0 fa]
  iterate 5 refine hK _ _ _ _ _ ?_
  refine Or.inr (Or.inl (yD0 (c4_readNumber0 _ σ tx n b fa 0 hi hT hbl.2) ?_))
  rw [hNB]
  generalize numC tx n a 0 hi fa = C at hZ ⊢
  rintro r σ' ⟨rfl, hσ⟩
  subst σ'
  show K 0 15 [some (aR 74), some (aI (nt)), some (aI (hi)), some (aI (nI b)), none] [aI (C.1)] (cS σ C.2.1 C.2.2.1 C.2.2.2)
  iterate 4 refine hK _ _ _ _ _ ?_
  refine And.intro (fun h9 => ?_) (fun h9 => ?_)
  · rw [if_neg (fun q => h9 q.2)] at hZ
    iterate 2 refine hK _ _ _ _ _ ?_
    exact ⟨C.1, rfl, fun q => by rw [← hZ], by rw [← hZ]⟩
  · iterate 4 refine hK _ _ _ _ _ ?_
    refine Or.inl (calD (c4_fail _ σ C.2.1 C.2.2.1 C.2.2.2 2 b) ?_)
    rintro r σ' ⟨rfl, rfl⟩
    show K 0 29 [some (aR 74), some (aI (nt)), some (aI (hi)), some (aI (nI b)), some (aI (C.1))] [] (cS σ C.2.1 (wrS C.2.2.1 C.2.2.2 2 b).1 (wrS C.2.2.1 C.2.2.2 2 b).2)
    iterate 2 refine hK _ _ _ _ _ ?_
    by_cases hf : C.2.2.1 = 0
    · rw [if_pos ⟨hf, h9⟩] at hZ
      have hw : wrS C.2.2.1 C.2.2.2 2 b = (2, nI b) := if_pos hf
      exact ⟨C.1, rfl, fun q => by rw [← hZ] at q; exact absurd (show (2 : Int32) = 0 from q) (by decide), by rw [← hZ, hw]⟩
    · rw [if_neg (fun q => hf q.1)] at hZ
      have hw : wrS C.2.2.1 C.2.2.2 2 b = (C.2.2.1, C.2.2.2) := if_neg hf
      exact ⟨C.1, rfl, fun q => by rw [← hZ], by rw [← hZ, hw]⟩
theorem c4_other1 (d : Nat) (σ : sMem) (tx : Nat → Int32) (n a : Nat) (f fa nt hi : Int32) (hT : TXR σ tx n) (ha : a ≤ n) (hf : ¬ f = 0) : yMet l D0 b0 ty ad av lay (d + 2) 0 mX4_readOtherPlace [aR 74, aI (nt), aI (hi)] (cS σ a f fa) (fun r σ' => ∃ x a', r = [aI x] ∧ a' ≤ n ∧ σ' = cS σ a' f fa) (fun _ _ => False) := by
  refine yMet_intro lay_nd kX4_readOtherPlace xX4_ok (yY4_ok _) (by decide +kernel) rfl ?_
  intro K hK
  have hn := hT.2.2.1
  have hbl := blk_le tx ha
  generalize hb0 : blk tx n a = b at hbl
  have hbl2 := blk_le tx hbl.2
  generalize hb2 : blk tx n b = e at hbl2
  iterate 2 refine hK _ _ _ _ _ ?_
  refine Or.inl (calD (c4_skipBlanks _ σ tx n a f fa hT ha) ?_)
  rintro r σ' ⟨rfl, hσ⟩
  rw [hb0] at hσ
  subst σ'
  show K 0 4 [some (aR 74), some (aI (nt)), some (aI (hi)), none, none] [] (cS σ b f fa)
  iterate 2 refine hK _ _ _ _ _ ?_
  show K _ _ _ _ _
  rw [show (cS σ b f fa) 74 0 4 = nI b from cS_4 σ b f fa]
  iterate 5 refine hK _ _ _ _ _ ?_
  refine Or.inr (Or.inl (yD0 (c4_readNumber1 _ σ tx n b f fa 0 hi hT hbl.2 hf) ?_))
  rintro r σ' ⟨rfl, hσ⟩
  rw [hb2] at hσ
  subst σ'
  show K 0 15 [some (aR 74), some (aI (nt)), some (aI (hi)), some (aI (nI b)), none] [aI (0)] (cS σ e f fa)
  iterate 4 refine hK _ _ _ _ _ ?_
  refine And.intro (fun h9 => ?_) (fun h9 => ?_)
  · iterate 2 refine hK _ _ _ _ _ ?_
    exact ⟨_, e, rfl, hbl2.2, rfl⟩
  · iterate 4 refine hK _ _ _ _ _ ?_
    refine Or.inl (calD (c4_fail _ σ e f fa 2 b) ?_)
    rintro r σ' ⟨rfl, hσ⟩
    have hw : wrS f fa 2 b = (f, fa) := if_neg hf
    rw [hw] at hσ
    subst σ'
    show K 0 29 [some (aR 74), some (aI (nt)), some (aI (hi)), some (aI (nI b)), some (aI (0))] [] (cS σ e f fa)
    iterate 2 refine hK _ _ _ _ _ ?_
    exact ⟨_, e, rfl, hbl2.2, rfl⟩
theorem c4_ends0 (d : Nat) (σ : sMem) (tx : Nat → Int32) (n a : Nat) (fa : Int32) (hT : TXR σ tx n) (ha : a ≤ n) : sMet l D0 b0 ty lay (d + 1) mX4_endsWell [aR 74] (cS σ a 0 fa) (fun r σ' => (bS tx n (blk tx n a) = 59 → r = [aI 1] ∧ σ' = cS σ (blk tx n a + 1) 0 fa ∧ blk tx n a < n) ∧ (¬ bS tx n (blk tx n a) = 59 → r = [aI 0] ∧ σ' = cS σ (blk tx n a) 1 (nI (blk tx n a)))) := by
  refine sMet_intro lay_nd kX4_endsWell xX4_ok (by decide +kernel) rfl ?_
  intro K hK
  have hn := hT.2.2.1
  have hbl := blk_le tx ha
  generalize hb0 : blk tx n a = b at hK hbl
  iterate 2 refine hK _ _ _ _ ?_
  refine calD (c4_skipBlanks _ σ tx n a 0 fa hT ha) ?_
  rintro r σ' ⟨rfl, hσ⟩
  rw [hb0] at hσ
  subst σ'
  show K 4 [some (aR 74)] [] (cS σ b 0 fa)
  have hT_b := hT.cS b 0 fa
  have L29 : ¬ bS tx n b = 59 → K 29 [some (aR 74)] [] (cS σ b 0 fa) := by
    intro hq
    iterate 4 refine hK _ _ _ _ ?_
    show K _ _ _ _
    rw [show (cS σ b 0 fa) 74 0 4 = nI b from cS_4 σ b 0 fa]
    refine hK _ _ _ _ ?_
    refine calD (c4_fail _ σ b 0 fa 1 b) ?_
    rintro r σ' ⟨rfl, hσ⟩
    have hw : wrS 0 fa 1 b = (1, nI b) := rfl
    rw [hw] at hσ
    subst σ'
    show K 38 [some (aR 74)] [] (cS σ b 1 (nI b))
    iterate 3 refine hK _ _ _ _ ?_
    show K _ _ _ _
    rw [show (cS σ b 1 (nI b)) 74 0 0 = 1 from cS_0 σ b 1 (nI b)]
    refine hK _ _ _ _ ?_
    refine And.intro (fun _ => ?_) (fun h9 => absurd h9 (by decide))
    iterate 2 refine hK _ _ _ _ ?_
    exact ⟨Or.inl rfl, fun q => absurd q hq, fun _ => ⟨rfl, rfl⟩⟩
  iterate 2 refine hK _ _ _ _ ?_
  show K _ _ _ _
  rw [show (cS σ b 0 fa) 74 0 4 = nI b from cS_4 σ b 0 fa]
  iterate 2 refine hK _ _ _ _ ?_
  show K _ _ _ _
  rw [show (cS σ b 0 fa) 74 0 3 = nI n from hT_b.2.1]
  refine hK _ _ _ _ ?_
  refine And.intro (fun h9 => L29 (fun q => by rw [bS_out tx ((nI_leI (by omega) (by omega)).mp h9)] at q; exact absurd q (by decide))) (fun h9 => ?_)
  have hbn : b < n := Decidable.byContradiction fun q => h9 ((nI_leI (by omega) (by omega)).mpr (by omega))
  obtain ⟨c, hc, ec, es⟩ := hT_b.2.2.2 b hbn
  have hsp := sg_at hc
  have hbS : bS tx n b = nI c := (bS_in hbn).trans ec
  iterate 2 refine hK _ _ _ _ ?_
  show K _ _ _ _
  rw [show (cS σ b 0 fa) 74 0 2 = nI 35 from hT_b.1]
  show K _ _ _ _
  rw [show (nI 35).toNatClampNeg = 35 from rfl]
  iterate 2 refine hK _ _ _ _ ?_
  show K _ _ _ _
  rw [show (cS σ b 0 fa) 74 0 4 = nI b from cS_4 σ b 0 fa]
  refine hK _ _ _ _ ?_
  refine And.intro (vp_in_nI (n := b) (by omega) (by decide)) ?_
  rw [nI_clamp (show b < 2 ^ 31 by omega)]
  rw [show (cS σ b 0 fa) 35 0 b = syB c from es]
  iterate 2 refine hK _ _ _ _ ?_
  refine And.intro (fun h8 => ?_) (fun h8 => ?_)
  · have hq : bS tx n b = 59 := by rw [hbS]; exact hsp.2.2.2.1.mp h8
    iterate 3 refine hK _ _ _ _ ?_
    show K _ _ _ _
    rw [show (cS σ b 0 fa) 74 0 4 = nI b from cS_4 σ b 0 fa]
    iterate 2 refine hK _ _ _ _ ?_
    show K _ _ _ _
    rw [show nI b + Int32.ofInt 1 = nI (b + 1) from nIs _]
    refine hK _ _ _ _ ?_
    show K _ _ _ _
    rw [cS_u4]
    iterate 2 refine hK _ _ _ _ ?_
    show K _ _ _ _
    rw [show (cS σ (b + 1) 0 fa) 74 0 0 = 0 from cS_0 σ (b + 1) 0 fa]
    refine hK _ _ _ _ ?_
    refine And.intro (fun h7 => absurd rfl h7) (fun _ => ?_)
    iterate 3 refine hK _ _ _ _ ?_
    exact ⟨Or.inr rfl, fun _ => ⟨rfl, rfl, hbn⟩, fun q => absurd hq q⟩
  · exact L29 (fun e => h8 (hsp.2.2.2.1.mpr (by rw [← hbS]; exact e)))
theorem c4_ends1 (d : Nat) (σ : sMem) (tx : Nat → Int32) (n a : Nat) (f fa : Int32) (hT : TXR σ tx n) (ha : a ≤ n) (hf : ¬ f = 0) : sMet l D0 b0 ty lay (d + 1) mX4_endsWell [aR 74] (cS σ a f fa) (fun r σ' => r = [aI 0] ∧ ∃ a', a' ≤ n ∧ σ' = cS σ a' f fa) := by
  refine sMet_intro lay_nd kX4_endsWell xX4_ok (by decide +kernel) rfl ?_
  intro K hK
  have hn := hT.2.2.1
  have hbl := blk_le tx ha
  generalize hb0 : blk tx n a = b at hbl
  iterate 2 refine hK _ _ _ _ ?_
  refine calD (c4_skipBlanks _ σ tx n a f fa hT ha) ?_
  rintro r σ' ⟨rfl, hσ⟩
  rw [hb0] at hσ
  subst σ'
  show K 4 [some (aR 74)] [] (cS σ b f fa)
  have hT_b := hT.cS b f fa
  have L51 : ∀ (e : Nat), e ≤ n → K 51 [some (aR 74)] [] (cS σ e f fa) := by
    intro e he
    iterate 2 refine hK _ _ _ _ ?_
    show K _ _ _ _
    rw [show (cS σ e f fa) 74 0 0 = f from cS_0 σ e f fa]
    refine hK _ _ _ _ ?_
    refine And.intro (fun _ => ?_) (fun h9 => absurd h9 hf)
    iterate 2 refine hK _ _ _ _ ?_
    exact ⟨Or.inl rfl, rfl, e, he, rfl⟩
  have L29 : K 29 [some (aR 74)] [] (cS σ b f fa) := by
    iterate 4 refine hK _ _ _ _ ?_
    show K _ _ _ _
    rw [show (cS σ b f fa) 74 0 4 = nI b from cS_4 σ b f fa]
    refine hK _ _ _ _ ?_
    refine calD (c4_fail _ σ b f fa 1 b) ?_
    rintro r σ' ⟨rfl, hσ⟩
    have hw : wrS f fa 1 b = (f, fa) := if_neg hf
    rw [hw] at hσ
    subst σ'
    show K 38 [some (aR 74)] [] (cS σ b f fa)
    refine hK _ _ _ _ ?_
    exact L51 b hbl.2
  iterate 2 refine hK _ _ _ _ ?_
  show K _ _ _ _
  rw [show (cS σ b f fa) 74 0 4 = nI b from cS_4 σ b f fa]
  iterate 2 refine hK _ _ _ _ ?_
  show K _ _ _ _
  rw [show (cS σ b f fa) 74 0 3 = nI n from hT_b.2.1]
  refine hK _ _ _ _ ?_
  refine And.intro (fun h9 => L29) (fun h9 => ?_)
  have hbn : b < n := Decidable.byContradiction fun q => h9 ((nI_leI (by omega) (by omega)).mpr (by omega))
  obtain ⟨c, hc, ec, es⟩ := hT_b.2.2.2 b hbn
  iterate 2 refine hK _ _ _ _ ?_
  show K _ _ _ _
  rw [show (cS σ b f fa) 74 0 2 = nI 35 from hT_b.1]
  show K _ _ _ _
  rw [show (nI 35).toNatClampNeg = 35 from rfl]
  iterate 2 refine hK _ _ _ _ ?_
  show K _ _ _ _
  rw [show (cS σ b f fa) 74 0 4 = nI b from cS_4 σ b f fa]
  refine hK _ _ _ _ ?_
  refine And.intro (vp_in_nI (n := b) (by omega) (by decide)) ?_
  rw [nI_clamp (show b < 2 ^ 31 by omega)]
  rw [show (cS σ b f fa) 35 0 b = syB c from es]
  iterate 2 refine hK _ _ _ _ ?_
  refine And.intro (fun h8 => ?_) (fun h8 => ?_)
  · iterate 3 refine hK _ _ _ _ ?_
    show K _ _ _ _
    rw [show (cS σ b f fa) 74 0 4 = nI b from cS_4 σ b f fa]
    iterate 2 refine hK _ _ _ _ ?_
    show K _ _ _ _
    rw [show nI b + Int32.ofInt 1 = nI (b + 1) from nIs _]
    refine hK _ _ _ _ ?_
    show K _ _ _ _
    rw [cS_u4]
    exact L51 (b + 1) (by omega)
  · exact L29
theorem c4_number (d : Nat) (σ ρ : sMem) (n : Nat) (lo hi : Int32) (h : CSR σ ρ n) (hlo : 0 ≤ lo) : yMet l D0 b0 ty ad av lay (d + 1) 0 mX4_readNumber [aR 74, aI lo, aI hi] σ (fun r σ' => ∃ x, r = [aI x] ∧ ((numM ρ lo hi (-1)).2 0 0 5 = 0 → x = (numM ρ lo hi (-1)).1) ∧ R74 σ σ' ∧ CSR σ' (numM ρ lo hi (-1)).2 n) (fun _ _ => False) := by
  obtain ⟨hT, h2, h5, h6, hR, a, e4, ha, hat⟩ := id h
  have hz := h.sz
  by_cases hf : ρ 0 0 5 = 0
  · have hc := c4_readNumber0 (l := l) (D0 := D0) (b0 := b0) (ty := ty) (ad := ad) (av := av) d σ (ρ 1 0) n a (ρ 0 0 6) lo hi hT ha
    rw [show cS σ a 0 (ρ 0 0 6) = σ by rw [← hf, ← h5, ← h6]; exact (cS_of σ a e4).symm] at hc
    have hN : numM ρ lo hi (-1) = ((numC (ρ 1 0) n a lo hi (ρ 0 0 6)).1, pS ρ (numC (ρ 1 0) n a lo hi (ρ 0 0 6)).2.1 (numC (ρ 1 0) n a lo hi (ρ 0 0 6)).2.2.1 (numC (ρ 1 0) n a lo hi (ρ 0 0 6)).2.2.2) := by
      unfold numM
      rw [if_pos hf, hz, show atN ρ = a by unfold atN; rw [hat hf, nI_clamp (by have := hT.2.2.1; omega)], numS_C hlo]
    rw [hN]
    have hle := numC_le (tx := ρ 1 0) (lo := lo) (hi := hi) (fa := ρ 0 0 6) ha
    generalize numC (ρ 1 0) n a lo hi (ρ 0 0 6) = C at hc hle
    refine yMet_mono hc ?_ (fun _ _ q => q)
    rintro r σ' ⟨rfl, rfl⟩
    exact ⟨C.1, rfl, fun _ => rfl, cS_R74 _ _ _ _, h.to _ _ hle⟩
  · have hc := c4_readNumber1 (l := l) (D0 := D0) (b0 := b0) (ty := ty) (ad := ad) (av := av) d σ (ρ 1 0) n a (ρ 0 0 5) (ρ 0 0 6) lo hi hT ha hf
    rw [show cS σ a (ρ 0 0 5) (ρ 0 0 6) = σ by rw [← h5, ← h6]; exact (cS_of σ a e4).symm] at hc
    have hN : numM ρ lo hi (-1) = (0, ρ) := if_neg hf
    rw [hN]
    refine yMet_mono hc ?_ (fun _ _ q => q)
    rintro r σ' ⟨rfl, rfl⟩
    exact ⟨0, rfl, fun _ => rfl, cS_R74 _ _ _ _, h.fl hf (blk_le _ ha).2⟩
theorem c4_other (d : Nat) (σ ρ : sMem) (n : Nat) (y nt hi : Int32) (h : CSR σ ρ n) (hy : ρ 0 0 5 = 0 → y = nt) : yMet l D0 b0 ty ad av lay (d + 2) 0 mX4_readOtherPlace [aR 74, aI y, aI hi] σ (fun r σ' => ∃ x, r = [aI x] ∧ ((numM ρ 0 hi nt).2 0 0 5 = 0 → x = (numM ρ 0 hi nt).1) ∧ R74 σ σ' ∧ CSR σ' (numM ρ 0 hi nt).2 n) (fun _ _ => False) := by
  obtain ⟨hT, h2, h5, h6, hR, a, e4, ha, hat⟩ := id h
  have hz := h.sz
  by_cases hf : ρ 0 0 5 = 0
  · rw [hy hf]
    have hc := c4_other0 (l := l) (D0 := D0) (b0 := b0) (ty := ty) (ad := ad) (av := av) d σ (ρ 1 0) n a (ρ 0 0 6) nt hi hT ha
    rw [show cS σ a 0 (ρ 0 0 6) = σ by rw [← hf, ← h5, ← h6]; exact (cS_of σ a e4).symm] at hc
    have hN : numM ρ 0 hi nt = ((numN (ρ 1 0) n a hi nt (ρ 0 0 6)).1, pS ρ (numN (ρ 1 0) n a hi nt (ρ 0 0 6)).2.1 (numN (ρ 1 0) n a hi nt (ρ 0 0 6)).2.2.1 (numN (ρ 1 0) n a hi nt (ρ 0 0 6)).2.2.2) := by
      unfold numM
      rw [if_pos hf, hz, show atN ρ = a by unfold atN; rw [hat hf, nI_clamp (by have := hT.2.2.1; omega)], numS_N]
    rw [hN]
    have hle : (numN (ρ 1 0) n a hi nt (ρ 0 0 6)).2.1 ≤ n := by
      have := numC_le (tx := ρ 1 0) (lo := 0) (hi := hi) (fa := ρ 0 0 6) ha
      unfold numN
      split
      · exact this
      · exact this
    generalize numN (ρ 1 0) n a hi nt (ρ 0 0 6) = C at hc hle
    refine yMet_mono hc ?_ (fun _ _ q => q)
    rintro r σ' ⟨x, rfl, hx, rfl⟩
    exact ⟨x, rfl, fun q => hx (by have e : (pS ρ C.2.1 C.2.2.1 C.2.2.2) 0 0 5 = C.2.2.1 := pS_5 _ _ _ _; rw [← e]; exact q), cS_R74 _ _ _ _, h.to _ _ hle⟩
  · have hc := c4_other1 (l := l) (D0 := D0) (b0 := b0) (ty := ty) (ad := ad) (av := av) d σ (ρ 1 0) n a (ρ 0 0 5) (ρ 0 0 6) y hi hT ha hf
    rw [show cS σ a (ρ 0 0 5) (ρ 0 0 6) = σ by rw [← h5, ← h6]; exact (cS_of σ a e4).symm] at hc
    have hN : numM ρ 0 hi nt = (0, ρ) := if_neg hf
    rw [hN]
    refine yMet_mono hc ?_ (fun _ _ q => q)
    rintro r σ' ⟨x, a', rfl, ha', rfl⟩
    exact ⟨x, rfl, fun q => absurd q hf, cS_R74 _ _ _ _, h.fl hf ha'⟩
theorem c4_ends (d : Nat) (σ ρ : sMem) (n : Nat) (h : CSR σ ρ n) : sMet l D0 b0 ty lay (d + 1) mX4_endsWell [aR 74] σ (fun r σ' => r = [aI (bI (decide (clE ρ 0 0 5 = 0)))] ∧ R74 σ σ' ∧ CSR σ' (clE ρ) n) := by
  obtain ⟨hT, h2, h5, h6, hR, a, e4, ha, hat⟩ := id h
  have hz := h.sz
  by_cases hf : ρ 0 0 5 = 0
  · have hc := c4_ends0 (l := l) (D0 := D0) (b0 := b0) (ty := ty) d σ (ρ 1 0) n a (ρ 0 0 6) hT ha
    rw [show cS σ a 0 (ρ 0 0 6) = σ by rw [← hf, ← h5, ← h6]; exact (cS_of σ a e4).symm] at hc
    have hbl := blk_le (ρ 1 0) ha
    have hN : clE ρ = if bS (ρ 1 0) n (blk (ρ 1 0) n a) = 59 then pS ρ (blk (ρ 1 0) n a + 1) 0 (ρ 0 0 6) else pS ρ (blk (ρ 1 0) n a) 1 (nI (blk (ρ 1 0) n a)) := by
      unfold clE
      rw [if_pos hf, hz, show atN ρ = a by unfold atN; rw [hat hf, nI_clamp (by have := hT.2.2.1; omega)]]
    rw [hN]
    refine sMet_mono hc ?_
    rintro r σ' ⟨q1, q2⟩
    by_cases hb9 : bS (ρ 1 0) n (blk (ρ 1 0) n a) = 59
    · obtain ⟨rfl, rfl, hlt⟩ := q1 hb9
      rw [if_pos hb9]
      exact ⟨by rw [pS_5]; rfl, cS_R74 _ _ _ _, h.to _ _ (by omega)⟩
    · obtain ⟨rfl, rfl⟩ := q2 hb9
      rw [if_neg hb9]
      exact ⟨by rw [pS_5]; rfl, cS_R74 _ _ _ _, h.to _ _ hbl.2⟩
  · have hc := c4_ends1 (l := l) (D0 := D0) (b0 := b0) (ty := ty) d σ (ρ 1 0) n a (ρ 0 0 5) (ρ 0 0 6) hT ha hf
    rw [show cS σ a (ρ 0 0 5) (ρ 0 0 6) = σ by rw [← h5, ← h6]; exact (cS_of σ a e4).symm] at hc
    have hN : clE ρ = ρ := if_neg hf
    rw [hN]
    refine sMet_mono hc ?_
    rintro r σ' ⟨rfl, a', ha', rfl⟩
    exact ⟨by rw [decide_eq_false hf]; rfl, cS_R74 _ _ _ _, h.fl hf ha'⟩
end
