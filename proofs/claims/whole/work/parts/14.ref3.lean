/-! THE REFERENCE, a clause -/
/-- the reader stands in the text -/
def RI (σ : sMem) : Prop := ∃ n a : Nat, σ 0 0 2 = nI n ∧ n ≤ 600 ∧ σ 0 0 4 = nI a ∧ a ≤ n
def atN (σ : sMem) : Nat := (σ 0 0 4).toNatClampNeg
def szN (σ : sMem) : Nat := (σ 0 0 2).toNatClampNeg
theorem RI.at {σ : sMem} (h : RI σ) : σ 0 0 2 = nI (szN σ) ∧ szN σ ≤ 600 ∧ σ 0 0 4 = nI (atN σ) ∧ atN σ ≤ szN σ := by
  obtain ⟨n, a, h1, h2, h3, h4⟩ := h
  have e1 : szN σ = n := by unfold szN; rw [h1, nI_clamp (by omega)]
  have e2 : atN σ = a := by unfold atN; rw [h3, nI_clamp (by omega)]
  rw [e1, e2]
  exact ⟨h1, h2, h3, h4⟩
theorem RI.up {σ : sMem} (h : RI σ) (i j k : Nat) (v : Int32) (hi : i ≠ 0) : RI (sUp σ i j k v) := by
  obtain ⟨n, a, h1, h2, h3, h4⟩ := h
  exact ⟨n, a, by rw [sUp_off (Ne.symm hi)]; exact h1, h2, by rw [sUp_off (Ne.symm hi)]; exact h3, h4⟩
theorem RI.pS {σ : sMem} (h : RI σ) {a : Nat} (f fa : Int32) (ha : a ≤ szN σ) : RI (pS σ a f fa) := by
  obtain ⟨h1, h2, h3, h4⟩ := h.at
  exact ⟨szN σ, a, by rw [pS_0 _ _ _ _ _ (by decide) (by decide) (by decide)]; exact h1, h2, pS_4 _ _ _ _, ha⟩
/-- number(lo, hi, not) as it stands -/
def numM (σ : sMem) (lo hi nt : Int32) : Int32 × sMem := if σ 0 0 5 = 0 then ((numS (σ 1 0) (szN σ) (atN σ) lo hi nt (σ 0 0 6)).1, pS σ (numS (σ 1 0) (szN σ) (atN σ) lo hi nt (σ 0 0 6)).2.1 (numS (σ 1 0) (szN σ) (atN σ) lo hi nt (σ 0 0 6)).2.2.1 (numS (σ 1 0) (szN σ) (atN σ) lo hi nt (σ 0 0 6)).2.2.2) else (0, σ)
theorem numM_i (σ : sMem) (lo hi nt : Int32) (i : Nat) (h : i ≠ 0) : (numM σ lo hi nt).2 i = σ i := by
  unfold numM
  split
  · exact pS_i _ _ _ _ _ h
  · rfl
theorem numM_0 (σ : sMem) (lo hi nt : Int32) (k : Nat) (h4 : k ≠ 4) (h5 : k ≠ 5) (h6 : k ≠ 6) : (numM σ lo hi nt).2 0 0 k = σ 0 0 k := by
  unfold numM
  split
  · exact pS_0 _ _ _ _ _ h4 h5 h6
  · rfl
theorem numM_RI {σ : sMem} (h : RI σ) (lo hi nt : Int32) : RI (numM σ lo hi nt).2 := by
  unfold numM
  split
  · refine h.pS _ _ ?_
    obtain ⟨h1, h2, h3, h4⟩ := h.at
    obtain ⟨hb1, hb2⟩ := blk_le (σ 1 0) h4
    exact (dgS_le (σ 1 0) (szN σ) (szN σ - blk (σ 1 0) (szN σ) (atN σ)) (blk (σ 1 0) (szN σ) (atN σ)) 0 (by omega)).2
  · exact h
theorem numM_val (σ : sMem) (lo hi nt : Int32) : ((numM σ lo hi nt).2 0 0 5 = 0 → σ 0 0 5 = 0 ∧ (lo ≤ (numM σ lo hi nt).1 ∧ (numM σ lo hi nt).1 ≤ hi) ∧ ¬ (numM σ lo hi nt).1 = nt) ∧ (¬ (numM σ lo hi nt).2 0 0 5 = 0 → (numM σ lo hi nt).1 = 0) := by
  unfold numM
  by_cases h : σ 0 0 5 = 0
  · simp only [if_pos h]
    rw [pS_5]
    simp only [numS]
    generalize dgS (σ 1 0) (szN σ) (szN σ - blk (σ 1 0) (szN σ) (atN σ)) (blk (σ 1 0) (szN σ) (atN σ)) 0 = q
    generalize (if 48 ≤ bS (σ 1 0) (szN σ) (blk (σ 1 0) (szN σ) (atN σ)) ∧ bS (σ 1 0) (szN σ) (blk (σ 1 0) (szN σ) (atN σ)) ≤ 57 then ((0 : Int32), σ 0 0 6) else wrS 0 (σ 0 0 6) 1 (blk (σ 1 0) (szN σ) (atN σ))) = w
    by_cases h2 : (lo ≤ q.2 ∧ q.2 ≤ hi) ∧ ¬ q.2 = nt
    · simp only [if_pos h2]
      refine ⟨fun h3 => ?_, fun h3 => by rw [if_neg h3]⟩
      rw [if_pos h3]
      exact ⟨h, h2⟩
    · simp only [if_neg h2]
      refine ⟨fun h3 => ?_, fun h3 => by rw [if_neg h3]⟩
      exfalso
      unfold wrS at h3
      split at h3
      · have h3' : (2 : Int32) = 0 := h3
        exact absurd h3' (by decide)
      · rename_i h5
        exact h5 h3
  · simp only [if_neg h]
    exact ⟨fun q => absurd q h, fun _ => by trivial⟩
section
variable {l : Launch} {D : va_G} {b0 : Nat} {ty : Nat → ClassId}
theorem c9_numberM (d : Nat) (σ : sMem) (h : RI σ) (lo hi nt : Int32) : sMet l D b0 ty lay (d + 2) mX9_number [aR 0, aI lo, aI hi, aI nt] σ (fun r σ' => r = [aI (numM σ lo hi nt).1] ∧ σ' = (numM σ lo hi nt).2) := by
  obtain ⟨h1, h2, h3, h4⟩ := h.at
  by_cases hf : σ 0 0 5 = 0
  · have e := pS_of σ (atN σ) h3
    rw [hf] at e
    have hc := c9_number (l := l) (D := D) (b0 := b0) (ty := ty) d σ (szN σ) (atN σ) (σ 0 0 6) lo hi nt h1 h2 h4
    rw [← e] at hc
    refine sMet_mono hc ?_
    rintro r σ' ⟨rfl, rfl⟩
    unfold numM
    rw [if_pos hf]
    exact ⟨rfl, rfl⟩
  · refine sMet_mono (c9_number0 (d + 2) σ (σ 0 0 5) lo hi nt rfl hf) ?_
    rintro r σ' ⟨rfl, rfl⟩
    unfold numM
    rw [if_neg hf]
    exact ⟨rfl, rfl⟩
/-- a place of a row gets a number that is read -/
def nuU (σ : sMem) (i j k : Nat) (lo hi nt : Int32) : sMem := sUp (numM σ lo hi nt).2 i j k (numM σ lo hi nt).1
theorem nuU_RI {σ : sMem} (h : RI σ) (i j k : Nat) (lo hi nt : Int32) (hi0 : i ≠ 0) : RI (nuU σ i j k lo hi nt) := (numM_RI h lo hi nt).up i j k _ hi0
def rdP (σ : sMem) (j : Nat) (most : Int32) : sMem :=
  let s0 := nuU σ 5 j 0 0 most (-1)
  let s1 := nuU s0 5 j 1 0 most (s0 5 j 0)
  let s2 := nuU s1 5 j 2 0 500 (-1)
  let s3 := nuU s2 5 j 3 1 99 (-1)
  sUp s3 5 j 4 ((1 <<< ((most + 1) &&& 31)) - 1)
def rdS (σ : sMem) (j : Nat) (most : Int32) : sMem :=
  let s0 := nuU σ 7 j 0 0 most (-1)
  let s1 := nuU s0 7 j 1 0 most (s0 7 j 0)
  let s2 := nuU s1 7 j 2 0 500 (-1)
  sUp (sUp s2 7 j 3 8) 7 j 4 0
theorem in5 : ∀ k : Nat, k < 5 → vp_in (nI k) 5 := fun k hk => vp_in_nI hk (by decide)
theorem c9_readsPerson (d : Nat) (σ : sMem) (h : RI σ) (j : Nat) (most : Int32) (hj : j < 10) : sMet l D b0 ty lay (d + 3) mX9_readsPerson [aR 0, .inr (5, j), aI most] σ (fun r σ' => r = [] ∧ σ' = rdP σ j most) := by
  refine sMet_intro lay_nd kX9_readsPerson xX9_ok (by decide +kernel) rfl ?_
  intro K hK
  iterate 7 refine hK _ _ _ _ ?_
  refine calD (c9_numberM d _ h _ _ _) ?_
  rintro r σ' ⟨rfl, rfl⟩
  refine hK _ _ _ _ ?_
  refine And.intro hj (And.intro (in5 0 (by decide)) ?_)
  show K _ _ _ (nuU σ 5 j 0 0 most (-1))
  have r0 := nuU_RI h 5 j 0 0 most (-1) (by decide)
  generalize hs0 : nuU σ 5 j 0 0 most (-1) = s0 at r0 ⊢
  iterate 8 refine hK _ _ _ _ ?_
  refine And.intro hj (And.intro (in5 0 (by decide)) ?_)
  refine hK _ _ _ _ ?_
  refine calD (c9_numberM d _ r0 _ _ _) ?_
  rintro r σ' ⟨rfl, rfl⟩
  refine hK _ _ _ _ ?_
  refine And.intro hj (And.intro (in5 1 (by decide)) ?_)
  show K _ _ _ (nuU s0 5 j 1 0 most (s0 5 j 0))
  have r1 := nuU_RI r0 5 j 1 0 most (s0 5 j 0) (by decide)
  generalize hs1 : nuU s0 5 j 1 0 most (s0 5 j 0) = s1 at r1 ⊢
  iterate 7 refine hK _ _ _ _ ?_
  refine calD (c9_numberM d _ r1 _ _ _) ?_
  rintro r σ' ⟨rfl, rfl⟩
  refine hK _ _ _ _ ?_
  refine And.intro hj (And.intro (in5 2 (by decide)) ?_)
  show K _ _ _ (nuU s1 5 j 2 0 500 (-1))
  have r2 := nuU_RI r1 5 j 2 0 500 (-1) (by decide)
  generalize hs2 : nuU s1 5 j 2 0 500 (-1) = s2 at r2 ⊢
  iterate 7 refine hK _ _ _ _ ?_
  refine calD (c9_numberM d _ r2 _ _ _) ?_
  rintro r σ' ⟨rfl, rfl⟩
  refine hK _ _ _ _ ?_
  refine And.intro hj (And.intro (in5 3 (by decide)) ?_)
  show K _ _ _ (nuU s2 5 j 3 1 99 (-1))
  generalize hs3 : nuU s2 5 j 3 1 99 (-1) = s3 at ⊢
  iterate 10 refine hK _ _ _ _ ?_
  refine And.intro hj (And.intro (in5 4 (by decide)) ?_)
  refine hK _ _ _ _ ?_
  subst hs3; subst hs2; subst hs1; subst hs0
  exact ⟨rfl, rfl⟩
theorem c9_readsStranger (d : Nat) (σ : sMem) (h : RI σ) (j : Nat) (most : Int32) (hj : j < 8) : sMet l D b0 ty lay (d + 3) mX9_readsStranger [aR 0, .inr (7, j), aI most] σ (fun r σ' => r = [] ∧ σ' = rdS σ j most) := by
  refine sMet_intro lay_nd kX9_readsStranger xX9_ok (by decide +kernel) rfl ?_
  intro K hK
  iterate 7 refine hK _ _ _ _ ?_
  refine calD (c9_numberM d _ h _ _ _) ?_
  rintro r σ' ⟨rfl, rfl⟩
  refine hK _ _ _ _ ?_
  refine And.intro hj (And.intro (in5 0 (by decide)) ?_)
  show K _ _ _ (nuU σ 7 j 0 0 most (-1))
  have r0 := nuU_RI h 7 j 0 0 most (-1) (by decide)
  generalize hs0 : nuU σ 7 j 0 0 most (-1) = s0 at r0 ⊢
  iterate 8 refine hK _ _ _ _ ?_
  refine And.intro hj (And.intro (in5 0 (by decide)) ?_)
  refine hK _ _ _ _ ?_
  refine calD (c9_numberM d _ r0 _ _ _) ?_
  rintro r σ' ⟨rfl, rfl⟩
  refine hK _ _ _ _ ?_
  refine And.intro hj (And.intro (in5 1 (by decide)) ?_)
  show K _ _ _ (nuU s0 7 j 1 0 most (s0 7 j 0))
  have r1 := nuU_RI r0 7 j 1 0 most (s0 7 j 0) (by decide)
  generalize hs1 : nuU s0 7 j 1 0 most (s0 7 j 0) = s1 at r1 ⊢
  iterate 7 refine hK _ _ _ _ ?_
  refine calD (c9_numberM d _ r1 _ _ _) ?_
  rintro r σ' ⟨rfl, rfl⟩
  refine hK _ _ _ _ ?_
  refine And.intro hj (And.intro (in5 2 (by decide)) ?_)
  show K _ _ _ (nuU s1 7 j 2 0 500 (-1))
  generalize hs2 : nuU s1 7 j 2 0 500 (-1) = s2 at ⊢
  iterate 4 refine hK _ _ _ _ ?_
  refine And.intro hj (And.intro (in5 3 (by decide)) ?_)
  iterate 4 refine hK _ _ _ _ ?_
  refine And.intro hj (And.intro (in5 4 (by decide)) ?_)
  refine hK _ _ _ _ ?_
  subst hs2; subst hs1; subst hs0
  exact ⟨rfl, rfl⟩
/-- the counts that are read stand in their rows -/
def RT (σ : sMem) : Prop := ∃ p0 p1 p2 p3 p5 : Nat, (σ 2 0 0 = nI p0 ∧ p0 ≤ 12) ∧ (σ 2 0 1 = nI p1 ∧ p1 ≤ 10) ∧ (σ 2 0 2 = nI p2 ∧ p2 ≤ 8) ∧ (σ 2 0 3 = nI p3 ∧ p3 ≤ 4) ∧ σ 2 0 5 = nI p5 ∧ p5 ≤ 20
def rdO (σ : sMem) (k most : Int32) : sMem :=
  let q0 := numM σ 0 (σ 2 0 (if k = 6 then 1 else 2) - 1) (-1)
  let q1 := if k = 8 then numM q0.2 1 8 (-1) else numM q0.2 0 most (-1)
  if q1.2 0 0 5 = 0 then
    (if k = 6 then sUp q1.2 5 q0.1.toNatClampNeg 4 (q1.2 5 q0.1.toNatClampNeg 4 &&& ((1 <<< (q1.1 &&& 31)) ^^^ (-1)))
    else if k = 7 then sUp q1.2 7 q0.1.toNatClampNeg 4 (q1.2 7 q0.1.toNatClampNeg 4 ||| (1 <<< (q1.1 &&& 31)))
    else sUp q1.2 7 q0.1.toNatClampNeg 3 q1.1)
  else q1.2
theorem c9_readsOf (d : Nat) (σ : sMem) (h : RI σ) (ht : RT σ) (k most : Int32) : sMet l D b0 ty lay (d + 3) mX9_readsOf [aR 0, aI k, aI most] σ (fun r σ' => r = [] ∧ σ' = rdO σ k most) := by
  refine sMet_intro lay_nd kX9_readsOf xX9_ok (by decide +kernel) rfl ?_
  intro K hK
  obtain ⟨-, p1, p2, -, -, -, ⟨t1, t1'⟩, ⟨t2, t2'⟩, -⟩ := ht
  generalize hc : (if k = 6 then (1 : Nat) else 2) = ci
  have e20 : ∀ (z : Int32), z = nI ci → K 17 [some (aR 0), some (aI k), some (aI most), none, none] [aI z, aR 2, aI 0, aR 0] σ := by
    intro z hz
    subst hz
    have hci : ci < 6 := by rw [← hc]; split <;> decide
    iterate 1 refine hK _ _ _ _ ?_
    refine And.intro (vp_in_nI hci (by decide)) ?_
    iterate 4 refine hK _ _ _ _ ?_
    rw [nI_clamp (by omega)]
    refine calD (c9_numberM d _ h _ _ _) ?_
    rintro r σ' ⟨rfl, rfl⟩
    have r0 := numM_RI h 0 (σ 2 0 ci - 1) (-1)
    have v0 := numM_val σ 0 (σ 2 0 ci - 1) (-1)
    have hq0 : numM σ 0 (σ 2 0 (if k = 6 then 1 else 2) - 1) (-1) = numM σ 0 (σ 2 0 ci - 1) (-1) := by rw [hc]
    have hd : rdO σ k most = (let q0 := numM σ 0 (σ 2 0 ci - 1) (-1)
      let q1 := if k = 8 then numM q0.2 1 8 (-1) else numM q0.2 0 most (-1)
      if q1.2 0 0 5 = 0 then
        (if k = 6 then sUp q1.2 5 q0.1.toNatClampNeg 4 (q1.2 5 q0.1.toNatClampNeg 4 &&& ((1 <<< (q1.1 &&& 31)) ^^^ (-1)))
        else if k = 7 then sUp q1.2 7 q0.1.toNatClampNeg 4 (q1.2 7 q0.1.toNatClampNeg 4 ||| (1 <<< (q1.1 &&& 31)))
        else sUp q1.2 7 q0.1.toNatClampNeg 3 q1.1)
      else q1.2) := by
      unfold rdO
      rw [hq0]
    rw [hd] at hK
    clear hd hq0
    show K _ _ [aI (numM σ 0 (σ 2 0 ci - 1) (-1)).1] (numM σ 0 (σ 2 0 ci - 1) (-1)).2
    generalize numM σ 0 (σ 2 0 ci - 1) (-1) = q0 at r0 v0 hK ⊢
    have fin : ∀ q1 : Int32 × sMem, (if k = 8 then numM q0.2 1 8 (-1) else numM q0.2 0 most (-1)) = q1 → K 49 [some (aR 0), some (aI k), some (aI most), some (aI q0.1), none] [aI q1.1] q1.2 := by
      intro q1 h1
      have v1 : q1.2 0 0 5 = 0 → q0.2 0 0 5 = 0 := by
        rw [← h1]
        split
        · exact fun q => ((numM_val _ _ _ _).1 q).1
        · exact fun q => ((numM_val _ _ _ _).1 q).1
      simp only [h1] at hK
      iterate 4 refine hK _ _ _ _ ?_
      refine And.intro (fun h55 => ?_) (fun h55 => ?_)
      · simp only [if_pos h55] at hK
        obtain ⟨-, ⟨w1, w2⟩, -⟩ := v0.1 (v1 h55)
        iterate 3 refine hK _ _ _ _ ?_
        refine And.intro (fun h62 => ?_) (fun h62 => ?_)
        · have h62' : ¬ k = 6 := h62
          simp only [if_neg h62'] at hK hc
          subst hc
          rw [t2] at w2
          have hw : vp_in q0.1 8 := by
            rw [vp_in_iff]
            have a1 := Int32.le_iff_toInt_le.mp w1
            have a2 := Int32.le_iff_toInt_le.mp w2
            have a3 : (nI p2 - 1).toInt = (p2 : Int) - 1 := by
              have := pk_sub_toInt (a := p2) (b := 1) (by omega) (by decide)
              exact this
            rw [a3] at a2
            have a4 : (0 : Int32).toInt = 0 := rfl
            omega
          have hw8 : q0.1.toNatClampNeg < 8 := Nat.not_le.mp fun q => hw (Or.inr q)
          iterate 3 refine hK _ _ _ _ ?_
          refine And.intro (fun h88 => ?_) (fun h88 => ?_)
          · have h88' : ¬ k = 7 := h88
            simp only [if_neg h88'] at hK
            iterate 4 refine hK _ _ _ _ ?_
            refine And.intro hw ?_
            iterate 3 refine hK _ _ _ _ ?_
            refine And.intro hw8 (And.intro (in5 3 (by decide)) ?_)
            refine hK _ _ _ _ ?_
            exact ⟨rfl, rfl⟩
          · have h88' : k = 7 := h88
            simp only [if_pos h88'] at hK
            iterate 4 refine hK _ _ _ _ ?_
            refine And.intro hw ?_
            iterate 3 refine hK _ _ _ _ ?_
            refine And.intro hw8 (And.intro (in5 4 (by decide)) ?_)
            iterate 5 refine hK _ _ _ _ ?_
            refine And.intro hw8 (And.intro (in5 4 (by decide)) ?_)
            iterate 2 refine hK _ _ _ _ ?_
            exact ⟨rfl, rfl⟩
        · have h62' : k = 6 := h62
          simp only [if_pos h62'] at hK hc
          subst hc
          rw [t1] at w2
          have hw : vp_in q0.1 10 := by
            rw [vp_in_iff]
            have a1 := Int32.le_iff_toInt_le.mp w1
            have a2 := Int32.le_iff_toInt_le.mp w2
            have a3 : (nI p1 - 1).toInt = (p1 : Int) - 1 := by
              have := pk_sub_toInt (a := p1) (b := 1) (by omega) (by decide)
              exact this
            rw [a3] at a2
            have a4 : (0 : Int32).toInt = 0 := rfl
            omega
          have hw8 : q0.1.toNatClampNeg < 10 := Nat.not_le.mp fun q => hw (Or.inr q)
          iterate 4 refine hK _ _ _ _ ?_
          refine And.intro hw ?_
          iterate 3 refine hK _ _ _ _ ?_
          refine And.intro hw8 (And.intro (in5 4 (by decide)) ?_)
          iterate 7 refine hK _ _ _ _ ?_
          refine And.intro hw8 (And.intro (in5 4 (by decide)) ?_)
          iterate 2 refine hK _ _ _ _ ?_
          exact ⟨rfl, rfl⟩
      · simp only [if_neg h55] at hK
        refine hK _ _ _ _ ?_
        exact ⟨rfl, rfl⟩
    iterate 4 refine hK _ _ _ _ ?_
    refine And.intro (fun h28 => ?_) (fun h28 => ?_)
    · have h28' : ¬ k = 8 := h28
      iterate 5 refine hK _ _ _ _ ?_
      refine calD (c9_numberM d _ r0 _ _ _) ?_
      rintro r σ' ⟨rfl, rfl⟩
      exact fin _ (by rw [if_neg h28']; rfl)
    · have h28' : k = 8 := h28
      iterate 5 refine hK _ _ _ _ ?_
      refine calD (c9_numberM d _ r0 _ _ _) ?_
      rintro r σ' ⟨rfl, rfl⟩
      refine hK _ _ _ _ ?_
      exact fin _ (by rw [if_pos h28']; rfl)
  iterate 7 refine hK _ _ _ _ ?_
  refine And.intro (fun h9 => ?_) (fun h9 => ?_)
  · have h9' : ¬ k = 6 := h9
    rw [if_neg h9'] at hc
    subst hc
    refine hK _ _ _ _ ?_
    exact e20 _ rfl
  · have h9' : k = 6 := h9
    rw [if_pos h9'] at hc
    subst hc
    iterate 2 refine hK _ _ _ _ ?_
    exact e20 _ rfl
end
