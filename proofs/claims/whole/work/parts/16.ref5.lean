/-! THE REFERENCE, clause() -/
section
variable {l : Launch} {D : va_G} {b0 : Nat} {ty : Nat → ClassId}
theorem c9_kindM (d : Nat) (σ : sMem) (h : RI σ) (hf : σ 0 0 5 = 0) : sMet l D b0 ty lay (d + 4) mX9_kindHere [aR 0] σ (fun r σ' => r = [aI (kindM (wordS (σ 1 0) (szN σ) (blk (σ 1 0) (szN σ) (atN σ))))] ∧ σ' = pS σ (blk (σ 1 0) (szN σ) (atN σ)) 0 (σ 0 0 6)) := by
  obtain ⟨h1, h2, h3, h4⟩ := h.at
  have e := pS_of σ (atN σ) h3
  rw [hf] at e
  have hc := c9_kindHere (l := l) (D := D) (b0 := b0) (ty := ty) d σ (szN σ) (atN σ) (σ 0 0 6) h1 h2 h4
  rw [← e] at hc
  exact hc
theorem c9_closesM (d : Nat) (σ : sMem) (h : RI σ) : sMet l D b0 ty lay (d + 2) mX9_closes [aR 0] σ (fun r σ' => r = [] ∧ σ' = clE σ) := by
  obtain ⟨h1, h2, h3, h4⟩ := h.at
  by_cases hf : σ 0 0 5 = 0
  · have e := pS_of σ (atN σ) h3
    rw [hf] at e
    have hc := c9_closes (l := l) (D := D) (b0 := b0) (ty := ty) d σ (szN σ) (atN σ) (σ 0 0 6) h1 h2 h4
    rw [← e] at hc
    refine sMet_mono hc ?_
    rintro r σ' ⟨rfl, rfl⟩
    unfold clE
    rw [if_pos hf]
    exact ⟨rfl, rfl⟩
  · refine sMet_mono (c9_closes0 (d + 2) σ hf) ?_
    rintro r σ' ⟨rfl, rfl⟩
    unfold clE
    rw [if_neg hf]
    exact ⟨rfl, rfl⟩
theorem cnt_in {k : Int32} (h : cnt k = true) : vp_in k 6 := by
  have h1 := of_decide_eq_true h
  rw [vp_in_iff]
  rcases h1 with ⟨a, b⟩ | rfl
  · have a1 := Int32.le_iff_toInt_le.mp a
    have a2 := Int32.le_iff_toInt_le.mp b
    have e1 : (1 : Int32).toInt = 1 := rfl
    have e3 : (3 : Int32).toInt = 3 := rfl
    omega
  · decide
theorem swM_0 (σ : sMem) (m : Int32) : swM σ (nI 0) m = nuU σ 2 0 0 2 12 (-1) := by
  unfold swM
  rw [if_pos (by decide)]
theorem swM_1 (σ : sMem) (m : Int32) : swM σ (nI 1) m = rdP σ (σ 2 0 1).toNatClampNeg m := by
  unfold swM
  rw [if_neg (by decide), if_pos (by decide)]
theorem swM_2 (σ : sMem) (m : Int32) : swM σ (nI 2) m = rdS σ (σ 2 0 2).toNatClampNeg m := by
  unfold swM
  rw [if_neg (by decide), if_neg (by decide), if_pos (by decide)]
theorem swM_3 (σ : sMem) (m : Int32) : swM σ (nI 3) m = nuU (nuU σ 9 (σ 2 0 3).toNatClampNeg 0 0 m (-1)) 9 (σ 2 0 3).toNatClampNeg 1 0 9 (-1) := by
  unfold swM
  rw [if_neg (by decide), if_neg (by decide), if_neg (by decide), if_pos (by decide)]
theorem swM_4 (σ : sMem) (m : Int32) : swM σ (nI 4) m = nuU σ 2 0 4 0 9 (-1) := by
  unfold swM
  rw [if_neg (by decide), if_neg (by decide), if_neg (by decide), if_neg (by decide), if_pos (by decide)]
theorem swM_5 (σ : sMem) (m : Int32) : swM σ (nI 5) m = nuU (nuU (nuU σ 4 (σ 2 0 5).toNatClampNeg 0 0 m (-1)) 4 (σ 2 0 5).toNatClampNeg 1 0 m (nuU σ 4 (σ 2 0 5).toNatClampNeg 0 0 m (-1) 4 (σ 2 0 5).toNatClampNeg 0)) 4 (σ 2 0 5).toNatClampNeg 2 1 60 (-1) := by
  unfold swM
  rw [if_neg (by decide), if_neg (by decide), if_neg (by decide), if_neg (by decide), if_neg (by decide), if_pos (by decide)]
theorem swM_9 (σ : sMem) (m : Int32) : swM σ (nI 9) m = (if (numM (numM σ 0 m (-1)).2 0 m (numM σ 0 m (-1)).1).2 0 0 5 = 0 then sUp (numM (numM σ 0 m (-1)).2 0 m (numM σ 0 m (-1)).1).2 11 0 (numM σ 0 m (-1)).1.toNatClampNeg ((numM (numM σ 0 m (-1)).2 0 m (numM σ 0 m (-1)).1).2 11 0 (numM σ 0 m (-1)).1.toNatClampNeg ||| (1 <<< ((numM (numM σ 0 m (-1)).2 0 m (numM σ 0 m (-1)).1).1 &&& 31))) else (numM (numM σ 0 m (-1)).2 0 m (numM σ 0 m (-1)).1).2) := by
  unfold swM
  rw [if_neg (by decide), if_neg (by decide), if_neg (by decide), if_neg (by decide), if_neg (by decide), if_neg (by decide), if_pos (by decide)]
theorem toInt_nI {k : Int32} {j : Nat} (h : k.toInt = (j : Int)) (hj : j < 2 ^ 31) : k = nI j := by
  apply Int32.toInt_inj.mp
  rw [nI_toInt hj]; exact h
set_option maxHeartbeats 2000000 in
theorem c9_clause (d : Nat) (σ : sMem) (h : RI σ) (ht : RT σ) (hf : σ 0 0 5 = 0) (cl : Nat) (hcl : σ 0 0 7 = nI cl) (hcl6 : cl ≤ 60) : sMet l D b0 ty lay (d + 5) mX9_clause [aR 0] σ (fun r σ' => r = [] ∧ σ' = clM σ) := by
  refine sMet_intro lay_nd kX9_clause xX9_ok (by decide +kernel) rfl ?_
  intro K hK
  obtain ⟨h1, h2, h3, h4⟩ := h.at
  obtain ⟨hb1, hb2⟩ := blk_le (σ 1 0) h4
  generalize hB : blk (σ 1 0) (szN σ) (atN σ) = b at hb1 hb2
  generalize hk0 : kindM (wordS (σ 1 0) (szN σ) b) = k
  have hM : clM σ = if cfM σ k = 0 then cgM σ b k else pS σ b (cfM σ k) (nI b) := by simp only [clM, hB, hk0]
  rw [hM] at hK
  generalize hfa : σ 0 0 6 = fa
  have hn' : ∀ (a : Nat) (f fa : Int32), pS σ a f fa 0 0 2 = nI (szN σ) := fun a f fa => by rw [pS_0 _ _ _ _ _ (by decide) (by decide) (by decide)]; exact h1
  have hx1 : ∀ (a : Nat) (f fa : Int32), pS σ a f fa 1 = σ 1 := fun a f fa => pS_i _ _ _ _ _ (by decide)
  generalize hc : (if cnt k then (1 : Int32) else 0) = c
  -- the end: the count, the closing mark
  have l433 : cfM σ k = 0 → ∀ (s5 : sMem) (most : Int32) (e4 e5 : Option AV), RI s5 → clE (cuM s5 k) = cgM σ b k → K 433 [some (aR 0), some (aI k), some (aI c), some (aI most), e4, e5] [] s5 := by
    intro hcf s5 most e4 e5 r5 he
    simp only [hcf, if_true] at hK
    iterate 2 refine hK _ _ _ _ ?_
    have fin : ∀ s6 : sMem, RI s6 → clE s6 = cgM σ b k → K 447 [some (aR 0), some (aI k), some (aI c), some (aI most), e4, e5] [] s6 := by
      intro s6 r6 he6
      iterate 2 refine hK _ _ _ _ ?_
      refine calD (c9_closesM (d + 2) s6 r6) ?_
      rintro r σ' ⟨rfl, rfl⟩
      refine hK _ _ _ _ ?_
      exact ⟨rfl, he6⟩
    refine And.intro (fun h434 => ?_) (fun h434 => ?_)
    · have hcn : ¬ cnt k = true := by
        intro q
        rw [if_pos q] at hc
        rw [← hc] at h434
        exact absurd h434 (by decide)
      refine fin s5 r5 ?_
      rw [← he]
      unfold cuM
      rw [if_neg hcn]
    · have hcn : cnt k = true := by
        by_cases q : cnt k = true
        · exact q
        · rw [if_neg q] at hc
          rw [← hc] at h434
          exact absurd rfl h434
      iterate 5 refine hK _ _ _ _ ?_
      refine And.intro (cnt_in hcn) ?_
      iterate 3 refine hK _ _ _ _ ?_
      refine And.intro (cnt_in hcn) ?_
      refine fin _ (r5.up 2 0 _ _ (by decide)) ?_
      rw [← he]
      unfold cuM
      rw [if_pos hcn]
      rfl
  -- the kinds
  have l147 : cfM σ k = 0 → ∀ c' : Nat, c' = ltS (σ 1 0) (szN σ) (szN σ - b) b → c' ≤ szN σ → K 147 [some (aR 0), some (aI k), some (aI c), none, none, none] [] (pS σ c' 0 fa) := by
    intro hcf c' hc' hle
    have L433 := l433 hcf
    have hcg : cgM σ b k = clE (cuM (swM (sUp (pS σ c' 0 fa) 0 0 7 (pS σ c' 0 fa 0 0 7 + 1)) k (sUp (pS σ c' 0 fa) 0 0 7 (pS σ c' 0 fa 0 0 7 + 1) 2 0 0 - 1)) k) := by
      unfold cgM
      rw [← hc', hfa]
    rw [hcg] at L433
    clear l433 hcg
    -- counts that aren't full
    have hfull : cnt k = true → ¬ σ 2 0 k.toNatClampNeg = mostS k := by
      intro hcn hq
      unfold cfM at hcf
      by_cases hk1 : k = -1
      · rw [if_pos hk1] at hcf; exact absurd hcf (by decide)
      · rw [if_neg hk1, if_pos (Or.inr ⟨hcn, hq⟩)] at hcf; exact absurd hcf (by decide)
    clear hcf
    iterate 6 refine hK _ _ _ _ ?_
    show K _ _ _ (sUp (pS σ c' 0 fa) 0 0 7 (pS σ c' 0 fa 0 0 7 + 1))
    have e42 : sUp (pS σ c' 0 fa) 0 0 7 (pS σ c' 0 fa 0 0 7 + 1) 2 = σ 2 := by rw [sUp_off (by decide), pS_i _ _ _ _ _ (by decide)]
    have r4 : RI (sUp (pS σ c' 0 fa) 0 0 7 (pS σ c' 0 fa 0 0 7 + 1)) := by
      refine ⟨szN σ, c', ?_, h2, ?_, hle⟩
      · simp only [sUp]
        rw [if_neg (by decide)]; exact hn' _ _ _
      · simp only [sUp]
        rw [if_neg (by decide)]; exact pS_4 _ _ _ _
    generalize sUp (pS σ c' 0 fa) 0 0 7 (pS σ c' 0 fa 0 0 7 + 1) = s4 at e42 r4 L433 ⊢
    have t4 : RT s4 := ht.congr (by rw [e42])
    rw [← e42] at hfull
    iterate 4 refine hK _ _ _ _ ?_
    refine And.intro (vp_in_nI (n := 0) (by decide) (by decide)) ?_
    iterate 5 refine hK _ _ _ _ ?_
    obtain ⟨p0, p1, p2, p3, p5, ⟨t0, t0'⟩, ⟨t1, t1'⟩, ⟨t2, t2'⟩, ⟨t3, t3'⟩, t5, t5'⟩ := id t4
    have hm : ∃ m : Int32, m = s4 2 0 0 - 1 := ⟨_, rfl⟩
    obtain ⟨m, hm⟩ := hm
    rw [← hm] at L433
    have hm11 : m ≤ nI 11 := by
      rw [hm, t0]
      apply Int32.le_iff_toInt_le.mpr
      have := pk_sub_toInt (a := p0) (b := 1) (by omega) (by decide)
      have e1 : (nI p0 - 1).toInt = (p0 : Int) - 1 := this
      rw [e1, nI_toInt (by decide)]
      omega
    have l427 : (¬ k = 0 ∧ ¬ k = 1 ∧ ¬ k = 2 ∧ ¬ k = 3 ∧ ¬ k = 4 ∧ ¬ k = 5 ∧ ¬ k = 9) → K 427 [some (aR 0), some (aI k), some (aI c), some (aI m), none, none] [] s4 := by
      rintro ⟨n0, n1, n2, n3, n4, n5, n9⟩
      iterate 4 refine hK _ _ _ _ ?_
      refine calD (c9_readsOf (d + 1) s4 r4 t4 k m) ?_
      rintro r σ' ⟨rfl, rfl⟩
      refine L433 _ _ _ _ (rdO_RI r4 k m) ?_
      unfold swM
      rw [if_neg n0, if_neg n1, if_neg n2, if_neg n3, if_neg n4, if_neg n5, if_neg n9]
    have ne : ∀ (i j : Nat), k = nI i → i ≠ j → i < 2 ^ 31 → j < 2 ^ 31 → ¬ k = nI j := by
      intro i j hi hne hi2 hj2 hq
      rw [hi] at hq
      exact hne ((nI_eq hi2 hj2).mp hq)
    refine And.intro (fun hd => ?_) (And.intro (fun q0 => ?_) (And.intro (fun q1 => ?_) (And.intro (fun q2 => ?_) (And.intro (fun q3 => ?_) (And.intro (fun q4 => ?_) (And.intro (fun q5 => ?_) (And.intro (fun q6 => ?_) (And.intro (fun q7 => ?_) (And.intro (fun q8 => ?_) (And.intro (fun q9 => ?_) trivial))))))))))
    · subst hm
      have nk : ∀ j : Nat, j < 10 → ¬ k = nI j := by
        intro j hj hq
        rw [hq, nI_toInt (by omega)] at hd
        omega
      exact l427 ⟨nk 0 (by decide), nk 1 (by decide), nk 2 (by decide), nk 3 (by decide), nk 4 (by decide), nk 5 (by decide), nk 9 (by decide)⟩
    · subst hm
      have hk : k = nI 0 := toInt_nI q0 (by decide)
      iterate 8 refine hK _ _ _ _ ?_
      refine calD (c9_numberM (d + 2) s4 r4 _ _ _) ?_
      rintro r σ' ⟨rfl, rfl⟩
      refine hK _ _ _ _ ?_
      refine And.intro (vp_in_nI (n := 0) (by decide) (by decide)) ?_
      refine hK _ _ _ _ ?_
      refine L433 (nuU s4 2 0 0 2 12 (-1)) _ _ _ (nuU_RI r4 _ _ _ _ _ _ (by decide)) ?_
      have esw : swM s4 k (s4 2 0 0 - 1) = _ := (congrArg (fun z => swM s4 z (s4 2 0 0 - 1)) hk).trans (swM_0 s4 _)
      rw [esw]
    · subst hm
      have hk : k = nI 1 := toInt_nI q1 (by decide)
      have hcn : cnt k = true := by rw [hk]; decide
      have hp : p1 < 10 := by
        have := hfull hcn
        rw [hk] at this
        have h9 : ¬ s4 2 0 1 = nI 10 := this
        rw [t1] at h9
        by_cases hq : p1 = 10
        · rw [hq] at h9; exact absurd rfl h9
        · omega
      iterate 7 refine hK _ _ _ _ ?_
      refine And.intro (vp_in_nI (n := 1) (by decide) (by decide)) ?_
      refine hK _ _ _ _ ?_
      have ev : s4 2 0 (Int32.ofInt 1).toNatClampNeg = nI p1 := t1
      refine And.intro (by rw [ev]; exact vp_in_nI hp (by decide)) ?_
      iterate 2 refine hK _ _ _ _ ?_
      rw [ev, nI_clamp (by omega)]
      refine calD (c9_readsPerson (d + 1) s4 r4 p1 _ hp) ?_
      rintro r σ' ⟨rfl, rfl⟩
      refine hK _ _ _ _ ?_
      refine L433 _ _ _ _ (rdP_RI r4 _ _) ?_
      have esw : swM s4 k (s4 2 0 0 - 1) = _ := (congrArg (fun z => swM s4 z (s4 2 0 0 - 1)) hk).trans (swM_1 s4 _)
      rw [esw, t1, nI_clamp (by omega)]
      rfl
    · subst hm
      have hk : k = nI 2 := toInt_nI q2 (by decide)
      have hcn : cnt k = true := by rw [hk]; decide
      have hp : p2 < 8 := by
        have := hfull hcn
        rw [hk] at this
        have h9 : ¬ s4 2 0 2 = nI 8 := this
        rw [t2] at h9
        by_cases hq : p2 = 8
        · rw [hq] at h9; exact absurd rfl h9
        · omega
      iterate 7 refine hK _ _ _ _ ?_
      refine And.intro (vp_in_nI (n := 2) (by decide) (by decide)) ?_
      refine hK _ _ _ _ ?_
      have ev : s4 2 0 (Int32.ofInt 2).toNatClampNeg = nI p2 := t2
      refine And.intro (by rw [ev]; exact vp_in_nI hp (by decide)) ?_
      iterate 2 refine hK _ _ _ _ ?_
      rw [ev, nI_clamp (by omega)]
      refine calD (c9_readsStranger (d + 1) s4 r4 p2 _ hp) ?_
      rintro r σ' ⟨rfl, rfl⟩
      refine hK _ _ _ _ ?_
      refine L433 _ _ _ _ (rdS_RI r4 _ _) ?_
      have esw : swM s4 k (s4 2 0 0 - 1) = _ := (congrArg (fun z => swM s4 z (s4 2 0 0 - 1)) hk).trans (swM_2 s4 _)
      rw [esw, t2, nI_clamp (by omega)]
      rfl
    · have hk : k = nI 3 := toInt_nI q3 (by decide)
      have hcn : cnt k = true := by rw [hk]; decide
      have hp : p3 < 4 := by
        have := hfull hcn
        rw [hk] at this
        have h9 : ¬ s4 2 0 3 = nI 4 := this
        rw [t3] at h9
        by_cases hq : p3 = 4
        · rw [hq] at h9; exact absurd rfl h9
        · omega
      iterate 6 refine hK _ _ _ _ ?_
      refine And.intro (vp_in_nI (n := 3) (by decide) (by decide)) ?_
      refine hK _ _ _ _ ?_
      have ev : s4 2 0 (Int32.ofInt 3).toNatClampNeg = nI p3 := t3
      refine And.intro (by rw [ev]; exact vp_in_nI hp (by decide)) ?_
      rw [ev, nI_clamp (by omega)]
      have em : s4 2 0 (Int32.ofInt 0).toNatClampNeg - Int32.ofInt 1 = m := hm.symm
      rw [em]
      iterate 8 refine hK _ _ _ _ ?_
      refine calD (c9_numberM (d + 2) s4 r4 _ _ _) ?_
      rintro r σ' ⟨rfl, rfl⟩
      refine hK _ _ _ _ ?_
      refine And.intro hp (And.intro (vp_in_nI (n := 0) (by decide) (by decide)) ?_)
      show K _ _ _ (nuU s4 9 p3 0 0 m (-1))
      have r5 := nuU_RI r4 9 p3 0 0 m (-1) (by decide)
      iterate 7 refine hK _ _ _ _ ?_
      refine calD (c9_numberM (d + 2) _ r5 _ _ _) ?_
      rintro r σ' ⟨rfl, rfl⟩
      refine hK _ _ _ _ ?_
      refine And.intro hp (And.intro (vp_in_nI (n := 1) (by decide) (by decide)) ?_)
      refine hK _ _ _ _ ?_
      refine L433 (nuU (nuU s4 9 p3 0 0 m (-1)) 9 p3 1 0 9 (-1)) _ _ _ (nuU_RI r5 _ _ _ _ _ _ (by decide)) ?_
      have esw : swM s4 k m = _ := (congrArg (fun z => swM s4 z m) hk).trans (swM_3 s4 _)
      rw [esw, t3, nI_clamp (by omega)]
    · have hk : k = nI 4 := toInt_nI q4 (by decide)
      have em : s4 2 0 (Int32.ofInt 0).toNatClampNeg - Int32.ofInt 1 = m := hm.symm
      rw [em]
      iterate 8 refine hK _ _ _ _ ?_
      refine calD (c9_numberM (d + 2) s4 r4 _ _ _) ?_
      rintro r σ' ⟨rfl, rfl⟩
      refine hK _ _ _ _ ?_
      refine And.intro (vp_in_nI (n := 4) (by decide) (by decide)) ?_
      refine hK _ _ _ _ ?_
      refine L433 (nuU s4 2 0 4 0 9 (-1)) _ _ _ (nuU_RI r4 _ _ _ _ _ _ (by decide)) ?_
      have esw : swM s4 k m = _ := (congrArg (fun z => swM s4 z m) hk).trans (swM_4 s4 _)
      rw [esw]
    · have hk : k = nI 5 := toInt_nI q5 (by decide)
      have hcn : cnt k = true := by rw [hk]; decide
      have hp : p5 < 20 := by
        have := hfull hcn
        rw [hk] at this
        have h9 : ¬ s4 2 0 5 = nI 20 := this
        rw [t5] at h9
        by_cases hq : p5 = 20
        · rw [hq] at h9; exact absurd rfl h9
        · omega
      iterate 6 refine hK _ _ _ _ ?_
      refine And.intro (vp_in_nI (n := 5) (by decide) (by decide)) ?_
      refine hK _ _ _ _ ?_
      have ev : s4 2 0 (Int32.ofInt 5).toNatClampNeg = nI p5 := t5
      refine And.intro (by rw [ev]; exact vp_in_nI hp (by decide)) ?_
      rw [ev, nI_clamp (by omega)]
      have em : s4 2 0 (Int32.ofInt 0).toNatClampNeg - Int32.ofInt 1 = m := hm.symm
      rw [em]
      iterate 8 refine hK _ _ _ _ ?_
      refine calD (c9_numberM (d + 2) s4 r4 _ _ _) ?_
      rintro r σ' ⟨rfl, rfl⟩
      refine hK _ _ _ _ ?_
      refine And.intro hp (And.intro (vp_in_nI (n := 0) (by decide) (by decide)) ?_)
      show K _ _ _ (nuU s4 4 p5 0 0 m (-1))
      have r5 := nuU_RI r4 4 p5 0 0 m (-1) (by decide)
      iterate 8 refine hK _ _ _ _ ?_
      refine And.intro hp (And.intro (vp_in_nI (n := 0) (by decide) (by decide)) ?_)
      refine hK _ _ _ _ ?_
      refine calD (c9_numberM (d + 2) _ r5 _ _ _) ?_
      rintro r σ' ⟨rfl, rfl⟩
      refine hK _ _ _ _ ?_
      refine And.intro hp (And.intro (vp_in_nI (n := 1) (by decide) (by decide)) ?_)
      show K _ _ _ (nuU (nuU s4 4 p5 0 0 m (-1)) 4 p5 1 0 m (nuU s4 4 p5 0 0 m (-1) 4 p5 0))
      have r6 := nuU_RI r5 4 p5 1 0 m (nuU s4 4 p5 0 0 m (-1) 4 p5 0) (by decide)
      iterate 7 refine hK _ _ _ _ ?_
      refine calD (c9_numberM (d + 2) _ r6 _ _ _) ?_
      rintro r σ' ⟨rfl, rfl⟩
      refine hK _ _ _ _ ?_
      refine And.intro hp (And.intro (vp_in_nI (n := 2) (by decide) (by decide)) ?_)
      refine hK _ _ _ _ ?_
      refine L433 (nuU (nuU (nuU s4 4 p5 0 0 m (-1)) 4 p5 1 0 m (nuU s4 4 p5 0 0 m (-1) 4 p5 0)) 4 p5 2 1 60 (-1)) _ _ _ (nuU_RI r6 _ _ _ _ _ _ (by decide)) ?_
      have esw : swM s4 k m = _ := (congrArg (fun z => swM s4 z m) hk).trans (swM_5 s4 _)
      rw [esw, t5, nI_clamp (by omega)]
    · subst hm
      have hk : k = nI 6 := toInt_nI q6 (by decide)
      exact l427 ⟨ne 6 0 hk (by decide) (by decide) (by decide), ne 6 1 hk (by decide) (by decide) (by decide), ne 6 2 hk (by decide) (by decide) (by decide), ne 6 3 hk (by decide) (by decide) (by decide), ne 6 4 hk (by decide) (by decide) (by decide), ne 6 5 hk (by decide) (by decide) (by decide), ne 6 9 hk (by decide) (by decide) (by decide)⟩
    · subst hm
      have hk : k = nI 7 := toInt_nI q7 (by decide)
      exact l427 ⟨ne 7 0 hk (by decide) (by decide) (by decide), ne 7 1 hk (by decide) (by decide) (by decide), ne 7 2 hk (by decide) (by decide) (by decide), ne 7 3 hk (by decide) (by decide) (by decide), ne 7 4 hk (by decide) (by decide) (by decide), ne 7 5 hk (by decide) (by decide) (by decide), ne 7 9 hk (by decide) (by decide) (by decide)⟩
    · subst hm
      have hk : k = nI 8 := toInt_nI q8 (by decide)
      exact l427 ⟨ne 8 0 hk (by decide) (by decide) (by decide), ne 8 1 hk (by decide) (by decide) (by decide), ne 8 2 hk (by decide) (by decide) (by decide), ne 8 3 hk (by decide) (by decide) (by decide), ne 8 4 hk (by decide) (by decide) (by decide), ne 8 5 hk (by decide) (by decide) (by decide), ne 8 9 hk (by decide) (by decide) (by decide)⟩
    · have hk : k = nI 9 := toInt_nI q9 (by decide)
      have em : s4 2 0 (Int32.ofInt 0).toNatClampNeg - Int32.ofInt 1 = m := hm.symm
      rw [em]
      have hsw : swM s4 k m = (if (numM (numM s4 0 m (-1)).2 0 m (numM s4 0 m (-1)).1).2 0 0 5 = 0 then sUp (numM (numM s4 0 m (-1)).2 0 m (numM s4 0 m (-1)).1).2 11 0 (numM s4 0 m (-1)).1.toNatClampNeg ((numM (numM s4 0 m (-1)).2 0 m (numM s4 0 m (-1)).1).2 11 0 (numM s4 0 m (-1)).1.toNatClampNeg ||| (1 <<< ((numM (numM s4 0 m (-1)).2 0 m (numM s4 0 m (-1)).1).1 &&& 31))) else (numM (numM s4 0 m (-1)).2 0 m (numM s4 0 m (-1)).1).2) := by
        exact (congrArg (fun z => swM s4 z m) hk).trans (swM_9 s4 m)
      rw [hsw] at L433
      clear hsw
      have v0 := numM_val s4 0 m (-1)
      have r5 := numM_RI r4 0 m (-1)
      iterate 5 refine hK _ _ _ _ ?_
      refine calD (c9_numberM (d + 2) s4 r4 _ _ _) ?_
      rintro r σ' ⟨rfl, rfl⟩
      show K _ _ [aI (numM s4 0 m (-1)).1] (numM s4 0 m (-1)).2
      generalize numM s4 0 m (-1) = y0 at v0 r5 L433 ⊢
      have v1 := numM_val y0.2 0 m y0.1
      have r6 := numM_RI r5 0 m y0.1
      iterate 6 refine hK _ _ _ _ ?_
      refine calD (c9_numberM (d + 2) y0.2 r5 _ _ _) ?_
      rintro r σ' ⟨rfl, rfl⟩
      show K _ _ [aI (numM y0.2 0 m y0.1).1] (numM y0.2 0 m y0.1).2
      generalize numM y0.2 0 m y0.1 = y1 at v1 r6 L433 ⊢
      iterate 4 refine hK _ _ _ _ ?_
      refine And.intro (fun h407 => ?_) (fun h407 => ?_)
      · rw [if_neg h407] at L433
        exact L433 _ _ _ _ r6 rfl
      · rw [if_pos h407] at L433
        obtain ⟨z0, -, -⟩ := v1.1 h407
        obtain ⟨-, ⟨z1, z2⟩, -⟩ := v0.1 z0
        obtain ⟨j, -, j2, j3⟩ := nI_rng (lo := 0) (hi := 11) z1 (Int32.le_trans z2 hm11) (by decide) (by decide)
        have hin : vp_in y0.1 12 := by rw [j3]; exact vp_in_nI (by omega) (by decide)
        iterate 5 refine hK _ _ _ _ ?_
        refine And.intro hin ?_
        iterate 5 refine hK _ _ _ _ ?_
        refine And.intro hin ?_
        refine hK _ _ _ _ ?_
        exact L433 _ _ _ _ (r6.up 11 0 _ _ (by decide)) rfl
  have l108 : cfM σ k = 0 → ∀ (g q : Nat), q + g = szN σ → ltS (σ 1 0) (szN σ) g q = ltS (σ 1 0) (szN σ) (szN σ - b) b → K 108 [some (aR 0), some (aI k), some (aI c), none, none, none] [] (pS σ q 0 fa) := by
    intro hcf g
    have L147 := l147 hcf
    generalize ltS (σ 1 0) (szN σ) (szN σ - b) b = fin at L147
    have byte : ∀ (q : Nat) (P : List AV → sMem → Prop), q ≤ szN σ → P [aI (bS (σ 1 0) (szN σ) q)] (pS σ q 0 fa) → sCalD l D b0 ty lay (d + 5) mX9_byteAt [aR 0, aI (pS σ q 0 fa 0 0 4)] (pS σ q 0 fa) P := by
      intro q P hq hP
      rw [pS_4]
      refine calD (c9_byteAt _ _ (szN σ) q (hn' _ _ _) h2 (by omega)) ?_
      rintro r σ' ⟨rfl, rfl⟩
      rw [hx1]
      exact hP
    induction g with
    | zero =>
      intro q hq he
      iterate 4 refine hK _ _ _ _ ?_
      refine byte q _ (by omega) ?_
      iterate 2 refine hK _ _ _ _ ?_
      rw [bS_out _ (by omega)]
      refine And.intro (fun h118 => L147 q he (by omega)) (fun h118 => absurd h118 (by decide))
    | succ g ih =>
      intro q hq he
      unfold ltS at he
      iterate 4 refine hK _ _ _ _ ?_
      refine byte q _ (by omega) ?_
      iterate 2 refine hK _ _ _ _ ?_
      refine And.intro (fun h118 => ?_) (fun h118 => ?_)
      · have h118' : bS (σ 1 0) (szN σ) q < 97 := h118
        rw [if_neg (fun z => Int32.not_le.mpr h118' z.1)] at he
        exact L147 q he (by omega)
      · have h118' : ¬ bS (σ 1 0) (szN σ) q < 97 := h118
        iterate 4 refine hK _ _ _ _ ?_
        refine byte q _ (by omega) ?_
        iterate 2 refine hK _ _ _ _ ?_
        refine And.intro (fun h131 => ?_) (fun h131 => ?_)
        · have h131' : 122 < bS (σ 1 0) (szN σ) q := h131
          rw [if_neg (fun z => Int32.not_le.mpr h131' z.2)] at he
          exact L147 q he (by omega)
        · have h131' : ¬ 122 < bS (σ 1 0) (szN σ) q := h131
          rw [if_pos ⟨Int32.not_lt.mp h118', Int32.not_lt.mp h131'⟩] at he
          iterate 6 refine hK _ _ _ _ ?_
          show K _ _ _ _
          rw [pS_4]
          have e1 : nI q + Int32.ofInt 1 = nI (q + 1) := by rw [nI_succ]; rfl
          rw [e1, pS_u4]
          refine hK _ _ _ _ ?_
          exact ih (q + 1) (by omega) he
  -- the fault at the word
  have l100 : ∀ w : Int32, w = cfM σ k → K 100 [some (aR 0), some (aI k), some (aI c), none, none, none] [] (if w = 0 then pS σ b 0 fa else pS σ b w (nI b)) := by
    intro w hw
    by_cases h0 : w = 0
    · rw [if_pos h0]
      iterate 3 refine hK _ _ _ _ ?_
      rw [pS_5]
      refine And.intro (fun h104 => ?_) (fun h104 => absurd rfl h104)
      exact l108 (by rw [← hw]; exact h0) (szN σ - b) b (by omega) rfl
    · rw [if_neg h0]
      simp only [← hw, if_neg h0] at hK
      iterate 3 refine hK _ _ _ _ ?_
      rw [pS_5]
      refine And.intro (fun h104 => absurd h104 h0) (fun h104 => ?_)
      refine hK _ _ _ _ ?_
      exact ⟨rfl, rfl⟩
  have wrongs : ∀ (w : Int32) (P : List AV → sMem → Prop), ¬ w = 0 → P [] (pS σ b w (nI b)) → sCalD l D b0 ty lay (d + 5) mX9_wrong [aR 0, aI w, aI (pS σ b 0 fa 0 0 4)] (pS σ b 0 fa) P := by
    intro w P hw hP
    rw [pS_4]
    refine calD (c9_wrongP _ σ b 0 fa w b) ?_
    rintro r σ' ⟨rfl, rfl⟩
    exact hP
  have l80 : ¬ k = -1 → ¬ (σ 0 0 7 = 60 ∨ (cnt k = true ∧ σ 2 0 k.toNatClampNeg = mostS k)) → K 80 [some (aR 0), some (aI k), some (aI c), none, none, none] [] (pS σ b 0 fa) := by
    intro hk1 hk2
    have hcf : cfM σ k = if k = 0 ∧ 0 < σ 0 0 7 then 4 else 0 := by
      unfold cfM
      rw [if_neg hk1, if_neg hk2]
    iterate 2 refine hK _ _ _ _ ?_
    refine And.intro (fun h81 => ?_) (fun h81 => ?_)
    · have := l100 0 (by rw [hcf, if_neg (fun z => h81 z.1)])
      exact this
    · iterate 3 refine hK _ _ _ _ ?_
      rw [pS_0 _ _ _ _ _ (by decide) (by decide) (by decide)]
      refine And.intro (fun h88 => ?_) (fun h88 => ?_)
      · have := l100 0 (by rw [hcf, if_neg (fun z => Int32.not_lt.mpr h88 z.2)])
        exact this
      · iterate 5 refine hK _ _ _ _ ?_
        refine wrongs _ _ (by decide) ?_
        have := l100 4 (by rw [hcf, if_pos ⟨h81, Int32.not_le.mp h88⟩])
        exact this
  have l24 : K 24 [some (aR 0), some (aI k), none, none, none, none] [aI c] (pS σ b 0 fa) := by
    iterate 4 refine hK _ _ _ _ ?_
    refine And.intro (fun h27 => ?_) (fun h27 => ?_)
    · have h27' : ¬ k = -1 := h27
      have w3 : (σ 0 0 7 = 60 ∨ (cnt k = true ∧ σ 2 0 k.toNatClampNeg = mostS k)) → K 68 [some (aR 0), some (aI k), some (aI c), none, none, none] [] (pS σ b 0 fa) := by
        intro hq
        iterate 5 refine hK _ _ _ _ ?_
        refine wrongs _ _ (by decide) ?_
        refine hK _ _ _ _ ?_
        have := l100 3 (by unfold cfM; rw [if_neg h27', if_pos hq])
        exact this
      iterate 4 refine hK _ _ _ _ ?_
      rw [pS_0 _ _ _ _ _ (by decide) (by decide) (by decide)]
      refine And.intro (fun h48 => w3 (Or.inl h48)) (fun h48 => ?_)
      have h48' : ¬ σ 0 0 7 = 60 := h48
      iterate 2 refine hK _ _ _ _ ?_
      refine And.intro (fun h52 => ?_) (fun h52 => ?_)
      · have hcn : ¬ cnt k = true := by
          intro q
          rw [if_pos q] at hc
          rw [← hc] at h52
          exact absurd h52 (by decide)
        exact l80 h27' (fun q => q.elim h48' (fun z => hcn z.1))
      · have hcn : cnt k = true := by
          by_cases q : cnt k = true
          · exact q
          · rw [if_neg q] at hc
            rw [← hc] at h52
            exact absurd rfl h52
        iterate 4 refine hK _ _ _ _ ?_
        refine And.intro (cnt_in hcn) ?_
        iterate 2 refine hK _ _ _ _ ?_
        refine calD (c9_mostOf _ _ k) ?_
        rintro r σ' ⟨rfl, rfl⟩
        refine hK _ _ _ _ ?_
        rw [pS_i _ _ _ _ _ (by decide)]
        refine And.intro (fun h65 => ?_) (fun h65 => w3 (Or.inr ⟨hcn, h65⟩))
        exact l80 h27' (fun q => q.elim h48' (fun z => h65 z.2))
    · have h27' : k = -1 := h27
      iterate 5 refine hK _ _ _ _ ?_
      refine wrongs _ _ (by decide) ?_
      refine hK _ _ _ _ ?_
      have := l100 1 (by unfold cfM; rw [if_pos h27'])
      exact this
  iterate 2 refine hK _ _ _ _ ?_
  refine calD (c9_kindM d σ h hf) ?_
  rintro r σ' ⟨rfl, rfl⟩
  rw [hB, hk0, hfa]
  iterate 5 refine hK _ _ _ _ ?_
  refine calD (c9_in _ _ k 1 3) ?_
  rintro r σ' ⟨rfl, rfl⟩
  refine hK _ _ _ _ ?_
  refine And.intro (fun h11 => ?_) (fun h11 => ?_)
  · have hq := ite_ne h11
    have hcn : cnt k = true := decide_eq_true (Or.inl hq)
    rw [if_pos hcn] at hc
    subst hc
    iterate 2 refine hK _ _ _ _ ?_
    exact l24
  · have hq := ite_eq h11
    iterate 3 refine hK _ _ _ _ ?_
    refine And.intro (fun h16 => ?_) (fun h16 => ?_)
    · have h16' : ¬ k = 5 := h16
      have hcn : ¬ cnt k = true := fun z => (of_decide_eq_true z).elim hq h16'
      rw [if_neg hcn] at hc
      subst hc
      refine hK _ _ _ _ ?_
      exact l24
    · have h16' : k = 5 := h16
      have hcn : cnt k = true := decide_eq_true (Or.inr h16')
      rw [if_pos hcn] at hc
      subst hc
      iterate 2 refine hK _ _ _ _ ?_
      exact l24
end
