/-! THE CLASS: Reader, the text -/
def bkM (ρ : sMem) : sMem := pS ρ (blk (ρ 1 0) (szN ρ) (atN ρ)) (ρ 0 0 5) (ρ 0 0 6)
/-- the reference's reading, clause by clause -/
def txL : Nat → sMem → sMem
  | 0, ρ => ρ
  | f + 1, ρ => if ρ 0 0 5 = 0 ∧ atN ρ < szN ρ then txL f (bkM (clM ρ)) else ρ
theorem bkM_i (ρ : sMem) (i : Nat) (h : i ≠ 0) : bkM ρ i = ρ i := pS_i _ _ _ _ _ h
theorem bkM_5 (ρ : sMem) : bkM ρ 0 0 5 = ρ 0 0 5 := pS_5 _ _ _ _
theorem bkM_7 (ρ : sMem) : bkM ρ 0 0 7 = ρ 0 0 7 := pS_0 _ _ _ _ _ (by decide) (by decide) (by decide)
theorem clE_7 (ρ : sMem) : clE ρ 0 0 7 = ρ 0 0 7 := by
  unfold clE
  split
  · split
    · exact pS_0 _ _ _ _ _ (by decide) (by decide) (by decide)
    · exact pS_0 _ _ _ _ _ (by decide) (by decide) (by decide)
  · rfl
theorem cf_60 {ρ : sMem} (h : ρ 0 0 7 = nI 60) (k : Int32) : ¬ cfM ρ k = 0 := by
  unfold cfM
  by_cases e : k = -1
  · rw [if_pos e]; decide
  · rw [if_neg e, if_pos (Or.inl (show ρ 0 0 7 = 60 from h))]; decide
theorem clM_60 {ρ : sMem} (h : ρ 0 0 7 = nI 60) : ¬ clM ρ 0 0 5 = 0 := by
  have hc := cf_60 h (kindM (wordS (ρ 1 0) (szN ρ) (blk (ρ 1 0) (szN ρ) (atN ρ))))
  unfold clM
  try dsimp only
  rw [if_neg hc, pS_5]
  exact hc
theorem clM_7 {ρ : sMem} {cl : Nat} (hR : RI ρ) (h : ρ 0 0 7 = nI cl) (hf : clM ρ 0 0 5 = 0) : clM ρ 0 0 7 = nI (cl + 1) := by
  unfold clM at hf ⊢
  try dsimp only at hf ⊢
  split
  · rename_i hc
    unfold cgM
    try dsimp only
    rw [clE_7]
    obtain ⟨h1, h2, h3, h4⟩ := hR.at
    have hb1 := blk_le (ρ 1 0) h4
    have hl := ltS_le (ρ 1 0) (szN ρ) (szN ρ - blk (ρ 1 0) (szN ρ) (atN ρ)) (blk (ρ 1 0) (szN ρ) (atN ρ)) (by omega)
    have hR4 : RI (sUp (pS ρ (ltS (ρ 1 0) (szN ρ) (szN ρ - blk (ρ 1 0) (szN ρ) (atN ρ)) (blk (ρ 1 0) (szN ρ) (atN ρ))) 0 (ρ 0 0 6)) 0 0 7 (pS ρ (ltS (ρ 1 0) (szN ρ) (szN ρ - blk (ρ 1 0) (szN ρ) (atN ρ)) (blk (ρ 1 0) (szN ρ) (atN ρ))) 0 (ρ 0 0 6) 0 0 7 + 1)) := by
      obtain ⟨n', a', q1, q2, q3, q4⟩ := hR.pS 0 (ρ 0 0 6) hl.2
      exact ⟨n', a', by rw [sUp_k (by decide)]; exact q1, q2, by rw [sUp_k (by decide)]; exact q3, q4⟩
    have hcu : ∀ (X : sMem) (k : Int32), cuM X k 0 0 7 = X 0 0 7 := fun X k => by
      unfold cuM
      split
      · rw [sUp_off (by decide)]
      · rfl
    rw [hcu]
    generalize kindM (wordS (ρ 1 0) (szN ρ) (blk (ρ 1 0) (szN ρ) (atN ρ))) = k at hc ⊢
    have hp := (swM_RP hR4 k ((sUp (pS ρ (ltS (ρ 1 0) (szN ρ) (szN ρ - blk (ρ 1 0) (szN ρ) (atN ρ)) (blk (ρ 1 0) (szN ρ) (atN ρ))) 0 (ρ 0 0 6)) 0 0 7 (pS ρ (ltS (ρ 1 0) (szN ρ) (szN ρ - blk (ρ 1 0) (szN ρ) (atN ρ)) (blk (ρ 1 0) (szN ρ) (atN ρ))) 0 (ρ 0 0 6) 0 0 7 + 1)) 2 0 0 - 1)).2.2.2.1
    rw [hp, sUp_at, pS_0 _ _ _ _ _ (by decide) (by decide) (by decide), h]
    exact nIs cl
  · rename_i hc
    rw [if_neg hc, pS_5] at hf
    exact absurd hf hc
/-- what is known of a text read so far -/
def TXI (w n : Nat) (μ ρ : sMem) (cl : Nat) : Prop := CSR μ ρ n ∧ (ρ 0 0 5 = 0 → cl ≤ 60 ∧ ρ 0 0 7 = nI cl ∧ TWR μ ρ w ∧ ∃ N P S G Q, RVN ρ N P S G Q ∧ (cl = 0 → RVN ρ N 0 0 0 0 ∧ ∀ x, x < 12 → ρ 11 0 x = 0))
theorem CSR.bk {σ ρ : sMem} {n : Nat} (h : CSR σ ρ n) (hf : ¬ ρ 0 0 5 = 0) : CSR σ (bkM ρ) n := by
  obtain ⟨h1, h2, h5, h6, hR, a, e4, ha, hat⟩ := id h
  have hr := hR.at
  refine ⟨by rw [bkM_i _ _ (by decide)]; exact h1, by unfold bkM; rw [pS_0 _ _ _ _ _ (by decide) (by decide) (by decide)]; exact h2, by rw [bkM_5]; exact h5, by unfold bkM; rw [pS_6]; exact h6, hR.pS _ _ (blk_le _ hr.2.2.2).2, a, e4, ha, fun q => absurd ((bkM_5 ρ).symm.trans q) hf⟩
section
variable {l : Launch} {D0 : va_G} {b0 : Nat} {ty : Nat → ClassId} {ad av : Nat → Nat}
theorem c4_read_36 (d : Nat) (hJ : JST l ad av) (σ ρ : sMem) (n : Nat) (hn : n ≤ 600) (hX : ∀ j, j < n → ∃ b : Nat, b < 256 ∧ ρ 1 0 j = nI b ∧ σ 35 0 j = syB b) (r2 : ρ 0 0 2 = nI n) (r4 : ρ 0 0 4 = nI 0) (r5 : ρ 0 0 5 = 0) (r6 : ρ 0 0 6 = -1) (r7 : ρ 0 0 7 = nI 0) (e0 : ρ 2 0 0 = nI 4) (e1 : ρ 2 0 1 = nI 0) (e2 : ρ 2 0 2 = nI 0) (e3 : ρ 2 0 3 = nI 0) (e4 : ρ 2 0 4 = nI 0) (e5 : ρ 2 0 5 = nI 0) (ex : ∀ x, x < 12 → ρ 11 0 x = 0) : yMet l D0 b0 ty ad av lay (d + 8) 0 mX4_read [aR 74, aR 35, aI (nI n), aR 36] σ (fun r σ' => r = [] ∧ (∀ i, i ≠ 74 → (i < 36 ∨ 54 ≤ i) → σ' i = σ i) ∧ CSR σ' (txL 61 (bkM ρ)) n ∧ (txL 61 (bkM ρ) 0 0 5 = 0 → TWR σ' (txL 61 (bkM ρ)) 36 ∧ ∃ N P S G Q, RVN (txL 61 (bkM ρ)) N P S G Q)) (fun _ _ => False) := by
  refine yMet_introB lay_nd kX4_read xX4_ok (yY4_ok _) (by decide +kernel) rfl ?_
  intro K hK hB
  generalize hZ : txL 61 (bkM ρ) = Z at hK
  iterate 3 refine hK _ _ _ _ _ ?_
  refine And.intro (by decide) ?_
  iterate 3 refine hK _ _ _ _ _ ?_
  show K _ _ _ _ _
  refine hB _ _ _ _ _ _ _ _ _ _ rfl rfl ?_
  refine hK _ _ _ _ _ ?_
  show K _ _ _ _ _
  rw [show mnI (nI n) (Int32.ofNat 600) = nI n from if_neg (fun q => absurd ((nI_ltI (a := 600) (by decide) (by omega)).mp q) (by omega))]
  iterate 12 refine hK _ _ _ _ _ ?_
  refine Or.inl (calD (c7_clear_36 _ _ ρ e0 e1 e2 e3 e4 e5 ex) ?_)
  rintro r μ0 ⟨rfl, hf0, hW0⟩
  show K 0 34 [some (aR 74), some (aR 35), some (aI (nI n)), some (aR 36), none] [] μ0
  have k74 : μ0 74 = (sUp (sUp (sUp (sUp (sUp σ 74 0 2 (nI 35)) 74 0 3 (nI n)) 74 0 4 (Int32.ofInt 0)) 74 0 0 (Int32.ofInt 0)) 74 0 1 (Int32.ofInt (-1))) 74 := hf0 74 (by decide)
  have hs0 : ∀ i, i ≠ 74 → (i < 36 ∨ 54 ≤ i) → μ0 i = σ i := fun i h1 h2 => by rw [hf0 i h2, sUp_off h1, sUp_off h1, sUp_off h1, sUp_off h1, sUp_off h1]
  have hC0 : CSR μ0 ρ n := by
    refine ⟨⟨?_, ?_, hn, fun j hj => ?_⟩, r2, ?_, ?_, ⟨n, 0, r2, hn, r4, Nat.zero_le _⟩, 0, ?_, Nat.zero_le _, fun _ => r4⟩
    · rw [k74, sUp_k (by decide), sUp_k (by decide), sUp_k (by decide), sUp_k (by decide), sUp_at]
    · rw [k74, sUp_k (by decide), sUp_k (by decide), sUp_k (by decide), sUp_at]
    · rw [hs0 35 (by decide) (by decide)]; exact hX j hj
    · rw [k74, sUp_k (by decide), sUp_at, r5]; rfl
    · rw [k74, sUp_at, r6]; rfl
    · rw [k74, sUp_k (by decide), sUp_k (by decide), sUp_at]; rfl
  have hV0 : RVN ρ 4 0 0 0 0 := ⟨by decide, ⟨e0, e1, e2, e3, e5, 0, e4, by decide⟩, fun _ q => absurd q (Nat.not_lt_zero _), fun _ q => absurd q (Nat.not_lt_zero _), fun _ q => absurd q (Nat.not_lt_zero _), fun _ q => absurd q (Nat.not_lt_zero _), fun x hx => ⟨0, ex x hx, by decide⟩⟩
  have hI0 : TXI 36 n μ0 ρ 0 := ⟨hC0, fun _ => ⟨by decide, r7, hW0, 4, 0, 0, 0, 0, hV0, fun _ => ⟨hV0, ex⟩⟩⟩
  clear hf0 k74 hC0 hV0 hW0
  iterate 2 refine hK _ _ _ _ _ ?_
  have L37 : ∀ (f : Nat) (cl : Nat) (μ ρ1 : sMem), cl + f = 61 → (∀ i, i ≠ 74 → (i < 36 ∨ 54 ≤ i) → μ i = σ i) → TXI 36 n μ ρ1 cl → txL f (bkM ρ1) = Z → K 0 37 [some (aR 74), some (aR 35), some (aI (nI n)), some (aR 36), some (aI (nI cl))] [] μ := by
    intro f
    induction f with
    | zero =>
      intro cl μ ρ1 hk hs hI hz9
      obtain ⟨hC, hG⟩ := hI
      have h0 : μ 74 0 0 = ρ1 0 0 5 := hC.2.2.1
      have hft : ¬ ρ1 0 0 5 = 0 := fun e => by have := (hG e).1; omega
      have hb5 : ¬ bkM ρ1 0 0 5 = 0 := by rw [bkM_5]; exact hft
      have hz : bkM ρ1 = Z := hz9
      rw [← hz] at hK
      iterate 3 refine hK _ _ _ _ _ ?_
      refine And.intro (fun _ => ?_) (fun h9 => absurd ((nI_ltI (a := 60) (by decide) (by omega)).mpr (by omega)) h9)
      refine hK _ _ _ _ _ ?_
      exact ⟨rfl, hs, hC.bk hft, fun q => absurd q hb5⟩
    | succ f ih =>
      intro cl μ ρ1 hk hs hI hz9
      obtain ⟨hC, hG⟩ := hI
      have h0 : μ 74 0 0 = ρ1 0 0 5 := hC.2.2.1
      have hz9 : (if bkM ρ1 0 0 5 = 0 ∧ atN (bkM ρ1) < szN (bkM ρ1) then txL f (bkM (clM (bkM ρ1))) else bkM ρ1) = Z := hz9
      iterate 3 refine hK _ _ _ _ _ ?_
      refine And.intro (fun h9 => absurd ((nI_ltI (a := 60) (by decide) (by omega)).mp h9) (by omega)) (fun _ => ?_)
      iterate 2 refine hK _ _ _ _ _ ?_
      show K _ _ _ _ _
      rw [show μ 74 0 0 = ρ1 0 0 5 from h0]
      refine hK _ _ _ _ _ ?_
      refine And.intro (fun h8 => ?_) (fun h8 => ?_)
      · have hft : ¬ ρ1 0 0 5 = 0 := h8
        have hb5 : ¬ bkM ρ1 0 0 5 = 0 := by rw [bkM_5]; exact hft
        rw [if_neg (fun q => hb5 q.1)] at hz9
        rw [← hz9] at hK
        refine hK _ _ _ _ _ ?_
        exact ⟨rfl, hs, hC.bk hft, fun q => absurd q hb5⟩
      · have hft : ρ1 0 0 5 = 0 := h8
        obtain ⟨hcl, h7, hW, N, P, S, G, Q, hV, h00⟩ := hG hft
        obtain ⟨hT, h2, h5, h6, hR, a, e4, ha, hat⟩ := id hC
        have hsz := hC.sz
        have haN : atN ρ1 = a := by unfold atN; rw [hat hft, nI_clamp (by omega)]
        have hμ : μ = cS μ a 0 (ρ1 0 0 6) := by
          have := cS_of μ a e4
          rw [h5, h6, hft] at this
          exact this
        have hbl := blk_le (ρ1 1 0) ha
        have hidm := blk_idem (ρ1 1 0) ha
        have hbk : bkM ρ1 = pS ρ1 (blk (ρ1 1 0) n a) 0 (ρ1 0 0 6) := by unfold bkM; rw [hsz, haN, hft]
        have hsk := c4_skipBlanks (l := l) (D0 := D0) (b0 := b0) (ty := ty) (d + 7) μ (ρ1 1 0) n a 0 (ρ1 0 0 6) hT ha
        rw [← hμ] at hsk
        generalize hb9 : blk (ρ1 1 0) n a = b at hsk hbl hidm hbk
        iterate 2 refine hK _ _ _ _ _ ?_
        refine Or.inl (calD (hsk) ?_)
        rintro r σ' ⟨rfl, hs9⟩
        subst σ'
        show K 0 55 [some (aR 74), some (aR 35), some (aI (nI n)), some (aR 36), some (aI (nI cl))] [] (cS μ b 0 (ρ1 0 0 6))
        have hfr : ∀ i, i ≠ 74 → (cS μ b 0 (ρ1 0 0 6)) i = μ i := cS_R74 μ b 0 (ρ1 0 0 6)
        have hC1 : CSR (cS μ b 0 (ρ1 0 0 6)) (bkM ρ1) n := by rw [hbk]; exact hC.to 0 (ρ1 0 0 6) hbl.2
        have hW1 : TWR (cS μ b 0 (ρ1 0 0 6)) (bkM ρ1) 36 := hW.cg (fun i h1 h2 => hfr i (by omega)) (fun i hi => bkM_i _ _ (by omega))
        have hV1 : RVN (bkM ρ1) N P S G Q := hV.cg (fun i hi => bkM_i _ _ (by omega))
        have k4 : bkM ρ1 0 0 4 = nI b := by rw [hbk, pS_4]
        have k5 : bkM ρ1 0 0 5 = 0 := by rw [bkM_5]; exact hft
        have k7 : bkM ρ1 0 0 7 = nI cl := by rw [bkM_7]; exact h7
        have k1 : bkM ρ1 1 = ρ1 1 := bkM_i _ _ (by decide)
        have kat : atN (bkM ρ1) = b := by unfold atN; rw [k4, nI_clamp (by omega)]
        have ksz : szN (bkM ρ1) = n := hC1.sz
        rw [kat, ksz] at hz9
        have g4 : (cS μ b 0 (ρ1 0 0 6)) 74 0 4 = nI b := cS_4 _ _ _ _
        have g3 : (cS μ b 0 (ρ1 0 0 6)) 74 0 3 = nI n := hC1.1.2.1
        iterate 2 refine hK _ _ _ _ _ ?_
        show K _ _ _ _ _
        rw [show (cS μ b 0 (ρ1 0 0 6)) 74 0 4 = nI b from g4]
        iterate 2 refine hK _ _ _ _ _ ?_
        show K _ _ _ _ _
        rw [show (cS μ b 0 (ρ1 0 0 6)) 74 0 3 = nI n from g3]
        refine hK _ _ _ _ _ ?_
        refine And.intro (fun g7 => ?_) (fun g7 => ?_)
        · have hbn : b < n := (nI_ltI (by omega) (by omega)).mp g7
          rw [if_pos ⟨k5, hbn⟩] at hz9
          iterate 4 refine hK _ _ _ _ _ ?_
          refine Or.inr (Or.inl (yD0 (c4_readClause_36 _ hJ (cS μ b 0 (ρ1 0 0 6)) (bkM ρ1) n b cl N P S G Q hC1 hW1 hV1 k5 k4 (by omega) (by rw [k1]; exact hidm) k7 hcl (fun e => ⟨(h00 e).1.cg (fun i hi => bkM_i _ _ (by omega)), fun x hx => by rw [bkM_i _ _ (by decide)]; exact (h00 e).2 x hx⟩)) ?_))
          rintro r ω ⟨rfl, hq1, hq2, hq3⟩
          show K 0 74 [some (aR 74), some (aR 35), some (aI (nI n)), some (aR 36), some (aI (nI cl))] [] ω
          refine hK _ _ _ _ _ ?_
          show K _ _ _ _ _
          rw [show nI cl + Int32.ofInt 1 = nI (cl + 1) from nIs _]
          refine hK _ _ _ _ _ ?_
          refine ih (cl + 1) ω (clM (bkM ρ1)) (by omega) (fun i h1 h2 => ((hq1 i h1 h2).trans (hfr i h1)).trans (hs i h1 h2)) ⟨hq2, fun e => ?_⟩ hz9
          obtain ⟨q1, N', P', S', G', Q', q2⟩ := hq3 e
          refine ⟨?_, clM_7 hC1.2.2.2.2.1 k7 e, q1, N', P', S', G', Q', q2, fun q => by omega⟩
          have : cl ≠ 60 := fun e6 => clM_60 (by rw [k7, e6]) e
          omega
        · have hbn : ¬ b < n := fun q => g7 ((nI_ltI (by omega) (by omega)).mpr q)
          rw [if_neg (fun q => hbn q.2)] at hz9
          rw [← hz9] at hK
          refine hK _ _ _ _ _ ?_
          exact ⟨rfl, fun i h1 h2 => (hfr i h1).trans (hs i h1 h2), hC1, fun _ => ⟨hW1, N, P, S, G, Q, hV1⟩⟩
  exact L37 61 0 μ0 ρ (by omega) hs0 hI0 hZ
theorem c4_read_54 (d : Nat) (hJ : JST l ad av) (σ ρ : sMem) (n : Nat) (hn : n ≤ 600) (hX : ∀ j, j < n → ∃ b : Nat, b < 256 ∧ ρ 1 0 j = nI b ∧ σ 35 0 j = syB b) (r2 : ρ 0 0 2 = nI n) (r4 : ρ 0 0 4 = nI 0) (r5 : ρ 0 0 5 = 0) (r6 : ρ 0 0 6 = -1) (r7 : ρ 0 0 7 = nI 0) (e0 : ρ 2 0 0 = nI 4) (e1 : ρ 2 0 1 = nI 0) (e2 : ρ 2 0 2 = nI 0) (e3 : ρ 2 0 3 = nI 0) (e4 : ρ 2 0 4 = nI 0) (e5 : ρ 2 0 5 = nI 0) (ex : ∀ x, x < 12 → ρ 11 0 x = 0) : yMet l D0 b0 ty ad av lay (d + 8) 0 mX4_read [aR 74, aR 35, aI (nI n), aR 54] σ (fun r σ' => r = [] ∧ (∀ i, i ≠ 74 → (i < 54 ∨ 72 ≤ i) → σ' i = σ i) ∧ CSR σ' (txL 61 (bkM ρ)) n ∧ (txL 61 (bkM ρ) 0 0 5 = 0 → TWR σ' (txL 61 (bkM ρ)) 54 ∧ ∃ N P S G Q, RVN (txL 61 (bkM ρ)) N P S G Q)) (fun _ _ => False) := by
  refine yMet_introB lay_nd kX4_read xX4_ok (yY4_ok _) (by decide +kernel) rfl ?_
  intro K hK hB
  generalize hZ : txL 61 (bkM ρ) = Z at hK
  iterate 3 refine hK _ _ _ _ _ ?_
  refine And.intro (by decide) ?_
  iterate 3 refine hK _ _ _ _ _ ?_
  show K _ _ _ _ _
  refine hB _ _ _ _ _ _ _ _ _ _ rfl rfl ?_
  refine hK _ _ _ _ _ ?_
  show K _ _ _ _ _
  rw [show mnI (nI n) (Int32.ofNat 600) = nI n from if_neg (fun q => absurd ((nI_ltI (a := 600) (by decide) (by omega)).mp q) (by omega))]
  iterate 12 refine hK _ _ _ _ _ ?_
  refine Or.inl (calD (c7_clear_54 _ _ ρ e0 e1 e2 e3 e4 e5 ex) ?_)
  rintro r μ0 ⟨rfl, hf0, hW0⟩
  show K 0 34 [some (aR 74), some (aR 35), some (aI (nI n)), some (aR 54), none] [] μ0
  have k74 : μ0 74 = (sUp (sUp (sUp (sUp (sUp σ 74 0 2 (nI 35)) 74 0 3 (nI n)) 74 0 4 (Int32.ofInt 0)) 74 0 0 (Int32.ofInt 0)) 74 0 1 (Int32.ofInt (-1))) 74 := hf0 74 (by decide)
  have hs0 : ∀ i, i ≠ 74 → (i < 54 ∨ 72 ≤ i) → μ0 i = σ i := fun i h1 h2 => by rw [hf0 i h2, sUp_off h1, sUp_off h1, sUp_off h1, sUp_off h1, sUp_off h1]
  have hC0 : CSR μ0 ρ n := by
    refine ⟨⟨?_, ?_, hn, fun j hj => ?_⟩, r2, ?_, ?_, ⟨n, 0, r2, hn, r4, Nat.zero_le _⟩, 0, ?_, Nat.zero_le _, fun _ => r4⟩
    · rw [k74, sUp_k (by decide), sUp_k (by decide), sUp_k (by decide), sUp_k (by decide), sUp_at]
    · rw [k74, sUp_k (by decide), sUp_k (by decide), sUp_k (by decide), sUp_at]
    · rw [hs0 35 (by decide) (by decide)]; exact hX j hj
    · rw [k74, sUp_k (by decide), sUp_at, r5]; rfl
    · rw [k74, sUp_at, r6]; rfl
    · rw [k74, sUp_k (by decide), sUp_k (by decide), sUp_at]; rfl
  have hV0 : RVN ρ 4 0 0 0 0 := ⟨by decide, ⟨e0, e1, e2, e3, e5, 0, e4, by decide⟩, fun _ q => absurd q (Nat.not_lt_zero _), fun _ q => absurd q (Nat.not_lt_zero _), fun _ q => absurd q (Nat.not_lt_zero _), fun _ q => absurd q (Nat.not_lt_zero _), fun x hx => ⟨0, ex x hx, by decide⟩⟩
  have hI0 : TXI 54 n μ0 ρ 0 := ⟨hC0, fun _ => ⟨by decide, r7, hW0, 4, 0, 0, 0, 0, hV0, fun _ => ⟨hV0, ex⟩⟩⟩
  clear hf0 k74 hC0 hV0 hW0
  iterate 2 refine hK _ _ _ _ _ ?_
  have L37 : ∀ (f : Nat) (cl : Nat) (μ ρ1 : sMem), cl + f = 61 → (∀ i, i ≠ 74 → (i < 54 ∨ 72 ≤ i) → μ i = σ i) → TXI 54 n μ ρ1 cl → txL f (bkM ρ1) = Z → K 0 37 [some (aR 74), some (aR 35), some (aI (nI n)), some (aR 54), some (aI (nI cl))] [] μ := by
    intro f
    induction f with
    | zero =>
      intro cl μ ρ1 hk hs hI hz9
      obtain ⟨hC, hG⟩ := hI
      have h0 : μ 74 0 0 = ρ1 0 0 5 := hC.2.2.1
      have hft : ¬ ρ1 0 0 5 = 0 := fun e => by have := (hG e).1; omega
      have hb5 : ¬ bkM ρ1 0 0 5 = 0 := by rw [bkM_5]; exact hft
      have hz : bkM ρ1 = Z := hz9
      rw [← hz] at hK
      iterate 3 refine hK _ _ _ _ _ ?_
      refine And.intro (fun _ => ?_) (fun h9 => absurd ((nI_ltI (a := 60) (by decide) (by omega)).mpr (by omega)) h9)
      refine hK _ _ _ _ _ ?_
      exact ⟨rfl, hs, hC.bk hft, fun q => absurd q hb5⟩
    | succ f ih =>
      intro cl μ ρ1 hk hs hI hz9
      obtain ⟨hC, hG⟩ := hI
      have h0 : μ 74 0 0 = ρ1 0 0 5 := hC.2.2.1
      have hz9 : (if bkM ρ1 0 0 5 = 0 ∧ atN (bkM ρ1) < szN (bkM ρ1) then txL f (bkM (clM (bkM ρ1))) else bkM ρ1) = Z := hz9
      iterate 3 refine hK _ _ _ _ _ ?_
      refine And.intro (fun h9 => absurd ((nI_ltI (a := 60) (by decide) (by omega)).mp h9) (by omega)) (fun _ => ?_)
      iterate 2 refine hK _ _ _ _ _ ?_
      show K _ _ _ _ _
      rw [show μ 74 0 0 = ρ1 0 0 5 from h0]
      refine hK _ _ _ _ _ ?_
      refine And.intro (fun h8 => ?_) (fun h8 => ?_)
      · have hft : ¬ ρ1 0 0 5 = 0 := h8
        have hb5 : ¬ bkM ρ1 0 0 5 = 0 := by rw [bkM_5]; exact hft
        rw [if_neg (fun q => hb5 q.1)] at hz9
        rw [← hz9] at hK
        refine hK _ _ _ _ _ ?_
        exact ⟨rfl, hs, hC.bk hft, fun q => absurd q hb5⟩
      · have hft : ρ1 0 0 5 = 0 := h8
        obtain ⟨hcl, h7, hW, N, P, S, G, Q, hV, h00⟩ := hG hft
        obtain ⟨hT, h2, h5, h6, hR, a, e4, ha, hat⟩ := id hC
        have hsz := hC.sz
        have haN : atN ρ1 = a := by unfold atN; rw [hat hft, nI_clamp (by omega)]
        have hμ : μ = cS μ a 0 (ρ1 0 0 6) := by
          have := cS_of μ a e4
          rw [h5, h6, hft] at this
          exact this
        have hbl := blk_le (ρ1 1 0) ha
        have hidm := blk_idem (ρ1 1 0) ha
        have hbk : bkM ρ1 = pS ρ1 (blk (ρ1 1 0) n a) 0 (ρ1 0 0 6) := by unfold bkM; rw [hsz, haN, hft]
        have hsk := c4_skipBlanks (l := l) (D0 := D0) (b0 := b0) (ty := ty) (d + 7) μ (ρ1 1 0) n a 0 (ρ1 0 0 6) hT ha
        rw [← hμ] at hsk
        generalize hb9 : blk (ρ1 1 0) n a = b at hsk hbl hidm hbk
        iterate 2 refine hK _ _ _ _ _ ?_
        refine Or.inl (calD (hsk) ?_)
        rintro r σ' ⟨rfl, hs9⟩
        subst σ'
        show K 0 55 [some (aR 74), some (aR 35), some (aI (nI n)), some (aR 54), some (aI (nI cl))] [] (cS μ b 0 (ρ1 0 0 6))
        have hfr : ∀ i, i ≠ 74 → (cS μ b 0 (ρ1 0 0 6)) i = μ i := cS_R74 μ b 0 (ρ1 0 0 6)
        have hC1 : CSR (cS μ b 0 (ρ1 0 0 6)) (bkM ρ1) n := by rw [hbk]; exact hC.to 0 (ρ1 0 0 6) hbl.2
        have hW1 : TWR (cS μ b 0 (ρ1 0 0 6)) (bkM ρ1) 54 := hW.cg (fun i h1 h2 => hfr i (by omega)) (fun i hi => bkM_i _ _ (by omega))
        have hV1 : RVN (bkM ρ1) N P S G Q := hV.cg (fun i hi => bkM_i _ _ (by omega))
        have k4 : bkM ρ1 0 0 4 = nI b := by rw [hbk, pS_4]
        have k5 : bkM ρ1 0 0 5 = 0 := by rw [bkM_5]; exact hft
        have k7 : bkM ρ1 0 0 7 = nI cl := by rw [bkM_7]; exact h7
        have k1 : bkM ρ1 1 = ρ1 1 := bkM_i _ _ (by decide)
        have kat : atN (bkM ρ1) = b := by unfold atN; rw [k4, nI_clamp (by omega)]
        have ksz : szN (bkM ρ1) = n := hC1.sz
        rw [kat, ksz] at hz9
        have g4 : (cS μ b 0 (ρ1 0 0 6)) 74 0 4 = nI b := cS_4 _ _ _ _
        have g3 : (cS μ b 0 (ρ1 0 0 6)) 74 0 3 = nI n := hC1.1.2.1
        iterate 2 refine hK _ _ _ _ _ ?_
        show K _ _ _ _ _
        rw [show (cS μ b 0 (ρ1 0 0 6)) 74 0 4 = nI b from g4]
        iterate 2 refine hK _ _ _ _ _ ?_
        show K _ _ _ _ _
        rw [show (cS μ b 0 (ρ1 0 0 6)) 74 0 3 = nI n from g3]
        refine hK _ _ _ _ _ ?_
        refine And.intro (fun g7 => ?_) (fun g7 => ?_)
        · have hbn : b < n := (nI_ltI (by omega) (by omega)).mp g7
          rw [if_pos ⟨k5, hbn⟩] at hz9
          iterate 4 refine hK _ _ _ _ _ ?_
          refine Or.inr (Or.inl (yD0 (c4_readClause_54 _ hJ (cS μ b 0 (ρ1 0 0 6)) (bkM ρ1) n b cl N P S G Q hC1 hW1 hV1 k5 k4 (by omega) (by rw [k1]; exact hidm) k7 hcl (fun e => ⟨(h00 e).1.cg (fun i hi => bkM_i _ _ (by omega)), fun x hx => by rw [bkM_i _ _ (by decide)]; exact (h00 e).2 x hx⟩)) ?_))
          rintro r ω ⟨rfl, hq1, hq2, hq3⟩
          show K 0 74 [some (aR 74), some (aR 35), some (aI (nI n)), some (aR 54), some (aI (nI cl))] [] ω
          refine hK _ _ _ _ _ ?_
          show K _ _ _ _ _
          rw [show nI cl + Int32.ofInt 1 = nI (cl + 1) from nIs _]
          refine hK _ _ _ _ _ ?_
          refine ih (cl + 1) ω (clM (bkM ρ1)) (by omega) (fun i h1 h2 => ((hq1 i h1 h2).trans (hfr i h1)).trans (hs i h1 h2)) ⟨hq2, fun e => ?_⟩ hz9
          obtain ⟨q1, N', P', S', G', Q', q2⟩ := hq3 e
          refine ⟨?_, clM_7 hC1.2.2.2.2.1 k7 e, q1, N', P', S', G', Q', q2, fun q => by omega⟩
          have : cl ≠ 60 := fun e6 => clM_60 (by rw [k7, e6]) e
          omega
        · have hbn : ¬ b < n := fun q => g7 ((nI_ltI (by omega) (by omega)).mpr q)
          rw [if_neg (fun q => hbn q.2)] at hz9
          rw [← hz9] at hK
          refine hK _ _ _ _ _ ?_
          exact ⟨rfl, fun i h1 h2 => (hfr i h1).trans (hs i h1 h2), hC1, fun _ => ⟨hW1, N, P, S, G, Q, hV1⟩⟩
  exact L37 61 0 μ0 ρ (by omega) hs0 hI0 hZ
end
