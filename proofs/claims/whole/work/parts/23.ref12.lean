/-! THE REFERENCE, what a clause keeps -/
/-- the text stays, the reader goes on, nothing else of him -/
def PR (σ σ' : sMem) : Prop := σ' 1 = σ 1 ∧ σ' 0 0 2 = σ 0 0 2 ∧ σ' 0 0 7 = σ 0 0 7 ∧ atN σ ≤ atN σ' ∧ σ' 3 = σ 3 ∧ σ' 0 0 1 = σ 0 0 1
theorem PR.rf (σ : sMem) : PR σ σ := ⟨rfl, rfl, rfl, Nat.le_refl _, rfl, rfl⟩
theorem PR.tr {a b c : sMem} (h : PR a b) (g : PR b c) : PR a c := ⟨g.1.trans h.1, g.2.1.trans h.2.1, g.2.2.1.trans h.2.2.1, Nat.le_trans h.2.2.2.1 g.2.2.2.1, g.2.2.2.2.1.trans h.2.2.2.2.1, g.2.2.2.2.2.trans h.2.2.2.2.2⟩
theorem PR.up (σ : sMem) (i j k : Nat) (v : Int32) (h0 : i ≠ 0) (h1 : i ≠ 1) (h3 : i ≠ 3) : PR σ (sUp σ i j k v) := by
  refine ⟨sUp_off (Ne.symm h1), ?_, ?_, ?_, sUp_off (Ne.symm h3), ?_⟩
  · rw [sUp_off (Ne.symm h0)]
  · rw [sUp_off (Ne.symm h0)]
  · unfold atN; rw [sUp_off (Ne.symm h0)]; exact Nat.le_refl _
  · rw [sUp_off (Ne.symm h0)]
theorem PR.pS (σ : sMem) {a : Nat} (f fa : Int32) (ha : atN σ ≤ a) (ha2 : a < 2 ^ 31) : PR σ (pS σ a f fa) := by
  refine ⟨pS_i _ _ _ _ _ (by decide), pS_0 _ _ _ _ _ (by decide) (by decide) (by decide), pS_0 _ _ _ _ _ (by decide) (by decide) (by decide), ?_, pS_i _ _ _ _ _ (by decide), pS_0 _ _ _ _ _ (by decide) (by decide) (by decide)⟩
  unfold atN at ha ⊢
  rw [pS_4, nI_clamp ha2]
  exact ha
theorem PR.num {σ : sMem} (h : RI σ) (lo hi nt : Int32) : PR σ (numM σ lo hi nt).2 := by
  unfold numM
  split
  · obtain ⟨h1, h2, h3, h4⟩ := h.at
    obtain ⟨hb1, hb2⟩ := blk_le (σ 1 0) h4
    have hd := dgS_le (σ 1 0) (szN σ) (szN σ - blk (σ 1 0) (szN σ) (atN σ)) (blk (σ 1 0) (szN σ) (atN σ)) 0 (by omega)
    refine PR.pS σ _ _ ?_ ?_
    · show atN σ ≤ (dgS (σ 1 0) (szN σ) (szN σ - blk (σ 1 0) (szN σ) (atN σ)) (blk (σ 1 0) (szN σ) (atN σ)) 0).1
      omega
    · show (dgS (σ 1 0) (szN σ) (szN σ - blk (σ 1 0) (szN σ) (atN σ)) (blk (σ 1 0) (szN σ) (atN σ)) 0).1 < 2 ^ 31
      omega
  · exact PR.rf σ
theorem PR.nuU {σ : sMem} (h : RI σ) (i j k : Nat) (lo hi nt : Int32) (h0 : i ≠ 0) (h1 : i ≠ 1) (h3 : i ≠ 3) : PR σ (nuU σ i j k lo hi nt) := (PR.num h lo hi nt).tr (PR.up _ i j k _ h0 h1 h3)
/-- RI and PR together -/
def RP (σ0 σ : sMem) : Prop := RI σ ∧ PR σ0 σ
theorem RP.num {σ0 σ : sMem} (h : RP σ0 σ) (lo hi nt : Int32) : RP σ0 (numM σ lo hi nt).2 := ⟨numM_RI h.1 lo hi nt, h.2.tr (PR.num h.1 lo hi nt)⟩
theorem RP.up {σ0 σ : sMem} (h : RP σ0 σ) (i j k : Nat) (v : Int32) (h0 : i ≠ 0) (h1 : i ≠ 1) (h3 : i ≠ 3) : RP σ0 (sUp σ i j k v) := ⟨h.1.up i j k v h0, h.2.tr (PR.up σ i j k v h0 h1 h3)⟩
theorem RP.nuU {σ0 σ : sMem} (h : RP σ0 σ) (i j k : Nat) (lo hi nt : Int32) (h0 : i ≠ 0) (h1 : i ≠ 1) (h3 : i ≠ 3) : RP σ0 (nuU σ i j k lo hi nt) := (h.num lo hi nt).up i j k _ h0 h1 h3
theorem swM_RP {σ : sMem} (h : RI σ) (k most : Int32) : RP σ (swM σ k most) := by
  have h0 : RP σ σ := ⟨h, PR.rf σ⟩
  unfold swM
  split
  · exact h0.nuU 2 0 0 _ _ _ (by decide) (by decide) (by decide)
  split
  · unfold rdP
    exact ((((h0.nuU 5 _ 0 _ _ _ (by decide) (by decide) (by decide)).nuU 5 _ 1 _ _ _ (by decide) (by decide) (by decide)).nuU 5 _ 2 _ _ _ (by decide) (by decide) (by decide)).nuU 5 _ 3 _ _ _ (by decide) (by decide) (by decide)).up 5 _ 4 _ (by decide) (by decide) (by decide)
  split
  · unfold rdS
    exact ((((h0.nuU 7 _ 0 _ _ _ (by decide) (by decide) (by decide)).nuU 7 _ 1 _ _ _ (by decide) (by decide) (by decide)).nuU 7 _ 2 _ _ _ (by decide) (by decide) (by decide)).up 7 _ 3 _ (by decide) (by decide) (by decide)).up 7 _ 4 _ (by decide) (by decide) (by decide)
  split
  · exact (h0.nuU 9 _ 0 _ _ _ (by decide) (by decide) (by decide)).nuU 9 _ 1 _ _ _ (by decide) (by decide) (by decide)
  split
  · exact h0.nuU 2 0 4 _ _ _ (by decide) (by decide) (by decide)
  split
  · exact ((h0.nuU 4 _ 0 _ _ _ (by decide) (by decide) (by decide)).nuU 4 _ 1 _ _ _ (by decide) (by decide) (by decide)).nuU 4 _ 2 _ _ _ (by decide) (by decide) (by decide)
  split
  · split
    · exact ((h0.num _ _ _).num _ _ _).up 11 _ _ _ (by decide) (by decide) (by decide)
    · exact (h0.num _ _ _).num _ _ _
  · exact rdO_P (P := RP σ) (fun s a b c q => q.num a b c) (fun s j k v q => q.up 5 j k v (by decide) (by decide) (by decide)) (fun s j k v q => q.up 7 j k v (by decide) (by decide) (by decide)) h0 k most
