/-! THE REFERENCE: what reading keeps -/
def KF (σ σ' : sMem) : Prop := (∀ i, i ≠ 0 → i ≠ 2 → i ≠ 4 → i ≠ 5 → i ≠ 7 → i ≠ 9 → i ≠ 11 → σ' i = σ i) ∧ ∀ k, k ≠ 4 → k ≠ 5 → k ≠ 6 → k ≠ 7 → σ' 0 0 k = σ 0 0 k
theorem KF.rf (σ : sMem) : KF σ σ := ⟨fun _ _ _ _ _ _ _ _ => rfl, fun _ _ _ _ _ => rfl⟩
theorem KF.tr {a b c : sMem} (h : KF a b) (g : KF b c) : KF a c := ⟨fun i h0 h2 h4 h5 h7 h9 h11 => (g.1 i h0 h2 h4 h5 h7 h9 h11).trans (h.1 i h0 h2 h4 h5 h7 h9 h11), fun k h4 h5 h6 h7 => (g.2 k h4 h5 h6 h7).trans (h.2 k h4 h5 h6 h7)⟩
theorem KF.up {a s : sMem} (h : KF a s) (i j k : Nat) (v : Int32) (hi : i = 2 ∨ i = 4 ∨ i = 5 ∨ i = 7 ∨ i = 9 ∨ i = 11) : KF a (sUp s i j k v) := h.tr ⟨fun x h0 h2 h4 h5 h7 h9 h11 => sUp_off (by omega), fun x _ _ _ _ => by rw [sUp_off (by omega)]⟩
theorem KF.pS {a s : sMem} (h : KF a s) (x : Nat) (f fa : Int32) : KF a (pS s x f fa) := h.tr ⟨fun i h0 _ _ _ _ _ _ => pS_i _ _ _ _ _ h0, fun k h4 h5 h6 _ => pS_0 _ _ _ _ _ (by omega) (by omega) (by omega)⟩
theorem KF.num {a s : sMem} (h : KF a s) (lo hi nt : Int32) : KF a (numM s lo hi nt).2 := by
  unfold numM
  split
  · exact h.pS _ _ _
  · exact h
theorem KF.nuU {a s : sMem} (h : KF a s) (i j k : Nat) (lo hi nt : Int32) (hi9 : i = 2 ∨ i = 4 ∨ i = 5 ∨ i = 7 ∨ i = 9 ∨ i = 11) : KF a (nuU s i j k lo hi nt) := (h.num lo hi nt).up i j k _ hi9
theorem swM_KF (σ : sMem) (k most : Int32) : KF σ (swM σ k most) := by
  have h0 := KF.rf σ
  unfold swM
  split
  · exact h0.nuU 2 0 0 _ _ _ (by decide)
  split
  · unfold rdP
    exact ((((h0.nuU 5 _ 0 _ _ _ (by decide)).nuU 5 _ 1 _ _ _ (by decide)).nuU 5 _ 2 _ _ _ (by decide)).nuU 5 _ 3 _ _ _ (by decide)).up 5 _ 4 _ (by decide)
  split
  · unfold rdS
    exact ((((h0.nuU 7 _ 0 _ _ _ (by decide)).nuU 7 _ 1 _ _ _ (by decide)).nuU 7 _ 2 _ _ _ (by decide)).up 7 _ 3 _ (by decide)).up 7 _ 4 _ (by decide)
  split
  · exact (h0.nuU 9 _ 0 _ _ _ (by decide)).nuU 9 _ 1 _ _ _ (by decide)
  split
  · exact h0.nuU 2 0 4 _ _ _ (by decide)
  split
  · exact ((h0.nuU 4 _ 0 _ _ _ (by decide)).nuU 4 _ 1 _ _ _ (by decide)).nuU 4 _ 2 _ _ _ (by decide)
  split
  · split
    · exact ((h0.num _ _ _).num _ _ _).up 11 _ _ _ (by decide)
    · exact (h0.num _ _ _).num _ _ _
  · exact rdO_P (P := KF σ) (fun s a b c q => q.num a b c) (fun s j k v q => q.up 5 j k v (by decide)) (fun s j k v q => q.up 7 j k v (by decide)) h0 k most
theorem nuU_i (σ : sMem) (i j k : Nat) (lo hi nt : Int32) (x : Nat) (h0 : x ≠ 0) (hx : x ≠ i) : nuU σ i j k lo hi nt x = σ x := by
  unfold nuU
  rw [sUp_off hx, numM_i _ _ _ _ _ h0]
theorem cnt_k {k : Int32} (h : cnt k = true) : k = nI 1 ∨ k = nI 2 ∨ k = nI 3 ∨ k = nI 5 := by
  rcases of_decide_eq_true h with ⟨h1, h2⟩ | h1
  · obtain ⟨j, k1, k2, rfl⟩ := nI_rng (lo := 1) (hi := 3) h1 h2 (by decide) (by decide)
    rcases (show j = 1 ∨ j = 2 ∨ j = 3 by omega) with rfl | rfl | rfl
    · exact Or.inl rfl
    · exact Or.inr (Or.inl rfl)
    · exact Or.inr (Or.inr (Or.inl rfl))
  · exact Or.inr (Or.inr (Or.inr h1))
theorem swM_c {σ : sMem} {k most : Int32} (h : cnt k = true) : swM σ k most 2 = σ 2 := by
  rcases cnt_k h with rfl | rfl | rfl | rfl
  · rw [swM_1]
    unfold rdP
    rw [sUp_off (by decide), nuU_i _ _ _ _ _ _ _ _ (by decide) (by decide), nuU_i _ _ _ _ _ _ _ _ (by decide) (by decide), nuU_i _ _ _ _ _ _ _ _ (by decide) (by decide), nuU_i _ _ _ _ _ _ _ _ (by decide) (by decide)]
  · rw [swM_2]
    unfold rdS
    rw [sUp_off (by decide), sUp_off (by decide), nuU_i _ _ _ _ _ _ _ _ (by decide) (by decide), nuU_i _ _ _ _ _ _ _ _ (by decide) (by decide), nuU_i _ _ _ _ _ _ _ _ (by decide) (by decide)]
  · rw [swM_3, nuU_i _ _ _ _ _ _ _ _ (by decide) (by decide), nuU_i _ _ _ _ _ _ _ _ (by decide) (by decide)]
  · rw [swM_5, nuU_i _ _ _ _ _ _ _ _ (by decide) (by decide), nuU_i _ _ _ _ _ _ _ _ (by decide) (by decide), nuU_i _ _ _ _ _ _ _ _ (by decide) (by decide)]
theorem nI_neI {a b : Nat} {v : Int32} (hv : v = nI b) (h : ¬ nI a = v) : a ≠ b := fun q => h (by rw [q, hv])
theorem RT_cu {s : sMem} {k : Int32} (h : RT s) (hk : cnt k = true → ¬ s 2 0 k.toNatClampNeg = mostS k) : RT (cuM s k) := by
  unfold cuM
  by_cases hc : cnt k = true
  · rw [if_pos hc]
    have hq := hk hc
    obtain ⟨p0, p1, p2, p3, p5, ⟨t0, u0⟩, ⟨t1, u1⟩, ⟨t2, u2⟩, ⟨t3, u3⟩, t5, u5⟩ := h
    rcases cnt_k hc with rfl | rfl | rfl | rfl
    · have hq1 : ¬ nI p1 = 10 := fun q => hq (t1.trans q)
      have := nI_neI (b := 10) rfl hq1
      exact ⟨p0, p1 + 1, p2, p3, p5, ⟨by simp [sUp, show (nI 1).toNatClampNeg = 1 from rfl]; exact t0, u0⟩, ⟨by rw [show (nI 1).toNatClampNeg = 1 from rfl, sUp_at, t1]; exact nIs p1, by omega⟩, ⟨by simp [sUp, show (nI 1).toNatClampNeg = 1 from rfl]; exact t2, u2⟩, ⟨by simp [sUp, show (nI 1).toNatClampNeg = 1 from rfl]; exact t3, u3⟩, by simp [sUp, show (nI 1).toNatClampNeg = 1 from rfl]; exact t5, u5⟩
    · have hq1 : ¬ nI p2 = 8 := fun q => hq (t2.trans q)
      have := nI_neI (b := 8) rfl hq1
      exact ⟨p0, p1, p2 + 1, p3, p5, ⟨by simp [sUp, show (nI 2).toNatClampNeg = 2 from rfl]; exact t0, u0⟩, ⟨by simp [sUp, show (nI 2).toNatClampNeg = 2 from rfl]; exact t1, u1⟩, ⟨by rw [show (nI 2).toNatClampNeg = 2 from rfl, sUp_at, t2]; exact nIs p2, by omega⟩, ⟨by simp [sUp, show (nI 2).toNatClampNeg = 2 from rfl]; exact t3, u3⟩, by simp [sUp, show (nI 2).toNatClampNeg = 2 from rfl]; exact t5, u5⟩
    · have hq1 : ¬ nI p3 = 4 := fun q => hq (t3.trans q)
      have := nI_neI (b := 4) rfl hq1
      exact ⟨p0, p1, p2, p3 + 1, p5, ⟨by simp [sUp, show (nI 3).toNatClampNeg = 3 from rfl]; exact t0, u0⟩, ⟨by simp [sUp, show (nI 3).toNatClampNeg = 3 from rfl]; exact t1, u1⟩, ⟨by simp [sUp, show (nI 3).toNatClampNeg = 3 from rfl]; exact t2, u2⟩, ⟨by rw [show (nI 3).toNatClampNeg = 3 from rfl, sUp_at, t3]; exact nIs p3, by omega⟩, by simp [sUp, show (nI 3).toNatClampNeg = 3 from rfl]; exact t5, u5⟩
    · have hq1 : ¬ nI p5 = 20 := fun q => hq (t5.trans q)
      have := nI_neI (b := 20) rfl hq1
      exact ⟨p0, p1, p2, p3, p5 + 1, ⟨by simp [sUp, show (nI 5).toNatClampNeg = 5 from rfl]; exact t0, u0⟩, ⟨by simp [sUp, show (nI 5).toNatClampNeg = 5 from rfl]; exact t1, u1⟩, ⟨by simp [sUp, show (nI 5).toNatClampNeg = 5 from rfl]; exact t2, u2⟩, ⟨by simp [sUp, show (nI 5).toNatClampNeg = 5 from rfl]; exact t3, u3⟩, by rw [show (nI 5).toNatClampNeg = 5 from rfl, sUp_at, t5]; exact nIs p5, by omega⟩
  · rw [if_neg hc]; exact h
theorem clE_K {a s : sMem} (h : RI s) (ht : RT s) (hf : KF a s) : RI (clE s) ∧ RT (clE s) ∧ KF a (clE s) := by
  unfold clE
  obtain ⟨h1, h2, h3, h4⟩ := h.at
  have hb := blk_le (s 1 0) h4
  split
  · split
    · rename_i h59
      have hl : blk (s 1 0) (szN s) (atN s) < szN s := Decidable.byContradiction fun q => by
        unfold bS at h59
        rw [if_neg q] at h59
        exact absurd h59 (by decide)
      exact ⟨h.pS _ _ hl, ht.pS _ _ _, hf.pS _ _ _⟩
    · exact ⟨h.pS _ _ hb.2, ht.pS _ _ _, hf.pS _ _ _⟩
  · exact ⟨h, ht, hf⟩
theorem clM_K {σ : sMem} (h : RI σ) (ht : RT σ) : RI (clM σ) ∧ RT (clM σ) ∧ KF σ (clM σ) := by
  obtain ⟨h1, h2, h3, h4⟩ := h.at
  have hb := blk_le (σ 1 0) h4
  have hl := ltS_le (σ 1 0) (szN σ) (szN σ - blk (σ 1 0) (szN σ) (atN σ)) (blk (σ 1 0) (szN σ) (atN σ)) (by omega)
  unfold clM
  dsimp only
  split
  · rename_i hc
    unfold cgM
    dsimp only
    have hR := h.pS 0 (σ 0 0 6) hl.2
    have hT := ht.pS (ltS (σ 1 0) (szN σ) (szN σ - blk (σ 1 0) (szN σ) (atN σ)) (blk (σ 1 0) (szN σ) (atN σ))) 0 (σ 0 0 6)
    have hF := (KF.rf σ).pS (ltS (σ 1 0) (szN σ) (szN σ - blk (σ 1 0) (szN σ) (atN σ)) (blk (σ 1 0) (szN σ) (atN σ))) 0 (σ 0 0 6)
    have h2' : pS σ (ltS (σ 1 0) (szN σ) (szN σ - blk (σ 1 0) (szN σ) (atN σ)) (blk (σ 1 0) (szN σ) (atN σ))) 0 (σ 0 0 6) 2 = σ 2 := pS_i _ _ _ _ _ (by decide)
    generalize pS σ (ltS (σ 1 0) (szN σ) (szN σ - blk (σ 1 0) (szN σ) (atN σ)) (blk (σ 1 0) (szN σ) (atN σ))) 0 (σ 0 0 6) = s3 at hR hT hF h2' ⊢
    have hR4 : RI (sUp s3 0 0 7 (s3 0 0 7 + 1)) := by
      obtain ⟨n', a', q1, q2, q3, q4⟩ := hR
      exact ⟨n', a', by rw [sUp_k (by decide)]; exact q1, q2, by rw [sUp_k (by decide)]; exact q3, q4⟩
    have hT4 := hT.up 0 0 7 (s3 0 0 7 + 1) (by decide)
    have hF4 : KF σ (sUp s3 0 0 7 (s3 0 0 7 + 1)) := hF.tr ⟨fun i h0 _ _ _ _ _ _ => sUp_off h0, fun k _ _ _ h7 => sUp_k h7⟩
    have h24 : sUp s3 0 0 7 (s3 0 0 7 + 1) 2 = σ 2 := (sUp_off (by decide)).trans h2'
    generalize sUp s3 0 0 7 (s3 0 0 7 + 1) = s4 at hR4 hT4 hF4 h24 ⊢
    generalize kindM (wordS (σ 1 0) (szN σ) (blk (σ 1 0) (szN σ) (atN σ))) = k at hc ⊢
    have g1 := swM_RI hR4 k (s4 2 0 0 - 1)
    have g2 := swM_RT hT4 k (s4 2 0 0 - 1)
    have g3 := hF4.tr (swM_KF s4 k (s4 2 0 0 - 1))
    have g4 : cnt k = true → ¬ swM s4 k (s4 2 0 0 - 1) 2 0 k.toNatClampNeg = mostS k := fun q e => by
      rw [swM_c q, h24] at e
      unfold cfM at hc
      split at hc
      · exact absurd hc (by decide)
      · rw [if_pos (Or.inr ⟨q, e⟩)] at hc
        exact absurd hc (by decide)
    generalize swM s4 k (s4 2 0 0 - 1) = s5 at g1 g2 g3 g4 ⊢
    refine clE_K ?_ (RT_cu g2 g4) ?_
    · unfold cuM
      split
      · exact g1.up _ _ _ _ (by decide)
      · exact g1
    · unfold cuM
      split
      · exact g3.up _ _ _ _ (Or.inl rfl)
      · exact g3
  · exact ⟨h.pS _ _ hb.2, ht.pS _ _ _, (KF.rf σ).pS _ _ _⟩
theorem bkM_K {a s : sMem} (h : RI s) (ht : RT s) (hf : KF a s) : RI (bkM s) ∧ RT (bkM s) ∧ KF a (bkM s) := by
  unfold bkM
  exact ⟨h.pS _ _ (blk_le _ h.at.2.2.2).2, ht.pS _ _ _, hf.pS _ _ _⟩
theorem txL_K : ∀ f {a s : sMem}, RI s → RT s → KF a s → RI (txL f s) ∧ RT (txL f s) ∧ KF a (txL f s)
  | 0, _, _, h, ht, hf => ⟨h, ht, hf⟩
  | f + 1, a, s, h, ht, hf => by
    unfold txL
    split
    · have q := clM_K h ht
      have r := bkM_K q.1 q.2.1 (hf.tr q.2.2)
      exact txL_K f r.1 r.2.1 r.2.2
    · exact ⟨h, ht, hf⟩
/-- the text is read to its end, or has a fault -/
theorem p0_R (t : sMem) {n : Nat} (hn : n ≤ 600) : RI (p0M t n) ∧ RT (p0M t n) := by
  obtain ⟨p1, p2, p3, p4⟩ := p0M_at t n
  refine ⟨⟨n, 0, by rw [p2]; simp [p0A, sUp], hn, by rw [p2]; simp [p0A, sUp]; rfl, by omega⟩, 4, 0, 0, 0, 0, ⟨p3 0 (by decide), by decide⟩, ⟨p3 1 (by decide), by decide⟩, ⟨p3 2 (by decide), by decide⟩, ⟨p3 3 (by decide), by decide⟩, p3 5 (by decide), by decide⟩
theorem tZ_K (t : sMem) {n : Nat} (hn : n ≤ 600) : RI (tZ t n) ∧ RT (tZ t n) ∧ (∀ i, i ≠ 0 → i ≠ 2 → i ≠ 4 → i ≠ 5 → i ≠ 7 → i ≠ 9 → i ≠ 11 → tZ t n i = t i) ∧ (∀ k, 8 ≤ k → tZ t n 0 0 k = t 0 0 k) ∧ tZ t n 0 0 0 = 0 ∧ tZ t n 0 0 1 = 0 ∧ tZ t n 0 0 3 = t 0 0 3 := by
  obtain ⟨r1, r2⟩ := p0_R t hn
  obtain ⟨b1, b2, b3⟩ := bkM_K r1 r2 (KF.rf (p0M t n))
  obtain ⟨c1, c2, c3⟩ := txL_K 61 b1 b2 b3
  obtain ⟨p1, p2, -, -⟩ := p0M_at t n
  refine ⟨c1, c2, fun i h0 h2 h4 h5 h7 h9 h11 => (c3.1 i h0 h2 h4 h5 h7 h9 h11).trans (p1 i h0 h2 h11), fun k hk => ?_, ?_, ?_, ?_⟩
  · refine (c3.2 k (by omega) (by omega) (by omega) (by omega)).trans ?_
    rw [p2]
    unfold p0A
    rw [sUp_k (by omega), sUp_k (by omega), sUp_k (by omega), sUp_k (by omega), sUp_k (by omega), sUp_k (by omega), sUp_k (by omega)]
  · refine (c3.2 0 (by omega) (by omega) (by omega) (by omega)).trans ?_
    rw [p2]; simp [p0A, sUp]
  · refine (c3.2 1 (by omega) (by omega) (by omega) (by omega)).trans ?_
    rw [p2]; simp [p0A, sUp]
  · refine (c3.2 3 (by omega) (by omega) (by omega) (by omega)).trans ?_
    rw [p2]; simp [p0A, sUp]
