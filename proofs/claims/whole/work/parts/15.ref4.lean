/-! THE REFERENCE, the clause and the town's text -/
theorem RT.congr {σ σ' : sMem} (h : RT σ) (e : σ' 2 0 = σ 2 0) : RT σ' := by
  unfold RT
  rw [e]
  exact h
theorem RT.up {σ : sMem} (h : RT σ) (i j k : Nat) (v : Int32) (hi : i ≠ 2) : RT (sUp σ i j k v) := h.congr (by rw [sUp_off (Ne.symm hi)])
theorem RT.num {σ : sMem} (h : RT σ) (lo hi nt : Int32) : RT (numM σ lo hi nt).2 := h.congr (by rw [numM_i _ _ _ _ _ (by decide)])
theorem RT.nuU {σ : sMem} (h : RT σ) (i j k : Nat) (lo hi nt : Int32) (hi2 : i ≠ 2) : RT (nuU σ i j k lo hi nt) := (h.num lo hi nt).up i j k _ hi2
theorem RT.pS {σ : sMem} (h : RT σ) (a : Nat) (f fa : Int32) : RT (pS σ a f fa) := h.congr (by rw [pS_i _ _ _ _ _ (by decide)])
/-- letters from a on end here -/
def ltS (tx : Nat → Int32) (n : Nat) : Nat → Nat → Nat
  | 0, a => a
  | f + 1, a => if 97 ≤ bS tx n a ∧ bS tx n a ≤ 122 then ltS tx n f (a + 1) else a
theorem ltS_le (tx : Nat → Int32) (n : Nat) : ∀ f a, a + f = n → a ≤ ltS tx n f a ∧ ltS tx n f a ≤ n
  | 0, a, h => ⟨Nat.le_refl _, by show a ≤ n; omega⟩
  | f + 1, a, h => by
    unfold ltS
    split
    · have := ltS_le tx n f (a + 1) (by omega)
      omega
    · omega
def cnt (k : Int32) : Bool := decide ((1 ≤ k ∧ k ≤ 3) ∨ k = 5)
def swM (σ : sMem) (k most : Int32) : sMem :=
  if k = 0 then nuU σ 2 0 0 2 12 (-1)
  else if k = 1 then rdP σ (σ 2 0 1).toNatClampNeg most
  else if k = 2 then rdS σ (σ 2 0 2).toNatClampNeg most
  else if k = 3 then nuU (nuU σ 9 (σ 2 0 3).toNatClampNeg 0 0 most (-1)) 9 (σ 2 0 3).toNatClampNeg 1 0 9 (-1)
  else if k = 4 then nuU σ 2 0 4 0 9 (-1)
  else if k = 5 then nuU (nuU (nuU σ 4 (σ 2 0 5).toNatClampNeg 0 0 most (-1)) 4 (σ 2 0 5).toNatClampNeg 1 0 most (nuU σ 4 (σ 2 0 5).toNatClampNeg 0 0 most (-1) 4 (σ 2 0 5).toNatClampNeg 0)) 4 (σ 2 0 5).toNatClampNeg 2 1 60 (-1)
  else if k = 9 then (if (numM (numM σ 0 most (-1)).2 0 most (numM σ 0 most (-1)).1).2 0 0 5 = 0 then sUp (numM (numM σ 0 most (-1)).2 0 most (numM σ 0 most (-1)).1).2 11 0 (numM σ 0 most (-1)).1.toNatClampNeg ((numM (numM σ 0 most (-1)).2 0 most (numM σ 0 most (-1)).1).2 11 0 (numM σ 0 most (-1)).1.toNatClampNeg ||| (1 <<< ((numM (numM σ 0 most (-1)).2 0 most (numM σ 0 most (-1)).1).1 &&& 31))) else (numM (numM σ 0 most (-1)).2 0 most (numM σ 0 most (-1)).1).2)
  else rdO σ k most
def clE (σ : sMem) : sMem := if σ 0 0 5 = 0 then (if bS (σ 1 0) (szN σ) (blk (σ 1 0) (szN σ) (atN σ)) = 59 then pS σ (blk (σ 1 0) (szN σ) (atN σ) + 1) 0 (σ 0 0 6) else pS σ (blk (σ 1 0) (szN σ) (atN σ)) 1 (nI (blk (σ 1 0) (szN σ) (atN σ)))) else σ
def cuM (σ : sMem) (k : Int32) : sMem := if cnt k then sUp σ 2 0 k.toNatClampNeg (σ 2 0 k.toNatClampNeg + 1) else σ
/-- which fault a clause of kind k is at its word, 0: none -/
def cfM (σ : sMem) (k : Int32) : Int32 := if k = -1 then 1 else if σ 0 0 7 = 60 ∨ (cnt k = true ∧ σ 2 0 k.toNatClampNeg = mostS k) then 3 else if k = 0 ∧ 0 < σ 0 0 7 then 4 else 0
def cgM (σ : sMem) (b : Nat) (k : Int32) : sMem :=
  let s3 := pS σ (ltS (σ 1 0) (szN σ) (szN σ - b) b) 0 (σ 0 0 6)
  let s4 := sUp s3 0 0 7 (s3 0 0 7 + 1)
  clE (cuM (swM s4 k (s4 2 0 0 - 1)) k)
/-- a clause -/
def clM (σ : sMem) : sMem :=
  let b := blk (σ 1 0) (szN σ) (atN σ)
  let k := kindM (wordS (σ 1 0) (szN σ) b)
  if cfM σ k = 0 then cgM σ b k else pS σ b (cfM σ k) (nI b)
theorem rdP_RI {σ : sMem} (h : RI σ) (j : Nat) (most : Int32) : RI (rdP σ j most) := by
  unfold rdP
  exact (nuU_RI (nuU_RI (nuU_RI (nuU_RI h 5 j 0 0 most (-1) (by decide)) 5 j 1 0 most _ (by decide)) 5 j 2 0 500 (-1) (by decide)) 5 j 3 1 99 (-1) (by decide)).up 5 j 4 _ (by decide)
theorem rdP_RT {σ : sMem} (h : RT σ) (j : Nat) (most : Int32) : RT (rdP σ j most) := by
  unfold rdP
  exact ((((h.nuU 5 j 0 0 most (-1) (by decide)).nuU 5 j 1 0 most _ (by decide)).nuU 5 j 2 0 500 (-1) (by decide)).nuU 5 j 3 1 99 (-1) (by decide)).up 5 j 4 _ (by decide)
theorem rdS_RI {σ : sMem} (h : RI σ) (j : Nat) (most : Int32) : RI (rdS σ j most) := by
  unfold rdS
  exact ((nuU_RI (nuU_RI (nuU_RI h 7 j 0 0 most (-1) (by decide)) 7 j 1 0 most _ (by decide)) 7 j 2 0 500 (-1) (by decide)).up 7 j 3 _ (by decide)).up 7 j 4 _ (by decide)
theorem rdS_RT {σ : sMem} (h : RT σ) (j : Nat) (most : Int32) : RT (rdS σ j most) := by
  unfold rdS
  exact ((((h.nuU 7 j 0 0 most (-1) (by decide)).nuU 7 j 1 0 most _ (by decide)).nuU 7 j 2 0 500 (-1) (by decide)).up 7 j 3 _ (by decide)).up 7 j 4 _ (by decide)
theorem rdO_P {P : sMem → Prop} (hn : ∀ σ lo hi nt, P σ → P (numM σ lo hi nt).2) (h5 : ∀ σ j k v, P σ → P (sUp σ 5 j k v)) (h7 : ∀ σ j k v, P σ → P (sUp σ 7 j k v)) {σ : sMem} (h : P σ) (k most : Int32) : P (rdO σ k most) := by
  by_cases h8 : k = 8
  · simp only [rdO, if_pos h8]
    repeat' split
    all_goals first | exact h5 _ _ _ _ (hn _ _ _ _ (hn _ _ _ _ h)) | exact h7 _ _ _ _ (hn _ _ _ _ (hn _ _ _ _ h)) | exact hn _ _ _ _ (hn _ _ _ _ h)
  · simp only [rdO, if_neg h8]
    repeat' split
    all_goals first | exact h5 _ _ _ _ (hn _ _ _ _ (hn _ _ _ _ h)) | exact h7 _ _ _ _ (hn _ _ _ _ (hn _ _ _ _ h)) | exact hn _ _ _ _ (hn _ _ _ _ h)
theorem rdO_RI {σ : sMem} (h : RI σ) (k most : Int32) : RI (rdO σ k most) := rdO_P (P := RI) (fun σ a b c q => numM_RI q a b c) (fun σ j k v q => q.up 5 j k v (by decide)) (fun σ j k v q => q.up 7 j k v (by decide)) h k most
theorem rdO_RT {σ : sMem} (h : RT σ) (k most : Int32) : RT (rdO σ k most) := rdO_P (P := RT) (fun σ a b c q => q.num a b c) (fun σ j k v q => q.up 5 j k v (by decide)) (fun σ j k v q => q.up 7 j k v (by decide)) h k most
theorem nI_rng {v : Int32} {lo hi : Nat} (h1 : nI lo ≤ v) (h2 : v ≤ nI hi) (hh : hi < 2 ^ 31) (hl : lo ≤ hi) : ∃ k : Nat, lo ≤ k ∧ k ≤ hi ∧ v = nI k := by
  have a1 := Int32.le_iff_toInt_le.mp h1
  have a2 := Int32.le_iff_toInt_le.mp h2
  rw [nI_toInt (by omega)] at a1
  rw [nI_toInt hh] at a2
  refine ⟨v.toInt.toNat, by omega, by omega, ?_⟩
  apply Int32.toInt_inj.mp
  rw [nI_toInt (by omega)]
  omega
theorem swM_RI {σ : sMem} (h : RI σ) (k most : Int32) : RI (swM σ k most) := by
  unfold swM
  split
  · exact nuU_RI h _ _ _ _ _ _ (by decide)
  split
  · exact rdP_RI h _ _
  split
  · exact rdS_RI h _ _
  split
  · exact nuU_RI (nuU_RI h _ _ _ _ _ _ (by decide)) _ _ _ _ _ _ (by decide)
  split
  · exact nuU_RI h _ _ _ _ _ _ (by decide)
  split
  · exact nuU_RI (nuU_RI (nuU_RI h _ _ _ _ _ _ (by decide)) _ _ _ _ _ _ (by decide)) _ _ _ _ _ _ (by decide)
  split
  · split
    · exact (numM_RI (numM_RI h _ _ _) _ _ _).up _ _ _ _ (by decide)
    · exact numM_RI (numM_RI h _ _ _) _ _ _
  · exact rdO_RI h _ _
theorem swM_RT {σ : sMem} (h : RT σ) (k most : Int32) : RT (swM σ k most) := by
  unfold swM
  split
  · have h1 := h.num 2 12 (-1)
    have hv := numM_val σ 2 12 (-1)
    obtain ⟨p0, p1, p2, p3, p5, t0, t1, t2, t3, t5⟩ := h1
    have hp : ∃ p : Nat, (numM σ 2 12 (-1)).1 = nI p ∧ p ≤ 12 := by
      by_cases hf : (numM σ 2 12 (-1)).2 0 0 5 = 0
      · obtain ⟨-, ⟨w1, w2⟩, -⟩ := hv.1 hf
        obtain ⟨k, -, k2, k3⟩ := nI_rng (lo := 2) (hi := 12) w1 w2 (by decide) (by decide)
        exact ⟨k, k3, k2⟩
      · exact ⟨0, hv.2 hf, by decide⟩
    obtain ⟨p, e1, e2⟩ := hp
    refine ⟨p, p1, p2, p3, p5, ⟨?_, e2⟩, ?_⟩
    · unfold nuU
      rw [sUp_at]; exact e1
    · unfold nuU
      simp only [sUp, true_and, if_false, show (1 : Nat) ≠ 0 by decide, show (2 : Nat) ≠ 0 by decide, show (3 : Nat) ≠ 0 by decide, show (5 : Nat) ≠ 0 by decide]
      exact ⟨t1, t2, t3, t5⟩
  split
  · exact rdP_RT h _ _
  split
  · exact rdS_RT h _ _
  split
  · exact (h.nuU _ _ _ _ _ _ (by decide)).nuU _ _ _ _ _ _ (by decide)
  split
  · have h1 := h.num 0 9 (-1)
    obtain ⟨p0, p1, p2, p3, p5, t0, t1, t2, t3, t5⟩ := h1
    refine ⟨p0, p1, p2, p3, p5, ?_⟩
    unfold nuU
    simp only [sUp, true_and, if_false, show (0 : Nat) ≠ 4 by decide, show (1 : Nat) ≠ 4 by decide, show (2 : Nat) ≠ 4 by decide, show (3 : Nat) ≠ 4 by decide, show (5 : Nat) ≠ 4 by decide]
    exact ⟨t0, t1, t2, t3, t5⟩
  split
  · exact ((h.nuU _ _ _ _ _ _ (by decide)).nuU _ _ _ _ _ _ (by decide)).nuU _ _ _ _ _ _ (by decide)
  split
  · split
    · exact ((h.num _ _ _).num _ _ _).up _ _ _ _ (by decide)
    · exact (h.num _ _ _).num _ _ _
  · exact rdO_RT h _ _
