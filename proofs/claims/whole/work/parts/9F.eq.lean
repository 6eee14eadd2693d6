/-! THE REFERENCE'S READING sees the reference's variables alone -/
def EQ (s s' : sMem) : Prop := ∀ i, i < 34 → s i = s' i
theorem EQ.rf (s : sMem) : EQ s s := fun _ _ => rfl
theorem EQ.up {s s' : sMem} (h : EQ s s') {i j k : Nat} {v v' : Int32} (hv : v = v') : EQ (sUp s i j k v) (sUp s' i j k v') := fun a ha => sUp_cgi (h a ha) hv
theorem EQ.at {s s' : sMem} (h : EQ s s') (i j k : Nat) (hi : i < 34) : s i j k = s' i j k := by rw [h i hi]
theorem EQ.pq {s s' : sMem} (h : EQ s s') (a : Nat) {f f' fa fa' : Int32} (hf : f = f') (hfa : fa = fa') : EQ (pS s a f fa) (pS s' a f' fa') := by
  unfold pS
  exact ((h.up rfl).up hf).up hfa
theorem EQ.sz {s s' : sMem} (h : EQ s s') : szN s = szN s' := by unfold szN; rw [h 0 (by decide)]
theorem EQ.an {s s' : sMem} (h : EQ s s') : atN s = atN s' := by unfold atN; rw [h 0 (by decide)]
theorem numM_cg {s s' : sMem} (h : EQ s s') (lo hi nt : Int32) : (numM s lo hi nt).1 = (numM s' lo hi nt).1 ∧ EQ (numM s lo hi nt).2 (numM s' lo hi nt).2 := by
  unfold numM
  rw [h.sz, h.an, h 0 (by decide), h 1 (by decide)]
  split
  · exact ⟨rfl, h.pq _ rfl rfl⟩
  · exact ⟨rfl, h⟩
theorem nuU_cg {s s' : sMem} (h : EQ s s') (i j k : Nat) (lo hi : Int32) {nt nt' : Int32} (hn : nt = nt') : EQ (nuU s i j k lo hi nt) (nuU s' i j k lo hi nt') := by
  subst hn
  obtain ⟨a, b⟩ := numM_cg h lo hi nt
  unfold nuU
  exact b.up a
theorem rdP_cg {s s' : sMem} (h : EQ s s') (j : Nat) (m : Int32) : EQ (rdP s j m) (rdP s' j m) := by
  have h0 := nuU_cg h 5 j 0 0 m (rfl : (-1 : Int32) = -1)
  have h1 := nuU_cg h0 5 j 1 0 m (h0.at 5 j 0 (by decide))
  have h2 := nuU_cg h1 5 j 2 0 500 (rfl : (-1 : Int32) = -1)
  have h3 := nuU_cg h2 5 j 3 1 99 (rfl : (-1 : Int32) = -1)
  exact h3.up rfl
theorem rdS_cg {s s' : sMem} (h : EQ s s') (j : Nat) (m : Int32) : EQ (rdS s j m) (rdS s' j m) := by
  have h0 := nuU_cg h 7 j 0 0 m (rfl : (-1 : Int32) = -1)
  have h1 := nuU_cg h0 7 j 1 0 m (h0.at 7 j 0 (by decide))
  have h2 := nuU_cg h1 7 j 2 0 500 (rfl : (-1 : Int32) = -1)
  exact (h2.up rfl).up rfl
theorem rdO_cg {s s' : sMem} (h : EQ s s') (k m : Int32) : EQ (rdO s k m) (rdO s' k m) := by
  unfold rdO
  dsimp only
  rw [h 2 (by decide)]
  obtain ⟨a, b⟩ := numM_cg h 0 (s' 2 0 (if k = 6 then 1 else 2) - 1) (-1)
  generalize numM s 0 (s' 2 0 (if k = 6 then 1 else 2) - 1) (-1) = p at a b ⊢
  generalize numM s' 0 (s' 2 0 (if k = 6 then 1 else 2) - 1) (-1) = p' at a b ⊢
  have hq : (if k = 8 then numM p.2 1 8 (-1) else numM p.2 0 m (-1)).1 = (if k = 8 then numM p'.2 1 8 (-1) else numM p'.2 0 m (-1)).1 ∧ EQ (if k = 8 then numM p.2 1 8 (-1) else numM p.2 0 m (-1)).2 (if k = 8 then numM p'.2 1 8 (-1) else numM p'.2 0 m (-1)).2 := by
    split
    · exact numM_cg b 1 8 (-1)
    · exact numM_cg b 0 m (-1)
  obtain ⟨c, d⟩ := hq
  generalize (if k = 8 then numM p.2 1 8 (-1) else numM p.2 0 m (-1)) = q at c d ⊢
  generalize (if k = 8 then numM p'.2 1 8 (-1) else numM p'.2 0 m (-1)) = q' at c d ⊢
  rw [d.at 0 0 5 (by decide), a, c, d 5 (by decide), d 7 (by decide)]
  split
  · split
    · exact d.up rfl
    · split
      · exact d.up rfl
      · exact d.up rfl
  · exact d
theorem swM_cg {s s' : sMem} (h : EQ s s') (k m : Int32) : EQ (swM s k m) (swM s' k m) := by
  unfold swM
  rw [h 2 (by decide)]
  split
  · exact nuU_cg h _ _ _ _ _ rfl
  split
  · exact rdP_cg h _ _
  split
  · exact rdS_cg h _ _
  split
  · exact nuU_cg (nuU_cg h _ _ _ _ _ rfl) _ _ _ _ _ rfl
  split
  · exact nuU_cg h _ _ _ _ _ rfl
  split
  · have h0 := nuU_cg h 4 (s' 2 0 5).toNatClampNeg 0 0 m (rfl : (-1 : Int32) = -1)
    exact nuU_cg (nuU_cg h0 _ _ _ _ _ (h0.at 4 _ 0 (by decide))) _ _ _ _ _ rfl
  split
  · obtain ⟨a, b⟩ := numM_cg h 0 m (-1)
    generalize numM s 0 m (-1) = p at a b ⊢
    generalize numM s' 0 m (-1) = p' at a b ⊢
    rw [a]
    obtain ⟨c, d⟩ := numM_cg b 0 m p'.1
    generalize numM p.2 0 m p'.1 = q at c d ⊢
    generalize numM p'.2 0 m p'.1 = q' at c d ⊢
    rw [d.at 0 0 5 (by decide), c, d 11 (by decide)]
    split
    · exact d.up rfl
    · exact d
  · exact rdO_cg h k m
theorem cuM_cg {s s' : sMem} (h : EQ s s') (k : Int32) : EQ (cuM s k) (cuM s' k) := by
  unfold cuM
  rw [h 2 (by decide)]
  split
  · exact h.up rfl
  · exact h
theorem clE_cg {s s' : sMem} (h : EQ s s') : EQ (clE s) (clE s') := by
  unfold clE
  rw [h.sz, h.an, h 0 (by decide), h 1 (by decide)]
  split
  · split
    · exact h.pq _ rfl rfl
    · exact h.pq _ rfl rfl
  · exact h
theorem cfM_cg {s s' : sMem} (h : EQ s s') (k : Int32) : cfM s k = cfM s' k := by
  unfold cfM
  rw [h 0 (by decide), h 2 (by decide)]
theorem cgM_cg {s s' : sMem} (h : EQ s s') (b : Nat) (k : Int32) : EQ (cgM s b k) (cgM s' b k) := by
  unfold cgM
  dsimp only
  rw [h.sz, h 1 (by decide), h.at 0 0 6 (by decide)]
  have h3 := h.pq (ltS (s' 1 0) (szN s') (szN s' - b) b) (rfl : (0 : Int32) = 0) (rfl : s' 0 0 6 = s' 0 0 6)
  rw [h3.at 0 0 7 (by decide)]
  have h4 := h3.up (i := 0) (j := 0) (k := 7) (rfl : pS s' (ltS (s' 1 0) (szN s') (szN s' - b) b) 0 (s' 0 0 6) 0 0 7 + 1 = pS s' (ltS (s' 1 0) (szN s') (szN s' - b) b) 0 (s' 0 0 6) 0 0 7 + 1)
  rw [h4.at 2 0 0 (by decide)]
  exact clE_cg (cuM_cg (swM_cg h4 k _) k)
theorem clM_cg {s s' : sMem} (h : EQ s s') : EQ (clM s) (clM s') := by
  unfold clM
  dsimp only
  rw [h.sz, h.an, h 1 (by decide), cfM_cg h]
  split
  · exact cgM_cg h _ _
  · exact h.pq _ rfl rfl
theorem bkM_cg {s s' : sMem} (h : EQ s s') : EQ (bkM s) (bkM s') := by
  unfold bkM
  rw [h.sz, h.an, h 1 (by decide), h.at 0 0 5 (by decide), h.at 0 0 6 (by decide)]
  exact h.pq _ rfl rfl
theorem txL_cg : ∀ f {s s' : sMem}, EQ s s' → EQ (txL f s) (txL f s')
  | 0, _, _, h => h
  | f + 1, s, s', h => by
    unfold txL
    rw [h.at 0 0 5 (by decide), h.an, h.sz]
    split
    · exact txL_cg f (bkM_cg (clM_cg h))
    · exact h
/-- where the reading of the first n bytes begins -/
def p0A (σ : sMem) (n : Nat) : sMem := sUp (sUp (sUp (sUp (sUp (sUp (sUp σ 0 0 0 0) 0 0 1 0) 0 0 2 (nI n)) 0 0 4 0) 0 0 5 0) 0 0 6 (-1)) 0 0 7 0
def p0M (σ : sMem) (n : Nat) : sMem := forM (fun p s => sUp s 11 0 p 0) (forM (fun k s => sUp s 2 0 k (if k = 0 then 4 else 0)) (p0A σ n) 6) 12
theorem forM_cg {f f' : Nat → sMem → sMem} (hf : ∀ k s s', EQ s s' → EQ (f k s) (f' k s')) : ∀ n {s s' : sMem}, EQ s s' → EQ (forM f s n) (forM f' s' n)
  | 0, _, _, h => h
  | n + 1, _, _, h => hf n _ _ (forM_cg hf n h)
theorem p0M_cg {s s' : sMem} (h : EQ s s') (n : Nat) : EQ (p0M s n) (p0M s' n) := by
  have hA : EQ (p0A s n) (p0A s' n) := by
    unfold p0A
    exact ((((((h.up rfl).up rfl).up rfl).up rfl).up rfl).up rfl).up rfl
  have hB : EQ (forM (fun k s => sUp s 2 0 k (if k = 0 then 4 else 0)) (p0A s n) 6) (forM (fun k s => sUp s 2 0 k (if k = 0 then 4 else 0)) (p0A s' n) 6) := forM_cg (f := fun k s => sUp s 2 0 k (if k = 0 then 4 else 0)) (f' := fun k s => sUp s 2 0 k (if k = 0 then 4 else 0)) (fun k s s' h => EQ.up h (rfl : (if k = 0 then (4 : Int32) else 0) = if k = 0 then 4 else 0)) 6 hA
  unfold p0M
  exact forM_cg (f := fun p s => sUp s 11 0 p 0) (f' := fun p s => sUp s 11 0 p 0) (fun k s s' h => h.up rfl) 12 hB
theorem p0M_at (σ : sMem) (n : Nat) : (∀ i, i ≠ 0 → i ≠ 2 → i ≠ 11 → p0M σ n i = σ i) ∧ p0M σ n 0 = p0A σ n 0 ∧ (∀ k, k < 6 → p0M σ n 2 0 k = if k = 0 then 4 else 0) ∧ ∀ x, x < 12 → p0M σ n 11 0 x = 0 := by
  unfold p0M
  refine ⟨fun i h0 h2 h11 => ?_, ?_, fun k hk => ?_, fun x hx => ?_⟩
  · simp only [forM]
    simp only [sUp_off h11, sUp_off h2]
    unfold p0A
    simp only [sUp_off h0]
  · simp only [forM]
    simp only [sUp_off (show (0 : Nat) ≠ 11 by decide), sUp_off (show (0 : Nat) ≠ 2 by decide)]
  · simp only [forM]
    simp only [sUp_off (show (2 : Nat) ≠ 11 by decide)]
    rcases (show k = 0 ∨ k = 1 ∨ k = 2 ∨ k = 3 ∨ k = 4 ∨ k = 5 by omega) with rfl | rfl | rfl | rfl | rfl | rfl <;> simp [sUp]
  · simp only [forM]
    rcases (show x = 0 ∨ x = 1 ∨ x = 2 ∨ x = 3 ∨ x = 4 ∨ x = 5 ∨ x = 6 ∨ x = 7 ∨ x = 8 ∨ x = 9 ∨ x = 10 ∨ x = 11 by omega) with rfl | rfl | rfl | rfl | rfl | rfl | rfl | rfl | rfl | rfl | rfl | rfl <;> simp [sUp]
