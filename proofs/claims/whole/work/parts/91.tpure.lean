/-! THE CLASS'S TOWN as it is read, beside what the reference has read -/
def rc (ρ : sMem) (i : Nat) : Nat := (ρ 2 0 i).toNatClampNeg
/-- the streets read, the shortest between two places -/
def snM (ρ : sMem) : Nat → Nat → Nat → Int32
  | 0 => fun _ _ => 1000000
  | k + 1 => fun x y => if (x = (ρ 4 k 1).toNatClampNeg ∧ y = (ρ 4 k 0).toNatClampNeg) ∨ (x = (ρ 4 k 0).toNatClampNeg ∧ y = (ρ 4 k 1).toNatClampNeg) then (if ρ 4 k 2 < snM ρ k (ρ 4 k 0).toNatClampNeg (ρ 4 k 1).toNatClampNeg then ρ 4 k 2 else snM ρ k (ρ 4 k 0).toNatClampNeg (ρ 4 k 1).toNatClampNeg) else snM ρ k x y
theorem snM_cg {ρ ρ' : sMem} : ∀ K, (∀ k, k < K → ρ' 4 k = ρ 4 k) → snM ρ' K = snM ρ K
  | 0, _ => rfl
  | K + 1, h => by
    funext x y
    unfold snM
    rw [snM_cg K (fun k hk => h k (by omega)), h K (Nat.lt_succ_self K)]
def TWR (σ ρ : sMem) (w : Nat) : Prop :=
  (σ (w + 1) 0 0 = ρ 2 0 0 ∧ σ (w + 1) 0 1 = ρ 2 0 5 ∧ σ w 0 1 = ρ 2 0 1 ∧ σ w 0 7 = ρ 2 0 2 ∧ σ w 0 13 = ρ 2 0 3 ∧ σ w 0 17 = ρ 2 0 4) ∧
  (∀ a b, a < 12 → b < 12 → σ (w + 2) a b = snM ρ (rc ρ 5) a b) ∧
  (∀ p, p < rc ρ 1 → σ (w + 5) 0 p = ρ 5 p 0 ∧ σ (w + 6) 0 p = ρ 5 p 1 ∧ σ (w + 7) 0 p = ρ 5 p 2 ∧ σ (w + 8) 0 p = ρ 5 p 3 ∧ σ (w + 9) 0 p = ρ 5 p 4) ∧
  (∀ s, s < rc ρ 2 → σ (w + 10) 0 s = ρ 7 s 0 ∧ σ (w + 11) 0 s = ρ 7 s 1 ∧ σ (w + 12) 0 s = ρ 7 s 2 ∧ σ (w + 13) 0 s = ρ 7 s 3 ∧ σ (w + 14) 0 s = ρ 7 s 4) ∧
  (∀ g, g < rc ρ 3 → σ (w + 15) 0 g = ρ 9 g 0 ∧ σ (w + 16) 0 g = ρ 9 g 1) ∧ ∀ x, x < 12 → σ (w + 17) 0 x = ρ 11 0 x
theorem TWR.cg {σ σ' ρ ρ' : sMem} {w : Nat} (h : TWR σ ρ w) (h1 : ∀ i, w ≤ i → i < w + 18 → σ' i = σ i) (h2 : ∀ i, i = 2 ∨ i = 4 ∨ i = 5 ∨ i = 7 ∨ i = 9 ∨ i = 11 → ρ' i = ρ i) : TWR σ' ρ' w := by
  unfold TWR rc
  rw [h1 w (by omega) (by omega), h1 (w + 1) (by omega) (by omega), h1 (w + 2) (by omega) (by omega), h1 (w + 5) (by omega) (by omega), h1 (w + 6) (by omega) (by omega), h1 (w + 7) (by omega) (by omega), h1 (w + 8) (by omega) (by omega), h1 (w + 9) (by omega) (by omega), h1 (w + 10) (by omega) (by omega), h1 (w + 11) (by omega) (by omega), h1 (w + 12) (by omega) (by omega), h1 (w + 13) (by omega) (by omega), h1 (w + 14) (by omega) (by omega), h1 (w + 15) (by omega) (by omega), h1 (w + 16) (by omega) (by omega), h1 (w + 17) (by omega) (by omega), h2 2 (by omega), h2 5 (by omega), h2 7 (by omega), h2 9 (by omega), h2 11 (by omega), snM_cg _ (fun k _ => by rw [h2 4 (by omega)])]
  exact h
theorem rc_at {ρ : sMem} {i K : Nat} (h : ρ 2 0 i = nI K) (hK : K < 2 ^ 31) : rc ρ i = K := by
  unfold rc
  rw [h, nI_clamp hK]
theorem TWR_street {σ ρ : sMem} {w Q a b m : Nat} (h : TWR σ ρ w) (hQ : ρ 2 0 5 = nI Q) (hQ2 : Q < 2 ^ 30) (ha : a < 12) (hb9 : b < 12) : TWR (sUp (sUp (sUp σ (w + 1) 0 1 (nI (Q + 1))) (w + 2) a b (mnI (σ (w + 2) a b) (nI m))) (w + 2) b a (mnI (σ (w + 2) a b) (nI m))) (sUp (sUp (sUp (sUp ρ 4 Q 0 (nI a)) 4 Q 1 (nI b)) 4 Q 2 (nI m)) 2 0 5 (nI (Q + 1))) w := by
  obtain ⟨⟨s0, s1, s2, s3, s4, s5⟩, hn, hp, hs, hg, hx⟩ := h
  have r1 : rc (sUp (sUp (sUp (sUp ρ 4 Q 0 (nI a)) 4 Q 1 (nI b)) 4 Q 2 (nI m)) 2 0 5 (nI (Q + 1))) 1 = rc ρ 1 := by
    unfold rc; rw [sUp_k (by decide), sUp_off (by decide), sUp_off (by decide), sUp_off (by decide)]
  have r2 : rc (sUp (sUp (sUp (sUp ρ 4 Q 0 (nI a)) 4 Q 1 (nI b)) 4 Q 2 (nI m)) 2 0 5 (nI (Q + 1))) 2 = rc ρ 2 := by
    unfold rc; rw [sUp_k (by decide), sUp_off (by decide), sUp_off (by decide), sUp_off (by decide)]
  have r3 : rc (sUp (sUp (sUp (sUp ρ 4 Q 0 (nI a)) 4 Q 1 (nI b)) 4 Q 2 (nI m)) 2 0 5 (nI (Q + 1))) 3 = rc ρ 3 := by
    unfold rc; rw [sUp_k (by decide), sUp_off (by decide), sUp_off (by decide), sUp_off (by decide)]
  have r5 : rc (sUp (sUp (sUp (sUp ρ 4 Q 0 (nI a)) 4 Q 1 (nI b)) 4 Q 2 (nI m)) 2 0 5 (nI (Q + 1))) 5 = Q + 1 := rc_at (sUp_at _ _ _ _ _) (by omega)
  have e0 : (sUp (sUp (sUp (sUp ρ 4 Q 0 (nI a)) 4 Q 1 (nI b)) 4 Q 2 (nI m)) 2 0 5 (nI (Q + 1))) 4 Q 0 = nI a := by
    rw [sUp_off (by decide), sUp_k (by decide), sUp_k (by decide), sUp_at]
  have e1 : (sUp (sUp (sUp (sUp ρ 4 Q 0 (nI a)) 4 Q 1 (nI b)) 4 Q 2 (nI m)) 2 0 5 (nI (Q + 1))) 4 Q 1 = nI b := by
    rw [sUp_off (by decide), sUp_k (by decide), sUp_at]
  have e2 : (sUp (sUp (sUp (sUp ρ 4 Q 0 (nI a)) 4 Q 1 (nI b)) 4 Q 2 (nI m)) 2 0 5 (nI (Q + 1))) 4 Q 2 = nI m := by
    rw [sUp_off (by decide), sUp_at]
  have e3 : snM (sUp (sUp (sUp (sUp ρ 4 Q 0 (nI a)) 4 Q 1 (nI b)) 4 Q 2 (nI m)) 2 0 5 (nI (Q + 1))) Q = snM ρ Q := snM_cg Q (fun k hk => by
    rw [sUp_off (by decide), sUp_rowne (by omega), sUp_rowne (by omega), sUp_rowne (by omega)])
  have hQr : rc ρ 5 = Q := rc_at hQ (by omega)
  rw [hQr] at hn
  refine ⟨⟨?_, ?_, ?_, ?_, ?_, ?_⟩, ?_, ?_, ?_, ?_, ?_⟩
  · rw [sUp_off (by omega), sUp_off (by omega), sUp_k (by decide), sUp_k (by decide), sUp_off (by decide), sUp_off (by decide), sUp_off (by decide)]; exact s0
  · rw [sUp_off (by omega), sUp_off (by omega), sUp_at, sUp_at]
  · rw [sUp_off (by omega), sUp_off (by omega), sUp_off (by omega), sUp_k (by decide), sUp_off (by decide), sUp_off (by decide), sUp_off (by decide)]; exact s2
  · rw [sUp_off (by omega), sUp_off (by omega), sUp_off (by omega), sUp_k (by decide), sUp_off (by decide), sUp_off (by decide), sUp_off (by decide)]; exact s3
  · rw [sUp_off (by omega), sUp_off (by omega), sUp_off (by omega), sUp_k (by decide), sUp_off (by decide), sUp_off (by decide), sUp_off (by decide)]; exact s4
  · rw [sUp_off (by omega), sUp_off (by omega), sUp_off (by omega), sUp_k (by decide), sUp_off (by decide), sUp_off (by decide), sUp_off (by decide)]; exact s5
  · intro x y hx9 hy9
    rw [r5]
    unfold snM
    rw [e0, e1, e2, e3, nI_clamp (by omega), nI_clamp (by omega), ← hn a b ha hb9]
    have ev : (if nI m < σ (w + 2) a b then nI m else σ (w + 2) a b) = mnI (σ (w + 2) a b) (nI m) := rfl
    rw [ev]
    by_cases c1 : x = b ∧ y = a
    · obtain ⟨rfl, rfl⟩ := c1
      rw [sUp_at, if_pos (Or.inl ⟨rfl, rfl⟩)]
    · have o1 : ∀ (s : sMem) (v : Int32), sUp s (w + 2) b a v (w + 2) x y = s (w + 2) x y := fun s v => by simp only [sUp]; rw [if_neg (fun q => c1 q.2)]
      rw [o1]
      by_cases c2 : x = a ∧ y = b
      · obtain ⟨rfl, rfl⟩ := c2
        rw [sUp_at, if_pos (Or.inr ⟨rfl, rfl⟩)]
      · have o2 : ∀ (s : sMem) (v : Int32), sUp s (w + 2) a b v (w + 2) x y = s (w + 2) x y := fun s v => by simp only [sUp]; rw [if_neg (fun q => c2 q.2)]
        rw [o2, sUp_off (by omega), if_neg (fun q => q.elim c1 c2)]
        exact hn x y hx9 hy9
  · intro p hp9
    rw [r1] at hp9
    rw [sUp_off (by omega), sUp_off (by omega), sUp_off (by omega), sUp_off (by omega), sUp_off (by omega), sUp_off (by omega), sUp_off (by omega), sUp_off (by omega), sUp_off (by omega), sUp_off (by omega), sUp_off (by omega), sUp_off (by omega), sUp_off (by omega), sUp_off (by omega), sUp_off (by omega), sUp_off (by omega), sUp_off (by omega), sUp_off (by omega), sUp_off (by omega)]
    exact hp p hp9
  · intro p hp9
    rw [r2] at hp9
    rw [sUp_off (by omega), sUp_off (by omega), sUp_off (by omega), sUp_off (by omega), sUp_off (by omega), sUp_off (by omega), sUp_off (by omega), sUp_off (by omega), sUp_off (by omega), sUp_off (by omega), sUp_off (by omega), sUp_off (by omega), sUp_off (by omega), sUp_off (by omega), sUp_off (by omega), sUp_off (by omega), sUp_off (by omega), sUp_off (by omega), sUp_off (by omega)]
    exact hs p hp9
  · intro p hp9
    rw [r3] at hp9
    rw [sUp_off (by omega), sUp_off (by omega), sUp_off (by omega), sUp_off (by omega), sUp_off (by omega), sUp_off (by omega), sUp_off (by omega), sUp_off (by omega), sUp_off (by omega), sUp_off (by omega)]
    exact hg p hp9
  · intro x hx9
    rw [sUp_off (by omega), sUp_off (by omega), sUp_off (by omega), sUp_off (by omega), sUp_off (by omega), sUp_off (by omega), sUp_off (by omega)]
    exact hx x hx9
