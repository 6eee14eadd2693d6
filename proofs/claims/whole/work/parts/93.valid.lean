/-! WHAT IS READ is a town: numbers in their bounds -/
def vP (r : Nat → Int32) (N : Nat) : Prop := ∃ a b m v k : Nat, (r 0 = nI a ∧ a < N) ∧ (r 1 = nI b ∧ b < N) ∧ a ≠ b ∧ (r 2 = nI m ∧ m ≤ 500) ∧ (r 3 = nI v ∧ 1 ≤ v ∧ v ≤ 99) ∧ r 4 = nI k ∧ k < 2 ^ N
def vS (r : Nat → Int32) (N : Nat) : Prop := ∃ a b m c k : Nat, (r 0 = nI a ∧ a < N) ∧ (r 1 = nI b ∧ b < N) ∧ a ≠ b ∧ (r 2 = nI m ∧ m ≤ 500) ∧ (r 3 = nI c ∧ 1 ≤ c ∧ c ≤ 8) ∧ r 4 = nI k ∧ k < 2 ^ N
def vG (r : Nat → Int32) (N : Nat) : Prop := ∃ a f : Nat, (r 0 = nI a ∧ a < N) ∧ r 1 = nI f ∧ f ≤ 9
def vQ (r : Nat → Int32) (N : Nat) : Prop := ∃ a b m : Nat, (r 0 = nI a ∧ a < N) ∧ (r 1 = nI b ∧ b < N) ∧ a ≠ b ∧ r 2 = nI m ∧ 1 ≤ m ∧ m ≤ 60
def RVN (ρ : sMem) (N P S G Q : Nat) : Prop := (2 ≤ N ∧ N ≤ 12 ∧ P ≤ 10 ∧ S ≤ 8 ∧ G ≤ 4 ∧ Q ≤ 20) ∧ (ρ 2 0 0 = nI N ∧ ρ 2 0 1 = nI P ∧ ρ 2 0 2 = nI S ∧ ρ 2 0 3 = nI G ∧ ρ 2 0 5 = nI Q ∧ ∃ w : Nat, ρ 2 0 4 = nI w ∧ w ≤ 9) ∧ (∀ p, p < P → vP (ρ 5 p) N) ∧ (∀ s, s < S → vS (ρ 7 s) N) ∧ (∀ g, g < G → vG (ρ 9 g) N) ∧ (∀ k, k < Q → vQ (ρ 4 k) N) ∧ ∀ x, x < 12 → ∃ w : Nat, ρ 11 0 x = nI w ∧ w < 2 ^ N
theorem RVN.cg {ρ ρ' : sMem} {N P S G Q : Nat} (h : RVN ρ N P S G Q) (h2 : ∀ i, i = 2 ∨ i = 4 ∨ i = 5 ∨ i = 7 ∨ i = 9 ∨ i = 11 → ρ' i = ρ i) : RVN ρ' N P S G Q := by
  unfold RVN
  rw [h2 2 (by omega), h2 4 (by omega), h2 5 (by omega), h2 7 (by omega), h2 9 (by omega), h2 11 (by omega)]
  exact h
theorem vP.pw {r r' : Nat → Int32} {N : Nat} (h : vP r N) (e : ∀ k, k < 5 → r' k = r k) : vP r' N := by
  unfold vP
  rw [e 0 (by decide), e 1 (by decide), e 2 (by decide), e 3 (by decide), e 4 (by decide)]
  exact h
theorem vS.pw {r r' : Nat → Int32} {N : Nat} (h : vS r N) (e : ∀ k, k < 5 → r' k = r k) : vS r' N := by
  unfold vS
  rw [e 0 (by decide), e 1 (by decide), e 2 (by decide), e 3 (by decide), e 4 (by decide)]
  exact h
theorem vG.pw {r r' : Nat → Int32} {N : Nat} (h : vG r N) (e : ∀ k, k < 2 → r' k = r k) : vG r' N := by
  unfold vG
  rw [e 0 (by decide), e 1 (by decide)]
  exact h
theorem vQ.pw {r r' : Nat → Int32} {N : Nat} (h : vQ r N) (e : ∀ k, k < 3 → r' k = r k) : vQ r' N := by
  unfold vQ
  rw [e 0 (by decide), e 1 (by decide), e 2 (by decide)]
  exact h
theorem RVN_places {ρ : sMem} {N K : Nat} (h : RVN ρ N 0 0 0 0) (hK : 2 ≤ K) (hK2 : K ≤ 12) (h0 : ∀ x, x < 12 → ρ 11 0 x = 0) : RVN (sUp ρ 2 0 0 (nI K)) K 0 0 0 0 := by
  obtain ⟨b, ⟨e0, e1, e2, e3, e5, e4⟩, -⟩ := h
  refine ⟨⟨hK, hK2, by omega, by omega, by omega, by omega⟩, ⟨by simp [sUp], by simp [sUp, e1], by simp [sUp, e2], by simp [sUp, e3], by simp [sUp, e5], by simpa [sUp] using e4⟩, fun _ q => absurd q (Nat.not_lt_zero _), fun _ q => absurd q (Nat.not_lt_zero _), fun _ q => absurd q (Nat.not_lt_zero _), fun _ q => absurd q (Nat.not_lt_zero _), fun x hx => ⟨0, ?_, Nat.two_pow_pos K⟩⟩
  rw [sUp_off (by decide)]
  exact h0 x hx
theorem RVN_law {ρ : sMem} {N P S G Q K : Nat} (h : RVN ρ N P S G Q) (hK : K ≤ 9) : RVN (sUp ρ 2 0 4 (nI K)) N P S G Q := by
  obtain ⟨b, ⟨e0, e1, e2, e3, e5, e4⟩, hp, hs, hg, hq, hx⟩ := h
  refine ⟨b, ⟨by simp [sUp, e0], by simp [sUp, e1], by simp [sUp, e2], by simp [sUp, e3], by simp [sUp, e5], K, by simp [sUp], hK⟩, ?_, ?_, ?_, ?_, ?_⟩
  all_goals (rw [sUp_off (by decide)]; assumption)
theorem RVN_person {ρ : sMem} {N P S G Q a b m v k : Nat} (h : RVN ρ N P S G Q) (hP : P < 10) (ha : a < N) (hb9 : b < N) (hab : a ≠ b) (hm : m ≤ 500) (hv1 : 1 ≤ v) (hv : v ≤ 99) (hk : k < 2 ^ N) : RVN (sUp (sUp (sUp (sUp (sUp (sUp ρ 5 P 0 (nI a)) 5 P 1 (nI b)) 5 P 2 (nI m)) 5 P 3 (nI v)) 5 P 4 (nI k)) 2 0 1 (nI (P + 1))) N (P + 1) S G Q := by
  obtain ⟨bb, ⟨e0, e1, e2, e3, e5, e4⟩, hp, hs, hg, hq, hx⟩ := h
  refine ⟨⟨bb.1, bb.2.1, by omega, bb.2.2.2⟩, ⟨by simp [sUp, e0], by simp [sUp], by simp [sUp, e2], by simp [sUp, e3], by simp [sUp, e5], by simpa [sUp] using e4⟩, fun p hp9 => ?_, ?_, ?_, ?_, ?_⟩
  · by_cases e : p = P
    · subst e
      exact ⟨a, b, m, v, k, ⟨by simp [sUp], ha⟩, ⟨by simp [sUp], hb9⟩, hab, ⟨by simp [sUp], hm⟩, ⟨by simp [sUp], hv1, hv⟩, by simp [sUp], hk⟩
    · exact (hp p (by omega)).pw (fun k _ => by simp [sUp, e])
  all_goals (rw [sUp_off (by decide), sUp_off (by decide), sUp_off (by decide), sUp_off (by decide), sUp_off (by decide), sUp_off (by decide)]; assumption)
theorem RVN_stranger {ρ : sMem} {N P S G Q a b m : Nat} (h : RVN ρ N P S G Q) (hS : S < 8) (ha : a < N) (hb9 : b < N) (hab : a ≠ b) (hm : m ≤ 500) : RVN (sUp (sUp (sUp (sUp (sUp (sUp ρ 7 S 0 (nI a)) 7 S 1 (nI b)) 7 S 2 (nI m)) 7 S 3 (nI 8)) 7 S 4 (nI 0)) 2 0 2 (nI (S + 1))) N P (S + 1) G Q := by
  obtain ⟨bb, ⟨e0, e1, e2, e3, e5, e4⟩, hp, hs, hg, hq, hx⟩ := h
  refine ⟨⟨bb.1, bb.2.1, bb.2.2.1, by omega, bb.2.2.2.2⟩, ⟨by simp [sUp, e0], by simp [sUp, e1], by simp [sUp], by simp [sUp, e3], by simp [sUp, e5], by simpa [sUp] using e4⟩, ?_, fun p hp9 => ?_, ?_, ?_, ?_⟩
  rotate_left
  · by_cases e : p = S
    · subst e
      exact ⟨a, b, m, 8, 0, ⟨by simp [sUp], ha⟩, ⟨by simp [sUp], hb9⟩, hab, ⟨by simp [sUp], hm⟩, ⟨by simp [sUp], by decide, by decide⟩, by simp [sUp], Nat.two_pow_pos N⟩
    · exact (hs p (by omega)).pw (fun k _ => by simp [sUp, e])
  all_goals (rw [sUp_off (by decide), sUp_off (by decide), sUp_off (by decide), sUp_off (by decide), sUp_off (by decide), sUp_off (by decide)]; assumption)
theorem RVN_guide {ρ : sMem} {N P S G Q a b : Nat} (h : RVN ρ N P S G Q) (hG : G < 4) (ha : a < N) (hb9 : b ≤ 9) : RVN (sUp (sUp (sUp ρ 9 G 0 (nI a)) 9 G 1 (nI b)) 2 0 3 (nI (G + 1))) N P S (G + 1) Q := by
  obtain ⟨bb, ⟨e0, e1, e2, e3, e5, e4⟩, hp, hs, hg, hq, hx⟩ := h
  refine ⟨⟨bb.1, bb.2.1, bb.2.2.1, bb.2.2.2.1, by omega, bb.2.2.2.2.2⟩, ⟨by simp [sUp, e0], by simp [sUp, e1], by simp [sUp, e2], by simp [sUp], by simp [sUp, e5], by simpa [sUp] using e4⟩, ?_, ?_, fun p hp9 => ?_, ?_, ?_⟩
  rotate_left 2
  · by_cases e : p = G
    · subst e
      exact ⟨a, b, ⟨by simp [sUp], ha⟩, by simp [sUp], hb9⟩
    · exact (hg p (by omega)).pw (fun k _ => by simp [sUp, e])
  all_goals (rw [sUp_off (by decide), sUp_off (by decide), sUp_off (by decide)]; assumption)
theorem RVN_street {ρ : sMem} {N P S G Q a b m : Nat} (h : RVN ρ N P S G Q) (hQ : Q < 20) (ha : a < N) (hb9 : b < N) (hab : a ≠ b) (hm1 : 1 ≤ m) (hm : m ≤ 60) : RVN (sUp (sUp (sUp (sUp ρ 4 Q 0 (nI a)) 4 Q 1 (nI b)) 4 Q 2 (nI m)) 2 0 5 (nI (Q + 1))) N P S G (Q + 1) := by
  obtain ⟨bb, ⟨e0, e1, e2, e3, e5, e4⟩, hp, hs, hg, hq, hx⟩ := h
  refine ⟨⟨bb.1, bb.2.1, bb.2.2.1, bb.2.2.2.1, bb.2.2.2.2.1, by omega⟩, ⟨by simp [sUp, e0], by simp [sUp, e1], by simp [sUp, e2], by simp [sUp, e3], by simp [sUp], by simpa [sUp] using e4⟩, ?_, ?_, ?_, fun p hp9 => ?_, ?_⟩
  rotate_left 3
  · by_cases e : p = Q
    · subst e
      exact ⟨a, b, m, ⟨by simp [sUp], ha⟩, ⟨by simp [sUp], hb9⟩, hab, by simp [sUp], hm1, hm⟩
    · exact (hq p (by omega)).pw (fun k _ => by simp [sUp, e])
  all_goals (rw [sUp_off (by decide), sUp_off (by decide), sUp_off (by decide), sUp_off (by decide)]; assumption)
theorem RVN_not {ρ : sMem} {N P S G Q q k : Nat} (h : RVN ρ N P S G Q) (hk : k < 2 ^ N) : RVN (sUp ρ 5 q 4 (nI k)) N P S G Q := by
  obtain ⟨bb, ee, hp, hs, hg, hq, hx⟩ := h
  refine ⟨bb, by rw [sUp_off (by decide)]; exact ee, fun p hp9 => ?_, ?_, ?_, ?_, ?_⟩
  · by_cases e : p = q
    · subst e
      obtain ⟨a, b, m, v, k0, h0, h1, h2, h3, h4, h5⟩ := hp p hp9
      exact ⟨a, b, m, v, k, by simpa [sUp] using h0, by simpa [sUp] using h1, h2, by simpa [sUp] using h3, by simpa [sUp] using h4, by simp [sUp], hk⟩
    · rw [sUp_rowne e]; exact hp p hp9
  all_goals (rw [sUp_off (by decide)]; assumption)
theorem RVN_finds {ρ : sMem} {N P S G Q q k : Nat} (h : RVN ρ N P S G Q) (hk : k < 2 ^ N) : RVN (sUp ρ 7 q 4 (nI k)) N P S G Q := by
  obtain ⟨bb, ee, hp, hs, hg, hq, hx⟩ := h
  refine ⟨bb, by rw [sUp_off (by decide)]; exact ee, ?_, fun p hp9 => ?_, ?_, ?_, ?_⟩
  rotate_left
  · by_cases e : p = q
    · subst e
      obtain ⟨a, b, m, v, k0, h0, h1, h2, h3, h4, h5⟩ := hs p hp9
      exact ⟨a, b, m, v, k, by simpa [sUp] using h0, by simpa [sUp] using h1, h2, by simpa [sUp] using h3, by simpa [sUp] using h4, by simp [sUp], hk⟩
    · rw [sUp_rowne e]; exact hs p hp9
  all_goals (rw [sUp_off (by decide)]; assumption)
theorem RVN_chance {ρ : sMem} {N P S G Q q c : Nat} (h : RVN ρ N P S G Q) (hc1 : 1 ≤ c) (hc : c ≤ 8) : RVN (sUp ρ 7 q 3 (nI c)) N P S G Q := by
  obtain ⟨bb, ee, hp, hs, hg, hq, hx⟩ := h
  refine ⟨bb, by rw [sUp_off (by decide)]; exact ee, ?_, fun p hp9 => ?_, ?_, ?_, ?_⟩
  rotate_left
  · by_cases e : p = q
    · subst e
      obtain ⟨a, b, m, v, k0, h0, h1, h2, h3, h4, h5⟩ := hs p hp9
      exact ⟨a, b, m, c, k0, by simpa [sUp] using h0, by simpa [sUp] using h1, h2, by simpa [sUp] using h3, ⟨by simp [sUp], hc1, hc⟩, by simpa [sUp] using h5⟩
    · rw [sUp_rowne e]; exact hs p hp9
  all_goals (rw [sUp_off (by decide)]; assumption)
theorem RVN_sign {ρ : sMem} {N P S G Q q k : Nat} (h : RVN ρ N P S G Q) (hk : k < 2 ^ N) : RVN (sUp ρ 11 0 q (nI k)) N P S G Q := by
  obtain ⟨bb, ee, hp, hs, hg, hq, hx⟩ := h
  refine ⟨bb, by rw [sUp_off (by decide)]; exact ee, ?_, ?_, ?_, ?_, fun x hx9 => ?_⟩
  rotate_left 4
  · by_cases e : x = q
    · subst e
      exact ⟨k, sUp_at _ _ _ _ _, hk⟩
    · rw [sUp_k e]; exact hx x hx9
  all_goals (rw [sUp_off (by decide)]; assumption)
theorem nI_andn {k z : Nat} (hk : k < 2 ^ 12) (hz : z < 12) : nI k &&& (((1 : Int32) <<< (nI z &&& 31)) ^^^ Int32.ofInt (-1)) = nI (k &&& (4095 ^^^ 2 ^ z)) := by
  rw [nI_shl z (by omega)]
  apply Int32.toBitVec_inj.mp
  rw [Int32.toBitVec_and, Int32.toBitVec_xor]
  show BitVec.ofNat 32 k &&& (BitVec.ofNat 32 (2 ^ z) ^^^ BitVec.ofInt 32 (-1)) = BitVec.ofNat 32 (k &&& (4095 ^^^ 2 ^ z))
  apply BitVec.eq_of_getLsbD_eq
  intro i hi
  have hm1 : (BitVec.ofInt 32 (-1)).getLsbD i = true := by
    have : BitVec.ofInt 32 (-1) = BitVec.allOnes 32 := by decide
    rw [this, BitVec.getLsbD_allOnes]
    simp [hi]
  rw [BitVec.getLsbD_and, BitVec.getLsbD_xor, hm1, BitVec.getLsbD_ofNat, BitVec.getLsbD_ofNat, BitVec.getLsbD_ofNat, Nat.testBit_and, Nat.testBit_xor]
  by_cases h12 : i < 12
  · have : (4095 : Nat).testBit i = true := by
      have h9 : ∀ i, i < 12 → (4095 : Nat).testBit i = true := by decide
      exact h9 i h12
    rw [this]
    simp [hi]
  · have : k.testBit i = false := Nat.testBit_lt_two_pow (Nat.lt_of_lt_of_le hk (Nat.pow_le_pow_right (by decide) (by omega)))
    rw [this]
    simp
theorem sUp_cgi {m m' : sMem} {a b c : Nat} {v v' : Int32} {i : Nat} (h : m i = m' i) (hv : v = v') : sUp m a b c v i = sUp m' a b c v' i := by
  funext y z
  simp only [sUp]
  rw [h, hv]
theorem clE_i (ρ : sMem) (i : Nat) (h : i ≠ 0) : clE ρ i = ρ i := by
  unfold clE
  split
  · split
    · exact pS_i _ _ _ _ _ h
    · exact pS_i _ _ _ _ _ h
  · rfl
theorem clE_ok {ρ : sMem} (h : clE ρ 0 0 5 = 0) : ρ 0 0 5 = 0 := by
  by_cases e : ρ 0 0 5 = 0
  · exact e
  · have : clE ρ = ρ := if_neg e
    rw [this] at h
    exact h
