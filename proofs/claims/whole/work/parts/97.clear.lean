/-! THE CLASS: Reader, a clause and the text -/
theorem CSR.u7 {σ ρ : sMem} {n : Nat} (h : CSR σ ρ n) (v : Int32) : CSR σ (sUp ρ 0 0 7 v) n := by
  unfold CSR
  rw [sUp_off (show (1 : Nat) ≠ 0 by decide), sUp_k (by decide), sUp_k (by decide), sUp_k (by decide), sUp_k (by decide)]
  refine ⟨h.1, h.2.1, h.2.2.1, h.2.2.2.1, ?_, h.2.2.2.2.2⟩
  obtain ⟨n', a, h1, h2, h3, h4⟩ := h.2.2.2.2.1
  exact ⟨n', a, by rw [sUp_k (by decide)]; exact h1, h2, by rw [sUp_k (by decide)]; exact h3, h4⟩
theorem CSR.ft {σ ρ : sMem} {n : Nat} (h : CSR σ ρ n) {a b : Nat} {f fa : Int32} (hf : ¬ f = 0) (ha : a ≤ n) (hb9 : b ≤ n) : CSR (cS σ a f fa) (pS ρ b f fa) n := by
  refine ⟨?_, by rw [pS_0 _ _ _ _ _ (by decide) (by decide) (by decide)]; exact h.2.1, by rw [cS_0, pS_5], by rw [cS_1, pS_6], h.2.2.2.2.1.pS f fa (by rw [h.sz]; exact hb9), a, cS_4 _ _ _ _, ha, fun e => absurd ((pS_5 _ _ _ _).symm.trans e) hf⟩
  rw [pS_i _ _ _ _ _ (by decide)]
  exact h.1.cS a f fa
def flB (P S G Q j : Nat) : Bool := if j = 1 then decide (20 ≤ Q) else if j = 2 then decide (10 ≤ P) else if j = 4 then decide (8 ≤ S) else if j = 8 then decide (4 ≤ G) else false
theorem ex_readPlaces {ρ : sMem} {N P S G Q : Nat} (t0 : ρ 2 0 0 = nI N) (t1 : ρ 2 0 1 = nI P) (t2 : ρ 2 0 2 = nI S) (t3 : ρ 2 0 3 = nI G) (t5 : ρ 2 0 5 = nI Q) (b1 : P ≤ 10) (b2 : S ≤ 8) (b3 : G ≤ 4) (b5 : Q ≤ 20) : cuM (swM ρ (kmap 0) (ρ 2 0 0 - 1)) (kmap 0) = sUp (numM ρ 2 12 (-1)).2 2 0 0 (numM ρ 2 12 (-1)).1 := by
  have ek : kmap 0 = nI 0 := rfl
  rw [ek]
  rw [swM_0]
  rfl
theorem ex_readStreet {ρ : sMem} {N P S G Q : Nat} (t0 : ρ 2 0 0 = nI N) (t1 : ρ 2 0 1 = nI P) (t2 : ρ 2 0 2 = nI S) (t3 : ρ 2 0 3 = nI G) (t5 : ρ 2 0 5 = nI Q) (b1 : P ≤ 10) (b2 : S ≤ 8) (b3 : G ≤ 4) (b5 : Q ≤ 20) : cuM (swM ρ (kmap 1) (ρ 2 0 0 - 1)) (kmap 1) = sUp (sUp (numM (sUp (numM (sUp (numM ρ 0 (nI N - 1) (-1)).2 4 Q 0 (numM ρ 0 (nI N - 1) (-1)).1) 0 (nI N - 1) ((sUp (numM ρ 0 (nI N - 1) (-1)).2 4 Q 0 (numM ρ 0 (nI N - 1) (-1)).1) 4 Q 0)).2 4 Q 1 (numM (sUp (numM ρ 0 (nI N - 1) (-1)).2 4 Q 0 (numM ρ 0 (nI N - 1) (-1)).1) 0 (nI N - 1) ((sUp (numM ρ 0 (nI N - 1) (-1)).2 4 Q 0 (numM ρ 0 (nI N - 1) (-1)).1) 4 Q 0)).1) 1 60 (-1)).2 4 Q 2 (numM (sUp (numM (sUp (numM ρ 0 (nI N - 1) (-1)).2 4 Q 0 (numM ρ 0 (nI N - 1) (-1)).1) 0 (nI N - 1) ((sUp (numM ρ 0 (nI N - 1) (-1)).2 4 Q 0 (numM ρ 0 (nI N - 1) (-1)).1) 4 Q 0)).2 4 Q 1 (numM (sUp (numM ρ 0 (nI N - 1) (-1)).2 4 Q 0 (numM ρ 0 (nI N - 1) (-1)).1) 0 (nI N - 1) ((sUp (numM ρ 0 (nI N - 1) (-1)).2 4 Q 0 (numM ρ 0 (nI N - 1) (-1)).1) 4 Q 0)).1) 1 60 (-1)).1) 2 0 5 ((sUp (numM (sUp (numM (sUp (numM ρ 0 (nI N - 1) (-1)).2 4 Q 0 (numM ρ 0 (nI N - 1) (-1)).1) 0 (nI N - 1) ((sUp (numM ρ 0 (nI N - 1) (-1)).2 4 Q 0 (numM ρ 0 (nI N - 1) (-1)).1) 4 Q 0)).2 4 Q 1 (numM (sUp (numM ρ 0 (nI N - 1) (-1)).2 4 Q 0 (numM ρ 0 (nI N - 1) (-1)).1) 0 (nI N - 1) ((sUp (numM ρ 0 (nI N - 1) (-1)).2 4 Q 0 (numM ρ 0 (nI N - 1) (-1)).1) 4 Q 0)).1) 1 60 (-1)).2 4 Q 2 (numM (sUp (numM (sUp (numM ρ 0 (nI N - 1) (-1)).2 4 Q 0 (numM ρ 0 (nI N - 1) (-1)).1) 0 (nI N - 1) ((sUp (numM ρ 0 (nI N - 1) (-1)).2 4 Q 0 (numM ρ 0 (nI N - 1) (-1)).1) 4 Q 0)).2 4 Q 1 (numM (sUp (numM ρ 0 (nI N - 1) (-1)).2 4 Q 0 (numM ρ 0 (nI N - 1) (-1)).1) 0 (nI N - 1) ((sUp (numM ρ 0 (nI N - 1) (-1)).2 4 Q 0 (numM ρ 0 (nI N - 1) (-1)).1) 4 Q 0)).1) 1 60 (-1)).1) 2 0 5 + 1) := by
  have ek : kmap 1 = nI 5 := rfl
  rw [ek]
  rw [swM_5]
  have ec : ∀ X : sMem, cuM X (nI 5) = sUp X 2 0 5 (X 2 0 5 + 1) := fun X => rfl
  rw [ec, t5, t0, nI_clamp (by omega)]
  rfl
theorem ex_readPerson {ρ : sMem} {N P S G Q : Nat} (t0 : ρ 2 0 0 = nI N) (t1 : ρ 2 0 1 = nI P) (t2 : ρ 2 0 2 = nI S) (t3 : ρ 2 0 3 = nI G) (t5 : ρ 2 0 5 = nI Q) (b1 : P ≤ 10) (b2 : S ≤ 8) (b3 : G ≤ 4) (b5 : Q ≤ 20) : cuM (swM ρ (kmap 2) (ρ 2 0 0 - 1)) (kmap 2) = sUp (sUp (sUp (numM (sUp (numM (sUp (numM (sUp (numM ρ 0 (nI N - 1) (-1)).2 5 P 0 (numM ρ 0 (nI N - 1) (-1)).1) 0 (nI N - 1) ((sUp (numM ρ 0 (nI N - 1) (-1)).2 5 P 0 (numM ρ 0 (nI N - 1) (-1)).1) 5 P 0)).2 5 P 1 (numM (sUp (numM ρ 0 (nI N - 1) (-1)).2 5 P 0 (numM ρ 0 (nI N - 1) (-1)).1) 0 (nI N - 1) ((sUp (numM ρ 0 (nI N - 1) (-1)).2 5 P 0 (numM ρ 0 (nI N - 1) (-1)).1) 5 P 0)).1) 0 500 (-1)).2 5 P 2 (numM (sUp (numM (sUp (numM ρ 0 (nI N - 1) (-1)).2 5 P 0 (numM ρ 0 (nI N - 1) (-1)).1) 0 (nI N - 1) ((sUp (numM ρ 0 (nI N - 1) (-1)).2 5 P 0 (numM ρ 0 (nI N - 1) (-1)).1) 5 P 0)).2 5 P 1 (numM (sUp (numM ρ 0 (nI N - 1) (-1)).2 5 P 0 (numM ρ 0 (nI N - 1) (-1)).1) 0 (nI N - 1) ((sUp (numM ρ 0 (nI N - 1) (-1)).2 5 P 0 (numM ρ 0 (nI N - 1) (-1)).1) 5 P 0)).1) 0 500 (-1)).1) 1 99 (-1)).2 5 P 3 (numM (sUp (numM (sUp (numM (sUp (numM ρ 0 (nI N - 1) (-1)).2 5 P 0 (numM ρ 0 (nI N - 1) (-1)).1) 0 (nI N - 1) ((sUp (numM ρ 0 (nI N - 1) (-1)).2 5 P 0 (numM ρ 0 (nI N - 1) (-1)).1) 5 P 0)).2 5 P 1 (numM (sUp (numM ρ 0 (nI N - 1) (-1)).2 5 P 0 (numM ρ 0 (nI N - 1) (-1)).1) 0 (nI N - 1) ((sUp (numM ρ 0 (nI N - 1) (-1)).2 5 P 0 (numM ρ 0 (nI N - 1) (-1)).1) 5 P 0)).1) 0 500 (-1)).2 5 P 2 (numM (sUp (numM (sUp (numM ρ 0 (nI N - 1) (-1)).2 5 P 0 (numM ρ 0 (nI N - 1) (-1)).1) 0 (nI N - 1) ((sUp (numM ρ 0 (nI N - 1) (-1)).2 5 P 0 (numM ρ 0 (nI N - 1) (-1)).1) 5 P 0)).2 5 P 1 (numM (sUp (numM ρ 0 (nI N - 1) (-1)).2 5 P 0 (numM ρ 0 (nI N - 1) (-1)).1) 0 (nI N - 1) ((sUp (numM ρ 0 (nI N - 1) (-1)).2 5 P 0 (numM ρ 0 (nI N - 1) (-1)).1) 5 P 0)).1) 0 500 (-1)).1) 1 99 (-1)).1) 5 P 4 ((1 <<< ((nI N - 1 + 1) &&& 31)) - 1)) 2 0 1 ((sUp (sUp (numM (sUp (numM (sUp (numM (sUp (numM ρ 0 (nI N - 1) (-1)).2 5 P 0 (numM ρ 0 (nI N - 1) (-1)).1) 0 (nI N - 1) ((sUp (numM ρ 0 (nI N - 1) (-1)).2 5 P 0 (numM ρ 0 (nI N - 1) (-1)).1) 5 P 0)).2 5 P 1 (numM (sUp (numM ρ 0 (nI N - 1) (-1)).2 5 P 0 (numM ρ 0 (nI N - 1) (-1)).1) 0 (nI N - 1) ((sUp (numM ρ 0 (nI N - 1) (-1)).2 5 P 0 (numM ρ 0 (nI N - 1) (-1)).1) 5 P 0)).1) 0 500 (-1)).2 5 P 2 (numM (sUp (numM (sUp (numM ρ 0 (nI N - 1) (-1)).2 5 P 0 (numM ρ 0 (nI N - 1) (-1)).1) 0 (nI N - 1) ((sUp (numM ρ 0 (nI N - 1) (-1)).2 5 P 0 (numM ρ 0 (nI N - 1) (-1)).1) 5 P 0)).2 5 P 1 (numM (sUp (numM ρ 0 (nI N - 1) (-1)).2 5 P 0 (numM ρ 0 (nI N - 1) (-1)).1) 0 (nI N - 1) ((sUp (numM ρ 0 (nI N - 1) (-1)).2 5 P 0 (numM ρ 0 (nI N - 1) (-1)).1) 5 P 0)).1) 0 500 (-1)).1) 1 99 (-1)).2 5 P 3 (numM (sUp (numM (sUp (numM (sUp (numM ρ 0 (nI N - 1) (-1)).2 5 P 0 (numM ρ 0 (nI N - 1) (-1)).1) 0 (nI N - 1) ((sUp (numM ρ 0 (nI N - 1) (-1)).2 5 P 0 (numM ρ 0 (nI N - 1) (-1)).1) 5 P 0)).2 5 P 1 (numM (sUp (numM ρ 0 (nI N - 1) (-1)).2 5 P 0 (numM ρ 0 (nI N - 1) (-1)).1) 0 (nI N - 1) ((sUp (numM ρ 0 (nI N - 1) (-1)).2 5 P 0 (numM ρ 0 (nI N - 1) (-1)).1) 5 P 0)).1) 0 500 (-1)).2 5 P 2 (numM (sUp (numM (sUp (numM ρ 0 (nI N - 1) (-1)).2 5 P 0 (numM ρ 0 (nI N - 1) (-1)).1) 0 (nI N - 1) ((sUp (numM ρ 0 (nI N - 1) (-1)).2 5 P 0 (numM ρ 0 (nI N - 1) (-1)).1) 5 P 0)).2 5 P 1 (numM (sUp (numM ρ 0 (nI N - 1) (-1)).2 5 P 0 (numM ρ 0 (nI N - 1) (-1)).1) 0 (nI N - 1) ((sUp (numM ρ 0 (nI N - 1) (-1)).2 5 P 0 (numM ρ 0 (nI N - 1) (-1)).1) 5 P 0)).1) 0 500 (-1)).1) 1 99 (-1)).1) 5 P 4 ((1 <<< ((nI N - 1 + 1) &&& 31)) - 1)) 2 0 1 + 1) := by
  have ek : kmap 2 = nI 1 := rfl
  rw [ek]
  rw [swM_1]
  have ec : ∀ X : sMem, cuM X (nI 1) = sUp X 2 0 1 (X 2 0 1 + 1) := fun X => rfl
  rw [ec, t1, t0, nI_clamp (by omega)]
  rfl
theorem ex_readNot {ρ : sMem} {N P S G Q : Nat} (t0 : ρ 2 0 0 = nI N) (t1 : ρ 2 0 1 = nI P) (t2 : ρ 2 0 2 = nI S) (t3 : ρ 2 0 3 = nI G) (t5 : ρ 2 0 5 = nI Q) (b1 : P ≤ 10) (b2 : S ≤ 8) (b3 : G ≤ 4) (b5 : Q ≤ 20) : cuM (swM ρ (kmap 3) (ρ 2 0 0 - 1)) (kmap 3) = if (numM (numM ρ 0 (nI P - 1) (-1)).2 0 (nI N - 1) (-1)).2 0 0 5 = 0 then sUp (numM (numM ρ 0 (nI P - 1) (-1)).2 0 (nI N - 1) (-1)).2 5 (numM ρ 0 (nI P - 1) (-1)).1.toNatClampNeg 4 ((numM (numM ρ 0 (nI P - 1) (-1)).2 0 (nI N - 1) (-1)).2 5 (numM ρ 0 (nI P - 1) (-1)).1.toNatClampNeg 4 &&& ((1 <<< ((numM (numM ρ 0 (nI P - 1) (-1)).2 0 (nI N - 1) (-1)).1 &&& 31)) ^^^ (-1))) else (numM (numM ρ 0 (nI P - 1) (-1)).2 0 (nI N - 1) (-1)).2 := by
  have ek : kmap 3 = nI 6 := rfl
  rw [ek]
  have e9 : swM ρ (nI 6) (ρ 2 0 0 - 1) = rdO ρ (nI 6) (ρ 2 0 0 - 1) := rfl
  rw [e9]
  unfold rdO
  rw [t0]
  have ei : ρ 2 0 (if nI 6 = 6 then 1 else 2) = nI P := t1
  rw [ei]
  rfl
theorem ex_readStranger {ρ : sMem} {N P S G Q : Nat} (t0 : ρ 2 0 0 = nI N) (t1 : ρ 2 0 1 = nI P) (t2 : ρ 2 0 2 = nI S) (t3 : ρ 2 0 3 = nI G) (t5 : ρ 2 0 5 = nI Q) (b1 : P ≤ 10) (b2 : S ≤ 8) (b3 : G ≤ 4) (b5 : Q ≤ 20) : cuM (swM ρ (kmap 4) (ρ 2 0 0 - 1)) (kmap 4) = sUp (sUp (sUp (sUp (numM (sUp (numM (sUp (numM ρ 0 (nI N - 1) (-1)).2 7 S 0 (numM ρ 0 (nI N - 1) (-1)).1) 0 (nI N - 1) ((sUp (numM ρ 0 (nI N - 1) (-1)).2 7 S 0 (numM ρ 0 (nI N - 1) (-1)).1) 7 S 0)).2 7 S 1 (numM (sUp (numM ρ 0 (nI N - 1) (-1)).2 7 S 0 (numM ρ 0 (nI N - 1) (-1)).1) 0 (nI N - 1) ((sUp (numM ρ 0 (nI N - 1) (-1)).2 7 S 0 (numM ρ 0 (nI N - 1) (-1)).1) 7 S 0)).1) 0 500 (-1)).2 7 S 2 (numM (sUp (numM (sUp (numM ρ 0 (nI N - 1) (-1)).2 7 S 0 (numM ρ 0 (nI N - 1) (-1)).1) 0 (nI N - 1) ((sUp (numM ρ 0 (nI N - 1) (-1)).2 7 S 0 (numM ρ 0 (nI N - 1) (-1)).1) 7 S 0)).2 7 S 1 (numM (sUp (numM ρ 0 (nI N - 1) (-1)).2 7 S 0 (numM ρ 0 (nI N - 1) (-1)).1) 0 (nI N - 1) ((sUp (numM ρ 0 (nI N - 1) (-1)).2 7 S 0 (numM ρ 0 (nI N - 1) (-1)).1) 7 S 0)).1) 0 500 (-1)).1) 7 S 3 8) 7 S 4 0) 2 0 2 ((sUp (sUp (sUp (numM (sUp (numM (sUp (numM ρ 0 (nI N - 1) (-1)).2 7 S 0 (numM ρ 0 (nI N - 1) (-1)).1) 0 (nI N - 1) ((sUp (numM ρ 0 (nI N - 1) (-1)).2 7 S 0 (numM ρ 0 (nI N - 1) (-1)).1) 7 S 0)).2 7 S 1 (numM (sUp (numM ρ 0 (nI N - 1) (-1)).2 7 S 0 (numM ρ 0 (nI N - 1) (-1)).1) 0 (nI N - 1) ((sUp (numM ρ 0 (nI N - 1) (-1)).2 7 S 0 (numM ρ 0 (nI N - 1) (-1)).1) 7 S 0)).1) 0 500 (-1)).2 7 S 2 (numM (sUp (numM (sUp (numM ρ 0 (nI N - 1) (-1)).2 7 S 0 (numM ρ 0 (nI N - 1) (-1)).1) 0 (nI N - 1) ((sUp (numM ρ 0 (nI N - 1) (-1)).2 7 S 0 (numM ρ 0 (nI N - 1) (-1)).1) 7 S 0)).2 7 S 1 (numM (sUp (numM ρ 0 (nI N - 1) (-1)).2 7 S 0 (numM ρ 0 (nI N - 1) (-1)).1) 0 (nI N - 1) ((sUp (numM ρ 0 (nI N - 1) (-1)).2 7 S 0 (numM ρ 0 (nI N - 1) (-1)).1) 7 S 0)).1) 0 500 (-1)).1) 7 S 3 8) 7 S 4 0) 2 0 2 + 1) := by
  have ek : kmap 4 = nI 2 := rfl
  rw [ek]
  rw [swM_2]
  have ec : ∀ X : sMem, cuM X (nI 2) = sUp X 2 0 2 (X 2 0 2 + 1) := fun X => rfl
  rw [ec, t2, t0, nI_clamp (by omega)]
  rfl
theorem ex_readFinds {ρ : sMem} {N P S G Q : Nat} (t0 : ρ 2 0 0 = nI N) (t1 : ρ 2 0 1 = nI P) (t2 : ρ 2 0 2 = nI S) (t3 : ρ 2 0 3 = nI G) (t5 : ρ 2 0 5 = nI Q) (b1 : P ≤ 10) (b2 : S ≤ 8) (b3 : G ≤ 4) (b5 : Q ≤ 20) : cuM (swM ρ (kmap 5) (ρ 2 0 0 - 1)) (kmap 5) = if (numM (numM ρ 0 (nI S - 1) (-1)).2 0 (nI N - 1) (-1)).2 0 0 5 = 0 then sUp (numM (numM ρ 0 (nI S - 1) (-1)).2 0 (nI N - 1) (-1)).2 7 (numM ρ 0 (nI S - 1) (-1)).1.toNatClampNeg 4 ((numM (numM ρ 0 (nI S - 1) (-1)).2 0 (nI N - 1) (-1)).2 7 (numM ρ 0 (nI S - 1) (-1)).1.toNatClampNeg 4 ||| (1 <<< ((numM (numM ρ 0 (nI S - 1) (-1)).2 0 (nI N - 1) (-1)).1 &&& 31))) else (numM (numM ρ 0 (nI S - 1) (-1)).2 0 (nI N - 1) (-1)).2 := by
  have ek : kmap 5 = nI 7 := rfl
  rw [ek]
  have e9 : swM ρ (nI 7) (ρ 2 0 0 - 1) = rdO ρ (nI 7) (ρ 2 0 0 - 1) := rfl
  rw [e9]
  unfold rdO
  rw [t0]
  have ei : ρ 2 0 (if nI 7 = 6 then 1 else 2) = nI S := t2
  rw [ei]
  rfl
theorem ex_readChance {ρ : sMem} {N P S G Q : Nat} (t0 : ρ 2 0 0 = nI N) (t1 : ρ 2 0 1 = nI P) (t2 : ρ 2 0 2 = nI S) (t3 : ρ 2 0 3 = nI G) (t5 : ρ 2 0 5 = nI Q) (b1 : P ≤ 10) (b2 : S ≤ 8) (b3 : G ≤ 4) (b5 : Q ≤ 20) : cuM (swM ρ (kmap 6) (ρ 2 0 0 - 1)) (kmap 6) = if (numM (numM ρ 0 (nI S - 1) (-1)).2 1 8 (-1)).2 0 0 5 = 0 then sUp (numM (numM ρ 0 (nI S - 1) (-1)).2 1 8 (-1)).2 7 (numM ρ 0 (nI S - 1) (-1)).1.toNatClampNeg 3 ((numM (numM ρ 0 (nI S - 1) (-1)).2 1 8 (-1)).1) else (numM (numM ρ 0 (nI S - 1) (-1)).2 1 8 (-1)).2 := by
  have ek : kmap 6 = nI 8 := rfl
  rw [ek]
  have e9 : swM ρ (nI 8) (ρ 2 0 0 - 1) = rdO ρ (nI 8) (ρ 2 0 0 - 1) := rfl
  rw [e9]
  unfold rdO
  rw [t0]
  have ei : ρ 2 0 (if nI 8 = 6 then 1 else 2) = nI S := t2
  rw [ei]
  rfl
theorem ex_readSign {ρ : sMem} {N P S G Q : Nat} (t0 : ρ 2 0 0 = nI N) (t1 : ρ 2 0 1 = nI P) (t2 : ρ 2 0 2 = nI S) (t3 : ρ 2 0 3 = nI G) (t5 : ρ 2 0 5 = nI Q) (b1 : P ≤ 10) (b2 : S ≤ 8) (b3 : G ≤ 4) (b5 : Q ≤ 20) : cuM (swM ρ (kmap 7) (ρ 2 0 0 - 1)) (kmap 7) = if (numM (numM ρ 0 (nI N - 1) (-1)).2 0 (nI N - 1) (numM ρ 0 (nI N - 1) (-1)).1).2 0 0 5 = 0 then sUp (numM (numM ρ 0 (nI N - 1) (-1)).2 0 (nI N - 1) (numM ρ 0 (nI N - 1) (-1)).1).2 11 0 (numM ρ 0 (nI N - 1) (-1)).1.toNatClampNeg ((numM (numM ρ 0 (nI N - 1) (-1)).2 0 (nI N - 1) (numM ρ 0 (nI N - 1) (-1)).1).2 11 0 (numM ρ 0 (nI N - 1) (-1)).1.toNatClampNeg ||| (1 <<< ((numM (numM ρ 0 (nI N - 1) (-1)).2 0 (nI N - 1) (numM ρ 0 (nI N - 1) (-1)).1).1 &&& 31))) else (numM (numM ρ 0 (nI N - 1) (-1)).2 0 (nI N - 1) (numM ρ 0 (nI N - 1) (-1)).1).2 := by
  have ek : kmap 7 = nI 9 := rfl
  rw [ek]
  rw [swM_9]
  rw [t0]
  rfl
theorem ex_readGuide {ρ : sMem} {N P S G Q : Nat} (t0 : ρ 2 0 0 = nI N) (t1 : ρ 2 0 1 = nI P) (t2 : ρ 2 0 2 = nI S) (t3 : ρ 2 0 3 = nI G) (t5 : ρ 2 0 5 = nI Q) (b1 : P ≤ 10) (b2 : S ≤ 8) (b3 : G ≤ 4) (b5 : Q ≤ 20) : cuM (swM ρ (kmap 8) (ρ 2 0 0 - 1)) (kmap 8) = sUp (sUp (numM (sUp (numM ρ 0 (nI N - 1) (-1)).2 9 G 0 (numM ρ 0 (nI N - 1) (-1)).1) 0 9 (-1)).2 9 G 1 (numM (sUp (numM ρ 0 (nI N - 1) (-1)).2 9 G 0 (numM ρ 0 (nI N - 1) (-1)).1) 0 9 (-1)).1) 2 0 3 ((sUp (numM (sUp (numM ρ 0 (nI N - 1) (-1)).2 9 G 0 (numM ρ 0 (nI N - 1) (-1)).1) 0 9 (-1)).2 9 G 1 (numM (sUp (numM ρ 0 (nI N - 1) (-1)).2 9 G 0 (numM ρ 0 (nI N - 1) (-1)).1) 0 9 (-1)).1) 2 0 3 + 1) := by
  have ek : kmap 8 = nI 3 := rfl
  rw [ek]
  rw [swM_3]
  have ec : ∀ X : sMem, cuM X (nI 3) = sUp X 2 0 3 (X 2 0 3 + 1) := fun X => rfl
  rw [ec, t3, t0, nI_clamp (by omega)]
  rfl
theorem ex_readLaw {ρ : sMem} {N P S G Q : Nat} (t0 : ρ 2 0 0 = nI N) (t1 : ρ 2 0 1 = nI P) (t2 : ρ 2 0 2 = nI S) (t3 : ρ 2 0 3 = nI G) (t5 : ρ 2 0 5 = nI Q) (b1 : P ≤ 10) (b2 : S ≤ 8) (b3 : G ≤ 4) (b5 : Q ≤ 20) : cuM (swM ρ (kmap 9) (ρ 2 0 0 - 1)) (kmap 9) = sUp (numM ρ 0 9 (-1)).2 2 0 4 (numM ρ 0 9 (-1)).1 := by
  have ek : kmap 9 = nI 4 := rfl
  rw [ek]
  rw [swM_4]
  rfl
section
variable {l : Launch} {D0 : va_G} {b0 : Nat} {ty : Nat → ClassId} {ad av : Nat → Nat}
theorem c6_clear_36 (d : Nat) (σ : sMem) : sMet l D0 b0 ty lay (d + 1) mX6_clear [aR 37] σ (fun r σ' => r = [] ∧ (∀ i, i ≠ 37 → i ≠ 38 → σ' i = σ i) ∧ σ' 37 0 0 = nI 4 ∧ σ' 37 0 1 = nI 0 ∧ ∀ a b, a < 12 → b < 12 → σ' 38 a b = 1000000) := by
  refine sMet_intro lay_nd kX6_clear xX6_ok (by decide +kernel) rfl ?_
  intro K hK
  iterate 8 refine hK _ _ _ _ ?_
  have L12 : ∀ (f : Nat) (k : Nat) (μ : sMem), k + f = 12 → (∀ i, i ≠ 37 → i ≠ 38 → μ i = σ i) → μ 37 0 0 = nI 4 → μ 37 0 1 = nI 0 → (∀ a b, a < k → b < 12 → μ 38 a b = 1000000) → K 12 [some (aR 37), some (aI (nI k))] [] μ := by
    intro f
    induction f with
    | zero =>
      intro k μ hk hf h0 h1 hd
      iterate 3 refine hK _ _ _ _ ?_
      refine And.intro (fun _ => ?_) (fun h9 => absurd ((nI_leI (a := 12) (by decide) (by omega)).mpr (by omega)) h9)
      refine hK _ _ _ _ ?_
      exact ⟨rfl, hf, h0, h1, fun a b ha hb => hd a b (by omega) hb⟩
    | succ f ih =>
      intro k μ hk hf h0 h1 hd
      iterate 3 refine hK _ _ _ _ ?_
      refine And.intro (fun h9 => absurd ((nI_leI (a := 12) (by decide) (by omega)).mp h9) (by omega)) (fun _ => ?_)
      iterate 4 refine hK _ _ _ _ ?_
      refine And.intro (vp_in_nI (n := k) (by omega) (by decide)) ?_
      rw [nI_clamp (show k < 2 ^ 31 by omega)]
      iterate 2 refine hK _ _ _ _ ?_
      refine calD (cJ_fill38 _ _ k (by omega) _) ?_
      rintro r ν ⟨rfl, e1⟩
      show K 29 [some (aR 37), some (aI (nI k))] [] ν
      have hfν : ∀ i, i ≠ 38 → ν i = μ i := fun i q => by rw [e1]; unfold flR; rw [sRow_off q]
      have hrν : ∀ a, a ≠ k → ν 38 a = μ 38 a := fun a q => by rw [e1]; unfold flR; rw [sRow_ne q]
      have hvν : ∀ b, b < 12 → ν 38 k b = 1000000 := fun b q => by rw [e1]; unfold flR; rw [sRow_at, if_pos q]
      clear e1
      refine hK _ _ _ _ ?_
      show K _ _ _ _
      rw [show nI k + Int32.ofInt 1 = nI (k + 1) from nIs _]
      refine hK _ _ _ _ ?_
      refine ih (k + 1) ν (by omega) (fun i a b => (hfν i b).trans (hf i a b)) (by rw [hfν 37 (by decide)]; exact h0) (by rw [hfν 37 (by decide)]; exact h1) (fun a b ha hb => ?_)
      by_cases e : a = k
      · subst e; exact hvν b hb
      · rw [hrν a e]; exact hd a b (by omega) hb
  exact L12 12 0 _ (by omega) (fun i a b => by rw [sUp_off a, sUp_off a]) (by rw [sUp_k (by decide), sUp_at]; rfl) (by rw [sUp_at]; rfl) (fun a b ha _ => absurd ha (Nat.not_lt_zero _))
theorem c7_clear_36 (d : Nat) (σ ρ : sMem) (e0 : ρ 2 0 0 = nI 4) (e1 : ρ 2 0 1 = nI 0) (e2 : ρ 2 0 2 = nI 0) (e3 : ρ 2 0 3 = nI 0) (e4 : ρ 2 0 4 = nI 0) (e5 : ρ 2 0 5 = nI 0) (ex : ∀ x, x < 12 → ρ 11 0 x = 0) : sMet l D0 b0 ty lay (d + 2) mX7_clear [aR 36] σ (fun r σ' => r = [] ∧ (∀ i, i < 36 ∨ 54 ≤ i → σ' i = σ i) ∧ TWR σ' ρ 36) := by
  refine sMet_intro lay_nd kX7_clear xX7_ok (by decide +kernel) rfl ?_
  intro K hK
  iterate 3 refine hK _ _ _ _ ?_
  refine calD (c6_clear_36 _ _) ?_
  rintro r μ ⟨rfl, hf, h0, h1, hn⟩
  show K 7 [some (aR 36)] [] μ
  iterate 13 refine hK _ _ _ _ ?_
  refine calD (cJ_fill53 _ _ _) ?_
  rintro r ν ⟨rfl, eν⟩
  show K 30 [some (aR 36)] [] ν
  have hfν : ∀ i, i ≠ 53 → ν i = (sUp (sUp (sUp μ 36 0 1 (Int32.ofInt 0)) 36 0 7 (Int32.ofInt 0)) 36 0 13 (Int32.ofInt 0)) i := fun i q => by rw [eν]; unfold flR; rw [sRow_off q]
  have hvν : ∀ x, x < 12 → ν 53 0 x = 0 := fun x q => by rw [eν]; unfold flR; rw [sRow_at, if_pos q]; rfl
  clear eν
  iterate 4 refine hK _ _ _ _ ?_
  have r1 : rc ρ 1 = 0 := rc_at e1 (by decide)
  have r2 : rc ρ 2 = 0 := rc_at e2 (by decide)
  have r3 : rc ρ 3 = 0 := rc_at e3 (by decide)
  have r5 : rc ρ 5 = 0 := rc_at e5 (by decide)
  refine ⟨rfl, fun i hi => ?_, ⟨?_, ?_, ?_, ?_, ?_, ?_⟩, fun a b ha hb => ?_, ?_, ?_, ?_, fun x hx => ?_⟩
  · rw [sUp_off (by omega), hfν i (by omega), sUp_off (by omega), sUp_off (by omega), sUp_off (by omega)]; exact hf i (by omega) (by omega)
  · show sUp ν 36 0 17 (Int32.ofInt 0) 37 0 0 = _
    rw [sUp_off (by decide), hfν 37 (by decide), sUp_off (by decide), sUp_off (by decide), sUp_off (by decide), e0]; exact h0
  · show sUp ν 36 0 17 (Int32.ofInt 0) 37 0 1 = _
    rw [sUp_off (by decide), hfν 37 (by decide), sUp_off (by decide), sUp_off (by decide), sUp_off (by decide), e5]; exact h1
  · rw [sUp_k (by decide), hfν 36 (by decide), sUp_k (by decide), sUp_k (by decide), sUp_at, e1]; rfl
  · rw [sUp_k (by decide), hfν 36 (by decide), sUp_k (by decide), sUp_at, e2]; rfl
  · rw [sUp_k (by decide), hfν 36 (by decide), sUp_at, e3]; rfl
  · rw [sUp_at, e4]; rfl
  · show sUp ν 36 0 17 (Int32.ofInt 0) 38 a b = _
    rw [r5, sUp_off (by decide), hfν 38 (by decide), sUp_off (by decide), sUp_off (by decide), sUp_off (by decide)]; exact hn a b ha hb
  · rw [r1]; exact fun _ q => absurd q (Nat.not_lt_zero _)
  · rw [r2]; exact fun _ q => absurd q (Nat.not_lt_zero _)
  · rw [r3]; exact fun _ q => absurd q (Nat.not_lt_zero _)
  · show sUp ν 36 0 17 (Int32.ofInt 0) 53 0 x = _
    rw [sUp_off (by decide), ex x hx]; exact hvν x hx
theorem c4_isFull_36 (d : Nat) (σ : sMem) (P S G Q j : Nat) (hj : j < 10) (b1 : P ≤ 10) (b2 : S ≤ 8) (b3 : G ≤ 4) (b5 : Q ≤ 20) (c5 : σ 37 0 1 = nI Q) (c1 : σ 36 0 1 = nI P) (c2 : σ 36 0 7 = nI S) (c3 : σ 36 0 13 = nI G) : sMet l D0 b0 ty lay d mX4_isFull [aR 36, aI (nI j)] σ (fun r σ' => r = [aI (bI (flB P S G Q j))] ∧ σ' = σ) := by
  refine sMet_intro lay_nd kX4_isFull xX4_ok (by decide +kernel) rfl ?_
  intro K hK
  have kt : ∀ i : Nat, (nI j).toInt = (i : Int) → j = i := fun i hi => by rw [nI_toInt (by omega)] at hi; omega
  iterate 2 refine hK _ _ _ _ ?_
  refine ⟨fun hsw => ?_, fun hsw => ?_, fun hsw => ?_, fun hsw => ?_, fun hsw => ?_, fun hsw => ?_, fun hsw => ?_, fun hsw => ?_, fun hsw => ?_, trivial⟩
  · have hno : flB P S G Q j = false := by
      rw [nI_toInt (by omega)] at hsw
      unfold flB
      rw [if_neg (by omega), if_neg (by omega), if_neg (by omega), if_neg (by omega)]
    iterate 2 refine hK _ _ _ _ ?_
    exact ⟨Or.inl rfl, by rw [hno]; rfl, rfl⟩
  · have e := kt 1 hsw
    subst e
    iterate 3 refine hK _ _ _ _ ?_
    show K _ _ _ _
    rw [show σ 37 0 1 = nI Q from c5]
    iterate 2 refine hK _ _ _ _ ?_
    refine And.intro (fun h9 => ?_) (fun h9 => ?_)
    · have g9 : ¬ 20 ≤ Q := fun q => absurd ((nI_ltI (b := 20) (by omega) (by decide)).mp h9) (by omega)
      have hno : flB P S G Q 1 = false := decide_eq_false g9
      iterate 2 refine hK _ _ _ _ ?_
      exact ⟨Or.inl rfl, by rw [hno]; rfl, rfl⟩
    · have g9 : 20 ≤ Q := Decidable.byContradiction fun q => h9 ((nI_ltI (b := 20) (by omega) (by decide)).mpr (by omega))
      have hno : flB P S G Q 1 = true := decide_eq_true g9
      iterate 3 refine hK _ _ _ _ ?_
      exact ⟨Or.inr rfl, by rw [hno]; rfl, rfl⟩
  · have e := kt 2 hsw
    subst e
    iterate 2 refine hK _ _ _ _ ?_
    show K _ _ _ _
    rw [show σ 36 0 1 = nI P from c1]
    iterate 2 refine hK _ _ _ _ ?_
    refine And.intro (fun h9 => ?_) (fun h9 => ?_)
    · have g9 : ¬ 10 ≤ P := fun q => absurd ((nI_ltI (b := 10) (by omega) (by decide)).mp h9) (by omega)
      have hno : flB P S G Q 2 = false := decide_eq_false g9
      iterate 2 refine hK _ _ _ _ ?_
      exact ⟨Or.inl rfl, by rw [hno]; rfl, rfl⟩
    · have g9 : 10 ≤ P := Decidable.byContradiction fun q => h9 ((nI_ltI (b := 10) (by omega) (by decide)).mpr (by omega))
      have hno : flB P S G Q 2 = true := decide_eq_true g9
      iterate 3 refine hK _ _ _ _ ?_
      exact ⟨Or.inr rfl, by rw [hno]; rfl, rfl⟩
  · have e := kt 3 hsw
    subst e
    iterate 2 refine hK _ _ _ _ ?_
    exact ⟨Or.inl rfl, rfl, rfl⟩
  · have e := kt 4 hsw
    subst e
    iterate 2 refine hK _ _ _ _ ?_
    show K _ _ _ _
    rw [show σ 36 0 7 = nI S from c2]
    iterate 2 refine hK _ _ _ _ ?_
    refine And.intro (fun h9 => ?_) (fun h9 => ?_)
    · have g9 : ¬ 8 ≤ S := fun q => absurd ((nI_ltI (b := 8) (by omega) (by decide)).mp h9) (by omega)
      have hno : flB P S G Q 4 = false := decide_eq_false g9
      iterate 2 refine hK _ _ _ _ ?_
      exact ⟨Or.inl rfl, by rw [hno]; rfl, rfl⟩
    · have g9 : 8 ≤ S := Decidable.byContradiction fun q => h9 ((nI_ltI (b := 8) (by omega) (by decide)).mpr (by omega))
      have hno : flB P S G Q 4 = true := decide_eq_true g9
      iterate 3 refine hK _ _ _ _ ?_
      exact ⟨Or.inr rfl, by rw [hno]; rfl, rfl⟩
  · have e := kt 5 hsw
    subst e
    iterate 2 refine hK _ _ _ _ ?_
    exact ⟨Or.inl rfl, rfl, rfl⟩
  · have e := kt 6 hsw
    subst e
    iterate 2 refine hK _ _ _ _ ?_
    exact ⟨Or.inl rfl, rfl, rfl⟩
  · have e := kt 7 hsw
    subst e
    iterate 2 refine hK _ _ _ _ ?_
    exact ⟨Or.inl rfl, rfl, rfl⟩
  · have e := kt 8 hsw
    subst e
    iterate 2 refine hK _ _ _ _ ?_
    show K _ _ _ _
    rw [show σ 36 0 13 = nI G from c3]
    iterate 2 refine hK _ _ _ _ ?_
    refine And.intro (fun h9 => ?_) (fun h9 => ?_)
    · have g9 : ¬ 4 ≤ G := fun q => absurd ((nI_ltI (b := 4) (by omega) (by decide)).mp h9) (by omega)
      have hno : flB P S G Q 8 = false := decide_eq_false g9
      iterate 2 refine hK _ _ _ _ ?_
      exact ⟨Or.inl rfl, by rw [hno]; rfl, rfl⟩
    · have g9 : 4 ≤ G := Decidable.byContradiction fun q => h9 ((nI_ltI (b := 4) (by omega) (by decide)).mpr (by omega))
      have hno : flB P S G Q 8 = true := decide_eq_true g9
      iterate 3 refine hK _ _ _ _ ?_
      exact ⟨Or.inr rfl, by rw [hno]; rfl, rfl⟩
theorem c6_clear_54 (d : Nat) (σ : sMem) : sMet l D0 b0 ty lay (d + 1) mX6_clear [aR 55] σ (fun r σ' => r = [] ∧ (∀ i, i ≠ 55 → i ≠ 56 → σ' i = σ i) ∧ σ' 55 0 0 = nI 4 ∧ σ' 55 0 1 = nI 0 ∧ ∀ a b, a < 12 → b < 12 → σ' 56 a b = 1000000) := by
  refine sMet_intro lay_nd kX6_clear xX6_ok (by decide +kernel) rfl ?_
  intro K hK
  iterate 8 refine hK _ _ _ _ ?_
  have L12 : ∀ (f : Nat) (k : Nat) (μ : sMem), k + f = 12 → (∀ i, i ≠ 55 → i ≠ 56 → μ i = σ i) → μ 55 0 0 = nI 4 → μ 55 0 1 = nI 0 → (∀ a b, a < k → b < 12 → μ 56 a b = 1000000) → K 12 [some (aR 55), some (aI (nI k))] [] μ := by
    intro f
    induction f with
    | zero =>
      intro k μ hk hf h0 h1 hd
      iterate 3 refine hK _ _ _ _ ?_
      refine And.intro (fun _ => ?_) (fun h9 => absurd ((nI_leI (a := 12) (by decide) (by omega)).mpr (by omega)) h9)
      refine hK _ _ _ _ ?_
      exact ⟨rfl, hf, h0, h1, fun a b ha hb => hd a b (by omega) hb⟩
    | succ f ih =>
      intro k μ hk hf h0 h1 hd
      iterate 3 refine hK _ _ _ _ ?_
      refine And.intro (fun h9 => absurd ((nI_leI (a := 12) (by decide) (by omega)).mp h9) (by omega)) (fun _ => ?_)
      iterate 4 refine hK _ _ _ _ ?_
      refine And.intro (vp_in_nI (n := k) (by omega) (by decide)) ?_
      rw [nI_clamp (show k < 2 ^ 31 by omega)]
      iterate 2 refine hK _ _ _ _ ?_
      refine calD (cJ_fill56 _ _ k (by omega) _) ?_
      rintro r ν ⟨rfl, e1⟩
      show K 29 [some (aR 55), some (aI (nI k))] [] ν
      have hfν : ∀ i, i ≠ 56 → ν i = μ i := fun i q => by rw [e1]; unfold flR; rw [sRow_off q]
      have hrν : ∀ a, a ≠ k → ν 56 a = μ 56 a := fun a q => by rw [e1]; unfold flR; rw [sRow_ne q]
      have hvν : ∀ b, b < 12 → ν 56 k b = 1000000 := fun b q => by rw [e1]; unfold flR; rw [sRow_at, if_pos q]
      clear e1
      refine hK _ _ _ _ ?_
      show K _ _ _ _
      rw [show nI k + Int32.ofInt 1 = nI (k + 1) from nIs _]
      refine hK _ _ _ _ ?_
      refine ih (k + 1) ν (by omega) (fun i a b => (hfν i b).trans (hf i a b)) (by rw [hfν 55 (by decide)]; exact h0) (by rw [hfν 55 (by decide)]; exact h1) (fun a b ha hb => ?_)
      by_cases e : a = k
      · subst e; exact hvν b hb
      · rw [hrν a e]; exact hd a b (by omega) hb
  exact L12 12 0 _ (by omega) (fun i a b => by rw [sUp_off a, sUp_off a]) (by rw [sUp_k (by decide), sUp_at]; rfl) (by rw [sUp_at]; rfl) (fun a b ha _ => absurd ha (Nat.not_lt_zero _))
theorem c7_clear_54 (d : Nat) (σ ρ : sMem) (e0 : ρ 2 0 0 = nI 4) (e1 : ρ 2 0 1 = nI 0) (e2 : ρ 2 0 2 = nI 0) (e3 : ρ 2 0 3 = nI 0) (e4 : ρ 2 0 4 = nI 0) (e5 : ρ 2 0 5 = nI 0) (ex : ∀ x, x < 12 → ρ 11 0 x = 0) : sMet l D0 b0 ty lay (d + 2) mX7_clear [aR 54] σ (fun r σ' => r = [] ∧ (∀ i, i < 54 ∨ 72 ≤ i → σ' i = σ i) ∧ TWR σ' ρ 54) := by
  refine sMet_intro lay_nd kX7_clear xX7_ok (by decide +kernel) rfl ?_
  intro K hK
  iterate 3 refine hK _ _ _ _ ?_
  refine calD (c6_clear_54 _ _) ?_
  rintro r μ ⟨rfl, hf, h0, h1, hn⟩
  show K 7 [some (aR 54)] [] μ
  iterate 13 refine hK _ _ _ _ ?_
  refine calD (cJ_fill71 _ _ _) ?_
  rintro r ν ⟨rfl, eν⟩
  show K 30 [some (aR 54)] [] ν
  have hfν : ∀ i, i ≠ 71 → ν i = (sUp (sUp (sUp μ 54 0 1 (Int32.ofInt 0)) 54 0 7 (Int32.ofInt 0)) 54 0 13 (Int32.ofInt 0)) i := fun i q => by rw [eν]; unfold flR; rw [sRow_off q]
  have hvν : ∀ x, x < 12 → ν 71 0 x = 0 := fun x q => by rw [eν]; unfold flR; rw [sRow_at, if_pos q]; rfl
  clear eν
  iterate 4 refine hK _ _ _ _ ?_
  have r1 : rc ρ 1 = 0 := rc_at e1 (by decide)
  have r2 : rc ρ 2 = 0 := rc_at e2 (by decide)
  have r3 : rc ρ 3 = 0 := rc_at e3 (by decide)
  have r5 : rc ρ 5 = 0 := rc_at e5 (by decide)
  refine ⟨rfl, fun i hi => ?_, ⟨?_, ?_, ?_, ?_, ?_, ?_⟩, fun a b ha hb => ?_, ?_, ?_, ?_, fun x hx => ?_⟩
  · rw [sUp_off (by omega), hfν i (by omega), sUp_off (by omega), sUp_off (by omega), sUp_off (by omega)]; exact hf i (by omega) (by omega)
  · show sUp ν 54 0 17 (Int32.ofInt 0) 55 0 0 = _
    rw [sUp_off (by decide), hfν 55 (by decide), sUp_off (by decide), sUp_off (by decide), sUp_off (by decide), e0]; exact h0
  · show sUp ν 54 0 17 (Int32.ofInt 0) 55 0 1 = _
    rw [sUp_off (by decide), hfν 55 (by decide), sUp_off (by decide), sUp_off (by decide), sUp_off (by decide), e5]; exact h1
  · rw [sUp_k (by decide), hfν 54 (by decide), sUp_k (by decide), sUp_k (by decide), sUp_at, e1]; rfl
  · rw [sUp_k (by decide), hfν 54 (by decide), sUp_k (by decide), sUp_at, e2]; rfl
  · rw [sUp_k (by decide), hfν 54 (by decide), sUp_at, e3]; rfl
  · rw [sUp_at, e4]; rfl
  · show sUp ν 54 0 17 (Int32.ofInt 0) 56 a b = _
    rw [r5, sUp_off (by decide), hfν 56 (by decide), sUp_off (by decide), sUp_off (by decide), sUp_off (by decide)]; exact hn a b ha hb
  · rw [r1]; exact fun _ q => absurd q (Nat.not_lt_zero _)
  · rw [r2]; exact fun _ q => absurd q (Nat.not_lt_zero _)
  · rw [r3]; exact fun _ q => absurd q (Nat.not_lt_zero _)
  · show sUp ν 54 0 17 (Int32.ofInt 0) 71 0 x = _
    rw [sUp_off (by decide), ex x hx]; exact hvν x hx
theorem c4_isFull_54 (d : Nat) (σ : sMem) (P S G Q j : Nat) (hj : j < 10) (b1 : P ≤ 10) (b2 : S ≤ 8) (b3 : G ≤ 4) (b5 : Q ≤ 20) (c5 : σ 55 0 1 = nI Q) (c1 : σ 54 0 1 = nI P) (c2 : σ 54 0 7 = nI S) (c3 : σ 54 0 13 = nI G) : sMet l D0 b0 ty lay d mX4_isFull [aR 54, aI (nI j)] σ (fun r σ' => r = [aI (bI (flB P S G Q j))] ∧ σ' = σ) := by
  refine sMet_intro lay_nd kX4_isFull xX4_ok (by decide +kernel) rfl ?_
  intro K hK
  have kt : ∀ i : Nat, (nI j).toInt = (i : Int) → j = i := fun i hi => by rw [nI_toInt (by omega)] at hi; omega
  iterate 2 refine hK _ _ _ _ ?_
  refine ⟨fun hsw => ?_, fun hsw => ?_, fun hsw => ?_, fun hsw => ?_, fun hsw => ?_, fun hsw => ?_, fun hsw => ?_, fun hsw => ?_, fun hsw => ?_, trivial⟩
  · have hno : flB P S G Q j = false := by
      rw [nI_toInt (by omega)] at hsw
      unfold flB
      rw [if_neg (by omega), if_neg (by omega), if_neg (by omega), if_neg (by omega)]
    iterate 2 refine hK _ _ _ _ ?_
    exact ⟨Or.inl rfl, by rw [hno]; rfl, rfl⟩
  · have e := kt 1 hsw
    subst e
    iterate 3 refine hK _ _ _ _ ?_
    show K _ _ _ _
    rw [show σ 55 0 1 = nI Q from c5]
    iterate 2 refine hK _ _ _ _ ?_
    refine And.intro (fun h9 => ?_) (fun h9 => ?_)
    · have g9 : ¬ 20 ≤ Q := fun q => absurd ((nI_ltI (b := 20) (by omega) (by decide)).mp h9) (by omega)
      have hno : flB P S G Q 1 = false := decide_eq_false g9
      iterate 2 refine hK _ _ _ _ ?_
      exact ⟨Or.inl rfl, by rw [hno]; rfl, rfl⟩
    · have g9 : 20 ≤ Q := Decidable.byContradiction fun q => h9 ((nI_ltI (b := 20) (by omega) (by decide)).mpr (by omega))
      have hno : flB P S G Q 1 = true := decide_eq_true g9
      iterate 3 refine hK _ _ _ _ ?_
      exact ⟨Or.inr rfl, by rw [hno]; rfl, rfl⟩
  · have e := kt 2 hsw
    subst e
    iterate 2 refine hK _ _ _ _ ?_
    show K _ _ _ _
    rw [show σ 54 0 1 = nI P from c1]
    iterate 2 refine hK _ _ _ _ ?_
    refine And.intro (fun h9 => ?_) (fun h9 => ?_)
    · have g9 : ¬ 10 ≤ P := fun q => absurd ((nI_ltI (b := 10) (by omega) (by decide)).mp h9) (by omega)
      have hno : flB P S G Q 2 = false := decide_eq_false g9
      iterate 2 refine hK _ _ _ _ ?_
      exact ⟨Or.inl rfl, by rw [hno]; rfl, rfl⟩
    · have g9 : 10 ≤ P := Decidable.byContradiction fun q => h9 ((nI_ltI (b := 10) (by omega) (by decide)).mpr (by omega))
      have hno : flB P S G Q 2 = true := decide_eq_true g9
      iterate 3 refine hK _ _ _ _ ?_
      exact ⟨Or.inr rfl, by rw [hno]; rfl, rfl⟩
  · have e := kt 3 hsw
    subst e
    iterate 2 refine hK _ _ _ _ ?_
    exact ⟨Or.inl rfl, rfl, rfl⟩
  · have e := kt 4 hsw
    subst e
    iterate 2 refine hK _ _ _ _ ?_
    show K _ _ _ _
    rw [show σ 54 0 7 = nI S from c2]
    iterate 2 refine hK _ _ _ _ ?_
    refine And.intro (fun h9 => ?_) (fun h9 => ?_)
    · have g9 : ¬ 8 ≤ S := fun q => absurd ((nI_ltI (b := 8) (by omega) (by decide)).mp h9) (by omega)
      have hno : flB P S G Q 4 = false := decide_eq_false g9
      iterate 2 refine hK _ _ _ _ ?_
      exact ⟨Or.inl rfl, by rw [hno]; rfl, rfl⟩
    · have g9 : 8 ≤ S := Decidable.byContradiction fun q => h9 ((nI_ltI (b := 8) (by omega) (by decide)).mpr (by omega))
      have hno : flB P S G Q 4 = true := decide_eq_true g9
      iterate 3 refine hK _ _ _ _ ?_
      exact ⟨Or.inr rfl, by rw [hno]; rfl, rfl⟩
  · have e := kt 5 hsw
    subst e
    iterate 2 refine hK _ _ _ _ ?_
    exact ⟨Or.inl rfl, rfl, rfl⟩
  · have e := kt 6 hsw
    subst e
    iterate 2 refine hK _ _ _ _ ?_
    exact ⟨Or.inl rfl, rfl, rfl⟩
  · have e := kt 7 hsw
    subst e
    iterate 2 refine hK _ _ _ _ ?_
    exact ⟨Or.inl rfl, rfl, rfl⟩
  · have e := kt 8 hsw
    subst e
    iterate 2 refine hK _ _ _ _ ?_
    show K _ _ _ _
    rw [show σ 54 0 13 = nI G from c3]
    iterate 2 refine hK _ _ _ _ ?_
    refine And.intro (fun h9 => ?_) (fun h9 => ?_)
    · have g9 : ¬ 4 ≤ G := fun q => absurd ((nI_ltI (b := 4) (by omega) (by decide)).mp h9) (by omega)
      have hno : flB P S G Q 8 = false := decide_eq_false g9
      iterate 2 refine hK _ _ _ _ ?_
      exact ⟨Or.inl rfl, by rw [hno]; rfl, rfl⟩
    · have g9 : 4 ≤ G := Decidable.byContradiction fun q => h9 ((nI_ltI (b := 4) (by omega) (by decide)).mpr (by omega))
      have hno : flB P S G Q 8 = true := decide_eq_true g9
      iterate 3 refine hK _ _ _ _ ?_
      exact ⟨Or.inr rfl, by rw [hno]; rfl, rfl⟩
end
