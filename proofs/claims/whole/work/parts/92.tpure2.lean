/-! THE TOWN AS IT IS READ: each kind of clause -/
theorem TWR_places {σ ρ : sMem} {w K : Nat} (h : TWR σ ρ w) (hK : K ≤ 12) : TWR (sUp σ (w + 1) 0 0 (nI K)) (sUp ρ 2 0 0 (nI K)) w := by
  obtain ⟨⟨s0, s1, s2, s3, s4, s5⟩, hn, hp, hs, hg, hx⟩ := h
  refine ⟨⟨by simp [sUp, s0], by simp [sUp, s1], by simp [sUp, s2], by simp [sUp, s3], by simp [sUp, s4], by simp [sUp, s5]⟩, ?_, ?_, ?_, ?_, ?_⟩
  · intro x y hx9 hy9
    rw [show rc (sUp ρ 2 0 0 (nI K)) 5 = rc ρ 5 by unfold rc; simp [sUp], snM_cg (ρ := ρ) (ρ' := (sUp ρ 2 0 0 (nI K))) _ (fun k _ => by funext z; simp [sUp])]
    have e : (sUp σ (w + 1) 0 0 (nI K)) (w + 2) x y = σ (w + 2) x y := by simp [sUp]
    rw [e]
    exact hn x y hx9 hy9
  · intro q hq9
    rw [show rc (sUp ρ 2 0 0 (nI K)) 1 = rc ρ 1 by unfold rc; simp [sUp]] at hq9
    have e := hp q hq9
    simpa [sUp] using e
  · intro q hq9
    rw [show rc (sUp ρ 2 0 0 (nI K)) 2 = rc ρ 2 by unfold rc; simp [sUp]] at hq9
    have e := hs q hq9
    simpa [sUp] using e
  · intro q hq9
    rw [show rc (sUp ρ 2 0 0 (nI K)) 3 = rc ρ 3 by unfold rc; simp [sUp]] at hq9
    have e := hg q hq9
    simpa [sUp] using e
  · intro x hx9
    have e := hx x hx9
    simpa [sUp] using e
theorem TWR_law {σ ρ : sMem} {w K : Nat} (h : TWR σ ρ w) (hK : K ≤ 9) : TWR (sUp σ w 0 17 (nI K)) (sUp ρ 2 0 4 (nI K)) w := by
  obtain ⟨⟨s0, s1, s2, s3, s4, s5⟩, hn, hp, hs, hg, hx⟩ := h
  refine ⟨⟨by simp [sUp, s0], by simp [sUp, s1], by simp [sUp, s2], by simp [sUp, s3], by simp [sUp, s4], by simp [sUp, s5]⟩, ?_, ?_, ?_, ?_, ?_⟩
  · intro x y hx9 hy9
    rw [show rc (sUp ρ 2 0 4 (nI K)) 5 = rc ρ 5 by unfold rc; simp [sUp], snM_cg (ρ := ρ) (ρ' := (sUp ρ 2 0 4 (nI K))) _ (fun k _ => by funext z; simp [sUp])]
    have e : (sUp σ w 0 17 (nI K)) (w + 2) x y = σ (w + 2) x y := by simp [sUp]
    rw [e]
    exact hn x y hx9 hy9
  · intro q hq9
    rw [show rc (sUp ρ 2 0 4 (nI K)) 1 = rc ρ 1 by unfold rc; simp [sUp]] at hq9
    have e := hp q hq9
    simpa [sUp] using e
  · intro q hq9
    rw [show rc (sUp ρ 2 0 4 (nI K)) 2 = rc ρ 2 by unfold rc; simp [sUp]] at hq9
    have e := hs q hq9
    simpa [sUp] using e
  · intro q hq9
    rw [show rc (sUp ρ 2 0 4 (nI K)) 3 = rc ρ 3 by unfold rc; simp [sUp]] at hq9
    have e := hg q hq9
    simpa [sUp] using e
  · intro x hx9
    have e := hx x hx9
    simpa [sUp] using e
theorem TWR_person {σ ρ : sMem} {w a b m v k K : Nat} (h : TWR σ ρ w) (hK : ρ 2 0 1 = nI K) (hK2 : K < 2 ^ 30) : TWR (sUp (sUp (sUp (sUp (sUp (sUp σ (w + 5) 0 K (nI a)) (w + 6) 0 K (nI b)) (w + 7) 0 K (nI m)) (w + 8) 0 K (nI v)) (w + 9) 0 K (nI k)) w 0 1 (nI (K + 1))) (sUp (sUp (sUp (sUp (sUp (sUp ρ 5 K 0 (nI a)) 5 K 1 (nI b)) 5 K 2 (nI m)) 5 K 3 (nI v)) 5 K 4 (nI k)) 2 0 1 (nI (K + 1))) w := by
  obtain ⟨⟨s0, s1, s2, s3, s4, s5⟩, hn, hp, hs, hg, hx⟩ := h
  refine ⟨⟨by simp [sUp, s0], by simp [sUp, s1], by simp [sUp, s2], by simp [sUp, s3], by simp [sUp, s4], by simp [sUp, s5]⟩, ?_, ?_, ?_, ?_, ?_⟩
  · intro x y hx9 hy9
    rw [show rc (sUp (sUp (sUp (sUp (sUp (sUp ρ 5 K 0 (nI a)) 5 K 1 (nI b)) 5 K 2 (nI m)) 5 K 3 (nI v)) 5 K 4 (nI k)) 2 0 1 (nI (K + 1))) 5 = rc ρ 5 by unfold rc; simp [sUp], snM_cg (ρ := ρ) (ρ' := (sUp (sUp (sUp (sUp (sUp (sUp ρ 5 K 0 (nI a)) 5 K 1 (nI b)) 5 K 2 (nI m)) 5 K 3 (nI v)) 5 K 4 (nI k)) 2 0 1 (nI (K + 1)))) _ (fun k _ => by funext z; simp [sUp])]
    have e : (sUp (sUp (sUp (sUp (sUp (sUp σ (w + 5) 0 K (nI a)) (w + 6) 0 K (nI b)) (w + 7) 0 K (nI m)) (w + 8) 0 K (nI v)) (w + 9) 0 K (nI k)) w 0 1 (nI (K + 1))) (w + 2) x y = σ (w + 2) x y := by simp [sUp]
    rw [e]
    exact hn x y hx9 hy9
  · intro q hq9
    rw [rc_at (show (sUp (sUp (sUp (sUp (sUp (sUp ρ 5 K 0 (nI a)) 5 K 1 (nI b)) 5 K 2 (nI m)) 5 K 3 (nI v)) 5 K 4 (nI k)) 2 0 1 (nI (K + 1))) 2 0 1 = nI (K + 1) from sUp_at _ _ _ _ _) (by omega)] at hq9
    by_cases e : q = K
    · subst e
      simp [sUp]
    · have h9 := hp q (by rw [rc_at hK (by omega)]; omega)
      simpa [sUp, e] using h9
  · intro q hq9
    rw [show rc (sUp (sUp (sUp (sUp (sUp (sUp ρ 5 K 0 (nI a)) 5 K 1 (nI b)) 5 K 2 (nI m)) 5 K 3 (nI v)) 5 K 4 (nI k)) 2 0 1 (nI (K + 1))) 2 = rc ρ 2 by unfold rc; simp [sUp]] at hq9
    have e := hs q hq9
    simpa [sUp] using e
  · intro q hq9
    rw [show rc (sUp (sUp (sUp (sUp (sUp (sUp ρ 5 K 0 (nI a)) 5 K 1 (nI b)) 5 K 2 (nI m)) 5 K 3 (nI v)) 5 K 4 (nI k)) 2 0 1 (nI (K + 1))) 3 = rc ρ 3 by unfold rc; simp [sUp]] at hq9
    have e := hg q hq9
    simpa [sUp] using e
  · intro x hx9
    have e := hx x hx9
    simpa [sUp] using e
theorem TWR_stranger {σ ρ : sMem} {w a b m K : Nat} (h : TWR σ ρ w) (hK : ρ 2 0 2 = nI K) (hK2 : K < 2 ^ 30) : TWR (sUp (sUp (sUp (sUp (sUp (sUp σ (w + 10) 0 K (nI a)) (w + 11) 0 K (nI b)) (w + 12) 0 K (nI m)) (w + 13) 0 K (nI 8)) (w + 14) 0 K (nI 0)) w 0 7 (nI (K + 1))) (sUp (sUp (sUp (sUp (sUp (sUp ρ 7 K 0 (nI a)) 7 K 1 (nI b)) 7 K 2 (nI m)) 7 K 3 (nI 8)) 7 K 4 (nI 0)) 2 0 2 (nI (K + 1))) w := by
  obtain ⟨⟨s0, s1, s2, s3, s4, s5⟩, hn, hp, hs, hg, hx⟩ := h
  refine ⟨⟨by simp [sUp, s0], by simp [sUp, s1], by simp [sUp, s2], by simp [sUp, s3], by simp [sUp, s4], by simp [sUp, s5]⟩, ?_, ?_, ?_, ?_, ?_⟩
  · intro x y hx9 hy9
    rw [show rc (sUp (sUp (sUp (sUp (sUp (sUp ρ 7 K 0 (nI a)) 7 K 1 (nI b)) 7 K 2 (nI m)) 7 K 3 (nI 8)) 7 K 4 (nI 0)) 2 0 2 (nI (K + 1))) 5 = rc ρ 5 by unfold rc; simp [sUp], snM_cg (ρ := ρ) (ρ' := (sUp (sUp (sUp (sUp (sUp (sUp ρ 7 K 0 (nI a)) 7 K 1 (nI b)) 7 K 2 (nI m)) 7 K 3 (nI 8)) 7 K 4 (nI 0)) 2 0 2 (nI (K + 1)))) _ (fun k _ => by funext z; simp [sUp])]
    have e : (sUp (sUp (sUp (sUp (sUp (sUp σ (w + 10) 0 K (nI a)) (w + 11) 0 K (nI b)) (w + 12) 0 K (nI m)) (w + 13) 0 K (nI 8)) (w + 14) 0 K (nI 0)) w 0 7 (nI (K + 1))) (w + 2) x y = σ (w + 2) x y := by simp [sUp]
    rw [e]
    exact hn x y hx9 hy9
  · intro q hq9
    rw [show rc (sUp (sUp (sUp (sUp (sUp (sUp ρ 7 K 0 (nI a)) 7 K 1 (nI b)) 7 K 2 (nI m)) 7 K 3 (nI 8)) 7 K 4 (nI 0)) 2 0 2 (nI (K + 1))) 1 = rc ρ 1 by unfold rc; simp [sUp]] at hq9
    have e := hp q hq9
    simpa [sUp] using e
  · intro q hq9
    rw [rc_at (show (sUp (sUp (sUp (sUp (sUp (sUp ρ 7 K 0 (nI a)) 7 K 1 (nI b)) 7 K 2 (nI m)) 7 K 3 (nI 8)) 7 K 4 (nI 0)) 2 0 2 (nI (K + 1))) 2 0 2 = nI (K + 1) from sUp_at _ _ _ _ _) (by omega)] at hq9
    by_cases e : q = K
    · subst e
      simp [sUp]
    · have h9 := hs q (by rw [rc_at hK (by omega)]; omega)
      simpa [sUp, e] using h9
  · intro q hq9
    rw [show rc (sUp (sUp (sUp (sUp (sUp (sUp ρ 7 K 0 (nI a)) 7 K 1 (nI b)) 7 K 2 (nI m)) 7 K 3 (nI 8)) 7 K 4 (nI 0)) 2 0 2 (nI (K + 1))) 3 = rc ρ 3 by unfold rc; simp [sUp]] at hq9
    have e := hg q hq9
    simpa [sUp] using e
  · intro x hx9
    have e := hx x hx9
    simpa [sUp] using e
theorem TWR_guide {σ ρ : sMem} {w a b K : Nat} (h : TWR σ ρ w) (hK : ρ 2 0 3 = nI K) (hK2 : K < 2 ^ 30) : TWR (sUp (sUp (sUp σ (w + 15) 0 K (nI a)) (w + 16) 0 K (nI b)) w 0 13 (nI (K + 1))) (sUp (sUp (sUp ρ 9 K 0 (nI a)) 9 K 1 (nI b)) 2 0 3 (nI (K + 1))) w := by
  obtain ⟨⟨s0, s1, s2, s3, s4, s5⟩, hn, hp, hs, hg, hx⟩ := h
  refine ⟨⟨by simp [sUp, s0], by simp [sUp, s1], by simp [sUp, s2], by simp [sUp, s3], by simp [sUp, s4], by simp [sUp, s5]⟩, ?_, ?_, ?_, ?_, ?_⟩
  · intro x y hx9 hy9
    rw [show rc (sUp (sUp (sUp ρ 9 K 0 (nI a)) 9 K 1 (nI b)) 2 0 3 (nI (K + 1))) 5 = rc ρ 5 by unfold rc; simp [sUp], snM_cg (ρ := ρ) (ρ' := (sUp (sUp (sUp ρ 9 K 0 (nI a)) 9 K 1 (nI b)) 2 0 3 (nI (K + 1)))) _ (fun k _ => by funext z; simp [sUp])]
    have e : (sUp (sUp (sUp σ (w + 15) 0 K (nI a)) (w + 16) 0 K (nI b)) w 0 13 (nI (K + 1))) (w + 2) x y = σ (w + 2) x y := by simp [sUp]
    rw [e]
    exact hn x y hx9 hy9
  · intro q hq9
    rw [show rc (sUp (sUp (sUp ρ 9 K 0 (nI a)) 9 K 1 (nI b)) 2 0 3 (nI (K + 1))) 1 = rc ρ 1 by unfold rc; simp [sUp]] at hq9
    have e := hp q hq9
    simpa [sUp] using e
  · intro q hq9
    rw [show rc (sUp (sUp (sUp ρ 9 K 0 (nI a)) 9 K 1 (nI b)) 2 0 3 (nI (K + 1))) 2 = rc ρ 2 by unfold rc; simp [sUp]] at hq9
    have e := hs q hq9
    simpa [sUp] using e
  · intro q hq9
    rw [rc_at (show (sUp (sUp (sUp ρ 9 K 0 (nI a)) 9 K 1 (nI b)) 2 0 3 (nI (K + 1))) 2 0 3 = nI (K + 1) from sUp_at _ _ _ _ _) (by omega)] at hq9
    by_cases e : q = K
    · subst e
      simp [sUp]
    · have h9 := hg q (by rw [rc_at hK (by omega)]; omega)
      simpa [sUp, e] using h9
  · intro x hx9
    have e := hx x hx9
    simpa [sUp] using e
theorem TWR_not {σ ρ : sMem} {w q0 : Nat} (h : TWR σ ρ w) {z : Int32} : TWR (sUp σ (w + 9) 0 q0 (z)) (sUp ρ 5 q0 4 (z)) w := by
  obtain ⟨⟨s0, s1, s2, s3, s4, s5⟩, hn, hp, hs, hg, hx⟩ := h
  refine ⟨⟨by simp [sUp, s0], by simp [sUp, s1], by simp [sUp, s2], by simp [sUp, s3], by simp [sUp, s4], by simp [sUp, s5]⟩, ?_, ?_, ?_, ?_, ?_⟩
  · intro x y hx9 hy9
    rw [show rc (sUp ρ 5 q0 4 (z)) 5 = rc ρ 5 by unfold rc; simp [sUp], snM_cg (ρ := ρ) (ρ' := (sUp ρ 5 q0 4 (z))) _ (fun k _ => by funext z; simp [sUp])]
    have e : (sUp σ (w + 9) 0 q0 (z)) (w + 2) x y = σ (w + 2) x y := by simp [sUp]
    rw [e]
    exact hn x y hx9 hy9
  · intro q hq9
    rw [show rc (sUp ρ 5 q0 4 (z)) 1 = rc ρ 1 by unfold rc; simp [sUp]] at hq9
    obtain ⟨h0, h1, h2, h3, h4⟩ := hp q hq9
    by_cases e : q = q0
    · subst e
      simp [sUp, h0, h1, h2, h3, h4]
    · simp [sUp, e, h0, h1, h2, h3, h4]
  · intro q hq9
    rw [show rc (sUp ρ 5 q0 4 (z)) 2 = rc ρ 2 by unfold rc; simp [sUp]] at hq9
    have e := hs q hq9
    simpa [sUp] using e
  · intro q hq9
    rw [show rc (sUp ρ 5 q0 4 (z)) 3 = rc ρ 3 by unfold rc; simp [sUp]] at hq9
    have e := hg q hq9
    simpa [sUp] using e
  · intro x hx9
    have e := hx x hx9
    simpa [sUp] using e
theorem TWR_finds {σ ρ : sMem} {w q0 : Nat} (h : TWR σ ρ w) {z : Int32} : TWR (sUp σ (w + 14) 0 q0 (z)) (sUp ρ 7 q0 4 (z)) w := by
  obtain ⟨⟨s0, s1, s2, s3, s4, s5⟩, hn, hp, hs, hg, hx⟩ := h
  refine ⟨⟨by simp [sUp, s0], by simp [sUp, s1], by simp [sUp, s2], by simp [sUp, s3], by simp [sUp, s4], by simp [sUp, s5]⟩, ?_, ?_, ?_, ?_, ?_⟩
  · intro x y hx9 hy9
    rw [show rc (sUp ρ 7 q0 4 (z)) 5 = rc ρ 5 by unfold rc; simp [sUp], snM_cg (ρ := ρ) (ρ' := (sUp ρ 7 q0 4 (z))) _ (fun k _ => by funext z; simp [sUp])]
    have e : (sUp σ (w + 14) 0 q0 (z)) (w + 2) x y = σ (w + 2) x y := by simp [sUp]
    rw [e]
    exact hn x y hx9 hy9
  · intro q hq9
    rw [show rc (sUp ρ 7 q0 4 (z)) 1 = rc ρ 1 by unfold rc; simp [sUp]] at hq9
    have e := hp q hq9
    simpa [sUp] using e
  · intro q hq9
    rw [show rc (sUp ρ 7 q0 4 (z)) 2 = rc ρ 2 by unfold rc; simp [sUp]] at hq9
    obtain ⟨h0, h1, h2, h3, h4⟩ := hs q hq9
    by_cases e : q = q0
    · subst e
      simp [sUp, h0, h1, h2, h3, h4]
    · simp [sUp, e, h0, h1, h2, h3, h4]
  · intro q hq9
    rw [show rc (sUp ρ 7 q0 4 (z)) 3 = rc ρ 3 by unfold rc; simp [sUp]] at hq9
    have e := hg q hq9
    simpa [sUp] using e
  · intro x hx9
    have e := hx x hx9
    simpa [sUp] using e
theorem TWR_chance {σ ρ : sMem} {w q0 : Nat} (h : TWR σ ρ w) {z : Int32} : TWR (sUp σ (w + 13) 0 q0 (z)) (sUp ρ 7 q0 3 (z)) w := by
  obtain ⟨⟨s0, s1, s2, s3, s4, s5⟩, hn, hp, hs, hg, hx⟩ := h
  refine ⟨⟨by simp [sUp, s0], by simp [sUp, s1], by simp [sUp, s2], by simp [sUp, s3], by simp [sUp, s4], by simp [sUp, s5]⟩, ?_, ?_, ?_, ?_, ?_⟩
  · intro x y hx9 hy9
    rw [show rc (sUp ρ 7 q0 3 (z)) 5 = rc ρ 5 by unfold rc; simp [sUp], snM_cg (ρ := ρ) (ρ' := (sUp ρ 7 q0 3 (z))) _ (fun k _ => by funext z; simp [sUp])]
    have e : (sUp σ (w + 13) 0 q0 (z)) (w + 2) x y = σ (w + 2) x y := by simp [sUp]
    rw [e]
    exact hn x y hx9 hy9
  · intro q hq9
    rw [show rc (sUp ρ 7 q0 3 (z)) 1 = rc ρ 1 by unfold rc; simp [sUp]] at hq9
    have e := hp q hq9
    simpa [sUp] using e
  · intro q hq9
    rw [show rc (sUp ρ 7 q0 3 (z)) 2 = rc ρ 2 by unfold rc; simp [sUp]] at hq9
    obtain ⟨h0, h1, h2, h3, h4⟩ := hs q hq9
    by_cases e : q = q0
    · subst e
      simp [sUp, h0, h1, h2, h3, h4]
    · simp [sUp, e, h0, h1, h2, h3, h4]
  · intro q hq9
    rw [show rc (sUp ρ 7 q0 3 (z)) 3 = rc ρ 3 by unfold rc; simp [sUp]] at hq9
    have e := hg q hq9
    simpa [sUp] using e
  · intro x hx9
    have e := hx x hx9
    simpa [sUp] using e
theorem TWR_sign {σ ρ : sMem} {w q0 : Nat} (h : TWR σ ρ w) {z : Int32} : TWR (sUp σ (w + 17) 0 q0 (z)) (sUp ρ 11 0 q0 (z)) w := by
  obtain ⟨⟨s0, s1, s2, s3, s4, s5⟩, hn, hp, hs, hg, hx⟩ := h
  refine ⟨⟨by simp [sUp, s0], by simp [sUp, s1], by simp [sUp, s2], by simp [sUp, s3], by simp [sUp, s4], by simp [sUp, s5]⟩, ?_, ?_, ?_, ?_, ?_⟩
  · intro x y hx9 hy9
    rw [show rc (sUp ρ 11 0 q0 (z)) 5 = rc ρ 5 by unfold rc; simp [sUp], snM_cg (ρ := ρ) (ρ' := (sUp ρ 11 0 q0 (z))) _ (fun k _ => by funext z; simp [sUp])]
    have e : (sUp σ (w + 17) 0 q0 (z)) (w + 2) x y = σ (w + 2) x y := by simp [sUp]
    rw [e]
    exact hn x y hx9 hy9
  · intro q hq9
    rw [show rc (sUp ρ 11 0 q0 (z)) 1 = rc ρ 1 by unfold rc; simp [sUp]] at hq9
    have e := hp q hq9
    simpa [sUp] using e
  · intro q hq9
    rw [show rc (sUp ρ 11 0 q0 (z)) 2 = rc ρ 2 by unfold rc; simp [sUp]] at hq9
    have e := hs q hq9
    simpa [sUp] using e
  · intro q hq9
    rw [show rc (sUp ρ 11 0 q0 (z)) 3 = rc ρ 3 by unfold rc; simp [sUp]] at hq9
    have e := hg q hq9
    simpa [sUp] using e
  · intro x hx9
    have h9 := hx x hx9
    by_cases e : x = q0
    · subst e
      simp [sUp]
    · simp [sUp, e, h9]
