/-! THE CLASS'S COURSE: what its steps write, and that it is the day's step by numbers -/
/-- move: he goes from where he is to z, there at minute n -/
def mvC (σ : sMem) (w s z y n : Nat) : sMem := if z = y then sUp (sUp (sUp (sUp σ 81 0 12 (nI w)) 85 0 s (nI n)) 84 0 s (nI z)) 87 0 s (nI n) else sUp (sUp (sUp σ 81 0 12 (nI w)) 85 0 s (nI n)) 84 0 s (nI z)
def lbC (σ : sMem) (s k w n : Nat) : sMem := sUp (sUp (sUp σ 81 0 11 (nI (n + 1))) 88 s k (nI w)) 89 0 s (nI (k + 1))
theorem mvC_off {σ : sMem} {w s z y n a : Nat} (h : a ≠ 81 ∧ a ≠ 84 ∧ a ≠ 85 ∧ a ≠ 87) : mvC σ w s z y n a = σ a := by
  unfold mvC
  split
  · rw [sUp_off (by omega), sUp_off (by omega), sUp_off (by omega), sUp_off (by omega)]
  · rw [sUp_off (by omega), sUp_off (by omega), sUp_off (by omega)]
theorem mvC_81 {σ : sMem} {w s z y n k : Nat} (h : k ≠ 12) : mvC σ w s z y n 81 0 k = σ 81 0 k := by
  unfold mvC
  split
  · rw [sUp_off (by decide), sUp_off (by decide), sUp_off (by decide), sUp_k h]
  · rw [sUp_off (by decide), sUp_off (by decide), sUp_k h]
theorem mvC_w {σ : sMem} {w s z y n : Nat} : mvC σ w s z y n 81 0 12 = nI w := by
  unfold mvC
  split
  · rw [sUp_off (by decide), sUp_off (by decide), sUp_off (by decide), sUp_at]
  · rw [sUp_off (by decide), sUp_off (by decide), sUp_at]
theorem mvC_s {σ : sMem} {w s z y n : Nat} : mvC σ w s z y n 84 0 s = nI z ∧ mvC σ w s z y n 85 0 s = nI n ∧ mvC σ w s z y n 87 0 s = (if z = y then nI n else σ 87 0 s) ∧ ∀ u, u ≠ s → mvC σ w s z y n 84 0 u = σ 84 0 u ∧ mvC σ w s z y n 85 0 u = σ 85 0 u ∧ mvC σ w s z y n 87 0 u = σ 87 0 u := by
  unfold mvC
  split
  · refine ⟨?_, ?_, ?_, fun u hu => ⟨?_, ?_, ?_⟩⟩
    · rw [sUp_off (by decide), sUp_at]
    · rw [sUp_off (by decide), sUp_off (by decide), sUp_at]
    · rw [sUp_at]
    · rw [sUp_off (by decide), sUp_k hu, sUp_off (by decide), sUp_off (by decide)]
    · rw [sUp_off (by decide), sUp_off (by decide), sUp_k hu, sUp_off (by decide)]
    · rw [sUp_k hu, sUp_off (by decide), sUp_off (by decide), sUp_off (by decide)]
  · refine ⟨?_, ?_, ?_, fun u hu => ⟨?_, ?_, ?_⟩⟩
    · rw [sUp_at]
    · rw [sUp_off (by decide), sUp_at]
    · rw [sUp_off (by decide), sUp_off (by decide), sUp_off (by decide)]
    · rw [sUp_k hu, sUp_off (by decide), sUp_off (by decide)]
    · rw [sUp_off (by decide), sUp_k hu, sUp_off (by decide)]
    · rw [sUp_off (by decide), sUp_off (by decide), sUp_off (by decide)]
section
variable {c : sMem} {N P S G : Nat}
/-- strangers but one as they were -/
theorem pe_go {D E : DA} {m s z n : Nat} (hs : s < S) (hE : ∀ u, u < S → u ≠ s → E.2.1 u = D.2.1 u) (hn : (D.2.1 s).2.2.1 = none) (hf : (D.2.1 s).2.1 ≤ m) (hz : (E.2.1 s).2.2.1 = none → m + 1 ≤ (E.2.1 s).2.1) : peS E m (s + 1) S + (m - (D.2.1 s).2.1) = peS D m s S := by
  have h := pe_1 (D := D) (E := E) (m := m) (j := s) (j' := s + 1) (s := s) S hs (fun u h1 h2 => by
    rw [hE u h1 h2]
    by_cases h3 : u < s
    · rw [if_pos h3, if_pos (show u < s + 1 by omega)]
    · rw [if_neg h3, if_neg (show ¬ u < s + 1 by omega)])
  rw [hn, if_neg (Nat.lt_irrefl s), if_pos (Nat.lt_succ_self s), if_pos rfl] at h
  by_cases h5 : (E.2.1 s).2.2.1 = none
  · rw [if_pos h5] at h
    have := hz h5
    omega
  · rw [if_neg h5] at h
    omega
theorem pe_stay {D : DA} {m s : Nat} (hs : s < S) (h : ¬ ((D.2.1 s).2.2.1 = none ∧ (D.2.1 s).2.1 ≤ m)) : peS D m (s + 1) S = peS D m s S := by
  have h1 := pe_1 (D := D) (E := D) (m := m) (j := s) (j' := s + 1) (s := s) S hs (fun u h1 h2 => by
    by_cases h3 : u < s
    · rw [if_pos h3, if_pos (show u < s + 1 by omega)]
    · rw [if_neg h3, if_neg (show ¬ u < s + 1 by omega)])
  rw [if_neg (Nat.lt_irrefl s), if_pos (Nat.lt_succ_self s)] at h1
  by_cases h5 : (D.2.1 s).2.2.1 = none
  · rw [if_pos h5, if_pos h5] at h1
    have : ¬ (D.2.1 s).2.1 ≤ m := fun q => h ⟨h5, q⟩
    omega
  · rw [if_neg h5, if_neg h5] at h1
    omega
theorem pe_wait {D : DA} {m s : Nat} (hs : s < S) (h : (D.2.1 s).2.2.1 = none ∧ (D.2.1 s).2.1 ≤ m) : peS D m (s + 1) S = peS D m s S + 1 := by
  have h1 := pe_1 (D := D) (E := D) (m := m) (j := s) (j' := s + 1) (s := s) S hs (fun u h1 h2 => by
    by_cases h3 : u < s
    · rw [if_pos h3, if_pos (show u < s + 1 by omega)]
    · rw [if_neg h3, if_neg (show ¬ u < s + 1 by omega)])
  rw [if_neg (Nat.lt_irrefl s), if_pos (Nat.lt_succ_self s), if_pos h.1, if_pos h.1] at h1
  omega
theorem peS_eq {D E : DA} {m j : Nat} (h : E.2.1 = D.2.1) : ∀ S, peS E m j S = peS D m j S
  | 0 => rfl
  | S + 1 => by
    unfold peS
    rw [peS_eq h S, h]
theorem CP.cg {σ σ' : sMem} {D E : DA} {m : Nat} {mv : Bool} {p : Nat} (h : CP σ c N D m mv p) (h82 : σ' 82 0 p = σ 82 0 p) (h83 : σ' 83 0 p = σ 83 0 p) (hE : E.1 p = D.1 p) : CP σ' c N E m mv p := by
  unfold CP
  rw [h82, h83, hE]
  exact h
/-- he goes -/
theorem mv_CR {σ : sMem} {v kd s z m w0 B : Nat} {D : DA} (hs : s < S) (hC : CR σ c v kd N P S G D m s true) (hw : σ 81 0 12 = nI w0 ∧ w0 + peS D m s S = D.2.2.2.2.2) (hn : (D.2.1 s).2.2.1 = none) (hF : (D.2.1 s).2.1 ≤ m) (hz : 1 ≤ fN c (D.2.1 s).1 z) : CR (mvC σ (w0 + (m - (D.2.1 s).2.1)) s z (sY c s) (m + fN c (D.2.1 s).1 z)) c v kd N P S G (goA c D s z (m + fN c (D.2.1 s).1 z)) m (s + 1) true := by
  obtain ⟨hO, hA, ⟨h1, h2, h3, h4⟩, -⟩ := hC
  obtain ⟨q1, q2, q3, q4⟩ := mvC_s (σ := σ) (w := w0 + (m - (D.2.1 s).2.1)) (s := s) (z := z) (y := sY c s) (n := m + fN c (D.2.1 s).1 z)
  refine ⟨⟨by rw [mvC_81 (by decide)]; exact hO.1, by rw [mvC_81 (by decide)]; exact hO.2.1, by rw [mvC_81 (by decide)]; exact hO.2.2⟩, fun p hp => (hA p hp).cg (by rw [mvC_off (by decide)]) (by rw [mvC_off (by decide)]) rfl, ⟨fun u hu => ?_, fun g hg => by rw [mvC_off (by decide)]; exact h2 g hg, by rw [mvC_81 (by decide)]; exact h3, by rw [mvC_81 (by decide)]; exact h4⟩, _, mvC_w, ?_⟩
  · obtain ⟨y1, y2, y3, y4, y5⟩ := h1 u hu
    rw [mvC_off (a := 89) (by decide), mvC_off (a := 88) (by decide)]
    unfold goA
    dsimp only
    by_cases e : u = s
    · subst e
      rw [fu_at, q1, q2, q3]
      refine ⟨rfl, rfl, ?_, y4, y5⟩
      dsimp only
      split
      · rfl
      · exact y3
    · obtain ⟨z1, z2, z3⟩ := q4 u e
      rw [fu_ne e, z1, z2, z3]
      exact ⟨y1, y2, y3, y4, y5⟩
  · have := pe_go (S := S) (D := D) (E := goA c D s z (m + fN c (D.2.1 s).1 z)) (m := m) (s := s) (z := z) (n := 0) hs (fun u _ hu => fu_ne hu) hn hF (fun _ => by
      show m + 1 ≤ ((fu D.2.1 s _) s).2.1
      rw [fu_at]
      show m + 1 ≤ m + fN c (D.2.1 s).1 z
      omega)
    show w0 + (m - (D.2.1 s).2.1) + peS (goA c D s z (m + fN c (D.2.1 s).1 z)) m (s + 1) S = D.2.2.2.2.2
    omega
/-- somebody leads him -/
theorem lb_CR {σ : sMem} {v kd s w m j : Nat} {D : DA} (hs : s < S) (hC : CR σ c v kd N P S G D m j true) : CR (lbC σ s (D.2.1 s).2.2.2.length w D.2.2.2.2.1) c v kd N P S G (ldA D s w) m j true ∧ lbC σ s (D.2.1 s).2.2.2.length w D.2.2.2.2.1 81 0 12 = σ 81 0 12 ∧ peS (ldA D s w) m j S = peS D m j S := by
  obtain ⟨hO, hA, ⟨h1, h2, h3, h4⟩, wc, hw1, hw2⟩ := hC
  have off : ∀ a, a ≠ 81 ∧ a ≠ 88 ∧ a ≠ 89 → lbC σ s (D.2.1 s).2.2.2.length w D.2.2.2.2.1 a = σ a := fun a ha => by
    unfold lbC; rw [sUp_off (by omega), sUp_off (by omega), sUp_off (by omega)]
  have o81 : ∀ k, k ≠ 11 → lbC σ s (D.2.1 s).2.2.2.length w D.2.2.2.2.1 81 0 k = σ 81 0 k := fun k hk => by
    unfold lbC; rw [sUp_off (by decide), sUp_off (by decide), sUp_k hk]
  have hpe : peS (ldA D s w) m j S = peS D m j S := by
    have : ∀ n, peS (ldA D s w) m j n = peS D m j n := by
      intro n
      induction n with
      | zero => rfl
      | succ n ih =>
        unfold peS
        rw [ih]
        have e : ((ldA D s w).2.1 n).2.2.1 = (D.2.1 n).2.2.1 ∧ ((ldA D s w).2.1 n).2.1 = (D.2.1 n).2.1 := by
          show ((fu D.2.1 s _) n).2.2.1 = _ ∧ ((fu D.2.1 s _) n).2.1 = _
          by_cases e : n = s
          · subst e; rw [fu_at]; exact ⟨rfl, rfl⟩
          · rw [fu_ne e]; exact ⟨rfl, rfl⟩
        rw [e.1, e.2]
    exact this S
  refine ⟨⟨⟨by rw [o81 0 (by decide)]; exact hO.1, by rw [o81 1 (by decide)]; exact hO.2.1, by rw [o81 2 (by decide)]; exact hO.2.2⟩, fun p hp => (hA p hp).cg (by rw [off 82 (by decide)]) (by rw [off 83 (by decide)]) rfl, ⟨fun u hu => ?_, fun g hg => by rw [off 86 (by decide)]; exact h2 g hg, by rw [o81 13 (by decide)]; exact h3, ?_⟩, wc, by rw [o81 12 (by decide)]; exact hw1, by rw [hpe]; exact hw2⟩, o81 12 (by decide), hpe⟩
  · obtain ⟨y1, y2, y3, y4, y5⟩ := h1 u hu
    rw [off 84 (by decide), off 85 (by decide), off 87 (by decide)]
    have e89 : lbC σ s (D.2.1 s).2.2.2.length w D.2.2.2.2.1 89 0 u = if u = s then nI ((D.2.1 s).2.2.2.length + 1) else σ 89 0 u := by
      unfold lbC
      by_cases e : u = s
      · subst e; rw [sUp_at, if_pos rfl]
      · rw [sUp_k e, sUp_off (by decide), sUp_off (by decide), if_neg e]
    have e88 : lbC σ s (D.2.1 s).2.2.2.length w D.2.2.2.2.1 88 = sUp σ 88 s (D.2.1 s).2.2.2.length (nI w) 88 := by
      unfold lbC
      rw [sUp_off (by decide)]
      funext a b
      simp [sUp]
    rw [e89, e88]
    unfold ldA
    dsimp only
    by_cases e : u = s
    · subst e
      rw [fu_at, if_pos rfl]
      refine ⟨y1, y2, y3, ?_, fun i x hi => ?_⟩
      · rw [List.length_append, List.length_singleton]
      · dsimp only at hi
        by_cases hil : i < (D.2.1 u).2.2.2.length
        · rw [List.getElem?_append_left hil] at hi
          rw [sUp_k (by omega)]
          exact y5 i x hi
        · rw [List.getElem?_append_right (by omega)] at hi
          have hi0 : i = (D.2.1 u).2.2.2.length := by
            obtain ⟨hlt, -⟩ := List.getElem?_eq_some_iff.mp hi
            simp at hlt
            omega
          subst hi0
          rw [Nat.sub_self] at hi
          have : w = x := by simpa using hi
          rw [sUp_at, this]
    · rw [fu_ne e, if_neg e, sUp_rowne e]
      exact ⟨y1, y2, y3, y4, y5⟩
  · unfold lbC ldA
    rw [sUp_off (by decide), sUp_off (by decide), sUp_at]
/-- a person goes on from z at minute n, after m -/
theorem per_CR {σ : sMem} {v kd m j p z n : Nat} {D : DA} (hC : CR σ c v kd N P S G D m j true) (ho : ouP c p = true) (hmn : m ≤ n) : CR (sUp (sUp σ 82 0 p (nI z)) 83 0 p (nI n)) c v kd N P S G (fu D.1 p (z, n), D.2) m j true := by
  obtain ⟨hO, hA, ⟨h1, h2, h3, h4⟩, wc, hw1, hw2⟩ := hC
  have off : ∀ a, a ≠ 82 ∧ a ≠ 83 → sUp (sUp σ 82 0 p (nI z)) 83 0 p (nI n) a = σ a := fun a ha => by rw [sUp_off ha.2, sUp_off ha.1]
  refine ⟨⟨by rw [off 81 (by decide)]; exact hO.1, by rw [off 81 (by decide)]; exact hO.2.1, by rw [off 81 (by decide)]; exact hO.2.2⟩, fun r hr => ?_, ⟨fun u hu => ?_, fun g hg => by rw [off 86 (by decide)]; exact h2 g hg, by rw [off 81 (by decide)]; exact h3, by rw [off 81 (by decide)]; exact h4⟩, wc, by rw [off 81 (by decide)]; exact hw1, ?_⟩
  · by_cases e : r = p
    · subst e
      refine ⟨fun _ => ⟨0, Nat.zero_le _, fun j hj => absurd hj (Nat.not_lt_zero _), fun _ => Or.inl ?_, ?_, ?_⟩, fun h => (by rw [ho] at h; cases h)⟩
      · show m ≤ ((fu D.1 r (z, n)) r).2
        rw [fu_at]; exact hmn
      · show _ = nI ((fu D.1 r (z, n)) r).1
        rw [fu_at, sUp_off (by decide), sUp_at]
      · show _ = nI ((fu D.1 r (z, n)) r).2
        rw [fu_at, sUp_at]
    · exact (hA r hr).cg (by rw [sUp_off (by decide), sUp_k e]) (by rw [sUp_k e, sUp_off (by decide)]) (fu_ne e)
  · rw [off 84 (by decide), off 85 (by decide), off 87 (by decide), off 88 (by decide), off 89 (by decide)]
    exact h1 u hu
  · have : peS (fu D.1 p (z, n), D.2) m j S = peS D m j S := by
      apply peS_eq
      rfl
    rw [this]; exact hw2
/-- a guide goes, and is paid -/
theorem gui_CR {σ : sMem} {v kd m j g f x : Nat} {D : DA} (hC : CR σ c v kd N P S G D m j true) : CR (sUp (sUp σ 86 0 g (nI f)) 81 0 13 (nI x)) c v kd N P S G (D.1, D.2.1, fu D.2.2.1 g f, x, D.2.2.2.2) m j true := by
  obtain ⟨hO, hA, ⟨h1, h2, h3, h4⟩, wc, hw1, hw2⟩ := hC
  have off : ∀ a, a ≠ 86 ∧ a ≠ 81 → sUp (sUp σ 86 0 g (nI f)) 81 0 13 (nI x) a = σ a := fun a ha => by rw [sUp_off ha.2, sUp_off ha.1]
  have o81 : ∀ k, k ≠ 13 → sUp (sUp σ 86 0 g (nI f)) 81 0 13 (nI x) 81 0 k = σ 81 0 k := fun k hk => by rw [sUp_k hk, sUp_off (by decide)]
  refine ⟨⟨by rw [o81 0 (by decide)]; exact hO.1, by rw [o81 1 (by decide)]; exact hO.2.1, by rw [o81 2 (by decide)]; exact hO.2.2⟩, fun r hr => (hA r hr).cg (by rw [off 82 (by decide)]) (by rw [off 83 (by decide)]) rfl, ⟨fun u hu => ?_, fun g' hg' => ?_, by rw [sUp_at], by rw [o81 11 (by decide)]; exact h4⟩, wc, by rw [o81 12 (by decide)]; exact hw1, ?_⟩
  · rw [off 84 (by decide), off 85 (by decide), off 87 (by decide), off 88 (by decide), off 89 (by decide)]
    exact h1 u hu
  · show _ = nI (fu D.2.2.1 g f g')
    by_cases e : g' = g
    · subst e; rw [fu_at, sUp_off (by decide), sUp_at]
    · rw [fu_ne e, sUp_off (by decide), sUp_k e]; exact h2 g' hg'
  · have : peS (D.1, D.2.1, fu D.2.2.1 g f, x, D.2.2.2.2) m j S = peS D m j S := by
      apply peS_eq
      rfl
    rw [this]; exact hw2
end
