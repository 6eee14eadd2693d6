/-! THE REFERENCE: what asking keeps -/
theorem gtM_25 (σ : sMem) (s : Nat) (z m : Int32) (t : Nat) : gtM σ s z m 25 0 t = if t = s then z else σ 25 0 t := by
  unfold gtM
  show (if z = σ 8 s 1 then sUp (sUp (sUp σ 25 0 s z) 26 0 s m) 27 0 s m else sUp (sUp σ 25 0 s z) 26 0 s m) 25 0 t = _
  have h : ∀ u : sMem, u 25 = sUp σ 25 0 s z 25 → u 25 0 t = if t = s then z else σ 25 0 t := by
    intro u hu
    rw [hu]
    simp [sUp]
  split
  · exact h _ (by rw [sUp_off (by decide), sUp_off (by decide)])
  · exact h _ (by rw [sUp_off (by decide)])
theorem lbM_28 (σ : sMem) (s : Nat) (w : Int32) (t : Nat) : lbM σ s w 28 0 t = if t = s then σ 28 0 s + 1 else σ 28 0 t := by
  unfold lbM
  generalize ht : (if σ 28 0 s < 40 then sUp σ 29 s (σ 28 0 s).toNatClampNeg w else σ) = u
  have hu : u 28 = σ 28 := by
    rw [← ht]
    split
    · exact sUp_off (by decide)
    · rfl
  show sUp (sUp u 28 0 s (u 28 0 s + 1)) 0 0 46 _ 28 0 t = _
  rw [sUp_off (by decide), hu]
  simp only [sUp]
  rw [hu]
  by_cases h : t = s
  · simp [h]
  · simp [h]
theorem lbM_0 (σ : sMem) (s : Nat) (w : Int32) (k : Nat) (hk : k ≠ 46) : lbM σ s w 0 0 k = σ 0 0 k := by
  unfold lbM
  generalize ht : (if σ 28 0 s < 40 then sUp σ 29 s (σ 28 0 s).toNatClampNeg w else σ) = u
  have hu : u 0 = σ 0 := by
    rw [← ht]
    split
    · exact sUp_off (by decide)
    · rfl
  show sUp (sUp u 28 0 s (u 28 0 s + 1)) 0 0 46 _ 0 0 k = _
  rw [sUp_k hk, sUp_off (by decide), hu]
theorem stL_20 {to p : Nat} : ∀ (f h : Nat) (m : Int32) (n : Nat) (s : sMem), (∃ n' : Nat, n' ≤ n + f ∧ stL to p f h m n s 20 0 p = nI n') ∧ ∀ q, q ≠ p → stL to p f h m n s 20 0 q = s 20 0 q
  | 0, h, m, n, s => by
    unfold stL
    refine ⟨⟨n, by omega, ?_⟩, fun q hq => ?_⟩
    · rw [sUp_off (by decide), sUp_at]
    · rw [sUp_off (by decide), sUp_k hq]
  | f + 1, h, m, n, s => by
    unfold stL
    split
    · refine ⟨⟨n, by omega, ?_⟩, fun q hq => ?_⟩
      · rw [sUp_off (by decide), sUp_at]
      · rw [sUp_off (by decide), sUp_k hq]
    · obtain ⟨⟨n', h1, h2⟩, h3⟩ := stL_20 (to := to) (p := p) f (s 15 h to).toNatClampNeg (m + s 13 h (s 15 h to).toNatClampNeg) (n + 1) (sUp (sUp s 18 p n (s 15 h to)) 19 p n (m + s 13 h (s 15 h to).toNatClampNeg))
      refine ⟨⟨n', by omega, h2⟩, fun q hq => ?_⟩
      rw [h3 q hq, sUp_off (by decide), sUp_off (by decide)]
theorem stM_20 (σ : sMem) (p z : Nat) (m : Int32) : (∃ n' : Nat, n' ≤ 13 ∧ stM σ p z m 20 0 p = nI n') ∧ ∀ q, q ≠ p → stM σ p z m 20 0 q = σ 20 0 q := by
  unfold stM
  obtain ⟨⟨n', h1, h2⟩, h3⟩ := stL_20 (to := (σ 6 p 1).toNatClampNeg) (p := p) 12 z m 1 (sUp (sUp σ 18 p 0 (nI z)) 19 p 0 m)
  refine ⟨⟨n', by omega, h2⟩, fun q hq => ?_⟩
  rw [h3 q hq, sUp_off (by decide), sUp_off (by decide)]
theorem TD.cg {σ σ' : sMem} {N P S : Nat} (h : TD σ N P S) (hh : ∀ a, a = 3 ∨ a = 6 ∨ a = 8 ∨ a = 13 ∨ a = 14 ∨ a = 15 → σ' a = σ a) : TD σ' N P S :=
  h.congr (hh 3 (by simp)) (hh 6 (by simp)) (hh 8 (by simp)) (hh 13 (by simp)) (hh 14 (by simp)) (hh 15 (by simp))
/-- the day's facts over a memory that differs in the day's own rows alone -/
theorem DJ.next {σ σ' : sMem} {N P S G B : Nat} (h : DJ σ N P S G B) (hh : ∀ a, a = 3 ∨ a = 6 ∨ a = 8 ∨ a = 13 ∨ a = 14 ∨ a = 15 ∨ a = 16 → σ' a = σ a) (h0 : σ' 0 0 26 = σ 0 0 26)
    (h25 : ∀ t, t < S → σ' 25 0 t = σ 25 0 t ∨ ∃ x : Nat, σ' 25 0 t = nI x ∧ x < N) (h20 : ∀ q, q < P → σ' 20 0 q = σ 20 0 q ∨ ∃ g : Nat, σ' 20 0 q = nI g ∧ g ≤ 13) (h28 : ∀ t, t < S → σ' 28 0 t = σ 28 0 t ∨ σ' 28 0 t = σ 28 0 t + 1) : DJ σ' N P S G (B + 1) := by
  obtain ⟨hT, hR, hD, hX, hF, hG, hL⟩ := h
  refine ⟨hT.cg (fun a ha => hh a (by rcases ha with h | h | h | h | h | h <;> simp [h])), hR.congr (hh 14 (by simp)), ⟨fun t ht => ?_, fun q hq => ?_⟩, ?_, ?_, ?_, fun t ht => ?_⟩
  · rcases h25 t ht with e | e
    · rw [e]; exact hD.1 t ht
    · exact e
  · rcases h20 q hq with e | e
    · rw [e]; exact hD.2 q hq
    · exact e
  · unfold NX; rw [hh 15 (by simp)]; exact hX
  · unfold TF; rw [hh 16 (by simp)]; exact hF
  · rw [h0]; exact hG
  · obtain ⟨k, ek, hk⟩ := hL t ht
    rcases h28 t ht with e | e
    · exact ⟨k, by rw [e, ek], by omega⟩
    · exact ⟨k + 1, by rw [e, ek]; exact nIs k, by omega⟩
theorem gtM_DJ {σ : sMem} {N P S G B : Nat} (h : DJ σ N P S G B) (s z : Nat) (m : Int32) (hz : z < N) : DJ (gtM σ s (nI z) m) N P S G (B + 1) := by
  refine h.next (fun a ha => gtM_off (by omega)) ?_ (fun t ht => ?_) (fun q hq => Or.inl ?_) (fun t ht => Or.inl ?_)
  · rw [gtM_off (by decide)]
  · rw [gtM_25]
    by_cases e : t = s
    · rw [if_pos e]; exact Or.inr ⟨z, rfl, hz⟩
    · rw [if_neg e]; exact Or.inl rfl
  · rw [gtM_off (by decide)]
  · rw [gtM_off (by decide)]
theorem bpM_DJ {σ : sMem} {N P S G B : Nat} (h : DJ σ N P S G B) (p s : Nat) (m : Int32) (hs : s < S) (hc : canM σ p s m = true) : DJ (bpM σ p s m) N P S G (B + 1) := by
  have h0 := h
  obtain ⟨hT, hR, hD, hX, hF, hG, hL⟩ := h0
  have hN := hT.1.1
  obtain ⟨x, ex, hx⟩ := hD.1 s hs
  obtain ⟨-, y, -, -, -, ⟨ey, hy⟩, -⟩ := hT.2.2.2.2.2.2 s hs
  have hz : ledM σ x y < N := (ledM_lt hT.1 hy (σ 0 0 27) 12 x 0 hx (canM_way hT ex hx ey hy hc)).1
  unfold bpM
  dsimp only
  rw [ex, ey, nI_clamp (show x < 2 ^ 31 by omega), nI_clamp (show y < 2 ^ 31 by omega)]
  generalize ledM σ x y = z at hz ⊢
  show DJ (gtM (sUp (stM (lbM σ s (nI p)) p z (m + σ 14 x z)) 21 0 p (m + σ 14 x z)) s (nI z) (m + σ 14 x z)) N P S G (B + 1)
  refine h.next (fun a ha => ?_) ?_ (fun t ht => ?_) (fun q hq => ?_) (fun t ht => ?_)
  · rw [gtM_off (by omega), sUp_off (by omega), stM_off (by omega), lbM_off (by omega)]
  · rw [gtM_off (by decide), sUp_off (by decide), stM_off (by decide), lbM_0 _ _ _ _ (by decide)]
  · rw [gtM_25, sUp_off (by decide), stM_off (by decide), lbM_off (by decide)]
    by_cases e : t = s
    · rw [if_pos e]; exact Or.inr ⟨z, rfl, hz⟩
    · rw [if_neg e]; exact Or.inl rfl
  · rw [gtM_off (by decide), sUp_off (by decide)]
    obtain ⟨⟨n', h1, h2⟩, h3⟩ := stM_20 (lbM σ s (nI p)) p z (m + σ 14 x z)
    by_cases e : q = p
    · subst e; exact Or.inr ⟨n', h2, h1⟩
    · rw [h3 q e, lbM_off (by decide)]; exact Or.inl rfl
  · rw [gtM_off (by decide), sUp_off (by decide), stM_off (by decide), lbM_28]
    by_cases e : t = s
    · subst e; rw [if_pos rfl]; exact Or.inr rfl
    · rw [if_neg e]; exact Or.inl rfl
theorem bgM_DJ {σ : sMem} {N P S G B : Nat} (h : DJ σ N P S G B) (g s : Nat) (m : Int32) (hs : s < S) : DJ (bgM σ g s m) N P S G (B + 1) := by
  have h0 := h
  obtain ⟨hT, hR, hD, hX, hF, hG, hL⟩ := h0
  have hN := hT.1.1
  obtain ⟨-, y, -, -, -, ⟨ey, hy⟩, -⟩ := hT.2.2.2.2.2.2 s hs
  unfold bgM
  dsimp only
  rw [ey]
  generalize (σ 25 0 s).toNatClampNeg = x
  generalize m + 2 * σ 14 x (nI y).toNatClampNeg = v1
  generalize sUp (lbM σ s (100 + nI g)) 24 0 g v1 0 0 44 + σ 10 g 1 * 2 * σ 14 x (nI y).toNatClampNeg = v2
  show DJ (gtM (sUp (sUp (lbM σ s (100 + nI g)) 24 0 g v1) 0 0 44 v2) s (nI y) _) N P S G (B + 1)
  refine h.next (fun a ha => ?_) ?_ (fun t ht => ?_) (fun q hq => Or.inl ?_) (fun t ht => ?_)
  · rw [gtM_off (by omega), sUp_off (by omega), sUp_off (by omega), lbM_off (by omega)]
  · rw [gtM_off (by decide), sUp_k (by decide), sUp_off (by decide), lbM_0 _ _ _ _ (by decide)]
  · rw [gtM_25, sUp_off (by decide), sUp_off (by decide), lbM_off (by decide)]
    by_cases e : t = s
    · rw [if_pos e]; exact Or.inr ⟨y, rfl, hy⟩
    · rw [if_neg e]; exact Or.inl rfl
  · rw [gtM_off (by decide), sUp_off (by decide), sUp_off (by decide), lbM_off (by decide)]
  · rw [gtM_off (by decide), sUp_off (by decide), sUp_off (by decide), lbM_28]
    by_cases e : t = s
    · subst e; rw [if_pos rfl]; exact Or.inr rfl
    · rw [if_neg e]; exact Or.inl rfl
theorem DJ.mono {σ : sMem} {N P S G B B' : Nat} (h : DJ σ N P S G B) (hb : B ≤ B') : DJ σ N P S G B' :=
  ⟨h.1, h.2.1, h.2.2.1, h.2.2.2.1, h.2.2.2.2.1, h.2.2.2.2.2.1, fun s hs => by obtain ⟨k, e, hk⟩ := h.2.2.2.2.2.2 s hs; exact ⟨k, e, by omega⟩⟩
theorem asM_DJ {σ : sMem} {N P S G B : Nat} (h : DJ σ N P S G B) (s : Nat) (kd m : Int32) (hs : s < S) : DJ (asM σ P G s kd m) N P S G (B + 1) := by
  have h0 := h
  obtain ⟨hT, hR, hD, hX, hF, hG, hL⟩ := h0
  have hN := hT.1.1
  obtain ⟨x, ex, hx⟩ := hD.1 s hs
  obtain ⟨-, y, -, -, -, ⟨ey, hy⟩, -⟩ := hT.2.2.2.2.2.2 s hs
  have hp : ∀ q, asP σ P s kd m = some q → DJ (bpM σ q s m) N P S G (B + 1) := fun q hq => bpM_DJ h q s m hs (asP_some hF hT.2.2.2.1.2 hs hq).2
  unfold asM
  dsimp only
  rw [ey]
  split
  · exact gtM_DJ h s y _ hy
  · split
    · rename_i h3
      rw [ex, nI_clamp (show x < 2 ^ 31 by omega), nI_clamp (show y < 2 ^ 31 by omega)] at h3 ⊢
      obtain ⟨n, en, hn⟩ := (hX x y hx hy).resolve_left h3.2.1
      rw [en]
      exact gtM_DJ h s n _ hn
    · split
      · rename_i g p e1 e2
        split
        · exact bgM_DJ h g s m hs
        · exact hp _ e2
      · exact bgM_DJ h _ s m hs
      · rename_i p e1 e2
        exact hp _ e2
      · refine h.next (fun a ha => ?_) ?_ (fun t ht => Or.inl ?_) (fun q hq => Or.inl ?_) (fun t ht => Or.inl ?_)
        · exact sUp_off (by omega)
        · rw [sUp_k (by decide)]
        · rw [sUp_off (by decide)]
        · rw [sUp_off (by decide)]
        · rw [sUp_off (by decide)]
