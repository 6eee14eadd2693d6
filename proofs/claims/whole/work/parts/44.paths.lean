/-! PATHS: along the WAY, place by place -/
/-- the next place on the WAY from a to q; a itself without one, and at q -/
def nxN (t : sMem) (a q : Nat) : Nat := if t 15 a q = -1 then a else (t 15 a q).toNatClampNeg
theorem nx_at {t : sMem} {N : Nat} (h : WY t N) {a q : Nat} (ha : a < N) (hq : q < N) (hf : fN t a q < 1000000) (hne : a ≠ q) :
    nxN t a q < N ∧ t 15 a q = nI (nxN t a q) ∧ t 13 a (nxN t a q) = nI (fN t a (nxN t a q)) ∧ 1 ≤ fN t a (nxN t a q) ∧ fN t a (nxN t a q) ≤ 60 ∧ fN t a (nxN t a q) + fN t (nxN t a q) q = fN t a q := by
  have h12 := h.1.1
  obtain ⟨c, w, hc, e15, e13, hw1, hw2, hw⟩ := h.1.2.2 a q ha hq hne hf
  have hn : nxN t a q = c := by
    unfold nxN
    rw [e15, if_neg (nI_ne (by omega)), nI_clamp (by omega)]
  rw [hn]
  obtain ⟨w', e', hle, hw'⟩ := h.2.2.1 a c ha hc
  have hww : w = w' := (nI_eq (by omega) (by omega)).mp (e13.symm.trans e')
  subst hww
  have h3 := h.2.1 a c q ha hc hq
  have he : fN t a c = w := by omega
  exact ⟨hc, e15, by rw [he]; exact e13, by omega, by omega, by omega⟩
theorem nx_self {t : sMem} {N : Nat} (h : WY t N) {q : Nat} (hq : q < N) : nxN t q q = q := by
  unfold nxN
  rw [if_pos (h.2.2.2 q q hq hq (Or.inl rfl))]
theorem fN_self {t : sMem} {N : Nat} (h : WY t N) {q : Nat} (hq : q < N) : fN t q q = 0 := (h.1.2.1 q q hq hq).2.2.mp rfl
def st1 (t : sMem) (q : Nat) (s : Nat × Nat) : Nat × Nat := (nxN t s.1 q, s.2 + fN t s.1 (nxN t s.1 q))
def pth (t : sMem) (q : Nat) : Nat → Nat × Nat → Nat × Nat
  | 0, s => s
  | k + 1, s => pth t q k (st1 t q s)
theorem pth_s (t : sMem) (q : Nat) : ∀ k s, pth t q (k + 1) s = st1 t q (pth t q k s)
  | 0, _ => rfl
  | k + 1, s => pth_s t q k (st1 t q s)
/-- how many steps it is from a to q -/
def plN (t : sMem) (q : Nat) : Nat → Nat → Nat
  | 0, _ => 0
  | f + 1, a => if a = q then 0 else plN t q f (nxN t a q) + 1
def pl (t : sMem) (q a : Nat) : Nat := plN t q 12 a
section
variable {t : sMem} {N q : Nat} (h : WY t N) (hq : q < N)
theorem rk_nx {a : Nat} (h : WY t N) (hq : q < N) (ha : a < N) (hf : fN t a q < 1000000) (hne : a ≠ q) : rk t N q (nxN t a q) < rk t N q a := by
  obtain ⟨hc, -, -, h1, -, h2⟩ := nx_at h ha hq hf hne
  exact rk_lt hc (by omega)
theorem plN_rk (h : WY t N) (hq : q < N) : ∀ f g a, a < N → fN t a q < 1000000 → rk t N q a < f → rk t N q a < g → plN t q f a = plN t q g a
  | 0, _, _, _, _, h1, _ => absurd h1 (Nat.not_lt_zero _)
  | _ + 1, 0, _, _, _, _, h2 => absurd h2 (Nat.not_lt_zero _)
  | f + 1, g + 1, a, ha, hf, h1, h2 => by
    unfold plN
    by_cases hne : a = q
    · rw [if_pos hne, if_pos hne]
    · rw [if_neg hne, if_neg hne]
      obtain ⟨hc, -, -, h3, -, h4⟩ := nx_at h ha hq hf hne
      have h5 := rk_nx h hq ha hf hne
      rw [plN_rk h hq f g (nxN t a q) hc (by omega) (by omega) (by omega)]
theorem pl_self (t : sMem) (q : Nat) : pl t q q = 0 := by
  unfold pl plN
  rw [if_pos rfl]
theorem pl_s {a : Nat} (h : WY t N) (hq : q < N) (ha : a < N) (hf : fN t a q < 1000000) (hne : a ≠ q) : pl t q a = pl t q (nxN t a q) + 1 := by
  obtain ⟨hc, -, -, h3, -, h4⟩ := nx_at h ha hq hf hne
  have h12 := h.1.1
  have e1 : pl t q a = plN t q 11 (nxN t a q) + 1 := by
    show plN t q 12 a = _
    rw [show plN t q 12 a = if a = q then 0 else plN t q 11 (nxN t a q) + 1 from rfl, if_neg hne]
  rw [e1]
  have h5 := rk_nx h hq ha hf hne
  have h6 := rk_le (σ := t) (b := q) ha
  have h7 := rk_le (σ := t) (b := q) hc
  rw [plN_rk h hq 11 12 (nxN t a q) hc (by omega) (by omega) (by omega)]
  rfl
theorem pl_rk (h : WY t N) (hq : q < N) : ∀ f a, a < N → fN t a q < 1000000 → plN t q f a ≤ rk t N q a
  | 0, _, _, _ => Nat.zero_le _
  | f + 1, a, ha, hf => by
    unfold plN
    by_cases hne : a = q
    · rw [if_pos hne]; exact Nat.zero_le _
    · rw [if_neg hne]
      obtain ⟨hc, -, -, h3, -, h4⟩ := nx_at h ha hq hf hne
      have h5 := rk_nx h hq ha hf hne
      have := pl_rk h hq f (nxN t a q) hc (by omega)
      omega
theorem pl_le {a : Nat} (h : WY t N) (hq : q < N) (ha : a < N) (hf : fN t a q < 1000000) : pl t q a ≤ 11 := by
  have h1 := pl_rk h hq 12 a ha hf
  have h2 := rk_le (σ := t) (b := q) ha
  have h3 := h.1.1
  show plN t q 12 a ≤ 11
  omega
/-- what holds k steps on -/
theorem pth_at (h : WY t N) (hq : q < N) : ∀ k a w, a < N → fN t a q < 1000000 → k ≤ pl t q a → (pth t q k (a, w)).1 < N ∧ fN t (pth t q k (a, w)).1 q < 1000000 ∧ (pth t q k (a, w)).2 + fN t (pth t q k (a, w)).1 q = w + fN t a q ∧ pl t q (pth t q k (a, w)).1 + k = pl t q a ∧ w + k ≤ (pth t q k (a, w)).2
  | 0, a, w, ha, hf, _ => ⟨ha, hf, rfl, rfl, Nat.le_refl _⟩
  | k + 1, a, w, ha, hf, hk => by
    by_cases hne : a = q
    · subst hne
      rw [pl_self] at hk
      omega
    · obtain ⟨hc, -, -, h3, -, h4⟩ := nx_at h ha hq hf hne
      have h5 := pl_s h hq ha hf hne
      obtain ⟨i1, i2, i3, i4, i5⟩ := pth_at h hq k (nxN t a q) (w + fN t a (nxN t a q)) hc (by omega) (by omega)
      refine ⟨i1, i2, ?_, ?_, ?_⟩
      · show (pth t q k (nxN t a q, w + fN t a (nxN t a q))).2 + fN t (pth t q k (nxN t a q, w + fN t a (nxN t a q))).1 q = w + fN t a q
        omega
      · show pl t q (pth t q k (nxN t a q, w + fN t a (nxN t a q))).1 + (k + 1) = pl t q a
        omega
      · show w + (k + 1) ≤ (pth t q k (nxN t a q, w + fN t a (nxN t a q))).2
        omega
theorem pth_q {k a w : Nat} (h : WY t N) (hq : q < N) (ha : a < N) (hf : fN t a q < 1000000) (hk : k ≤ pl t q a) : (pth t q k (a, w)).1 = q ↔ k = pl t q a := by
  obtain ⟨i1, i2, i3, i4, i5⟩ := pth_at h hq k a w ha hf hk
  constructor
  · intro e
    rw [e, pl_self] at i4
    omega
  · intro e
    by_cases hne : (pth t q k (a, w)).1 = q
    · exact hne
    · have := pl_s h hq i1 i2 hne
      omega
/-- later along the path is later -/
theorem pth_mono (h : WY t N) (hq : q < N) {a w : Nat} (ha : a < N) (hf : fN t a q < 1000000) : ∀ (d j : Nat), j + d ≤ pl t q a → (pth t q j (a, w)).2 + d ≤ (pth t q (j + d) (a, w)).2 := by
  intro d j hjd
  obtain ⟨i1, i2, i3, i4, i5⟩ := pth_at h hq j a w ha hf (by omega)
  have e : ∀ j d s, pth t q (j + d) s = pth t q d (pth t q j s) := by
    intro j d
    induction j with
    | zero => intro s; rw [Nat.zero_add]; rfl
    | succ j ih =>
      intro s
      rw [show j + 1 + d = (j + d) + 1 by omega]
      show pth t q (j + d) (st1 t q s) = _
      exact ih _
  rw [e]
  have h9 := (pth_at h hq d (pth t q j (a, w)).1 (pth t q j (a, w)).2 i1 i2 (by omega)).2.2.2.2
  exact h9
theorem fN_le (h : WY t N) (hq : q < N) : ∀ n a, pl t q a = n → a < N → fN t a q < 1000000 → fN t a q ≤ 60 * n
  | 0, a, hn, ha, hf => by
    by_cases hne : a = q
    · subst hne; rw [fN_self h hq]; omega
    · have := pl_s h hq ha hf hne
      omega
  | n + 1, a, hn, ha, hf => by
    by_cases hne : a = q
    · subst hne; rw [fN_self h hq]; omega
    · obtain ⟨hc, -, -, h3, h6, h4⟩ := nx_at h ha hq hf hne
      have h5 := pl_s h hq ha hf hne
      have := fN_le h hq n (nxN t a q) (by omega) hc (by omega)
      omega
theorem fN_660 {a : Nat} (h : WY t N) (hq : q < N) (ha : a < N) (hf : fN t a q < 1000000) : fN t a q ≤ 660 := by
  have h1 := fN_le h hq _ a rfl ha hf
  have h2 := pl_le h hq ha hf
  omega
end
theorem nIa (a b : Nat) : nI a + nI b = nI (a + b) := by
  show Int32.ofNat a + Int32.ofNat b = Int32.ofNat (a + b)
  rw [Int32.ofNat_add]
