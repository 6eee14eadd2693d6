/-! LEARNING by numbers -/
def lnzF (m : Nat) : Nat → Nat → Nat
  | 0, z => z
  | f + 1, z => if m.testBit z = true then lnzF m f (z + 1) else z
/-- the least place that is not known -/
def lnz (m : Nat) : Nat := lnzF m 13 0
def unI (N m : Nat) : Int32 := nI (2 ^ N - 1) &&& (nI m ^^^ Int32.ofInt (-1))
theorem un_all : ((List.range 13).all fun N => (List.range (2 ^ N)).all fun m => decide ((unI N m = 0 ↔ m = 2 ^ N - 1) ∧ (m ≠ 2 ^ N - 1 → unI N m &&& (-(unI N m)) = nI (2 ^ (lnz m)) ∧ lnz m < N ∧ m.testBit (lnz m) = false) ∧ (pcB m N = N ↔ m = 2 ^ N - 1))) = true := by decide +kernel
theorem un_at {N m : Nat} (hN : N ≤ 12) (hm : m < 2 ^ N) : (unI N m = 0 ↔ m = 2 ^ N - 1) ∧ (m ≠ 2 ^ N - 1 → unI N m &&& (-(unI N m)) = nI (2 ^ (lnz m)) ∧ lnz m < N ∧ m.testBit (lnz m) = false) ∧ (pcB m N = N ↔ m = 2 ^ N - 1) :=
  of_decide_eq_true (List.all_eq_true.mp (List.all_eq_true.mp un_all N (List.mem_range.mpr (by omega))) m (List.mem_range.mpr hm))
theorem lnzF_at {m z f : Nat} (h : m.testBit z = true) : lnzF m (f + 1) z = lnzF m f (z + 1) := if_pos h
theorem lnzF_no {m z f : Nat} (h : ¬ m.testBit z = true) : lnzF m (f + 1) z = z := if_neg h
theorem bit_and {n z : Nat} (hz : z < 31) : nI n &&& nI (2 ^ z) = 0 ↔ n.testBit z = false := by
  rw [nI_and]
  by_cases h : n.testBit z = true
  · have e : n &&& 2 ^ z = 2 ^ z := by
      apply Nat.eq_of_testBit_eq
      intro i
      rw [Nat.testBit_and, Nat.testBit_two_pow]
      by_cases e : z = i
      · subst e; rw [h]; simp
      · simp [e]
    rw [e, h]
    have hp : 2 ^ z < 2 ^ 31 := Nat.pow_lt_pow_right (by decide) hz
    have h1 : 0 < 2 ^ z := Nat.two_pow_pos z
    constructor
    · intro q
      have := (nI_eq (b := 0) hp (by decide)).mp q
      omega
    · intro q; cases q
  · have h' : n.testBit z = false := by simpa using h
    have e : n &&& 2 ^ z = 0 := by
      apply Nat.eq_of_testBit_eq
      intro i
      rw [Nat.testBit_and, Nat.testBit_two_pow, Nat.zero_testBit]
      by_cases e : z = i
      · subst e; rw [h']; simp
      · simp [e]
    rw [e, h']
    exact ⟨fun _ => rfl, fun _ => rfl⟩
theorem pcB_set {m z : Nat} (hz : m.testBit z = false) : ∀ n, pcB (m ||| 2 ^ z) n = pcB m n + (if z < n then 1 else 0)
  | 0 => rfl
  | n + 1 => by
    have ih := pcB_set hz n
    show pcB (m ||| 2 ^ z) n + (if (m ||| 2 ^ z).testBit n = true then 1 else 0) = pcB m n + (if m.testBit n = true then 1 else 0) + (if z < n + 1 then 1 else 0)
    rw [Nat.testBit_or, Nat.testBit_two_pow]
    by_cases h : z = n
    · subst h
      rw [if_neg (Nat.lt_irrefl z)] at ih
      rw [if_pos (Nat.lt_succ_self z), hz, ih]
      simp
    · have e : (m.testBit n || decide (z = n)) = m.testBit n := by simp [h]
      rw [e]
      by_cases h2 : z < n
      · rw [if_pos h2] at ih; rw [if_pos (show z < n + 1 by omega)]; omega
      · rw [if_neg h2] at ih; rw [if_neg (show ¬ z < n + 1 by omega)]; omega
theorem pcB_hi {m N : Nat} (hm : m < 2 ^ N) : ∀ k, pcB m (N + k) = pcB m N
  | 0 => rfl
  | k + 1 => by
    show pcB m (N + k) + (if m.testBit (N + k) = true then 1 else 0) = pcB m N
    rw [pcB_hi hm k, Nat.testBit_lt_two_pow (Nat.lt_of_lt_of_le hm (Nat.pow_le_pow_right (by decide) (Nat.le_add_right _ _)))]
    rfl
theorem pcB_12 {m N : Nat} (hN : N ≤ 12) (hm : m < 2 ^ N) : pcB m 12 = pcB m N := by
  have := pcB_hi hm (12 - N)
  rw [show N + (12 - N) = 12 by omega] at this
  exact this
/-- who leads him: the first from o on -/
def lnW (M : Nat → Nat) (z p led : Nat) : Nat → Nat → Option Nat
  | 0, _ => none
  | f + 1, o => if o ≠ p ∧ led.testBit o = false ∧ (M o).testBit z = true then some o else lnW M z p led f (o + 1)
/-- what all know, who has led, whether anybody learns -/
def lnU (K : Nat → Nat) (z p led : Nat) (any : Bool) (w : Option Nat) : (Nat → Nat) × Nat × Bool := match w with
  | none => (K, led, any)
  | some o => (fu K p (K p ||| 2 ^ z), led ||| 2 ^ o, true)
def lnS (M : Nat → Nat) (N P p : Nat) (st : (Nat → Nat) × Nat × Bool) : (Nat → Nat) × Nat × Bool := if M p = 2 ^ N - 1 then st else lnU st.1 (lnz (M p)) p st.2.1 st.2.2 (lnW M (lnz (M p)) p st.2.1 P 0)
def lnD (N P : Nat) (M : Nat → Nat) : (Nat → Nat) × Nat × Bool := forG (lnS M N P) (M, 0, false) P
def lnI (N P : Nat) (M : Nat → Nat) : Nat → Nat → Nat
  | 0 => M
  | d + 1 => (lnD N P (lnI N P M d)).1
def smK (K : Nat → Nat) : Nat → Nat
  | 0 => 0
  | p + 1 => smK K p + pcB (K p) 12
def akB (K : Nat → Nat) (N : Nat) : Nat → Nat → Bool
  | 0, _ => true
  | f + 1, p => if K p = 2 ^ N - 1 then akB K N f (p + 1) else false
def soF (N P : Nat) : Nat → Nat → (Nat → Nat) → Int32
  | 0, d, K => if akB K N P 0 = true then nI d else -1
  | f + 1, d, K => if akB K N P 0 = true then nI d else if (lnD N P K).2.2 = true then soF N P f (d + 1) (lnD N P K).1 else -1
def msK (N : Nat) (K : Nat → Nat) : Nat → Nat
  | 0 => 0
  | p + 1 => msK N K p + (N - pcB (K p) N)
theorem lnW_lt {M : Nat → Nat} {z p led o : Nat} : ∀ f q, lnW M z p led f q = some o → q ≤ o ∧ o < q + f
  | 0, _, h => by cases h
  | f + 1, q, h => by
    unfold lnW at h
    split at h
    · cases h; exact ⟨Nat.le_refl _, by omega⟩
    · obtain ⟨a, b⟩ := lnW_lt f (q + 1) h
      exact ⟨by omega, by omega⟩
/-- what holds behind p people of a day -/
def lnInv (M : Nat → Nat) (N P p : Nat) (st : (Nat → Nat) × Nat × Bool) : Prop := (∀ q, p ≤ q → st.1 q = M q) ∧ (∀ q, q < P → st.1 q < 2 ^ N ∧ pcB (M q) N ≤ pcB (st.1 q) N) ∧ st.2.1 < 2 ^ P ∧ (st.2.2 = true → ∃ q, q < p ∧ pcB (M q) N < pcB (st.1 q) N)
theorem lnS_inv {M : Nat → Nat} {N P p : Nat} {st : (Nat → Nat) × Nat × Bool} (hN : N ≤ 12) (hM : ∀ q, q < P → M q < 2 ^ N) (hp : p < P) (h : lnInv M N P p st) : lnInv M N P (p + 1) (lnS M N P p st) := by
  have hk : lnInv M N P (p + 1) st := ⟨fun q hq => h.1 q (by omega), h.2.1, h.2.2.1, fun e => by obtain ⟨q, a, b⟩ := h.2.2.2 e; exact ⟨q, by omega, b⟩⟩
  unfold lnS
  split
  · exact hk
  · rename_i hne
    cases hw : lnW M (lnz (M p)) p st.2.1 P 0 with
    | none => exact hk
    | some o =>
      obtain ⟨z1, z2, z3⟩ := (un_at hN (hM p hp)).2.1 hne
      have ho := lnW_lt _ _ hw
      have hsp := h.1 p (Nat.le_refl _)
      have hpc : pcB (M p ||| 2 ^ lnz (M p)) N = pcB (M p) N + 1 := by rw [pcB_set z3, if_pos z2]
      show lnInv M N P (p + 1) (fu st.1 p (st.1 p ||| 2 ^ lnz (M p)), st.2.1 ||| 2 ^ o, true)
      refine ⟨fun q hq => ?_, fun q hq => ?_, or_lt h.2.2.1 (by omega), fun _ => ⟨p, Nat.lt_succ_self p, ?_⟩⟩
      · show fu st.1 p _ q = M q
        rw [fu_ne (by omega)]
        exact h.1 q (by omega)
      · show fu st.1 p _ q < 2 ^ N ∧ pcB (M q) N ≤ pcB (fu st.1 p _ q) N
        by_cases e : q = p
        · subst e
          rw [fu_at, hsp]
          exact ⟨or_lt (hM q hp) z2, by omega⟩
        · rw [fu_ne e]; exact h.2.1 q hq
      · show pcB (M p) N < pcB (fu st.1 p _ p) N
        rw [fu_at, hsp]
        omega
theorem lnD_inv {M : Nat → Nat} {N P : Nat} (hN : N ≤ 12) (hM : ∀ q, q < P → M q < 2 ^ N) (n : Nat) (hn : n ≤ P) : lnInv M N P n (forG (lnS M N P) (M, 0, false) n) :=
  forG_I (I := fun n st => lnInv M N P n st) ⟨fun _ _ => rfl, fun q hq => ⟨hM q hq, Nat.le_refl _⟩, Nat.two_pow_pos P, fun e => by cases e⟩ n (fun k s hk hs => lnS_inv hN hM (by omega) hs)
theorem lnI_lt {M : Nat → Nat} {N P : Nat} (hN : N ≤ 12) (hM : ∀ q, q < P → M q < 2 ^ N) : ∀ d q, q < P → lnI N P M d q < 2 ^ N
  | 0, q, hq => hM q hq
  | d + 1, q, hq => ((lnD_inv hN (lnI_lt hN hM d) P (Nat.le_refl _)).2.1 q hq).1
theorem akB_at {K : Nat → Nat} {N : Nat} : ∀ f p, (akB K N f p = true ↔ ∀ q, p ≤ q → q < p + f → K q = 2 ^ N - 1)
  | 0, p => ⟨fun _ q h1 h2 => by omega, fun _ => rfl⟩
  | f + 1, p => by
    have ih := akB_at (K := K) (N := N) f (p + 1)
    unfold akB
    split
    · rename_i h
      rw [ih]
      constructor
      · intro g q h1 h2
        by_cases e : q = p
        · rw [e]; exact h
        · exact g q (by omega) (by omega)
      · intro g q h1 h2
        exact g q (by omega) (by omega)
    · rename_i h
      exact ⟨fun e => (by cases e), fun g => absurd (g p (Nat.le_refl _) (by omega)) h⟩
theorem msK_le {N : Nat} {K K' : Nat → Nat} : ∀ n, (∀ q, q < n → pcB (K q) N ≤ pcB (K' q) N) → msK N K' n ≤ msK N K n ∧ ((∃ q, q < n ∧ pcB (K q) N < pcB (K' q) N) → msK N K' n < msK N K n)
  | 0, _ => ⟨Nat.le_refl _, fun ⟨q, hq, _⟩ => absurd hq (Nat.not_lt_zero _)⟩
  | n + 1, h => by
    obtain ⟨a, b⟩ := msK_le n (fun q hq => h q (by omega))
    have hn := h n (Nat.lt_succ_self n)
    have h2 := pcB_le (K' n) N
    refine ⟨?_, fun ⟨q, hq, hl⟩ => ?_⟩
    · show msK N K' n + (N - pcB (K' n) N) ≤ msK N K n + (N - pcB (K n) N)
      omega
    · show msK N K' n + (N - pcB (K' n) N) < msK N K n + (N - pcB (K n) N)
      by_cases e : q = n
      · subst e; omega
      · have := b ⟨q, by omega, hl⟩
        omega
theorem msK_0 {N P : Nat} {K : Nat → Nat} (hN : N ≤ 12) (hK : ∀ q, q < P → K q < 2 ^ N) : ∀ n, n ≤ P → msK N K n = 0 → ∀ q, q < n → K q = 2 ^ N - 1
  | 0, _, _, q, hq => absurd hq (Nat.not_lt_zero _)
  | n + 1, hn, h, q, hq => by
    have h' : msK N K n + (N - pcB (K n) N) = 0 := h
    have h2 := pcB_le (K n) N
    by_cases e : q = n
    · subst e; exact (un_at hN (hK q (by omega))).2.2.mp (by omega)
    · exact msK_0 hN hK n (by omega) (by omega) q (by omega)
theorem msK_N (N : Nat) (K : Nat → Nat) : ∀ n, msK N K n ≤ n * N
  | 0 => Nat.le_refl _ |> fun h => by rw [Nat.zero_mul]; exact h
  | n + 1 => by
    have := msK_N N K n
    show msK N K n + (N - pcB (K n) N) ≤ (n + 1) * N
    rw [Nat.succ_mul]
    omega
theorem lnD_ms {N P : Nat} {K : Nat → Nat} (hN : N ≤ 12) (hK : ∀ q, q < P → K q < 2 ^ N) (h : (lnD N P K).2.2 = true) : msK N (lnD N P K).1 P < msK N K P := by
  have hi := lnD_inv hN hK P (Nat.le_refl _)
  exact (msK_le P (fun q hq => (hi.2.1 q hq).2)).2 (hi.2.2.2 h)
