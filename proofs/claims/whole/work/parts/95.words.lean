/-! WORDS: the reference's number of a word, and its letters -/
def encN (d : Nat → Nat) : Nat → Nat
  | 0 => 0
  | k + 1 => 27 * encN d k + d k
theorem enc_inj {d d' : Nat → Nat} : ∀ m m', (∀ i, i < m → 1 ≤ d i ∧ d i ≤ 26) → (∀ i, i < m' → 1 ≤ d' i ∧ d' i ≤ 26) → encN d m = encN d' m' → m = m' ∧ ∀ i, i < m → d i = d' i
  | 0, 0, _, _, _ => ⟨rfl, fun i hi => absurd hi (Nat.not_lt_zero _)⟩
  | 0, m' + 1, _, h', h => by
    have h9 : 0 = 27 * encN d' m' + d' m' := h
    have := h' m' (Nat.lt_succ_self m')
    omega
  | m + 1, 0, h, _, h0 => by
    have h9 : 27 * encN d m + d m = 0 := h0
    have := h m (Nat.lt_succ_self m)
    omega
  | m + 1, m' + 1, h, h', h0 => by
    have h9 : 27 * encN d m + d m = 27 * encN d' m' + d' m' := h0
    have a := h m (Nat.lt_succ_self m)
    have b := h' m' (Nat.lt_succ_self m')
    obtain ⟨e1, e2⟩ := enc_inj m m' (fun i hi => h i (by omega)) (fun i hi => h' i (by omega)) (by omega)
    subst e1
    refine ⟨rfl, fun i hi => ?_⟩
    by_cases e : i = m
    · subst e; omega
    · exact e2 i (by omega)
theorem enc_cg {d d' : Nat → Nat} : ∀ m, (∀ i, i < m → d i = d' i) → encN d m = encN d' m
  | 0, _ => rfl
  | m + 1, h => by
    show 27 * encN d m + d m = 27 * encN d' m + d' m
    rw [enc_cg m (fun i hi => h i (by omega)), h m (Nat.lt_succ_self m)]
theorem enc_lt {d : Nat → Nat} : ∀ m, (∀ i, i < m → d i ≤ 26) → encN d m < 27 ^ m
  | 0, _ => Nat.zero_lt_one
  | m + 1, h => by
    have ih := enc_lt m (fun i hi => h i (by omega))
    have := h m (Nat.lt_succ_self m)
    show 27 * encN d m + d m < 27 ^ (m + 1)
    rw [Nat.pow_succ]
    omega
theorem lt_at {tx : Nat → Int32} {n : Nat} : ∀ f a, a + f = n → (∀ j, a ≤ j → j < ltS tx n f a → 97 ≤ bS tx n j ∧ bS tx n j ≤ 122) ∧ ¬ (97 ≤ bS tx n (ltS tx n f a) ∧ bS tx n (ltS tx n f a) ≤ 122)
  | 0, a, h => by
    refine ⟨fun j h1 h2 => absurd h2 (Nat.not_lt.mpr h1), fun q => ?_⟩
    have e : bS tx n a = -1 := bS_out tx (by omega)
    have q1 : 97 ≤ bS tx n a := q.1
    rw [e] at q1
    exact absurd q1 (by decide)
  | f + 1, a, h => by
    rw [ltS_s]
    by_cases hc : 97 ≤ bS tx n a ∧ bS tx n a ≤ 122
    · rw [if_pos hc]
      obtain ⟨h1, h2⟩ := lt_at (tx := tx) (n := n) f (a + 1) (by omega)
      refine ⟨fun j j1 j2 => ?_, h2⟩
      by_cases e : j = a
      · subst e; exact hc
      · exact h1 j (by omega) j2
    · rw [if_neg hc]
      exact ⟨fun j h1 h2 => absurd h2 (Nat.not_lt.mpr h1), hc⟩
/-- letter i of the word that begins at b -/
def ltrD (tx : Nat → Int32) (b i : Nat) : Nat := (tx (b + i)).toNatClampNeg - 96
theorem w_step {x c : Nat} (h1 : 97 ≤ c) : 27 * Int64.ofNat x + Int64.ofNat c - 97 + 1 = Int64.ofNat (27 * x + (c - 96)) := by
  have e1 : (27 : Int64) = Int64.ofNat 27 := rfl
  have e2 : (97 : Int64) = Int64.ofNat 97 := rfl
  have e3 : (1 : Int64) = Int64.ofNat 1 := rfl
  rw [e1, e2, e3, ← Int64.ofNat_mul, ← Int64.ofNat_add, show 27 * x + c = 27 * x + (c - 97) + 97 by omega, Int64.ofNat_add (27 * x + (c - 97)) 97, Int64.add_sub_cancel, ← Int64.ofNat_add]
  congr 1
  omega
theorem nI_64 {c : Nat} (h : c < 2 ^ 31) : (nI c).toInt64 = Int64.ofNat c := by
  apply Int64.toInt_inj.mp
  rw [Int32.toInt_toInt64, nI_toInt (by omega), Int64.toInt_ofNat_of_lt (by omega)]
/-- what the text's bytes are -/
def TXB (tx : Nat → Int32) (n : Nat) : Prop := ∀ j, j < n → ∃ b : Nat, b < 256 ∧ tx j = nI b
theorem wd_at {tx : Nat → Int32} {n b : Nat} (hT : TXB tx n) (hbn : b ≤ n) : ∀ f k, k + f = n - b → b + k ≤ ltS tx n (n - b) b → wdS tx n b f k (Int64.ofNat (encN (ltrD tx b) (if k < 8 then k else 8))) = (ltS tx n (n - b) b - b, Int64.ofNat (encN (ltrD tx b) (if ltS tx n (n - b) b - b < 8 then ltS tx n (n - b) b - b else 8)))
  | 0, k, h, h2 => by
    have hle := ltS_le tx n (n - b) b (by omega)
    have e : k = ltS tx n (n - b) b - b := by omega
    show (k, _) = _
    rw [e]
  | f + 1, k, h, h2 => by
    obtain ⟨l1, l2⟩ := lt_at (tx := tx) (n := n) (n - b) b (by omega)
    have hle := ltS_le tx n (n - b) b (by omega)
    unfold wdS
    by_cases hc : b + k < ltS tx n (n - b) b
    · have hl := l1 (b + k) (by omega) hc
      rw [if_pos hl]
      obtain ⟨c, hc256, ec⟩ := hT (b + k) (by omega)
      have eb : bS tx n (b + k) = nI c := (bS_in (by omega)).trans ec
      rw [eb] at hl ⊢
      have hc97 : 97 ≤ c := (nI_leI (a := 97) (by decide) (by omega)).mp hl.1
      have hd : ltrD tx b k = c - 96 := by unfold ltrD; rw [ec, nI_clamp (by omega)]
      have ih := wd_at hT hbn f (k + 1) (by omega) (by omega)
      rw [← ih]
      congr 1
      by_cases h8 : k < 8
      · rw [if_pos h8, if_pos h8, nI_64 (by omega), w_step hc97, ← hd]
        by_cases h7 : k + 1 < 8
        · rw [if_pos h7]; rfl
        · rw [if_neg h7, show (8 : Nat) = k + 1 by omega]; rfl
      · rw [if_neg h8, if_neg h8, if_neg (by omega)]
    · have e : b + k = ltS tx n (n - b) b := by omega
      rw [e, if_neg l2, show ltS tx n (n - b) b - b = k by omega]
theorem o64_inj {a b : Nat} (ha : a < 2 ^ 63) (hb9 : b < 2 ^ 63) : Int64.ofNat a = Int64.ofNat b ↔ a = b := by
  constructor
  · intro h
    have := congrArg Int64.toInt h
    rw [Int64.toInt_ofNat_of_lt ha, Int64.toInt_ofNat_of_lt hb9] at this
    omega
  · rintro rfl; rfl
theorem o64_m1 {a : Nat} (ha : a < 2 ^ 63) : ¬ (-1 : Int64) = Int64.ofNat a := by
  intro h
  have := congrArg Int64.toInt h
  rw [Int64.toInt_ofNat_of_lt ha] at this
  have e : (-1 : Int64).toInt = -1 := by decide
  omega
/-- word j's letters, its number -/
def wlD (j i : Nat) : Nat := ((yByt.getD j []).getD i 0).toNatClampNeg - 96
def wlN (j : Nat) : Nat := encN (wlD j) (yLen.getD j 0)
def kmap (j : Nat) : Int32 := [0, 5, 1, 6, 2, 7, 8, 9, 3, 4].getD j (-1)
theorem wl_ok : ∀ j, j < 10 → yLen.getD j 0 ≤ 8 ∧ (∀ i, i < yLen.getD j 0 → 1 ≤ wlD j i ∧ wlD j i ≤ 26 ∧ (yByt.getD j []).getD i 0 = nI (wlD j i + 96)) ∧ wlN j < 2 ^ 62 ∧ kindM (Int64.ofNat (wlN j)) = kmap j := by decide +kernel
theorem kind_no9 {w : Int64} (h : ∀ j, j < 10 → ¬ w = Int64.ofNat (wlN j)) : kindM w = -1 := by
  unfold kindM
  rw [if_neg (show ¬ w = sixS 16 12 1 3 5 19 from h 0 (by decide)), if_neg (show ¬ w = sixS 16 5 18 19 15 14 from h 2 (by decide)), if_neg (show ¬ w = 27 * (27 * sixS 19 20 18 1 14 7 + 5) + 18 from h 4 (by decide)), if_neg (show ¬ w = sixS 7 21 9 4 5 0 from h 8 (by decide)), if_neg (show ¬ w = sixS 12 1 23 0 0 0 from h 9 (by decide)), if_neg (show ¬ w = sixS 19 20 18 5 5 20 from h 1 (by decide)), if_neg (show ¬ w = sixS 14 15 20 0 0 0 from h 3 (by decide)), if_neg (show ¬ w = sixS 6 9 14 4 19 0 from h 5 (by decide)), if_neg (show ¬ w = sixS 3 8 1 14 3 5 from h 6 (by decide)), if_neg (show ¬ w = sixS 19 9 7 14 0 0 from h 7 (by decide))]
/-- the letters from b on are word j -/
def isWd (tx : Nat → Int32) (n b j : Nat) : Prop := ltS tx n (n - b) b - b = yLen.getD j 0 ∧ ∀ i, i < yLen.getD j 0 → tx (b + i) = (yByt.getD j []).getD i 0
theorem wordS_at {tx : Nat → Int32} {n b : Nat} (hT : TXB tx n) (hbn : b ≤ n) : wordS tx n b = if ltS tx n (n - b) b - b ≤ 8 then Int64.ofNat (encN (ltrD tx b) (ltS tx n (n - b) b - b)) else -1 := by
  unfold wordS
  have h := wd_at hT hbn (n - b) 0 (by omega) (ltS_le tx n (n - b) b (by omega)).1
  have h0 : Int64.ofNat (encN (ltrD tx b) (if 0 < 8 then 0 else 8)) = 0 := rfl
  rw [h0] at h
  rw [h]
  by_cases h8 : ltS tx n (n - b) b - b ≤ 8
  · rw [if_pos h8, if_pos h8]
    show Int64.ofNat _ = _
    by_cases h7 : ltS tx n (n - b) b - b < 8
    · rw [if_pos h7]
    · rw [if_neg h7, show ltS tx n (n - b) b - b = 8 by omega]
  · rw [if_neg h8, if_neg h8]
theorem isWd_iff {tx : Nat → Int32} {n b j : Nat} (hT : TXB tx n) (hbn : b ≤ n) (hj : j < 10) : wordS tx n b = Int64.ofNat (wlN j) ↔ isWd tx n b j := by
  obtain ⟨w1, w2, w3, -⟩ := wl_ok j hj
  have hle := ltS_le tx n (n - b) b (by omega)
  obtain ⟨l1, -⟩ := lt_at (tx := tx) (n := n) (n - b) b (by omega)
  have hd : ∀ i, i < ltS tx n (n - b) b - b → 1 ≤ ltrD tx b i ∧ ltrD tx b i ≤ 26 ∧ tx (b + i) = nI (ltrD tx b i + 96) := by
    intro i hi
    obtain ⟨c, hc, ec⟩ := hT (b + i) (by omega)
    have hl := l1 (b + i) (by omega) (by omega)
    rw [bS_in (show b + i < n by omega), ec] at hl
    have a1 : 97 ≤ c := (nI_leI (a := 97) (by decide) (by omega)).mp hl.1
    have a2 : c ≤ 122 := (nI_leI (b := 122) (by omega) (by decide)).mp hl.2
    have e : ltrD tx b i = c - 96 := by unfold ltrD; rw [ec, nI_clamp (by omega)]
    rw [e]
    refine ⟨by omega, by omega, ?_⟩
    rw [ec, show c - 96 + 96 = c by omega]
  rw [wordS_at hT hbn]
  by_cases h8 : ltS tx n (n - b) b - b ≤ 8
  · rw [if_pos h8]
    have hlt : encN (ltrD tx b) (ltS tx n (n - b) b - b) < 2 ^ 63 := Nat.lt_of_lt_of_le (enc_lt _ (fun i hi => (hd i hi).2.1)) (Nat.le_trans (Nat.pow_le_pow_right (by decide) h8) (by decide))
    rw [o64_inj hlt (by omega)]
    constructor
    · intro h
      obtain ⟨e1, e2⟩ := enc_inj _ _ (fun i hi => ⟨(hd i hi).1, (hd i hi).2.1⟩) (fun i hi => ⟨(w2 i hi).1, (w2 i hi).2.1⟩) h
      refine ⟨e1, fun i hi => ?_⟩
      rw [(hd i (by omega)).2.2, (w2 i hi).2.2, e2 i (by omega)]
    · rintro ⟨e1, e2⟩
      unfold wlN
      rw [← e1]
      refine enc_cg _ (fun i hi => ?_)
      have a := (hd i hi).2.2
      have b9 := (w2 i (by omega)).2.2
      have c := e2 i (by omega)
      rw [a, b9] at c
      have a' := hd i hi
      have b' := w2 i (by omega)
      have := (nI_eq (by omega) (by omega)).mp c
      omega
  · rw [if_neg h8]
    constructor
    · intro h; exact absurd h (o64_m1 (by omega))
    · rintro ⟨e1, -⟩; omega
theorem kind_j {tx : Nat → Int32} {n b j : Nat} (hT : TXB tx n) (hbn : b ≤ n) (hj : j < 10) (h : isWd tx n b j) : kindM (wordS tx n b) = kmap j := by
  rw [(isWd_iff hT hbn hj).mpr h]
  exact (wl_ok j hj).2.2.2
theorem kind_no {tx : Nat → Int32} {n b : Nat} (hT : TXB tx n) (hbn : b ≤ n) (h : ∀ j, j < 10 → ¬ isWd tx n b j) : kindM (wordS tx n b) = -1 :=
  kind_no9 (fun j hj q => h j hj ((isWd_iff hT hbn hj).mp q))
