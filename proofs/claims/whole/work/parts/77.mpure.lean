/-! BITS of small numbers; MATCH by numbers -/
theorem bt_get (x : Int32) (k : Nat) (hk : k < 32) : bt x k = x.toBitVec.getLsbD k := by
  unfold bt
  have hm : (nI k &&& 31) = nI k := by
    have : ∀ k : Nat, k < 32 → (nI k &&& 31) = nI k := by decide
    exact this k hk
  rw [hm]
  have e3 : (x >>> nI k).toBitVec.getLsbD 0 = x.toBitVec.getLsbD k := by
    rw [Int32.toBitVec_shiftRight]
    have : ((nI k).toBitVec.smod 32).toNat = k := by
      have h9 : ∀ k : Nat, k < 32 → ((nI k).toBitVec.smod 32).toNat = k := by decide
      exact h9 k hk
    rw [BitVec.sshiftRight_eq', BitVec.getLsbD_sshiftRight, this]
    simp [hk]
  rw [← e3]
  generalize x >>> nI k = y
  have e0 : (y &&& 1).toBitVec.getLsbD 0 = y.toBitVec.getLsbD 0 := by
    rw [Int32.toBitVec_and, BitVec.getLsbD_and]
    have : (1 : Int32).toBitVec.getLsbD 0 = true := rfl
    rw [this, Bool.and_true]
  rw [← e0]
  rcases bit01 y with h | h
  · rw [h]; rfl
  · rw [h]; rfl
theorem bt_nI (n k : Nat) (hk : k < 32) : bt (nI n) k = n.testBit k := by
  rw [bt_get _ _ hk]
  show (BitVec.ofNat 32 n).getLsbD k = _
  rw [BitVec.getLsbD_ofNat]
  simp [hk]
theorem hb_nI (n k : Nat) (hk : k < 32) : hb (nI n) (nI k) = n.testBit k := by rw [hb_bt _ _ hk, bt_nI _ _ hk]
theorem nI_or (a b : Nat) : nI a ||| nI b = nI (a ||| b) := by
  apply Int32.toBitVec_inj.mp
  rw [Int32.toBitVec_or]
  show BitVec.ofNat 32 a ||| BitVec.ofNat 32 b = BitVec.ofNat 32 (a ||| b)
  apply BitVec.eq_of_getLsbD_eq
  intro i hi
  simp [BitVec.getLsbD_or, BitVec.getLsbD_ofNat, hi, Nat.testBit_or]
theorem nI_and (a b : Nat) : nI a &&& nI b = nI (a &&& b) := by
  apply Int32.toBitVec_inj.mp
  rw [Int32.toBitVec_and]
  show BitVec.ofNat 32 a &&& BitVec.ofNat 32 b = BitVec.ofNat 32 (a &&& b)
  apply BitVec.eq_of_getLsbD_eq
  intro i hi
  simp [BitVec.getLsbD_and, BitVec.getLsbD_ofNat, hi, Nat.testBit_and]
theorem nI_shl (p : Nat) (hp : p < 31) : (1 : Int32) <<< (nI p &&& 31) = nI (2 ^ p) := by
  have : ∀ p : Nat, p < 31 → (1 : Int32) <<< (nI p &&& 31) = nI (2 ^ p) := by decide +kernel
  exact this p hp
theorem nI_orp (T p : Nat) (hp : p < 31) : nI T ||| ((1 : Int32) <<< (nI p &&& 31)) = nI (T ||| 2 ^ p) := by rw [nI_shl p hp, nI_or]
theorem or_lt {T p P : Nat} (h : T < 2 ^ P) (hp : p < P) : T ||| 2 ^ p < 2 ^ P := Nat.or_lt_two_pow h (Nat.pow_lt_pow_right (by decide) hp)
def pcB (T : Nat) : Nat → Nat
  | 0 => 0
  | n + 1 => pcB T n + (if T.testBit n = true then 1 else 0)
theorem pcB_or (T p : Nat) : ∀ n, pcB (T ||| 2 ^ p) n ≤ pcB T n + (if p < n then 1 else 0)
  | 0 => Nat.zero_le _
  | n + 1 => by
    have ih := pcB_or T p n
    show pcB (T ||| 2 ^ p) n + (if (T ||| 2 ^ p).testBit n = true then 1 else 0) ≤ pcB T n + (if T.testBit n = true then 1 else 0) + (if p < n + 1 then 1 else 0)
    rw [Nat.testBit_or, Nat.testBit_two_pow]
    by_cases h : p = n
    · subst h
      rw [if_neg (Nat.lt_irrefl p)] at ih
      rw [if_pos (Nat.lt_succ_self p)]
      have : (if (T.testBit p || decide (p = p)) = true then 1 else 0) ≤ 1 := by split <;> omega
      omega
    · have e : (T.testBit n || decide (p = n)) = T.testBit n := by simp [h]
      rw [e]
      by_cases h2 : p < n
      · rw [if_pos h2] at ih; rw [if_pos (show p < n + 1 by omega)]; omega
      · rw [if_neg h2] at ih; rw [if_neg (show ¬ p < n + 1 by omega)]; omega
theorem pcB_0 : ∀ n, pcB 0 n = 0
  | 0 => rfl
  | n + 1 => by
    show pcB 0 n + (if (0 : Nat).testBit n = true then 1 else 0) = 0
    rw [pcB_0 n, Nat.zero_testBit]; rfl
theorem pcB_le (T : Nat) : ∀ n, pcB T n ≤ n
  | 0 => Nat.le_refl _
  | n + 1 => by
    have ih := pcB_le T n
    show pcB T n + (if T.testBit n = true then 1 else 0) ≤ n + 1
    split <;> omega
theorem bc_all : ((List.range 4096).all fun T => decide (bcI (nI T) = nI (pcB T 12))) = true := by decide +kernel
theorem bc_nI {T : Nat} (h : T < 4096) : bcI (nI T) = nI (pcB T 12) := of_decide_eq_true (List.all_eq_true.mp bc_all T (List.mem_range.mpr h))
/-- one more person looked at: what is so far is acc -/
def mtC (o : Option Nat) (b : Bool) (q acc : Nat × Nat) : Nat × Nat := match o with
  | none => acc
  | some k => if b = true then acc else if 1 + q.1 < acc.1 ∨ (1 + q.1 = acc.1 ∧ acc.2 ≤ k + q.2) then acc else (1 + q.1, k + q.2)
def mtP (L : Nat → Option Nat) (r : Nat → Nat × Nat) (T : Nat) : Nat → Nat × Nat
  | 0 => r T
  | p + 1 => mtC (L p) (T.testBit p) (r (T ||| 2 ^ p)) (mtP L r T p)
def mtF (L : Nat → Nat → Option Nat) (P S : Nat) : Nat → Nat → Nat × Nat
  | 0, _ => (0, 0)
  | f + 1, T => mtP (L (S - (f + 1))) (mtF L P S f) T P
/-- strangers from s on, with people T had: how many are led, what is lost -/
def mtA (L : Nat → Nat → Option Nat) (P S s : Nat) : Nat → Nat × Nat := mtF L P S (S - s)
/-- as the class keeps it -/
def mEn (q : Nat × Nat) : Nat := 4000000 * q.1 - q.2
def mOK (f : Nat) (q : Nat × Nat) : Prop := q.1 ≤ f ∧ q.2 ≤ 200000 * q.1
def mtT (o : Option Nat) (b : Bool) (q best : Nat × Nat) : Bool := match o with
  | none => false
  | some k => !b && decide ((1 + q.1, k + q.2) = best)
def mtW (L : Nat → Option Nat) (r : Nat → Nat × Nat) (best : Nat × Nat) (T : Nat) : Nat → Nat → Option Nat
  | 0, _ => none
  | f + 1, p => if mtT (L p) (T.testBit p) (r (T ||| 2 ^ p)) best = true then some p else mtW L r best T f (p + 1)
def mtO (L : Nat → Nat → Option Nat) (P S s T : Nat) : Option Nat := mtW (L s) (mtA L P S (s + 1)) (mtA L P S s T) T P 0
def hdO (T : Nat) (o : Option Nat) : Nat := match o with
  | none => T
  | some p => T ||| 2 ^ p
/-- whom the strangers ahead of k have -/
def mtH (L : Nat → Nat → Option Nat) (P S : Nat) : Nat → Nat
  | 0 => 0
  | k + 1 => hdO (mtH L P S k) (mtO L P S k (mtH L P S k))
section
variable {L : Nat → Nat → Option Nat} {P S s T : Nat}
theorem mtA_S : mtA L P S S T = (0, 0) := by
  unfold mtA
  rw [Nat.sub_self]; rfl
theorem mtA_s (h : s < S) : mtA L P S s T = mtP (L s) (mtA L P S (s + 1)) T P := by
  unfold mtA
  obtain ⟨f, hf⟩ : ∃ f, S - s = f + 1 := ⟨S - s - 1, by omega⟩
  rw [hf, show S - (s + 1) = f by omega]
  show mtP (L (S - (f + 1))) (mtF L P S f) T P = _
  rw [show S - (f + 1) = s by omega]
theorem mtC_ok {f : Nat} {o : Option Nat} {b : Bool} {q acc : Nat × Nat} (ho : ∀ k, o = some k → k ≤ 200000) (hq : mOK f q) (ha : mOK (f + 1) acc) : mOK (f + 1) (mtC o b q acc) := by
  cases o with
  | none => exact ha
  | some k =>
    show mOK (f + 1) (if b = true then acc else if 1 + q.1 < acc.1 ∨ (1 + q.1 = acc.1 ∧ acc.2 ≤ k + q.2) then acc else (1 + q.1, k + q.2))
    have h1 := hq.1
    have h2 := hq.2
    have h3 := ho k rfl
    split
    · exact ha
    · split
      · exact ha
      · exact ⟨by show 1 + q.1 ≤ f + 1; omega, by show k + q.2 ≤ 200000 * (1 + q.1); omega⟩
theorem mtP_ok {f : Nat} {L : Nat → Option Nat} {r : Nat → Nat × Nat} (hL : ∀ p k, p < P → L p = some k → k ≤ 200000) (hr : ∀ T, mOK f (r T)) : ∀ p, p ≤ P → mOK (f + 1) (mtP L r T p)
  | 0, _ => ⟨Nat.le_succ_of_le (hr T).1, (hr T).2⟩
  | p + 1, hp => mtC_ok (fun k hk => hL p k (by omega) hk) (hr _) (mtP_ok hL hr p (by omega))
theorem mtF_ok (hL : ∀ s p k, s < S → p < P → L s p = some k → k ≤ 200000) : ∀ f, f ≤ S → ∀ T, mOK f (mtF L P S f T)
  | 0, _, _ => ⟨Nat.le_refl _, Nat.le_refl _⟩
  | f + 1, hf, _ => mtP_ok (fun p k hp hk => hL _ p k (by omega) hp hk) (fun T => mtF_ok hL f (by omega) T) P (Nat.le_refl _)
theorem mtA_ok (hL : ∀ s p k, s < S → p < P → L s p = some k → k ≤ 200000) (s T : Nat) : mOK (S - s) (mtA L P S s T) := mtF_ok hL _ (Nat.sub_le _ _) T
theorem mEn_le {f : Nat} {q : Nat × Nat} (h : mOK f q) (hf : f ≤ 9) : mEn q < 2 ^ 31 := by
  unfold mEn
  have := h.1
  omega
theorem mtC_en {f k : Nat} {q acc : Nat × Nat} (hk : k ≤ 200000) (hf : f ≤ 8) (hq : mOK f q) (ha : mOK (f + 1) acc) : nI (mEn (mtC (some k) false q acc)) = mxI (nI (mEn acc)) (nI (mEn (1 + q.1, k + q.2))) := by
  have h1 := hq.1
  have h2 := hq.2
  have h3 := ha.1
  have h4 := ha.2
  have b1 : mEn acc < 2 ^ 31 := mEn_le ha (by omega)
  have b2 : mEn (1 + q.1, k + q.2) < 2 ^ 31 := by
    show 4000000 * (1 + q.1) - (k + q.2) < 2 ^ 31
    omega
  have e1 : mEn acc = 4000000 * acc.1 - acc.2 := rfl
  have e2 : mEn (1 + q.1, k + q.2) = 4000000 * (1 + q.1) - (k + q.2) := rfl
  have e3 : mtC (some k) false q acc = if 1 + q.1 < acc.1 ∨ (1 + q.1 = acc.1 ∧ acc.2 ≤ k + q.2) then acc else (1 + q.1, k + q.2) := rfl
  unfold mxI
  rw [e3]
  by_cases hc : 1 + q.1 < acc.1 ∨ (1 + q.1 = acc.1 ∧ acc.2 ≤ k + q.2)
  · rw [if_pos hc, if_neg (fun h => by have := (nI_ltI b1 b2).mp h; omega)]
  · rw [if_neg hc]
    by_cases h : nI (mEn acc) < nI (mEn (1 + q.1, k + q.2))
    · rw [if_pos h]
    · exfalso
      exact h ((nI_ltI b1 b2).mpr (by omega))
theorem mEn_v {f k : Nat} {q : Nat × Nat} (hk : k ≤ 200000) (hq : mOK f q) : (4000000 : Int32) - nI k + nI (mEn q) = nI (mEn (1 + q.1, k + q.2)) := by
  have h2 := hq.2
  have e0 : (4000000 : Int32) = nI 4000000 := rfl
  rw [e0, nIm (by omega), nIa]
  congr 1
  show 4000000 - k + (4000000 * q.1 - q.2) = 4000000 * (1 + q.1) - (k + q.2)
  omega
theorem mEn_inj {f g : Nat} {q p : Nat × Nat} (hq : mOK f q) (hp : mOK g p) (hf : f ≤ 9) (hg : g ≤ 9) : mEn q = mEn p ↔ q = p := by
  constructor
  · intro h
    have h1 := hq.1
    have h2 := hq.2
    have h3 := hp.1
    have h4 := hp.2
    unfold mEn at h
    obtain ⟨a, b⟩ := q
    obtain ⟨c, d⟩ := p
    have h' : 4000000 * a - b = 4000000 * c - d := h
    have h1' : a ≤ f := h1
    have h2' : b ≤ 200000 * a := h2
    have h3' : c ≤ g := h3
    have h4' : d ≤ 200000 * c := h4
    have : a = c := by omega
    subst this
    have : b = d := by omega
    rw [this]
  · rintro rfl; rfl
theorem mtT_iff {o : Option Nat} {b : Bool} {q best : Nat × Nat} : mtT o b q best = true ↔ ∃ k, o = some k ∧ b = false ∧ (1 + q.1, k + q.2) = best := by
  cases o with
  | none => exact ⟨fun h => (by cases h), fun ⟨k, h, _⟩ => (by cases h)⟩
  | some k =>
    show (!b && decide ((1 + q.1, k + q.2) = best)) = true ↔ _
    constructor
    · intro h
      cases b with
      | true => cases h
      | false => exact ⟨k, rfl, rfl, of_decide_eq_true h⟩
    · rintro ⟨j, hj, rfl, h⟩
      cases hj
      exact decide_eq_true h
theorem mtW_some {L : Nat → Option Nat} {r : Nat → Nat × Nat} {best : Nat × Nat} {q : Nat} : ∀ f p, mtW L r best T f p = some q → p ≤ q ∧ q < p + f ∧ mtT (L q) (T.testBit q) (r (T ||| 2 ^ q)) best = true
  | 0, _, h => by cases h
  | f + 1, p, h => by
    unfold mtW at h
    split at h
    · cases h
      rename_i hc
      exact ⟨Nat.le_refl _, by omega, hc⟩
    · obtain ⟨a, b, c⟩ := mtW_some f (p + 1) h
      exact ⟨by omega, by omega, c⟩
theorem mtW_none {L : Nat → Option Nat} {r : Nat → Nat × Nat} {best : Nat × Nat} : ∀ f p, mtW L r best T f p = none → ∀ q, p ≤ q → q < p + f → ¬ mtT (L q) (T.testBit q) (r (T ||| 2 ^ q)) best = true
  | 0, _, _ => fun q h1 h2 => by omega
  | f + 1, p, h => fun q h1 h2 => by
    unfold mtW at h
    split at h
    · cases h
    · rename_i hc
      by_cases e : q = p
      · subst e; exact hc
      · exact mtW_none f (p + 1) h q (by omega) (by omega)
theorem mtP_or {L : Nat → Option Nat} {r : Nat → Nat × Nat} : ∀ p, mtP L r T p = r T ∨ ∃ q, q < p ∧ mtT (L q) (T.testBit q) (r (T ||| 2 ^ q)) (mtP L r T p) = true
  | 0 => Or.inl rfl
  | p + 1 => by
    have ih := mtP_or (L := L) (r := r) p
    have ih' : ∀ z, mtP L r T (p + 1) = z → z = mtP L r T p → mtP L r T (p + 1) = r T ∨ ∃ q, q < p + 1 ∧ mtT (L q) (T.testBit q) (r (T ||| 2 ^ q)) (mtP L r T (p + 1)) = true := by
      intro z e1 e2
      rw [e1, e2]
      rcases ih with h | ⟨q, hq, h⟩
      · exact Or.inl h
      · exact Or.inr ⟨q, by omega, h⟩
    cases ho : L p with
    | none => exact ih' _ rfl (by show mtC (L p) _ _ _ = _; rw [ho]; rfl)
    | some k =>
      have e3 : mtP L r T (p + 1) = if T.testBit p = true then mtP L r T p else if 1 + (r (T ||| 2 ^ p)).1 < (mtP L r T p).1 ∨ (1 + (r (T ||| 2 ^ p)).1 = (mtP L r T p).1 ∧ (mtP L r T p).2 ≤ k + (r (T ||| 2 ^ p)).2) then mtP L r T p else (1 + (r (T ||| 2 ^ p)).1, k + (r (T ||| 2 ^ p)).2) := by
        show mtC (L p) _ _ _ = _
        rw [ho]; rfl
      by_cases hb9 : T.testBit p = true
      · exact ih' _ rfl (by rw [e3, if_pos hb9])
      · by_cases hc : 1 + (r (T ||| 2 ^ p)).1 < (mtP L r T p).1 ∨ (1 + (r (T ||| 2 ^ p)).1 = (mtP L r T p).1 ∧ (mtP L r T p).2 ≤ k + (r (T ||| 2 ^ p)).2)
        · exact ih' _ rfl (by rw [e3, if_neg hb9, if_pos hc])
        · right
          refine ⟨p, Nat.lt_succ_self p, mtT_iff.mpr ⟨k, ho, by simpa using hb9, ?_⟩⟩
          rw [e3, if_neg hb9, if_neg hc]
theorem mtO_none (h : s < S) (ho : mtO L P S s T = none) : mtA L P S s T = mtA L P S (s + 1) T := by
  have hn := mtW_none _ _ ho
  have e := mtA_s (L := L) (P := P) (T := T) h
  rcases mtP_or (L := L s) (r := mtA L P S (s + 1)) (T := T) P with h1 | ⟨q, hq, h1⟩
  · rw [e, h1]
  · rw [← e] at h1
    exact absurd h1 (hn q (Nat.zero_le _) (by omega))
theorem mtO_some {p : Nat} (ho : mtO L P S s T = some p) : p < P ∧ T.testBit p = false ∧ ∃ k, L s p = some k ∧ mtA L P S s T = (1 + (mtA L P S (s + 1) (T ||| 2 ^ p)).1, k + (mtA L P S (s + 1) (T ||| 2 ^ p)).2) := by
  obtain ⟨-, h2, h3⟩ := mtW_some _ _ ho
  obtain ⟨k, a, b, c⟩ := mtT_iff.mp h3
  exact ⟨by omega, b, k, a, c.symm⟩
theorem mtH_lt : ∀ k, mtH L P S k < 2 ^ P ∧ pcB (mtH L P S k) 12 ≤ k
  | 0 => ⟨Nat.two_pow_pos P, by show pcB 0 12 ≤ 0; rw [pcB_0]; exact Nat.le_refl _⟩
  | k + 1 => by
    have ih := mtH_lt k
    have e : mtH L P S (k + 1) = hdO (mtH L P S k) (mtO L P S k (mtH L P S k)) := rfl
    rw [e]
    cases ho : mtO L P S k (mtH L P S k) with
    | none => exact ⟨ih.1, Nat.le_succ_of_le ih.2⟩
    | some p =>
      have h1 := mtO_some ho
      refine ⟨or_lt ih.1 h1.1, Nat.le_trans (pcB_or _ p 12) ?_⟩
      have := ih.2
      split <;> omega
end
theorem lsO_le {t : sMem} {N P S : Nat} (hm : MC t N P S) {s p k : Nat} (hs : s < S) (hp : p < P) (h : lsO t s p = some k) : k ≤ 200000 := by
  unfold lsO at h
  split at h
  · rename_i hc
    cases h
    unfold lcB at hc
    simp only [Bool.and_eq_true, decide_eq_true_eq] at hc
    obtain ⟨⟨-, ha⟩, ⟨-, hb9⟩, -, -, hv⟩ := hm.2.2.2.2.1 p hp
    obtain ⟨⟨-, hx⟩, ⟨-, hy⟩, -, -⟩ := hm.2.2.2.2.2 s hs
    have f1 := fN_660 hm.1 hx ha hc.2.1
    have f2 := fN_660 hm.1 hy hx hc.2.2.1.2
    have f3 := fN_660 hm.1 hb9 hy hc.2.2.2
    unfold lsN
    exact Nat.le_trans (Nat.mul_le_mul hv.2 (Nat.le_trans (Nat.sub_le _ _) (show _ ≤ 1980 by omega))) (by decide)
  · cases h
def oF (o : Option Nat) : Int32 := match o with
  | none => 1000000
  | some k => nI k
theorem lsB_lsO {t : sMem} {N P S : Nat} (hm : MC t N P S) {s p : Nat} (hs : s < S) (hp : p < P) : lsB t p s = oF (lsO t s p) := by
  obtain ⟨⟨ga, ha⟩, ⟨gb, hb9⟩, -, gv, hv⟩ := hm.2.2.2.2.1 p hp
  obtain ⟨⟨gx, hx⟩, ⟨gy, hy⟩, -, -⟩ := hm.2.2.2.2.2 s hs
  have hN := hm.1.1.1
  have e0 : (((t 6 p 4 >>> (t 8 s 1 &&& 31)) &&& 1) = 0) ↔ hb (t 6 p 4) (nI (sY t s)) = false := by
    rw [hb_bt _ _ (by omega), gy]
    unfold bt
    rcases bit01 (t 6 p 4 >>> (nI (sY t s) &&& 31)) with h | h
    · rw [h]; simp
    · rw [h]; simp
  have w1 := hm.1.1.lt ha hb9
  have w2 := hm.1.1.lt ha hx
  have w3 := hm.1.1.lt hx hy
  have w4 := hm.1.1.lt hy hb9
  have e1 : lsB t p s = if ((t 6 p 4 >>> (t 8 s 1 &&& 31)) &&& 1) = 0 ∨ ¬ t 14 (pP t p) (pQ t p) < 1000000 ∨ ¬ t 14 (pP t p) (sX t s) < 1000000 ∨ ¬ t 14 (sX t s) (sY t s) < 1000000 ∨ ¬ t 14 (sY t s) (pQ t p) < 1000000 then 1000000 else t 6 p 3 * (t 14 (pP t p) (sX t s) + t 14 (sX t s) (sY t s) + t 14 (sY t s) (pQ t p) - t 14 (pP t p) (pQ t p)) := rfl
  rw [e1]
  have hraw : (((t 6 p 4 >>> (t 8 s 1 &&& 31)) &&& 1) = 0 ∨ ¬ t 14 (pP t p) (pQ t p) < 1000000 ∨ ¬ t 14 (pP t p) (sX t s) < 1000000 ∨ ¬ t 14 (sX t s) (sY t s) < 1000000 ∨ ¬ t 14 (sY t s) (pQ t p) < 1000000) ↔ (((t 6 p 4 >>> (t 8 s 1 &&& 31)) &&& 1) = 0 ∨ ¬ fN t (pP t p) (pQ t p) < 1000000 ∨ ¬ fN t (pP t p) (sX t s) < 1000000 ∨ ¬ fN t (sX t s) (sY t s) < 1000000 ∨ ¬ fN t (sY t s) (pQ t p) < 1000000) := by rw [w1, w2, w3, w4]
  have hiff : lcB t s p = true ↔ ¬ (((t 6 p 4 >>> (t 8 s 1 &&& 31)) &&& 1) = 0 ∨ ¬ fN t (pP t p) (pQ t p) < 1000000 ∨ ¬ fN t (pP t p) (sX t s) < 1000000 ∨ ¬ fN t (sX t s) (sY t s) < 1000000 ∨ ¬ fN t (sY t s) (pQ t p) < 1000000) := by
    rw [e0]
    unfold lcB
    simp only [Bool.and_eq_true, decide_eq_true_eq]
    constructor
    · rintro ⟨a, b, ⟨c, d⟩, e⟩ (h | h | h | h | h)
      · rw [h] at c; cases c
      · exact h a
      · exact h b
      · exact h d
      · exact h e
    · intro h
      refine ⟨Decidable.byContradiction fun q => h (Or.inr (Or.inl q)), Decidable.byContradiction fun q => h (Or.inr (Or.inr (Or.inl q))), ⟨?_, Decidable.byContradiction fun q => h (Or.inr (Or.inr (Or.inr (Or.inl q))))⟩, Decidable.byContradiction fun q => h (Or.inr (Or.inr (Or.inr (Or.inr q))))⟩
      cases hq : hb (t 6 p 4) (nI (sY t s)) with
      | true => rfl
      | false => exact absurd (Or.inl hq) h
  unfold lsO
  by_cases hc : lcB t s p = true
  · rw [if_pos hc, if_neg (fun q => hiff.mp hc (hraw.mp q))]
    show _ = nI (lsN t s p)
    have hle : fN t (pP t p) (pQ t p) ≤ fN t (pP t p) (sX t s) + fN t (sX t s) (sY t s) + fN t (sY t s) (pQ t p) := by
      have t1 := hm.1.2.1 (pP t p) (sX t s) (pQ t p) ha hx hb9
      have t2 := hm.1.2.1 (sX t s) (sY t s) (pQ t p) hx hy hb9
      omega
    rw [gv, (hm.1.1.2.1 _ _ ha hx).1, (hm.1.1.2.1 _ _ hx hy).1, (hm.1.1.2.1 _ _ hy hb9).1, (hm.1.1.2.1 _ _ ha hb9).1, nIa, nIa, nIm hle, nIx]
    rfl
  · rw [if_neg hc, if_pos (hraw.mpr (Decidable.byContradiction fun q => hc (hiff.mpr q)))]
    rfl
theorem oF_ne {o : Option Nat} (h : ∀ k, o = some k → k ≤ 200000) : oF o = 1000000 ↔ o = none := by
  cases o with
  | none => exact ⟨fun _ => rfl, fun _ => rfl⟩
  | some k =>
    have hk := h k rfl
    refine ⟨fun e => ?_, fun e => by cases e⟩
    have e0 : nI k = nI 1000000 := e
    have := (nI_eq (by omega) (by decide)).mp e0
    omega
