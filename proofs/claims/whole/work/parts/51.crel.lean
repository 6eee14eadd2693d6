/-! THE CLASS'S COURSE beside the day by numbers -/
theorem bit01 (x : Int32) : x &&& 1 = 0 ∨ x &&& 1 = 1 := by
  have h : (x &&& 1).toBitVec = 0#32 ∨ (x &&& 1).toBitVec = 1#32 := by
    rw [Int32.toBitVec_and]
    have e1 : (1 : Int32).toBitVec = 1#32 := rfl
    rw [e1]
    generalize x.toBitVec = b
    have e2 : b &&& 1#32 = BitVec.ofNat 32 (b.toNat % 2) := by
      apply BitVec.eq_of_toNat_eq
      rw [BitVec.toNat_and, BitVec.toNat_ofNat, BitVec.toNat_ofNat]
      have : b.toNat &&& (1 % 2 ^ 32) = b.toNat % 2 := Nat.and_one_is_mod _
      rw [this]
      exact (Nat.mod_eq_of_lt (by omega)).symm
    rw [e2]
    rcases Nat.mod_two_eq_zero_or_one b.toNat with h | h
    · left; rw [h]
    · right; rw [h]
  rcases h with h | h
  · left; exact Int32.toBitVec_inj.mp h
  · right; exact Int32.toBitVec_inj.mp h
theorem ush_and (x : Int32) (k : Nat) (hk : k < 32) : ushI x (nI k) &&& 1 = (x >>> (nI k &&& 31)) &&& 1 := by
  have hm : (nI k &&& 31) = nI k := by
    have : ∀ k : Nat, k < 32 → (nI k &&& 31) = nI k := by decide
    exact this k hk
  rw [hm]
  apply Int32.toBitVec_inj.mp
  apply BitVec.eq_of_getLsbD_eq
  intro i hi
  rw [Int32.toBitVec_and, Int32.toBitVec_and, BitVec.getLsbD_and, BitVec.getLsbD_and]
  have e1 : (1 : Int32).toBitVec.getLsbD i = decide (i = 0) := by
    show (1#32).getLsbD i = decide (i = 0)
    rw [BitVec.getLsbD_one]
    by_cases h : i = 0 <;> simp [h]
  rw [e1]
  by_cases h0 : i = 0
  · subst h0
    have ek : (nI k).toBitVec.toNat = k := by
      show (BitVec.ofNat 32 k).toNat = k
      rw [BitVec.toNat_ofNat]; exact Nat.mod_eq_of_lt (by omega)
    have e2 : (ushI x (nI k)).toBitVec.getLsbD 0 = x.toBitVec.getLsbD k := by
      unfold ushI
      have hu : ∀ k : Nat, k < 32 → ((nI k).toUInt32 &&& Int32.toUInt32 31) = UInt32.ofNat k := by decide
      rw [hu k hk]
      show (x.toBitVec >>> ((UInt32.ofNat k).toBitVec % 32#32)).getLsbD 0 = _
      rw [BitVec.ushiftRight_eq', BitVec.getLsbD_ushiftRight, Nat.add_zero]
      congr 1
      rw [BitVec.toNat_umod]
      show (BitVec.ofNat 32 k).toNat % 32 = k
      rw [BitVec.toNat_ofNat, Nat.mod_eq_of_lt (show k < 2 ^ 32 by omega), Nat.mod_eq_of_lt hk]
    have e3 : (x >>> nI k).toBitVec.getLsbD 0 = x.toBitVec.getLsbD k := by
      rw [Int32.toBitVec_shiftRight]
      have : ((nI k).toBitVec.smod 32).toNat = k := by
        have h9 : ∀ k : Nat, k < 32 → ((nI k).toBitVec.smod 32).toNat = k := by decide
        exact h9 k hk
      rw [BitVec.sshiftRight_eq', BitVec.getLsbD_sshiftRight, this]
      simp [hk]
    rw [e2, e3]
  · simp [h0]
theorem hb_bt (x : Int32) (y : Nat) (hy : y < 32) : hb x (nI y) = bt x y := by
  unfold hb bt
  rw [ush_and x y hy]
  rcases bit01 (x >>> (nI y &&& 31)) with h | h
  · rw [h]; rfl
  · rw [h]; rfl
def TT (σ c : sMem) (v N P S : Nat) : Prop := σ (v + 1) 0 0 = nI N ∧ σ v 0 1 = nI P ∧ σ v 0 7 = nI S ∧ (∀ a b, a < N → b < N → σ (v + 3) a b = nI (fN c a b) ∧ σ (v + 4) a b = nI (nxN c a b)) ∧
  (∀ p, p < P → σ (v + 5) 0 p = nI (pP c p) ∧ σ (v + 6) 0 p = nI (pQ c p) ∧ σ (v + 7) 0 p = nI (pT c p) ∧ σ (v + 8) 0 p = nI (pV c p) ∧ σ (v + 9) 0 p = c 6 p 4) ∧
  ∀ s, s < S → σ (v + 10) 0 s = nI (sX c s) ∧ σ (v + 11) 0 s = nI (sY c s) ∧ σ (v + 12) 0 s = nI (sT c s) ∧ σ (v + 14) 0 s = c 8 s 4
theorem TT.cg {σ σ' c : sMem} {v N P S : Nat} (h : TT σ c v N P S) (hh : ∀ i, v ≤ i → i < v + 18 → σ' i = σ i) : TT σ' c v N P S := by
  unfold TT
  rw [hh v (by omega) (by omega), hh (v + 1) (by omega) (by omega), hh (v + 3) (by omega) (by omega), hh (v + 4) (by omega) (by omega), hh (v + 5) (by omega) (by omega), hh (v + 6) (by omega) (by omega), hh (v + 7) (by omega) (by omega), hh (v + 8) (by omega) (by omega), hh (v + 9) (by omega) (by omega), hh (v + 10) (by omega) (by omega), hh (v + 11) (by omega) (by omega), hh (v + 12) (by omega) (by omega), hh (v + 14) (by omega) (by omega)]
  exact h
def SS (σ c : sMem) (cm : Nat → Bool) (N S G : Nat) : Prop := σ 76 0 0 = nI (lw c) ∧ σ 76 0 1 = nI G ∧ (∀ g, g < G → σ 77 0 g = nI (gA c g) ∧ σ 78 0 g = nI (gF c g)) ∧ (∀ x y, x < N → y < N → hb (σ 79 0 x) (nI y) = sgB c x y) ∧ (∀ s, s < S → σ 80 0 s = oI (tlO c s)) ∧ σ 76 0 7 = c 0 0 28 ∧ ∀ s, s < S → hb (σ 76 0 6) (nI s) = cm s
theorem SS.cg {σ σ' c : sMem} {cm : Nat → Bool} {N S G : Nat} (h : SS σ c cm N S G) (hh : ∀ i, 76 ≤ i → i ≤ 80 → σ' i = σ i) : SS σ' c cm N S G := by
  unfold SS
  rw [hh 76 (by omega) (by omega), hh 77 (by omega) (by omega), hh 78 (by omega) (by omega), hh 79 (by omega) (by omega), hh 80 (by omega) (by omega)]
  exact h
/-- the course's own fields -/
def CO (σ : sMem) (v kd : Nat) : Prop := σ 81 0 0 = nI v ∧ σ 81 0 1 = nI 76 ∧ σ 81 0 2 = nI kd
/-- a person: k steps along his path, all before minute m; mv: as far as m -/
def CP (σ c : sMem) (N : Nat) (D : DA) (m : Nat) (mv : Bool) (p : Nat) : Prop :=
  (ouP c p = true → ∃ k, k ≤ pl c (pQ c p) (D.1 p).1 ∧ (∀ j, j < k → (pth c (pQ c p) j (D.1 p)).2 < m) ∧ (mv = true → m ≤ (pth c (pQ c p) k (D.1 p)).2 ∨ k = pl c (pQ c p) (D.1 p).1) ∧ σ 82 0 p = nI (pth c (pQ c p) k (D.1 p)).1 ∧ σ 83 0 p = nI (pth c (pQ c p) k (D.1 p)).2) ∧
  (ouP c p = false → σ 83 0 p = nI 1000000 ∧ ∃ a : Nat, a < N ∧ σ 82 0 p = nI a)
def CS (σ : sMem) (S G : Nat) (D : DA) : Prop := (∀ s, s < S → σ 84 0 s = nI (D.2.1 s).1 ∧ σ 85 0 s = nI (D.2.1 s).2.1 ∧ σ 87 0 s = oI (D.2.1 s).2.2.1 ∧ σ 89 0 s = nI (D.2.1 s).2.2.2.length ∧ ∀ i w, (D.2.1 s).2.2.2[i]? = some w → σ 88 s i = nI w) ∧ (∀ g, g < G → σ 86 0 g = nI (D.2.2.1 g)) ∧ σ 81 0 13 = nI D.2.2.2.1 ∧ σ 81 0 11 = nI D.2.2.2.2.1
/-- minutes waited that the class hasn't counted yet: strangers below j are through with minute m -/
def peS (D : DA) (m j : Nat) : Nat → Nat
  | 0 => 0
  | s + 1 => peS D m j s + if (D.2.1 s).2.2.1 = none then (if s < j then m + 1 else m) - (D.2.1 s).2.1 else 0
/-- all of a course -/
def CR (σ c : sMem) (v kd N P S G : Nat) (D : DA) (m j : Nat) (mv : Bool) : Prop := CO σ v kd ∧ (∀ p, p < P → CP σ c N D m mv p) ∧ CS σ S G D ∧ ∃ w : Nat, σ 81 0 12 = nI w ∧ w + peS D m j S = D.2.2.2.2.2
theorem pe_j {D : DA} {m j : Nat} : ∀ S, S ≤ j → peS D m j S = peS D (m + 1) 0 S
  | 0, _ => rfl
  | S + 1, h => by
    unfold peS
    rw [pe_j S (by omega), if_pos (show S < j by omega), if_neg (Nat.not_lt_zero S)]
/-- the same strangers but one -/
theorem pe_1 {D E : DA} {m j j' s : Nat} : ∀ S, s < S → (∀ u, u < S → u ≠ s → (if (E.2.1 u).2.2.1 = none then (if u < j' then m + 1 else m) - (E.2.1 u).2.1 else 0) = (if (D.2.1 u).2.2.1 = none then (if u < j then m + 1 else m) - (D.2.1 u).2.1 else 0)) →
    peS E m j' S + (if (D.2.1 s).2.2.1 = none then (if s < j then m + 1 else m) - (D.2.1 s).2.1 else 0) = peS D m j S + (if (E.2.1 s).2.2.1 = none then (if s < j' then m + 1 else m) - (E.2.1 s).2.1 else 0)
  | 0, h, _ => absurd h (Nat.not_lt_zero _)
  | S + 1, h, hu => by
    by_cases e : s = S
    · subst e
      have : ∀ n, n ≤ s → peS E m j' n = peS D m j n := by
        intro n
        induction n with
        | zero => intro _; rfl
        | succ n ih =>
          intro hn
          unfold peS
          rw [ih (by omega), hu n (by omega) (by omega)]
      unfold peS
      rw [this s (Nat.le_refl _)]
      omega
    · have ih := pe_1 (D := D) (E := E) (m := m) (j := j) (j' := j') (s := s) S (by omega) (fun u h1 h2 => hu u (by omega) h2)
      have h3 := hu S (by omega) (fun q => e q.symm)
      unfold peS
      omega
section
variable {c : sMem} {N P S G : Nat}
theorem atP_intro {q x m : Nat} {b : Nat × Nat} (h : WY c N) (hq : q < N) (hb : b.1 < N) (hf : fN c b.1 q < 1000000) {k : Nat} (hk : k ≤ pl c q b.1) (e : pth c q k b = (x, m)) : atP c q x m 12 b = true := by
  obtain ⟨b1, b2⟩ := b
  change b1 < N at hb
  change fN c b1 q < 1000000 at hf
  change k ≤ pl c q b1 at hk
  have hl := pl_le h hq hb hf
  have : ∀ f j, j ≤ k → k - j ≤ f → atP c q x m f (pth c q j (b1, b2)) = true := by
    intro f
    induction f with
    | zero =>
      intro j hj hf
      have : j = k := by omega
      subst this
      exact decide_eq_true e
    | succ f ih =>
      intro j hj hf'
      unfold atP
      by_cases ejk : j = k
      · subst ejk
        rw [decide_eq_true e]; rfl
      · have hne : ¬ (pth c q j (b1, b2)).1 = q := fun z => by
          have := (pth_q (w := b2) h hq hb hf (show j ≤ pl c q b1 by omega)).mp z
          omega
        rw [if_neg hne, ← pth_s, ih (j + 1) (by omega) (by omega), Bool.or_true]
  exact this 12 0 (Nat.zero_le _) (by omega)
/-- where one is in minute m -/
theorem at_iff {q x m k : Nat} {b : Nat × Nat} (h : WY c N) (hq : q < N) (hb : b.1 < N) (hf : fN c b.1 q < 1000000) (hk : k ≤ pl c q b.1) (hj : ∀ j, j < k → (pth c q j b).2 < m) (hm : m ≤ (pth c q k b).2 ∨ k = pl c q b.1) : (atP c q x m 12 b = true) ↔ pth c q k b = (x, m) := by
  constructor
  · intro ha
    obtain ⟨k', h1, h2, -⟩ := atP_at h hq hb hf ha
    rcases Nat.lt_trichotomy k' k with g | g | g
    · have := hj k' g
      rw [h2] at this
      exact absurd this (Nat.lt_irrefl _)
    · rw [← g]; exact h2
    · rcases hm with hm | hm
      · obtain ⟨b1, b2⟩ := b
        have h3 := pth_mono (w := b2) h hq hb hf (k' - k) k (by have h1' : k' ≤ pl c q b1 := h1; show k + (k' - k) ≤ pl c q b1; omega)
        rw [show k + (k' - k) = k' by omega, h2] at h3
        dsimp only at h3
        omega
      · omega
  · exact atP_intro h hq hb hf hk
theorem pf_first {D : DA} {s m : Nat} : ∀ f p q, pfA c D s m false f p (some q) = some q
  | 0, _, _ => rfl
  | f + 1, p, q => by
    unfold pfA
    split
    · dsimp only
      rw [if_neg (fun z => by cases z.1)]
      exact pf_first f (p + 1) q
    · exact pf_first f (p + 1) q
end
