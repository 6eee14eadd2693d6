/-! THE REFERENCE, reading -/
section
variable {l : Launch} {D : va_G} {b0 : Nat} {ty : Nat → ClassId}
theorem c9_thrown (d : Nat) (σ : sMem) : sMet l D b0 ty lay d mX9_thrown [aR 0] σ (fun r σ' => r = [aI (σ 0 0 0)] ∧ σ' = σ) := by
  refine sMet_intro lay_nd kX9_thrown xX9_ok (by decide +kernel) rfl ?_
  intro K hK
  iterate 3 refine hK _ _ _ _ ?_
  exact ⟨rfl, rfl⟩
theorem c9_in (d : Nat) (σ : sMem) (x a b : Int32) : sMet l D b0 ty lay d mX9_in [aI x, aI a, aI b] σ (fun r σ' => r = [aI (if a ≤ x ∧ x ≤ b then 1 else 0)] ∧ σ' = σ) := by
  refine sMet_intro lay_nd kX9_in xX9_ok (by decide +kernel) rfl ?_
  intro K hK
  iterate 3 refine hK _ _ _ _ ?_
  refine And.intro (fun h => ?_) (fun h => ?_)
  · iterate 2 refine hK _ _ _ _ ?_
    refine ⟨Or.inl rfl, ?_, rfl⟩
    rw [if_neg (fun q => Int32.not_le.mpr h q.1)]; rfl
  · iterate 3 refine hK _ _ _ _ ?_
    refine And.intro (fun h2 => ?_) (fun h2 => ?_)
    · iterate 2 refine hK _ _ _ _ ?_
      refine ⟨Or.inl rfl, ?_, rfl⟩
      rw [if_neg (fun q => Int32.not_le.mpr h2 q.2)]; rfl
    · iterate 3 refine hK _ _ _ _ ?_
      refine ⟨Or.inr rfl, ?_, rfl⟩
      rw [if_pos ⟨Int32.not_lt.mp h, Int32.not_lt.mp h2⟩]; rfl
/-- the text's byte j, or -1 behind its end -/
def bS (tx : Nat → Int32) (n j : Nat) : Int32 := if j < n then tx j else -1
theorem c9_byteAt (d : Nat) (σ : sMem) (n j : Nat) (hn : σ 0 0 2 = nI n) (h6 : n ≤ 600) (hj : j < 2 ^ 31) : sMet l D b0 ty lay d mX9_byteAt [aR 0, aI (nI j)] σ (fun r σ' => r = [aI (bS (σ 1 0) n j)] ∧ σ' = σ) := by
  refine sMet_intro lay_nd kX9_byteAt xX9_ok (by decide +kernel) rfl ?_
  intro K hK
  iterate 4 refine hK _ _ _ _ ?_
  rw [hn]
  refine And.intro (fun h => ?_) (fun h => ?_)
  · have hlt : j < n := (nI_ltI hj (by omega)).mp h
    iterate 4 refine hK _ _ _ _ ?_
    refine And.intro (vp_in_nI (by omega) (by omega)) ?_
    refine hK _ _ _ _ ?_
    refine ⟨?_, rfl⟩
    rw [nI_clamp hj]
    simp [bS, hlt]
  · have hlt : ¬ j < n := fun q => h ((nI_ltI hj (by omega)).mpr q)
    iterate 3 refine hK _ _ _ _ ?_
    refine ⟨?_, rfl⟩
    simp only [bS, hlt, if_false]
    rfl
theorem c9_wrong (d : Nat) (σ : sMem) (x y : Int32) : sMet l D b0 ty lay d mX9_wrong [aR 0, aI x, aI y] σ (fun r σ' => r = [] ∧ σ' = if σ 0 0 5 = 0 then sUp (sUp σ 0 0 5 x) 0 0 6 y else σ) := by
  refine sMet_intro lay_nd kX9_wrong xX9_ok (by decide +kernel) rfl ?_
  intro K hK
  iterate 3 refine hK _ _ _ _ ?_
  refine And.intro (fun h => ?_) (fun h => ?_)
  · refine hK _ _ _ _ ?_
    exact ⟨rfl, (if_neg h).symm⟩
  · iterate 7 refine hK _ _ _ _ ?_
    exact ⟨rfl, (if_pos h).symm⟩
theorem c9_isDigit (d : Nat) (σ : sMem) (x : Int32) : sMet l D b0 ty lay d mX9_isDigit [aI x] σ (fun r σ' => r = [aI (if 48 ≤ x ∧ x ≤ 57 then 1 else 0)] ∧ σ' = σ) := by
  refine sMet_intro lay_nd kX9_isDigit xX9_ok (by decide +kernel) rfl ?_
  intro K hK
  iterate 3 refine hK _ _ _ _ ?_
  refine And.intro (fun h => ?_) (fun h => ?_)
  · iterate 2 refine hK _ _ _ _ ?_
    refine ⟨Or.inl rfl, ?_, rfl⟩
    rw [if_neg (fun q => Int32.not_le.mpr h q.1)]; rfl
  · iterate 3 refine hK _ _ _ _ ?_
    refine And.intro (fun h2 => ?_) (fun h2 => ?_)
    · iterate 2 refine hK _ _ _ _ ?_
      refine ⟨Or.inl rfl, ?_, rfl⟩
      rw [if_neg (fun q => Int32.not_le.mpr h2 q.2)]; rfl
    · iterate 3 refine hK _ _ _ _ ?_
      refine ⟨Or.inr rfl, ?_, rfl⟩
      rw [if_pos ⟨Int32.not_lt.mp h, Int32.not_lt.mp h2⟩]; rfl
/-- a reader's state: where it is, the fault, its place -/
def pS (σ : sMem) (a : Nat) (f fa : Int32) : sMem := sUp (sUp (sUp σ 0 0 4 (nI a)) 0 0 5 f) 0 0 6 fa
theorem pS_4 (σ : sMem) (a : Nat) (f fa : Int32) : pS σ a f fa 0 0 4 = nI a := by simp [pS, sUp]
theorem pS_5 (σ : sMem) (a : Nat) (f fa : Int32) : pS σ a f fa 0 0 5 = f := by simp [pS, sUp]
theorem pS_6 (σ : sMem) (a : Nat) (f fa : Int32) : pS σ a f fa 0 0 6 = fa := by simp [pS, sUp]
theorem pS_0 (σ : sMem) (a : Nat) (f fa : Int32) (k : Nat) (h4 : k ≠ 4) (h5 : k ≠ 5) (h6 : k ≠ 6) : pS σ a f fa 0 0 k = σ 0 0 k := by simp [pS, sUp, h4, h5, h6]
theorem pS_i (σ : sMem) (a : Nat) (f fa : Int32) (i : Nat) (h : i ≠ 0) : pS σ a f fa i = σ i := by
  funext b c
  simp [pS, sUp, h]
theorem pS_u4 (σ : sMem) (a b : Nat) (f fa : Int32) : sUp (pS σ a f fa) 0 0 4 (nI b) = pS σ b f fa := by
  funext x y z
  simp only [pS, sUp]
  by_cases h : x = 0 ∧ y = 0
  · obtain ⟨rfl, rfl⟩ := h
    by_cases h4 : z = 4
    · subst h4; simp
    · simp [h4]
  · by_cases hx : x = 0
    · subst hx
      simp [show y ≠ 0 from fun q => h ⟨rfl, q⟩]
    · simp [hx]
theorem pS_w (σ : sMem) (a : Nat) (f fa g ga : Int32) : sUp (sUp (pS σ a f fa) 0 0 5 g) 0 0 6 ga = pS σ a g ga := by
  funext x y z
  simp only [pS, sUp]
  by_cases h : x = 0 ∧ y = 0
  · obtain ⟨rfl, rfl⟩ := h
    by_cases h4 : z = 6
    · subst h4; simp
    · by_cases h5 : z = 5
      · subst h5; simp
      · simp [h4, h5]
  · by_cases hx : x = 0
    · subst hx
      simp [show y ≠ 0 from fun q => h ⟨rfl, q⟩]
    · simp [hx]
theorem pS_pS (σ : sMem) (a b : Nat) (f fa g ga : Int32) : pS (pS σ a f fa) b g ga = pS σ b g ga := by
  show sUp (sUp (sUp (pS σ a f fa) 0 0 4 (nI b)) 0 0 5 g) 0 0 6 ga = _
  rw [pS_u4, pS_w]
theorem pS_of (σ : sMem) (a : Nat) (h : σ 0 0 4 = nI a) : σ = pS σ a (σ 0 0 5) (σ 0 0 6) := by
  unfold pS
  rw [sUp_eq h, sUp_self, sUp_self]
/-- where the blanks from a on end -/
def blS (tx : Nat → Int32) (n : Nat) : Nat → Nat → Nat
  | 0, a => a
  | f + 1, a => if bS tx n a = 32 then blS tx n f (a + 1) else a
def blk (tx : Nat → Int32) (n a : Nat) : Nat := blS tx n (n - a) a
theorem bS_out (tx : Nat → Int32) {n a : Nat} (h : n ≤ a) : bS tx n a = -1 := by simp [bS, Nat.not_lt.mpr h]
theorem blS_le (tx : Nat → Int32) (n : Nat) : ∀ f a, a + f = n → a ≤ blS tx n f a ∧ blS tx n f a ≤ n
  | 0, a, h => ⟨Nat.le_refl _, by show a ≤ n; omega⟩
  | f + 1, a, h => by
    unfold blS
    split
    · have := blS_le tx n f (a + 1) (by omega)
      omega
    · omega
theorem blk_le (tx : Nat → Int32) {n a : Nat} (h : a ≤ n) : a ≤ blk tx n a ∧ blk tx n a ≤ n := blS_le tx n (n - a) a (by omega)
theorem c9_blanks (d : Nat) (σ : sMem) (n a : Nat) (f fa : Int32) (hn : σ 0 0 2 = nI n) (h6 : n ≤ 600) (hle : a ≤ n) : sMet l D b0 ty lay (d + 1) mX9_blanks [aR 0] (pS σ a f fa) (fun r σ' => r = [] ∧ σ' = pS σ (blk (σ 1 0) n a) f fa) := by
  refine sMet_intro lay_nd kX9_blanks xX9_ok (by decide +kernel) rfl ?_
  intro K hK
  have key : ∀ (g b : Nat), b + g = n → blS (σ 1 0) n g b = blk (σ 1 0) n a → K 0 [some (aR 0)] [] (pS σ b f fa) := by
    intro g
    induction g with
    | zero =>
      intro b hb he
      iterate 4 refine hK _ _ _ _ ?_
      rw [pS_4]
      refine calD (c9_byteAt d _ n b (by rw [pS_0 _ _ _ _ _ (by decide) (by decide) (by decide)]; exact hn) h6 (by omega)) ?_
      rintro r σ' ⟨rfl, rfl⟩
      iterate 2 refine hK _ _ _ _ ?_
      rw [pS_i _ _ _ _ _ (by decide), bS_out _ (by omega)]
      refine And.intro (fun h => ?_) (fun h => absurd h (by decide))
      refine hK _ _ _ _ ?_
      refine ⟨rfl, ?_⟩
      rw [← he]; rfl
    | succ g ih =>
      intro b hb he
      iterate 4 refine hK _ _ _ _ ?_
      rw [pS_4]
      refine calD (c9_byteAt d _ n b (by rw [pS_0 _ _ _ _ _ (by decide) (by decide) (by decide)]; exact hn) h6 (by omega)) ?_
      rintro r σ' ⟨rfl, rfl⟩
      iterate 2 refine hK _ _ _ _ ?_
      rw [pS_i _ _ _ _ _ (by decide)]
      unfold blS at he
      refine And.intro (fun h => ?_) (fun h => ?_)
      · rw [if_neg (fun q => h (by rw [q]; rfl))] at he
        refine hK _ _ _ _ ?_
        refine ⟨rfl, ?_⟩
        rw [← he]
      · rw [if_pos (by rw [h]; rfl)] at he
        iterate 6 refine hK _ _ _ _ ?_
        show K _ _ _ _
        rw [pS_4]
        have e1 : nI b + Int32.ofInt 1 = nI (b + 1) := by rw [nI_succ]; rfl
        rw [e1, pS_u4]
        refine hK _ _ _ _ ?_
        exact ih (b + 1) (by omega) he
  exact key (n - a) a (by omega) rfl
/-- a number's digits from a on: where they end, and their value, 100000 at most -/
def dgS (tx : Nat → Int32) (n : Nat) : Nat → Nat → Int32 → Nat × Int32
  | 0, a, v => (a, v)
  | f + 1, a, v => if 48 ≤ bS tx n a ∧ bS tx n a ≤ 57 then dgS tx n f (a + 1) (if 100000 < 10 * v + bS tx n a - 48 then 100000 else 10 * v + bS tx n a - 48) else (a, v)
theorem dgS_le (tx : Nat → Int32) (n : Nat) : ∀ f a v, a + f = n → a ≤ (dgS tx n f a v).1 ∧ (dgS tx n f a v).1 ≤ n
  | 0, a, v, h => ⟨Nat.le_refl _, by show a ≤ n; omega⟩
  | f + 1, a, v, h => by
    unfold dgS
    split
    · have := dgS_le tx n f (a + 1) (if 100000 < 10 * v + bS tx n a - 48 then 100000 else 10 * v + bS tx n a - 48) (by omega)
      omega
    · exact ⟨Nat.le_refl _, by show a ≤ n; omega⟩
/-- a fault is kept as it is first told -/
def wrS (f fa : Int32) (w : Int32) (h : Nat) : Int32 × Int32 := if f = 0 then (w, nI h) else (f, fa)
theorem c9_wrongP (d : Nat) (σ : sMem) (a : Nat) (f fa x : Int32) (h : Nat) : sMet l D b0 ty lay d mX9_wrong [aR 0, aI x, aI (nI h)] (pS σ a f fa) (fun r σ' => r = [] ∧ σ' = pS σ a (wrS f fa x h).1 (wrS f fa x h).2) := by
  refine sMet_mono (c9_wrong d _ x (nI h)) ?_
  rintro r σ' ⟨rfl, rfl⟩
  refine ⟨rfl, ?_⟩
  rw [pS_5]
  unfold wrS
  split
  · rw [pS_w]
  · rfl
/-- a number is read: its value (0 with a fault), where the reader is then, the fault, its place -/
def numS (tx : Nat → Int32) (n a : Nat) (lo hi nt fa : Int32) : Int32 × Nat × Int32 × Int32 :=
  let b := blk tx n a
  let q := dgS tx n (n - b) b 0
  let w := if 48 ≤ bS tx n b ∧ bS tx n b ≤ 57 then ((0 : Int32), fa) else wrS 0 fa 1 b
  let z := if (lo ≤ q.2 ∧ q.2 ≤ hi) ∧ ¬ q.2 = nt then w else wrS w.1 w.2 2 b
  (if z.1 = 0 then q.2 else 0, q.1, z.1, z.2)
theorem c9_number (d : Nat) (σ : sMem) (n a : Nat) (fa lo hi nt : Int32) (hn : σ 0 0 2 = nI n) (h6 : n ≤ 600) (hle : a ≤ n) : sMet l D b0 ty lay (d + 2) mX9_number [aR 0, aI lo, aI hi, aI nt] (pS σ a 0 fa) (fun r σ' => r = [aI (numS (σ 1 0) n a lo hi nt fa).1] ∧ σ' = pS σ (numS (σ 1 0) n a lo hi nt fa).2.1 (numS (σ 1 0) n a lo hi nt fa).2.2.1 (numS (σ 1 0) n a lo hi nt fa).2.2.2) := by
  refine sMet_intro lay_nd kX9_number xX9_ok (by decide +kernel) rfl ?_
  intro K hK
  have hn' : ∀ (a : Nat) (f fa : Int32), pS σ a f fa 0 0 2 = nI n := fun a f fa => by rw [pS_0 _ _ _ _ _ (by decide) (by decide) (by decide)]; exact hn
  have h1 : ∀ (a : Nat) (f fa : Int32), pS σ a f fa 1 = σ 1 := fun a f fa => pS_i _ _ _ _ _ (by decide)
  obtain ⟨hb1, hb2⟩ := blk_le (σ 1 0) hle
  generalize hB : blk (σ 1 0) n a = b at hb1 hb2
  generalize hDq : dgS (σ 1 0) n (n - b) b 0 = Dq
  have L45 : ∀ (w : Int32 × Int32), (w = if 48 ≤ bS (σ 1 0) n b ∧ bS (σ 1 0) n b ≤ 57 then ((0 : Int32), fa) else wrS 0 fa 1 b) → ∀ (g c : Nat) (v : Int32), c + g = n → dgS (σ 1 0) n g c v = Dq →
      K 45 [some (aR 0), some (aI lo), some (aI hi), some (aI nt), some (aI (nI b)), some (aI v)] [] (pS σ c w.1 w.2) := by
    intro w hw g
    have fin : ∀ (c : Nat) (v : Int32), (c, v) = Dq → K 107 [some (aR 0), some (aI lo), some (aI hi), some (aI nt), some (aI (nI b)), some (aI v)] [] (pS σ c w.1 w.2) := by
      intro c v hcv
      have e1 : c = Dq.1 := congrArg Prod.fst hcv
      have e2 : v = Dq.2 := congrArg Prod.snd hcv
      have ret : ∀ (z : Int32 × Int32), z = (if (lo ≤ v ∧ v ≤ hi) ∧ ¬ v = nt then w else wrS w.1 w.2 2 b) → K 130 [some (aR 0), some (aI lo), some (aI hi), some (aI nt), some (aI (nI b)), some (aI v)] [] (pS σ c z.1 z.2) := by
        intro z hz
        have hN : numS (σ 1 0) n a lo hi nt fa = (if z.1 = 0 then v else 0, c, z.1, z.2) := by
          simp only [numS, hB, hDq]
          rw [← hw, ← e2, ← e1, ← hz]
        rw [hN] at hK
        iterate 3 refine hK _ _ _ _ ?_
        rw [pS_5]
        refine And.intro (fun h134 => ?_) (fun h134 => ?_)
        · iterate 2 refine hK _ _ _ _ ?_
          refine ⟨?_, rfl⟩
          rw [if_neg h134]; rfl
        · iterate 3 refine hK _ _ _ _ ?_
          refine ⟨?_, rfl⟩
          rw [if_pos h134]
      iterate 4 refine hK _ _ _ _ ?_
      refine calD (c9_in _ _ v lo hi) ?_
      rintro r σ' ⟨rfl, rfl⟩
      refine hK _ _ _ _ ?_
      refine And.intro (fun h114 => ?_) (fun h114 => ?_)
      · have hq : ¬ (lo ≤ v ∧ v ≤ hi) := fun q => by rw [if_pos q] at h114; exact absurd h114 (by decide)
        iterate 4 refine hK _ _ _ _ ?_
        refine calD (c9_wrongP _ σ c w.1 w.2 (Int32.ofInt 2) b) ?_
        rintro r σ' ⟨rfl, rfl⟩
        exact ret (wrS w.1 w.2 2 b) (by rw [if_neg (fun q => hq q.1)])
      · have hq : lo ≤ v ∧ v ≤ hi := by
          by_cases q : lo ≤ v ∧ v ≤ hi
          · exact q
          · rw [if_neg q] at h114; exact absurd rfl h114
        iterate 3 refine hK _ _ _ _ ?_
        refine And.intro (fun h120 => ?_) (fun h120 => ?_)
        · exact ret w (by rw [if_pos ⟨hq, h120⟩])
        · iterate 4 refine hK _ _ _ _ ?_
          refine calD (c9_wrongP _ σ c w.1 w.2 (Int32.ofInt 2) b) ?_
          rintro r σ' ⟨rfl, rfl⟩
          exact ret (wrS w.1 w.2 2 b) (by rw [if_neg (fun q => q.2 h120)])
    induction g with
    | zero =>
      intro c v hc he
      iterate 4 refine hK _ _ _ _ ?_
      rw [pS_4]
      refine calD (c9_byteAt _ _ n c (hn' _ _ _) h6 (by omega)) ?_
      rintro r σ' ⟨rfl, rfl⟩
      refine hK _ _ _ _ ?_
      refine calD (c9_isDigit _ _ _) ?_
      rintro r σ' ⟨rfl, rfl⟩
      refine hK _ _ _ _ ?_
      rw [h1, bS_out _ (by omega)]
      refine And.intro (fun h56 => ?_) (fun h56 => absurd rfl h56)
      exact fin c v he
    | succ g ih =>
      intro c v hc he
      iterate 4 refine hK _ _ _ _ ?_
      rw [pS_4]
      refine calD (c9_byteAt _ _ n c (hn' _ _ _) h6 (by omega)) ?_
      rintro r σ' ⟨rfl, rfl⟩
      refine hK _ _ _ _ ?_
      refine calD (c9_isDigit _ _ _) ?_
      rintro r σ' ⟨rfl, rfl⟩
      refine hK _ _ _ _ ?_
      rw [h1]
      unfold dgS at he
      refine And.intro (fun h56 => ?_) (fun h56 => ?_)
      · have hq : ¬ (48 ≤ bS (σ 1 0) n c ∧ bS (σ 1 0) n c ≤ 57) := fun q => by rw [if_pos q] at h56; exact absurd h56 (by decide)
        rw [if_neg hq] at he
        exact fin c v he
      · have hq : 48 ≤ bS (σ 1 0) n c ∧ bS (σ 1 0) n c ≤ 57 := by
          by_cases q : 48 ≤ bS (σ 1 0) n c ∧ bS (σ 1 0) n c ≤ 57
          · exact q
          · rw [if_neg q] at h56; exact absurd rfl h56
        rw [if_pos hq] at he
        iterate 7 refine hK _ _ _ _ ?_
        rw [pS_4]
        refine calD (c9_byteAt _ _ n c (hn' _ _ _) h6 (by omega)) ?_
        rintro r σ' ⟨rfl, rfl⟩
        iterate 7 refine hK _ _ _ _ ?_
        rw [h1]
        have tail : ∀ v' : Int32, v' = (if 100000 < 10 * v + bS (σ 1 0) n c - 48 then 100000 else 10 * v + bS (σ 1 0) n c - 48) → K 92 [some (aR 0), some (aI lo), some (aI hi), some (aI nt), some (aI (nI b)), some (aI (10 * v + bS (σ 1 0) n c - 48))] [aI v'] (pS σ c w.1 w.2) := by
          intro v' hv'
          iterate 7 refine hK _ _ _ _ ?_
          show K _ _ _ _
          rw [pS_4]
          have e1 : nI c + Int32.ofInt 1 = nI (c + 1) := by rw [nI_succ]; rfl
          rw [e1, pS_u4]
          refine hK _ _ _ _ ?_
          refine ih (c + 1) v' (by omega) ?_
          rw [hv']; exact he
        refine And.intro (fun h82 => ?_) (fun h82 => ?_)
        · refine hK _ _ _ _ ?_
          refine tail _ ?_
          have h82' : 10 * v + bS (σ 1 0) n c - 48 ≤ 100000 := h82
          rw [if_neg (fun q => Int32.not_lt.mpr h82' q)]
          rfl
        · iterate 2 refine hK _ _ _ _ ?_
          refine tail _ ?_
          have h82' : ¬ 10 * v + bS (σ 1 0) n c - 48 ≤ 100000 := h82
          rw [if_pos (Int32.not_le.mp h82')]
  iterate 3 refine hK _ _ _ _ ?_
  rw [pS_5]
  refine And.intro (fun h4 => ?_) (fun h4 => absurd rfl h4)
  iterate 2 refine hK _ _ _ _ ?_
  refine calD (c9_blanks d σ n a 0 fa hn h6 hle) ?_
  rintro r σ' ⟨rfl, rfl⟩
  rw [hB]
  iterate 9 refine hK _ _ _ _ ?_
  rw [pS_4]
  refine calD (c9_byteAt _ _ n b (hn' _ _ _) h6 (by omega)) ?_
  rintro r σ' ⟨rfl, rfl⟩
  refine hK _ _ _ _ ?_
  refine calD (c9_isDigit _ _ _) ?_
  rintro r σ' ⟨rfl, rfl⟩
  refine hK _ _ _ _ ?_
  rw [h1]
  refine And.intro (fun h33 => ?_) (fun h33 => ?_)
  · have hq : 48 ≤ bS (σ 1 0) n b ∧ bS (σ 1 0) n b ≤ 57 := by
      by_cases q : 48 ≤ bS (σ 1 0) n b ∧ bS (σ 1 0) n b ≤ 57
      · exact q
      · rw [if_neg q] at h33; exact absurd rfl h33
    exact L45 (0, fa) (by rw [if_pos hq]) (n - b) b 0 (by omega) hDq
  · have hq : ¬ (48 ≤ bS (σ 1 0) n b ∧ bS (σ 1 0) n b ≤ 57) := fun q => by rw [if_pos q] at h33; exact absurd h33 (by decide)
    iterate 5 refine hK _ _ _ _ ?_
    rw [pS_4]
    refine calD (c9_wrongP _ σ b 0 fa (Int32.ofInt 1) b) ?_
    rintro r σ' ⟨rfl, rfl⟩
    exact L45 (wrS 0 fa 1 b) (by rw [if_neg hq]) (n - b) b 0 (by omega) hDq
theorem c9_number0 (d : Nat) (σ : sMem) (f lo hi nt : Int32) (hf : σ 0 0 5 = f) (h0 : ¬ f = 0) : sMet l D b0 ty lay d mX9_number [aR 0, aI lo, aI hi, aI nt] σ (fun r σ' => r = [aI 0] ∧ σ' = σ) := by
  refine sMet_intro lay_nd kX9_number xX9_ok (by decide +kernel) rfl ?_
  intro K hK
  iterate 3 refine hK _ _ _ _ ?_
  rw [hf]
  refine And.intro (fun h4 => absurd h4 h0) (fun h4 => ?_)
  iterate 2 refine hK _ _ _ _ ?_
  exact ⟨rfl, rfl⟩
end
