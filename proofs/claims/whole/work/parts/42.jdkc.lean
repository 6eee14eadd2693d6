/-! contracts: Math.min, Math.max, Integer.bitCount, Arrays.fill; hasBit, allBits -/
def ushI (x y : Int32) : Int32 := (x.toUInt32 >>> (y.toUInt32 &&& Int32.toUInt32 31)).toInt32
def bcI (x : Int32) : Int32 :=
  let a := x - (ushI x 1 &&& 1431655765)
  let b := (a &&& 858993459) + (ushI a 2 &&& 858993459)
  let c := (b + ushI b 4) &&& 252645135
  let e := c + ushI c 8
  (e + ushI e 16) &&& 63
/-- a row's first k places are x -/
def flR (σ : sMem) (i j k : Nat) (x : Int32) : sMem := sRow σ i j (fun c => if c < k then x else σ i j c)
theorem flR_0 (σ : sMem) (i j : Nat) (x : Int32) : flR σ i j 0 x = σ := by
  funext a b c
  simp only [flR, sRow, Nat.not_lt_zero, if_false]
  split
  · rename_i h; obtain ⟨rfl, rfl⟩ := h; rfl
  · rfl
theorem flR_s (σ : sMem) (i j k : Nat) (x : Int32) : sUp (flR σ i j k x) i j k x = flR σ i j (k + 1) x := by
  funext a b c
  simp only [flR, sRow, sUp]
  by_cases h : a = i ∧ b = j
  · obtain ⟨rfl, rfl⟩ := h
    simp only [true_and, and_self, if_true]
    by_cases h1 : c = k
    · subst h1; simp
    · rw [if_neg h1]
      by_cases h2 : c < k
      · rw [if_pos h2, if_pos (by omega)]
      · rw [if_neg h2, if_neg (by omega)]
  · rw [if_neg h, if_neg h, if_neg (fun q => h ⟨q.1, q.2.1⟩)]
/-- bit i of x -/
def hb (x i : Int32) : Bool := !decide (ushI x i &&& 1 = 0)
section
variable {l : Launch} {D : va_G} {b0 : Nat} {ty : Nat → ClassId}
theorem cJ_bc (d : Nat) (σ : sMem) (x : Int32) : sMet l D b0 ty lay d mJ6_bitCount_0f7a4 [aI (x)] σ (fun r σ' => r = [aI (bcI x)] ∧ σ' = σ) := by
  refine sMet_intro lay_nd kJ6_bitCount_0f7a4 jX6_ok (by decide +kernel) rfl ?_
  intro K hK
  iterate 42 refine hK _ _ _ _ ?_
  exact ⟨rfl, rfl⟩
theorem cJ_fill72 (d : Nat) (σ : sMem) (x : Int32) : sMet l D b0 ty lay d mJ7_fill_53178 [aR 72, aI (x)] σ (fun r σ' => r = [] ∧ σ' = flR σ 72 0 8 x) := by
  refine sMet_intro lay_nd kJ7_fill_53178 (jX0_ok _) (by decide +kernel) rfl ?_
  intro K hK
  iterate 5 refine hK _ _ _ _ ?_
  have L5 : ∀ k, k ≤ 8 → K 5 [some (aR 72), some (aI x), some (aI (nI k)), some (aI (nI 8))] [] (flR σ 72 0 k x) := by
    refine kDown (P := fun k => K 5 [some (aR 72), some (aI x), some (aI (nI k)), some (aI (nI 8))] [] (flR σ 72 0 k x)) ?_ ?_
    · iterate 3 refine hK _ _ _ _ ?_
      refine And.intro (fun _ => ?_) (fun h => absurd (Int32.le_refl _) h)
      refine hK _ _ _ _ ?_
      exact ⟨rfl, rfl⟩
    · intro k hk ih
      iterate 3 refine hK _ _ _ _ ?_
      refine And.intro (fun h => absurd ((nI_leI (a := 8) (b := k) (by decide) (by omega)).mp h) (by omega)) (fun _ => ?_)
      iterate 4 refine hK _ _ _ _ ?_
      refine And.intro (vp_in_nI (n := k) (by omega) (by decide)) ?_
      rw [nI_clamp (show k < 2 ^ 31 by omega)]
      refine hK _ _ _ _ ?_
      show K _ _ _ _
      rw [show nI k + Int32.ofInt 1 = nI (k + 1) from nIs _]
      refine hK _ _ _ _ ?_
      rw [flR_s]
      exact ih
  have h0 := L5 0 (Nat.zero_le _)
  rw [flR_0] at h0
  exact h0
theorem cJ_fill53 (d : Nat) (σ : sMem) (x : Int32) : sMet l D b0 ty lay d mJ7_fill_53178 [aR 53, aI (x)] σ (fun r σ' => r = [] ∧ σ' = flR σ 53 0 12 x) := by
  refine sMet_intro lay_nd kJ7_fill_53178 (jX0_ok _) (by decide +kernel) rfl ?_
  intro K hK
  iterate 5 refine hK _ _ _ _ ?_
  have L5 : ∀ k, k ≤ 12 → K 5 [some (aR 53), some (aI x), some (aI (nI k)), some (aI (nI 12))] [] (flR σ 53 0 k x) := by
    refine kDown (P := fun k => K 5 [some (aR 53), some (aI x), some (aI (nI k)), some (aI (nI 12))] [] (flR σ 53 0 k x)) ?_ ?_
    · iterate 3 refine hK _ _ _ _ ?_
      refine And.intro (fun _ => ?_) (fun h => absurd (Int32.le_refl _) h)
      refine hK _ _ _ _ ?_
      exact ⟨rfl, rfl⟩
    · intro k hk ih
      iterate 3 refine hK _ _ _ _ ?_
      refine And.intro (fun h => absurd ((nI_leI (a := 12) (b := k) (by decide) (by omega)).mp h) (by omega)) (fun _ => ?_)
      iterate 4 refine hK _ _ _ _ ?_
      refine And.intro (vp_in_nI (n := k) (by omega) (by decide)) ?_
      rw [nI_clamp (show k < 2 ^ 31 by omega)]
      refine hK _ _ _ _ ?_
      show K _ _ _ _
      rw [show nI k + Int32.ofInt 1 = nI (k + 1) from nIs _]
      refine hK _ _ _ _ ?_
      rw [flR_s]
      exact ih
  have h0 := L5 0 (Nat.zero_le _)
  rw [flR_0] at h0
  exact h0
theorem cJ_fill71 (d : Nat) (σ : sMem) (x : Int32) : sMet l D b0 ty lay d mJ7_fill_53178 [aR 71, aI (x)] σ (fun r σ' => r = [] ∧ σ' = flR σ 71 0 12 x) := by
  refine sMet_intro lay_nd kJ7_fill_53178 (jX0_ok _) (by decide +kernel) rfl ?_
  intro K hK
  iterate 5 refine hK _ _ _ _ ?_
  have L5 : ∀ k, k ≤ 12 → K 5 [some (aR 71), some (aI x), some (aI (nI k)), some (aI (nI 12))] [] (flR σ 71 0 k x) := by
    refine kDown (P := fun k => K 5 [some (aR 71), some (aI x), some (aI (nI k)), some (aI (nI 12))] [] (flR σ 71 0 k x)) ?_ ?_
    · iterate 3 refine hK _ _ _ _ ?_
      refine And.intro (fun _ => ?_) (fun h => absurd (Int32.le_refl _) h)
      refine hK _ _ _ _ ?_
      exact ⟨rfl, rfl⟩
    · intro k hk ih
      iterate 3 refine hK _ _ _ _ ?_
      refine And.intro (fun h => absurd ((nI_leI (a := 12) (b := k) (by decide) (by omega)).mp h) (by omega)) (fun _ => ?_)
      iterate 4 refine hK _ _ _ _ ?_
      refine And.intro (vp_in_nI (n := k) (by omega) (by decide)) ?_
      rw [nI_clamp (show k < 2 ^ 31 by omega)]
      refine hK _ _ _ _ ?_
      show K _ _ _ _
      rw [show nI k + Int32.ofInt 1 = nI (k + 1) from nIs _]
      refine hK _ _ _ _ ?_
      rw [flR_s]
      exact ih
  have h0 := L5 0 (Nat.zero_le _)
  rw [flR_0] at h0
  exact h0
theorem cJ_fill86 (d : Nat) (σ : sMem) (x : Int32) : sMet l D b0 ty lay d mJ7_fill_53178 [aR 86, aI (x)] σ (fun r σ' => r = [] ∧ σ' = flR σ 86 0 6 x) := by
  refine sMet_intro lay_nd kJ7_fill_53178 (jX0_ok _) (by decide +kernel) rfl ?_
  intro K hK
  iterate 5 refine hK _ _ _ _ ?_
  have L5 : ∀ k, k ≤ 6 → K 5 [some (aR 86), some (aI x), some (aI (nI k)), some (aI (nI 6))] [] (flR σ 86 0 k x) := by
    refine kDown (P := fun k => K 5 [some (aR 86), some (aI x), some (aI (nI k)), some (aI (nI 6))] [] (flR σ 86 0 k x)) ?_ ?_
    · iterate 3 refine hK _ _ _ _ ?_
      refine And.intro (fun _ => ?_) (fun h => absurd (Int32.le_refl _) h)
      refine hK _ _ _ _ ?_
      exact ⟨rfl, rfl⟩
    · intro k hk ih
      iterate 3 refine hK _ _ _ _ ?_
      refine And.intro (fun h => absurd ((nI_leI (a := 6) (b := k) (by decide) (by omega)).mp h) (by omega)) (fun _ => ?_)
      iterate 4 refine hK _ _ _ _ ?_
      refine And.intro (vp_in_nI (n := k) (by omega) (by decide)) ?_
      rw [nI_clamp (show k < 2 ^ 31 by omega)]
      refine hK _ _ _ _ ?_
      show K _ _ _ _
      rw [show nI k + Int32.ofInt 1 = nI (k + 1) from nIs _]
      refine hK _ _ _ _ ?_
      rw [flR_s]
      exact ih
  have h0 := L5 0 (Nat.zero_le _)
  rw [flR_0] at h0
  exact h0
theorem cJ_fill99 (d : Nat) (σ : sMem) (x : Int32) : sMet l D b0 ty lay d mJ7_fill_53178 [aR 99, aI (x)] σ (fun r σ' => r = [] ∧ σ' = flR σ 99 0 12 x) := by
  refine sMet_intro lay_nd kJ7_fill_53178 (jX0_ok _) (by decide +kernel) rfl ?_
  intro K hK
  iterate 5 refine hK _ _ _ _ ?_
  have L5 : ∀ k, k ≤ 12 → K 5 [some (aR 99), some (aI x), some (aI (nI k)), some (aI (nI 12))] [] (flR σ 99 0 k x) := by
    refine kDown (P := fun k => K 5 [some (aR 99), some (aI x), some (aI (nI k)), some (aI (nI 12))] [] (flR σ 99 0 k x)) ?_ ?_
    · iterate 3 refine hK _ _ _ _ ?_
      refine And.intro (fun _ => ?_) (fun h => absurd (Int32.le_refl _) h)
      refine hK _ _ _ _ ?_
      exact ⟨rfl, rfl⟩
    · intro k hk ih
      iterate 3 refine hK _ _ _ _ ?_
      refine And.intro (fun h => absurd ((nI_leI (a := 12) (b := k) (by decide) (by omega)).mp h) (by omega)) (fun _ => ?_)
      iterate 4 refine hK _ _ _ _ ?_
      refine And.intro (vp_in_nI (n := k) (by omega) (by decide)) ?_
      rw [nI_clamp (show k < 2 ^ 31 by omega)]
      refine hK _ _ _ _ ?_
      show K _ _ _ _
      rw [show nI k + Int32.ofInt 1 = nI (k + 1) from nIs _]
      refine hK _ _ _ _ ?_
      rw [flR_s]
      exact ih
  have h0 := L5 0 (Nat.zero_le _)
  rw [flR_0] at h0
  exact h0
theorem cJ_fill38 (d : Nat) (σ : sMem) (j : Nat) (hj : j < 12) (x : Int32) : sMet l D b0 ty lay d mJ7_fill_53178 [.inr (38, j), aI (x)] σ (fun r σ' => r = [] ∧ σ' = flR σ 38 j 12 x) := by
  refine sMet_intro lay_nd kJ7_fill_53178 (jX0_ok _) (by decide +kernel) rfl ?_
  intro K hK
  iterate 4 refine hK _ _ _ _ ?_
  refine And.intro (by first | omega | (rw [nI_clamp (by omega)]; omega)) ?_
  refine hK _ _ _ _ ?_
  have L5 : ∀ k, k ≤ 12 → K 5 [some (.inr (38, j)), some (aI x), some (aI (nI k)), some (aI (nI 12))] [] (flR σ 38 j k x) := by
    refine kDown (P := fun k => K 5 [some (.inr (38, j)), some (aI x), some (aI (nI k)), some (aI (nI 12))] [] (flR σ 38 j k x)) ?_ ?_
    · iterate 3 refine hK _ _ _ _ ?_
      refine And.intro (fun _ => ?_) (fun h => absurd (Int32.le_refl _) h)
      refine hK _ _ _ _ ?_
      exact ⟨rfl, rfl⟩
    · intro k hk ih
      iterate 3 refine hK _ _ _ _ ?_
      refine And.intro (fun h => absurd ((nI_leI (a := 12) (b := k) (by decide) (by omega)).mp h) (by omega)) (fun _ => ?_)
      iterate 4 refine hK _ _ _ _ ?_
      refine And.intro (by first | omega | (rw [nI_clamp (by omega)]; omega)) (And.intro (vp_in_nI (n := k) (by omega) (by decide)) ?_)
      rw [nI_clamp (show k < 2 ^ 31 by omega)]
      refine hK _ _ _ _ ?_
      show K _ _ _ _
      rw [show nI k + Int32.ofInt 1 = nI (k + 1) from nIs _]
      refine hK _ _ _ _ ?_
      rw [flR_s]
      exact ih
  have h0 := L5 0 (Nat.zero_le _)
  rw [flR_0] at h0
  exact h0
theorem cJ_fill56 (d : Nat) (σ : sMem) (j : Nat) (hj : j < 12) (x : Int32) : sMet l D b0 ty lay d mJ7_fill_53178 [.inr (56, j), aI (x)] σ (fun r σ' => r = [] ∧ σ' = flR σ 56 j 12 x) := by
  refine sMet_intro lay_nd kJ7_fill_53178 (jX0_ok _) (by decide +kernel) rfl ?_
  intro K hK
  iterate 4 refine hK _ _ _ _ ?_
  refine And.intro (by first | omega | (rw [nI_clamp (by omega)]; omega)) ?_
  refine hK _ _ _ _ ?_
  have L5 : ∀ k, k ≤ 12 → K 5 [some (.inr (56, j)), some (aI x), some (aI (nI k)), some (aI (nI 12))] [] (flR σ 56 j k x) := by
    refine kDown (P := fun k => K 5 [some (.inr (56, j)), some (aI x), some (aI (nI k)), some (aI (nI 12))] [] (flR σ 56 j k x)) ?_ ?_
    · iterate 3 refine hK _ _ _ _ ?_
      refine And.intro (fun _ => ?_) (fun h => absurd (Int32.le_refl _) h)
      refine hK _ _ _ _ ?_
      exact ⟨rfl, rfl⟩
    · intro k hk ih
      iterate 3 refine hK _ _ _ _ ?_
      refine And.intro (fun h => absurd ((nI_leI (a := 12) (b := k) (by decide) (by omega)).mp h) (by omega)) (fun _ => ?_)
      iterate 4 refine hK _ _ _ _ ?_
      refine And.intro (by first | omega | (rw [nI_clamp (by omega)]; omega)) (And.intro (vp_in_nI (n := k) (by omega) (by decide)) ?_)
      rw [nI_clamp (show k < 2 ^ 31 by omega)]
      refine hK _ _ _ _ ?_
      show K _ _ _ _
      rw [show nI k + Int32.ofInt 1 = nI (k + 1) from nIs _]
      refine hK _ _ _ _ ?_
      rw [flR_s]
      exact ih
  have h0 := L5 0 (Nat.zero_le _)
  rw [flR_0] at h0
  exact h0
theorem cJ_fill91 (d : Nat) (σ : sMem) (j : Nat) (hj : j < 9) (x : Int32) : sMet l D b0 ty lay d mJ7_fill_53178 [.inr (91, j), aI (x)] σ (fun r σ' => r = [] ∧ σ' = flR σ 91 j 1024 x) := by
  refine sMet_intro lay_nd kJ7_fill_53178 (jX0_ok _) (by decide +kernel) rfl ?_
  intro K hK
  iterate 4 refine hK _ _ _ _ ?_
  refine And.intro (by first | omega | (rw [nI_clamp (by omega)]; omega)) ?_
  refine hK _ _ _ _ ?_
  have L5 : ∀ k, k ≤ 1024 → K 5 [some (.inr (91, j)), some (aI x), some (aI (nI k)), some (aI (nI 1024))] [] (flR σ 91 j k x) := by
    refine kDown (P := fun k => K 5 [some (.inr (91, j)), some (aI x), some (aI (nI k)), some (aI (nI 1024))] [] (flR σ 91 j k x)) ?_ ?_
    · iterate 3 refine hK _ _ _ _ ?_
      refine And.intro (fun _ => ?_) (fun h => absurd (Int32.le_refl _) h)
      refine hK _ _ _ _ ?_
      exact ⟨rfl, rfl⟩
    · intro k hk ih
      iterate 3 refine hK _ _ _ _ ?_
      refine And.intro (fun h => absurd ((nI_leI (a := 1024) (b := k) (by decide) (by omega)).mp h) (by omega)) (fun _ => ?_)
      iterate 4 refine hK _ _ _ _ ?_
      refine And.intro (by first | omega | (rw [nI_clamp (by omega)]; omega)) (And.intro (vp_in_nI (n := k) (by omega) (by decide)) ?_)
      rw [nI_clamp (show k < 2 ^ 31 by omega)]
      refine hK _ _ _ _ ?_
      show K _ _ _ _
      rw [show nI k + Int32.ofInt 1 = nI (k + 1) from nIs _]
      refine hK _ _ _ _ ?_
      rw [flR_s]
      exact ih
  have h0 := L5 0 (Nat.zero_le _)
  rw [flR_0] at h0
  exact h0
theorem cJ_fill95 (d : Nat) (σ : sMem) (j : Nat) (hj : j < 10) (x : Int32) : sMet l D b0 ty lay d mJ7_fill_53178 [.inr (95, j), aI (x)] σ (fun r σ' => r = [] ∧ σ' = flR σ 95 j 12 x) := by
  refine sMet_intro lay_nd kJ7_fill_53178 (jX0_ok _) (by decide +kernel) rfl ?_
  intro K hK
  iterate 4 refine hK _ _ _ _ ?_
  refine And.intro (by first | omega | (rw [nI_clamp (by omega)]; omega)) ?_
  refine hK _ _ _ _ ?_
  have L5 : ∀ k, k ≤ 12 → K 5 [some (.inr (95, j)), some (aI x), some (aI (nI k)), some (aI (nI 12))] [] (flR σ 95 j k x) := by
    refine kDown (P := fun k => K 5 [some (.inr (95, j)), some (aI x), some (aI (nI k)), some (aI (nI 12))] [] (flR σ 95 j k x)) ?_ ?_
    · iterate 3 refine hK _ _ _ _ ?_
      refine And.intro (fun _ => ?_) (fun h => absurd (Int32.le_refl _) h)
      refine hK _ _ _ _ ?_
      exact ⟨rfl, rfl⟩
    · intro k hk ih
      iterate 3 refine hK _ _ _ _ ?_
      refine And.intro (fun h => absurd ((nI_leI (a := 12) (b := k) (by decide) (by omega)).mp h) (by omega)) (fun _ => ?_)
      iterate 4 refine hK _ _ _ _ ?_
      refine And.intro (by first | omega | (rw [nI_clamp (by omega)]; omega)) (And.intro (vp_in_nI (n := k) (by omega) (by decide)) ?_)
      rw [nI_clamp (show k < 2 ^ 31 by omega)]
      refine hK _ _ _ _ ?_
      show K _ _ _ _
      rw [show nI k + Int32.ofInt 1 = nI (k + 1) from nIs _]
      refine hK _ _ _ _ ?_
      rw [flR_s]
      exact ih
  have h0 := L5 0 (Nat.zero_le _)
  rw [flR_0] at h0
  exact h0
theorem c8_hasBit (d : Nat) (σ : sMem) (x i : Int32) : sMet l D b0 ty lay d mX8_hasBit [aI (x), aI (i)] σ (fun r σ' => r = [aI (bI (hb x i))] ∧ σ' = σ) := by
  refine sMet_intro lay_nd kX8_hasBit xX8_ok (by decide +kernel) rfl ?_
  intro K hK
  iterate 6 refine hK _ _ _ _ ?_
  refine And.intro (fun h => ?_) (fun h => ?_)
  · iterate 2 refine hK _ _ _ _ ?_
    exact ⟨Or.inl rfl, by rw [hb, show decide (ushI x i &&& 1 = 0) = true from decide_eq_true h]; rfl, rfl⟩
  · iterate 3 refine hK _ _ _ _ ?_
    exact ⟨Or.inr rfl, by rw [hb, show decide (ushI x i &&& 1 = 0) = false from decide_eq_false h]; rfl, rfl⟩
theorem c8_allBits (d : Nat) (σ : sMem) (x : Int32) : sMet l D b0 ty lay d mX8_allBits [aI (x)] σ (fun r σ' => r = [aI (1 <<< (x &&& 31) - 1)] ∧ σ' = σ) := by
  refine sMet_intro lay_nd kX8_allBits xX8_ok (by decide +kernel) rfl ?_
  intro K hK
  iterate 6 refine hK _ _ _ _ ?_
  exact ⟨rfl, rfl⟩
end
