/-! THE REFERENCE, ways -/
def fN (σ : sMem) (a b : Nat) : Nat := (σ 14 a b).toNatClampNeg
/-- FAR and the first step of a WAY, as far as the walks rest on them -/
def WI (σ : sMem) (N : Nat) : Prop := N ≤ 12 ∧ (∀ a b, a < N → b < N → σ 14 a b = nI (fN σ a b) ∧ fN σ a b ≤ 1000000 ∧ (a = b ↔ fN σ a b = 0)) ∧
  ∀ a b, a < N → b < N → a ≠ b → fN σ a b < 1000000 → ∃ c w : Nat, c < N ∧ σ 15 a b = nI c ∧ σ 13 a c = nI w ∧ 1 ≤ w ∧ w ≤ 60 ∧ w + fN σ c b = fN σ a b
theorem WI.congr {σ σ' : sMem} {N : Nat} (h : WI σ N) (h13 : σ' 13 = σ 13) (h14 : σ' 14 = σ 14) (h15 : σ' 15 = σ 15) : WI σ' N := by
  unfold WI fN
  rw [h13, h14, h15]
  exact h
theorem WI.up {σ : sMem} {N : Nat} (h : WI σ N) (i j k : Nat) (v : Int32) (hi : i ≠ 13) (hi4 : i ≠ 14) (hi5 : i ≠ 15) : WI (sUp σ i j k v) N := h.congr (sUp_off (Ne.symm hi)) (sUp_off (Ne.symm hi4)) (sUp_off (Ne.symm hi5))
theorem WI.lt {σ : sMem} {N : Nat} (h : WI σ N) {a b : Nat} (ha : a < N) (hb : b < N) : σ 14 a b < 1000000 ↔ fN σ a b < 1000000 := by
  obtain ⟨e, hle, -⟩ := h.2.1 a b ha hb
  have : (1000000 : Int32) = nI 1000000 := rfl
  rw [this]
  conv => lhs; rw [e]
  exact nI_ltI (by omega) (by decide)
theorem inN {x : Int32} {N : Nat} (h : 0 ≤ x ∧ x ≤ nI N - 1) (hN : N < 2 ^ 30) : ∃ a : Nat, a < N ∧ x = nI a := by
  have a1 := Int32.le_iff_toInt_le.mp h.1
  have a2 := Int32.le_iff_toInt_le.mp h.2
  have e1 : (nI N - 1).toInt = (N : Int) - 1 := pk_sub_toInt (a := N) (b := 1) hN (by decide)
  have e0 : (0 : Int32).toInt = 0 := rfl
  rw [e1] at a2
  rw [e0] at a1
  exact ⟨x.toInt.toNat, by omega, toInt_nI (by omega) (by omega)⟩
/-- how many of the first N have less than v -/
def cnl (f : Nat → Nat) (v : Nat) : List Nat → Nat
  | [] => 0
  | x :: t => (if f x < v then 1 else 0) + cnl f v t
theorem cnl_le (f : Nat → Nat) {u v : Nat} (h : u ≤ v) : ∀ l, cnl f u l ≤ cnl f v l
  | [] => Nat.le_refl _
  | x :: t => by
    have := cnl_le f h t
    unfold cnl
    by_cases q : f x < u
    · rw [if_pos q, if_pos (Nat.lt_of_lt_of_le q h)]; omega
    · rw [if_neg q]; omega
theorem cnl_lt (f : Nat → Nat) {v c : Nat} (h : f c < v) : ∀ l, c ∈ l → cnl f (f c) l < cnl f v l
  | [], hm => by cases hm
  | x :: t, hm => by
    have h1 := cnl_le f (Nat.le_of_lt h) t
    unfold cnl
    rcases List.mem_cons.mp hm with e | hm
    · subst e
      rw [if_neg (Nat.lt_irrefl _), if_pos h]; omega
    · have h2 := cnl_lt f h t hm
      by_cases q : f x < f c
      · rw [if_pos q, if_pos (Nat.lt_trans q h)]; omega
      · rw [if_neg q]; omega
theorem cnl_len (f : Nat → Nat) (v : Nat) : ∀ l, cnl f v l ≤ l.length
  | [] => Nat.le_refl _
  | x :: t => by
    have := cnl_len f v t
    unfold cnl
    simp only [List.length_cons]
    split <;> omega
theorem cnl_self (f : Nat → Nat) {a : Nat} : ∀ l, a ∈ l → cnl f (f a) l < l.length
  | [], hm => by cases hm
  | x :: t, hm => by
    have h1 := cnl_len f (f a) t
    unfold cnl
    simp only [List.length_cons]
    rcases List.mem_cons.mp hm with e | hm
    · subst e
      rw [if_neg (Nat.lt_irrefl _)]; omega
    · have := cnl_self f t hm
      split <;> omega
/-- how many places are nearer to b than a is -/
def rk (σ : sMem) (N b a : Nat) : Nat := cnl (fun z => fN σ z b) (fN σ a b) (List.range N)
theorem rk_lt {σ : sMem} {N b a c : Nat} (hc : c < N) (h : fN σ c b < fN σ a b) : rk σ N b c < rk σ N b a := cnl_lt (fun z => fN σ z b) (c := c) h _ (List.mem_range.mpr hc)
theorem rk_le {σ : sMem} {N b a : Nat} (ha : a < N) : rk σ N b a < N := by
  have := cnl_self (fun z => fN σ z b) (a := a) _ (List.mem_range.mpr ha)
  rw [List.length_range] at this
  exact this
/-- i places along the WAY to b -/
def wyS (σ : sMem) (b : Nat) : Nat → Nat → Int32
  | 0, p => nI p
  | i + 1, p => if p = b then -1 else wyS σ b i (σ 15 p b).toNatClampNeg
section
variable {l : Launch} {D : va_G} {b0 : Nat} {ty : Nat → ClassId}
theorem c9_far (d : Nat) (σ : sMem) (N : Nat) (hW : WI σ N) (h30 : σ 3 0 0 = nI N) (x y : Int32) : sMet l D b0 ty lay (d + 2) mX9_far [aR 0, aI x, aI y] σ (fun r σ' => ((0 ≤ x ∧ x ≤ nI N - 1) ∧ (0 ≤ y ∧ y ≤ nI N - 1) → r = [aI (if σ 14 x.toNatClampNeg y.toNatClampNeg < 1000000 then σ 14 x.toNatClampNeg y.toNatClampNeg else -1)] ∧ σ' = sUp σ 0 0 0 0) ∧ (¬ ((0 ≤ x ∧ x ≤ nI N - 1) ∧ (0 ≤ y ∧ y ≤ nI N - 1)) → r = [aI 0] ∧ σ' = sUp σ 0 0 0 1)) := by
  refine sMet_intro lay_nd kX9_far xX9_ok (by decide +kernel) rfl ?_
  intro K hK
  have hN := hW.1
  have h30' : ∀ w, sUp σ 0 0 0 w 3 0 0 = nI N := fun w => by rw [sUp_off (by decide)]; exact h30
  have l22 : ¬ ((0 ≤ x ∧ x ≤ nI N - 1) ∧ (0 ≤ y ∧ y ≤ nI N - 1)) → K 22 [some (aR 0), some (aI x), some (aI y)] [aR 0] (sUp σ 0 0 0 0) := by
    intro hq
    iterate 4 refine hK _ _ _ _ ?_
    refine calD (c9_bad1 _ _ 1 (sUp_at _ _ _ _ _) (by decide)) ?_
    rintro r σ' ⟨rfl, rfl⟩
    refine hK _ _ _ _ ?_
    refine And.intro (fun h => absurd h (by decide)) (fun _ => ?_)
    iterate 2 refine hK _ _ _ _ ?_
    exact ⟨fun q => absurd q hq, fun _ => ⟨rfl, by rw [sUp_twice]⟩⟩
  iterate 7 refine hK _ _ _ _ ?_
  refine calD (c9_isPlace d _ _) ?_
  rintro r σ' ⟨rfl, rfl⟩
  rw [h30']
  refine hK _ _ _ _ ?_
  refine And.intro (fun h11 => ?_) (fun h11 => ?_)
  · exact l22 (fun q => ite_eq h11 q.1)
  · have hx := ite_ne h11
    iterate 3 refine hK _ _ _ _ ?_
    refine calD (c9_isPlace d _ _) ?_
    rintro r σ' ⟨rfl, rfl⟩
    rw [h30']
    refine hK _ _ _ _ ?_
    refine And.intro (fun h19 => ?_) (fun h19 => ?_)
    · have hy := ite_ne h19
      obtain ⟨a, ha, rfl⟩ := inN hx (by omega)
      obtain ⟨b, hb, rfl⟩ := inN hy (by omega)
      iterate 3 refine hK _ _ _ _ ?_
      refine calD (c9_bad0 _ _ _ (sUp_at _ _ _ _ _)) ?_
      rintro r σ' ⟨rfl, rfl⟩
      refine hK _ _ _ _ ?_
      refine And.intro (fun _ => ?_) (fun h => absurd rfl h)
      iterate 4 refine hK _ _ _ _ ?_
      refine calD (c9_isWay _ _ a b (by omega) (by omega)) ?_
      rintro r σ' ⟨rfl, rfl⟩
      rw [sUp_off (by decide)]
      refine hK _ _ _ _ ?_
      refine And.intro (fun h42 => ?_) (fun h42 => ?_)
      · iterate 2 refine hK _ _ _ _ ?_
        refine ⟨fun _ => ⟨?_, rfl⟩, fun q => absurd ⟨hx, hy⟩ q⟩
        rw [nI_clamp (by omega), nI_clamp (by omega), if_neg (ite_eq h42)]; rfl
      · iterate 4 refine hK _ _ _ _ ?_
        refine And.intro (vp_in_nI (by omega) (by decide)) ?_
        iterate 2 refine hK _ _ _ _ ?_
        refine And.intro (by first | omega | (rw [nI_clamp (by omega)]; omega)) (And.intro (vp_in_nI (by omega) (by decide)) ?_)
        iterate 2 refine hK _ _ _ _ ?_
        refine ⟨fun _ => ⟨?_, rfl⟩, fun q => absurd ⟨hx, hy⟩ q⟩
        rw [nI_clamp (by omega), nI_clamp (by omega), if_pos (ite_ne h42), sUp_off (by decide)]
    · exact l22 (fun q => ite_eq h19 q.2)
theorem c9_way (d : Nat) (σ : sMem) (N : Nat) (hW : WI σ N) (h30 : σ 3 0 0 = nI N) (x y i : Int32) : sMet l D b0 ty lay (d + 2) mX9_way [aR 0, aI x, aI y, aI i] σ (fun r σ' => ((0 ≤ x ∧ x ≤ nI N - 1) ∧ (0 ≤ y ∧ y ≤ nI N - 1) → r = [aI (if σ 14 x.toNatClampNeg y.toNatClampNeg < 1000000 ∧ 0 ≤ i then wyS σ y.toNatClampNeg i.toNatClampNeg x.toNatClampNeg else -1)] ∧ σ' = sUp σ 0 0 0 0) ∧ (¬ ((0 ≤ x ∧ x ≤ nI N - 1) ∧ (0 ≤ y ∧ y ≤ nI N - 1)) → r = [aI 0] ∧ σ' = sUp σ 0 0 0 1)) := by
  refine sMet_intro lay_nd kX9_way xX9_ok (by decide +kernel) rfl ?_
  intro K hK
  have hN := hW.1
  have h30' : ∀ w, sUp σ 0 0 0 w 3 0 0 = nI N := fun w => by rw [sUp_off (by decide)]; exact h30
  have l22 : ¬ ((0 ≤ x ∧ x ≤ nI N - 1) ∧ (0 ≤ y ∧ y ≤ nI N - 1)) → K 22 [some (aR 0), some (aI x), some (aI y), some (aI i), none, none] [aR 0] (sUp σ 0 0 0 0) := by
    intro hq
    iterate 4 refine hK _ _ _ _ ?_
    refine calD (c9_bad1 _ _ 1 (sUp_at _ _ _ _ _) (by decide)) ?_
    rintro r σ' ⟨rfl, rfl⟩
    refine hK _ _ _ _ ?_
    refine And.intro (fun h => absurd h (by decide)) (fun _ => ?_)
    iterate 2 refine hK _ _ _ _ ?_
    exact ⟨fun q => absurd q hq, fun _ => ⟨rfl, by rw [sUp_twice]⟩⟩
  iterate 7 refine hK _ _ _ _ ?_
  refine calD (c9_isPlace d _ _) ?_
  rintro r σ' ⟨rfl, rfl⟩
  rw [h30']
  refine hK _ _ _ _ ?_
  refine And.intro (fun h11 => ?_) (fun h11 => ?_)
  · exact l22 (fun q => ite_eq h11 q.1)
  · have hx := ite_ne h11
    iterate 3 refine hK _ _ _ _ ?_
    refine calD (c9_isPlace d _ _) ?_
    rintro r σ' ⟨rfl, rfl⟩
    rw [h30']
    refine hK _ _ _ _ ?_
    refine And.intro (fun h19 => ?_) (fun h19 => ?_)
    · have hy := ite_ne h19
      obtain ⟨a, ha, rfl⟩ := inN hx (by omega)
      obtain ⟨b, hb, rfl⟩ := inN hy (by omega)
      simp only [nI_clamp (show a < 2 ^ 31 by omega), nI_clamp (show b < 2 ^ 31 by omega)] at hK
      have none' : ¬ (σ 14 a b < 1000000 ∧ 0 ≤ i) → K 49 [some (aR 0), some (aI (nI a)), some (aI (nI b)), some (aI i), none, none] [] (sUp σ 0 0 0 0) := by
        intro hq
        iterate 2 refine hK _ _ _ _ ?_
        refine ⟨fun _ => ⟨?_, rfl⟩, fun q => absurd ⟨hx, hy⟩ q⟩
        rw [if_neg hq]; rfl
      iterate 3 refine hK _ _ _ _ ?_
      refine calD (c9_bad0 _ _ _ (sUp_at _ _ _ _ _)) ?_
      rintro r σ' ⟨rfl, rfl⟩
      refine hK _ _ _ _ ?_
      refine And.intro (fun _ => ?_) (fun h => absurd rfl h)
      iterate 4 refine hK _ _ _ _ ?_
      refine calD (c9_isWay _ _ a b (by omega) (by omega)) ?_
      rintro r σ' ⟨rfl, rfl⟩
      rw [sUp_off (by decide)]
      refine hK _ _ _ _ ?_
      refine And.intro (fun h42 => none' (fun q => ite_eq h42 q.1)) (fun h42 => ?_)
      have hab := ite_ne h42
      iterate 2 refine hK _ _ _ _ ?_
      refine And.intro (fun h46 => ?_) (fun h46 => none' (fun q => h46 q.2))
      iterate 4 refine hK _ _ _ _ ?_
      have hi0 : (0 : Int) ≤ i.toInt := by
        have := Int32.le_iff_toInt_le.mp h46
        exact this
      have hi2 : i.toInt < 2 ^ 31 := by
        have := i.toInt_lt
        omega
      have hi := toInt_nI (k := i) (j := i.toInt.toNat) (by omega) (by omega)
      have hic : i.toNatClampNeg = i.toInt.toNat := rfl
      rw [if_pos ⟨hab, h46⟩, hic] at hK
      have hn2 : i.toInt.toNat < 2 ^ 31 := by omega
      clear hic
      generalize i.toInt.toNat = n at hi hK hn2
      subst hi
      generalize hG : wyS σ b n a = G at hK
      have key : ∀ (j k p : Nat), k + j = n → p < N → fN σ p b < 1000000 → wyS σ b j p = G → K 57 [some (aR 0), some (aI (nI a)), some (aI (nI b)), some (aI (nI n)), some (aI (nI p)), some (aI (nI k))] [] (sUp σ 0 0 0 0) := by
        intro j
        induction j with
        | zero =>
          intro k p hk hp hf he
          have hkn : k = n := by omega
          subst hkn
          iterate 3 refine hK _ _ _ _ ?_
          refine And.intro (fun _ => ?_) (fun h => absurd (Int32.le_refl _) h)
          iterate 2 refine hK _ _ _ _ ?_
          refine ⟨fun _ => ⟨?_, rfl⟩, fun q => absurd ⟨hx, hy⟩ q⟩
          rw [← he]; rfl
        | succ j ih =>
          intro k p hk hp hf he
          unfold wyS at he
          iterate 3 refine hK _ _ _ _ ?_
          refine And.intro (fun h => absurd h (nI_ge (by omega) (by omega))) (fun _ => ?_)
          iterate 3 refine hK _ _ _ _ ?_
          refine And.intro (fun h66 => ?_) (fun h66 => ?_)
          · have hpb : ¬ p = b := fun q => h66 (by rw [q])
            rw [if_neg hpb] at he
            obtain ⟨c, w, hc, e15, -, hw1, -, hw⟩ := hW.2.2 p b hp hb hpb hf
            rw [e15, nI_clamp (by omega)] at he
            iterate 4 refine hK _ _ _ _ ?_
            refine And.intro (vp_in_nI (by omega) (by decide)) ?_
            iterate 2 refine hK _ _ _ _ ?_
            refine And.intro (by first | omega | (rw [nI_clamp (by omega)]; omega)) (And.intro (vp_in_nI (by omega) (by decide)) ?_)
            rw [nI_clamp (by omega), nI_clamp (by omega), sUp_off (by decide), e15]
            iterate 2 refine hK _ _ _ _ ?_
            show K _ _ _ _
            rw [nIs]
            refine hK _ _ _ _ ?_
            exact ih (k + 1) c (by omega) hc (by omega) he
          · have hpb : p = b := (nI_eq (by omega) (by omega)).mp h66
            rw [if_pos hpb] at he
            iterate 2 refine hK _ _ _ _ ?_
            refine ⟨fun _ => ⟨?_, rfl⟩, fun q => absurd ⟨hx, hy⟩ q⟩
            rw [← he]; rfl
      exact key n 0 a (by omega) ha ((hW.lt ha hb).mp hab) hG
    · exact l22 (fun q => ite_eq h19 q.2)
end
