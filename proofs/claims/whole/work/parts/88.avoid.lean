/-! THE CLASS: avoid -/
theorem mnI_nI {a b : Nat} (ha : a < 2 ^ 31) (hb9 : b < 2 ^ 31) : mnI (nI a) (nI b) = nI (mnN a b) := by
  unfold mnI mnN
  by_cases h : b < a
  · rw [if_pos h, if_pos ((nI_ltI hb9 ha).mpr h)]
  · rw [if_neg h, if_neg (fun q => h ((nI_ltI hb9 ha).mp q))]
def A9 (σ : sMem) (c : Nat → Nat) (N : Nat) : Prop := ∀ z, z < N → σ 99 0 z = nI (c z) ∧ c z ≤ 1000000
section
variable {l : Launch} {D0 : va_G} {b0 : Nat} {ty : Nat → ClassId} {ad av : Nat → Nat}
theorem c6_minutesRound_36 (d : Nat) (σ t : sMem) (N P S G : Nat) (hC : CT σ t 36 N P S G) (hM : MI t N P S G) (a b B : Nat) (ha : a < N) (hb9 : b < N) : yMet l D0 b0 ty ad av lay (d + 1) 0 mX6_minutesRound [aR 37, aI (nI a), aI (nI b), aI (nI B), aR 99] σ (fun r σ' => r = [aI (nI (avK (stN t) N a (fun z => B.testBit z) N b))] ∧ avK (stN t) N a (fun z => B.testBit z) N b ≤ 1000000 ∧ ∀ i, i ≠ 99 → σ' i = σ i) (fun _ _ => False) := by
  refine yMet_intro lay_nd kX6_minutesRound xX6_ok (yY6_ok _) (by decide +kernel) rfl ?_
  intro K hK
  have hN := hM.1.1.1.1
  have hst : ∀ x y, x < N → y < N → t 13 x y = nI (stN t x y) ∧ stN t x y ≤ 1000000 := fun x y hx hy => ⟨(st_at hM.2.1 hx hy).1, by have := (st_at hM.2.1 hx hy).2; omega⟩
  generalize hbl : (fun z => B.testBit z) = bl at hK
  iterate 3 refine hK _ _ _ _ _ ?_
  refine Or.inl (calD (cJ_fill99 _ _ _) ?_)
  rintro r μ1 ⟨rfl, h1⟩
  show K 0 7 [some (aR 37), some (aI (nI a)), some (aI (nI b)), some (aI (nI B)), some (aR 99), none, none, none] [] μ1
  have hf1 : ∀ i, i ≠ 99 → μ1 i = σ i := fun i q => by rw [h1]; unfold flR; rw [sRow_off q]
  have hv1 : ∀ z, z < 12 → μ1 99 0 z = nI 1000000 := fun z q => by rw [h1]; unfold flR; rw [sRow_at, if_pos q]; rfl
  clear h1
  iterate 4 refine hK _ _ _ _ _ ?_
  refine And.intro (vp_in_nI (n := a) (by omega) (by decide)) ?_
  rw [nI_clamp (show a < 2 ^ 31 by omega)]
  iterate 2 refine hK _ _ _ _ _ ?_
  have L15 : ∀ (f : Nat) (k : Nat) (e6 e7 : Option AV) (μ : sMem), k + f = N → (∀ i, i ≠ 99 → μ i = σ i) → A9 μ (avK (stN t) N a bl k) N → K 0 15 [some (aR 37), some (aI (nI a)), some (aI (nI b)), some (aI (nI B)), some (aR 99), some (aI (nI k)), e6, e7] [] μ := by
    intro f
    induction f with
    | zero =>
      intro k e6 e7 μ hk hf hA
      have pl_μ : μ 37 0 0 = nI N := by rw [hf 37 (by decide)]; exact hC.1
      obtain ⟨kb, kl⟩ := hA b hb9
      rw [show k = N by omega] at kb kl
      iterate 3 refine hK _ _ _ _ _ ?_
      show K _ _ _ _ _
      rw [show μ 37 0 0 = nI N from pl_μ]
      refine hK _ _ _ _ _ ?_
      refine And.intro (fun _ => ?_) (fun h9 => absurd ((nI_leI (by omega) (by omega)).mpr (by omega)) h9)
      iterate 3 refine hK _ _ _ _ _ ?_
      refine And.intro (vp_in_nI (n := b) (by omega) (by decide)) ?_
      rw [nI_clamp (show b < 2 ^ 31 by omega)]
      rw [show μ 99 0 b = nI (avK (stN t) N a bl N b) from kb]
      refine hK _ _ _ _ _ ?_
      exact ⟨rfl, kl, hf⟩
    | succ f ih =>
      intro k e6 e7 μ hk hf hA
      have pl_μ : μ 37 0 0 = nI N := by rw [hf 37 (by decide)]; exact hC.1
      iterate 3 refine hK _ _ _ _ _ ?_
      show K _ _ _ _ _
      rw [show μ 37 0 0 = nI N from pl_μ]
      refine hK _ _ _ _ _ ?_
      refine And.intro (fun h9 => absurd ((nI_leI (by omega) (by omega)).mp h9) (by omega)) (fun _ => ?_)
      iterate 2 refine hK _ _ _ _ _ ?_
      have L27 : ∀ (f2 : Nat) (x : Nat) (e7 : Option AV) (ν : sMem), x + f2 = N → (∀ i, i ≠ 99 → ν i = σ i) → A9 ν (forG (avA (stN t) N a bl) (avK (stN t) N a bl k) x) N → K 0 27 [some (aR 37), some (aI (nI a)), some (aI (nI b)), some (aI (nI B)), some (aR 99), some (aI (nI k)), some (aI (nI x)), e7] [] ν := by
        intro f2
        induction f2 with
        | zero =>
          intro x e7 ν hx hf2 hA2
          have pl_ν : ν 37 0 0 = nI N := by rw [hf2 37 (by decide)]; exact hC.1
          iterate 3 refine hK _ _ _ _ _ ?_
          show K _ _ _ _ _
          rw [show ν 37 0 0 = nI N from pl_ν]
          refine hK _ _ _ _ _ ?_
          refine And.intro (fun _ => ?_) (fun h9 => absurd ((nI_leI (by omega) (by omega)).mpr (by omega)) h9)
          refine hK _ _ _ _ _ ?_
          show K _ _ _ _ _
          rw [show nI k + Int32.ofInt 1 = nI (k + 1) from nIs _]
          refine hK _ _ _ _ _ ?_
          exact ih (k + 1) _ _ ν (by omega) hf2 (by rw [show x = N by omega] at hA2; exact hA2)
        | succ f2 ih2 =>
          intro x e7 ν hx hf2 hA2
          have pl_ν : ν 37 0 0 = nI N := by rw [hf2 37 (by decide)]; exact hC.1
          have hs9 : forG (avA (stN t) N a bl) (avK (stN t) N a bl k) (x + 1) = avA (stN t) N a bl x (forG (avA (stN t) N a bl) (avK (stN t) N a bl k) x) := rfl
          generalize forG (avA (stN t) N a bl) (avK (stN t) N a bl k) x = c at hA2 hs9
          have hxN : x < N := by omega
          obtain ⟨vx, lx⟩ := hA2 x hxN
          iterate 3 refine hK _ _ _ _ _ ?_
          show K _ _ _ _ _
          rw [show ν 37 0 0 = nI N from pl_ν]
          refine hK _ _ _ _ _ ?_
          refine And.intro (fun h9 => absurd ((nI_leI (by omega) (by omega)).mp h9) (by omega)) (fun _ => ?_)
          have L111 : ∀ (e7 : Option AV), (1000000 ≤ c x ∨ (x ≠ a ∧ bl x = true)) → K 0 111 [some (aR 37), some (aI (nI a)), some (aI (nI b)), some (aI (nI B)), some (aR 99), some (aI (nI k)), some (aI (nI x)), e7] [] ν := by
            intro e7 hs
            refine hK _ _ _ _ _ ?_
            show K _ _ _ _ _
            rw [show nI x + Int32.ofInt 1 = nI (x + 1) from nIs _]
            refine hK _ _ _ _ _ ?_
            exact ih2 (x + 1) _ ν (by omega) hf2 (by rw [hs9]; unfold avA; rw [if_pos hs]; exact hA2)
          have L64 : ∀ (e7 : Option AV), ¬ (1000000 ≤ c x ∨ (x ≠ a ∧ bl x = true)) → K 0 64 [some (aR 37), some (aI (nI a)), some (aI (nI b)), some (aI (nI B)), some (aR 99), some (aI (nI k)), some (aI (nI x)), e7] [] ν := by
            intro e7 hs
            have hs8 : avA (stN t) N a bl x c = forG (avC (stN t) x) c N := if_neg hs
            rw [hs8] at hs9
            iterate 2 refine hK _ _ _ _ _ ?_
            have L67 : ∀ (f3 : Nat) (y : Nat) (κ : sMem), y + f3 = N → (∀ i, i ≠ 99 → κ i = σ i) → A9 κ (forG (avC (stN t) x) c y) N → K 0 67 [some (aR 37), some (aI (nI a)), some (aI (nI b)), some (aI (nI B)), some (aR 99), some (aI (nI k)), some (aI (nI x)), some (aI (nI y))] [] κ := by
              intro f3
              induction f3 with
              | zero =>
                intro y κ hy hf3 hA3
                have pl_κ : κ 37 0 0 = nI N := by rw [hf3 37 (by decide)]; exact hC.1
                iterate 3 refine hK _ _ _ _ _ ?_
                show K _ _ _ _ _
                rw [show κ 37 0 0 = nI N from pl_κ]
                refine hK _ _ _ _ _ ?_
                refine And.intro (fun _ => ?_) (fun h9 => absurd ((nI_leI (by omega) (by omega)).mpr (by omega)) h9)
                refine hK _ _ _ _ _ ?_
                show K _ _ _ _ _
                rw [show nI x + Int32.ofInt 1 = nI (x + 1) from nIs _]
                refine hK _ _ _ _ _ ?_
                exact ih2 (x + 1) _ κ (by omega) hf3 (by rw [hs9]; rw [show y = N by omega] at hA3; exact hA3)
              | succ f3 ih3 =>
                intro y κ hy hf3 hA3
                have pl_κ : κ 37 0 0 = nI N := by rw [hf3 37 (by decide)]; exact hC.1
                have hs7 : forG (avC (stN t) x) c (y + 1) = avC (stN t) x y (forG (avC (stN t) x) c y) := rfl
                generalize forG (avC (stN t) x) c y = c3 at hA3 hs7
                have hyN : y < N := by omega
                obtain ⟨vy, ly⟩ := hA3 y hyN
                obtain ⟨vx3, lx3⟩ := hA3 x hxN
                obtain ⟨s13, sl⟩ := hst x y hxN hyN
                have k13 : κ 38 x y = nI (stN t x y) := by rw [hf3 38 (by decide), (hC.2.2.2.2.2.1 x y hxN hyN).1]; exact s13
                iterate 3 refine hK _ _ _ _ _ ?_
                show K _ _ _ _ _
                rw [show κ 37 0 0 = nI N from pl_κ]
                refine hK _ _ _ _ _ ?_
                refine And.intro (fun h9 => absurd ((nI_leI (by omega) (by omega)).mp h9) (by omega)) (fun _ => ?_)
                iterate 5 refine hK _ _ _ _ _ ?_
                refine And.intro (vp_in_nI (n := y) (by omega) (by decide)) ?_
                rw [nI_clamp (show y < 2 ^ 31 by omega)]
                rw [show κ 99 0 y = nI (c3 y) from vy]
                iterate 3 refine hK _ _ _ _ _ ?_
                refine And.intro (vp_in_nI (n := x) (by omega) (by decide)) ?_
                rw [nI_clamp (show x < 2 ^ 31 by omega)]
                rw [show κ 99 0 x = nI (c3 x) from vx3]
                iterate 4 refine hK _ _ _ _ _ ?_
                refine And.intro (vp_in_nI (n := x) (by omega) (by decide)) ?_
                rw [nI_clamp (show x < 2 ^ 31 by omega)]
                iterate 2 refine hK _ _ _ _ _ ?_
                refine And.intro (by first | omega | (rw [nI_clamp (by omega)]; omega)) (And.intro (vp_in_nI (n := y) (by omega) (by decide)) ?_)
                rw [nI_clamp (show y < 2 ^ 31 by omega)]
                rw [show κ 38 x y = nI (stN t x y) from k13]
                refine hK _ _ _ _ _ ?_
                show K _ _ _ _ _
                rw [nIa]
                refine hK _ _ _ _ _ ?_
                show K _ _ _ _ _
                rw [mnI_nI (by omega) (by omega)]
                refine hK _ _ _ _ _ ?_
                refine And.intro (vp_in_nI (n := y) (by omega) (by decide)) ?_
                rw [nI_clamp (show y < 2 ^ 31 by omega)]
                refine hK _ _ _ _ _ ?_
                show K _ _ _ _ _
                rw [show nI y + Int32.ofInt 1 = nI (y + 1) from nIs _]
                refine hK _ _ _ _ _ ?_
                refine ih3 (y + 1) _ (by omega) (fun i hi => by rw [sUp_off hi]; exact hf3 i hi) (fun z hz => ?_)
                rw [hs7]
                refine ⟨?_, avC_le (fun z hz => (hA3 z hz).2) hyN z hz⟩
                unfold avC
                by_cases e : z = y
                · subst e; rw [sUp_at, fu_at]
                · rw [sUp_k e, fu_ne e]; exact (hA3 z hz).1
            exact L67 N 0 ν (by omega) hf2 hA2
          iterate 3 refine hK _ _ _ _ _ ?_
          refine And.intro (vp_in_nI (n := x) (by omega) (by decide)) ?_
          rw [nI_clamp (show x < 2 ^ 31 by omega)]
          rw [show ν 99 0 x = nI (c x) from vx]
          iterate 2 refine hK _ _ _ _ _ ?_
          refine And.intro (fun h8 => L111 _ (Or.inl ((nI_leI (a := 1000000) (by decide) (by omega)).mp h8))) (fun h8 => ?_)
          have g8 : ¬ 1000000 ≤ c x := fun q => h8 ((nI_leI (a := 1000000) (by decide) (by omega)).mpr q)
          iterate 3 refine hK _ _ _ _ _ ?_
          refine And.intro (fun h7 => L64 _ (fun q => q.elim g8 (fun q => q.1 ((nI_eq (by omega) (by omega)).mp h7)))) (fun h7 => ?_)
          have g7 : x ≠ a := fun e => h7 (by rw [e])
          iterate 3 refine hK _ _ _ _ _ ?_
          refine calD (c8_hasBit _ _ _ _) ?_
          rintro r σ' ⟨rfl, hσ⟩
          subst σ'
          show K 0 58 [some (aR 37), some (aI (nI a)), some (aI (nI b)), some (aI (nI B)), some (aR 99), some (aI (nI k)), some (aI (nI x)), e7] [aI (bI (hb (nI B) (nI x)))] ν
          refine hK _ _ _ _ _ ?_
          refine And.intro (fun h6 => L64 _ (fun q => q.elim g8 (fun q => by have c1 := bI_f h6; have c2 := q.2; rw [← hbl] at c2; rw [hb_nI _ _ (by omega), show B.testBit x = true from c2] at c1; cases c1))) (fun h6 => ?_)
          have c1 := bI_t h6
          rw [hb_nI _ _ (by omega)] at c1
          refine hK _ _ _ _ _ ?_
          exact L111 _ (Or.inr ⟨g7, by rw [← hbl]; exact c1⟩)
      exact L27 N 0 _ μ (by omega) hf hA
  refine L15 N 0 _ _ _ (by omega) (fun i hi => by rw [sUp_off hi]; exact hf1 i hi) (fun z hz => ?_)
  show _ = nI (if z = a then 0 else 1000000) ∧ (if z = a then 0 else 1000000) ≤ 1000000
  by_cases e : z = a
  · rw [if_pos e, e, sUp_at]; exact ⟨rfl, by decide⟩
  · rw [if_neg e, sUp_k e]; exact ⟨hv1 z (by omega), Nat.le_refl _⟩
theorem c8_avoid_36_x0 (d : Nat) (σ t : sMem) (N P S G : Nat) (h : HR σ t 36 N P S G) (x : Int32) (h0 : ¬ (0 ≤ x ∧ x ≤ nI P - 1)) : yMet l D0 b0 ty ad av lay (d + 7) 1 mX8_avoid [aR 34, aI (x)] σ (fun _ _ => False) (fun e σ' => e = yNSE ∧ σ' = σ) := by
  refine yMet_intro lay_nd kX8_avoid xX8_ok (yY8_ok _) (by decide +kernel) rfl ?_
  intro K hK
  have hN := h.2.2.1.1.1.1.1
  have hP := h.2.2.1.1.1.2.2.2.1.2
  have hS8 := h.2.2.1.1.1.2.2.2.2.1.2
  iterate 3 refine hK _ _ _ _ _ ?_
  refine Or.inr (Or.inr ⟨0, 1, rfl, yDX (c8_checkPerson_36_x _ _ P (by omega) h.1 h.2.1.2.1 x h0) (fun _ _ h => h.elim) ?_⟩)
  exact fun e σ' h => h
theorem c8_avoid_36_ok (d : Nat) (σ t : sMem) (N P S G : Nat) (h : HR σ t 36 N P S G) (x : Nat) (hx : x < P) : yMet l D0 b0 ty ad av lay (d + 7) 0 mX8_avoid [aR 34, aI (nI x)] σ (fun r σ' => r = [aI (avO t N S x)] ∧ ∀ i, i ≠ 99 → σ' i = σ i) (fun _ _ => False) := by
  refine yMet_intro lay_nd kX8_avoid xX8_ok (yY8_ok _) (by decide +kernel) rfl ?_
  intro K hK
  have hN := h.2.2.1.1.1.1.1
  have hP := h.2.2.1.1.1.2.2.2.1.2
  have hS8 := h.2.2.1.1.1.2.2.2.2.1.2
  have hm := MC_of h.2.2.1
  have hT := TT_of (c := t) h.2.1 h.2.2.1 (fun _ _ => rfl)
  obtain ⟨f5, f6, -, -, -⟩ := hT.2.2.2.2.1 x hx
  obtain ⟨⟨-, ha⟩, ⟨-, hq⟩, -, -⟩ := hm.2.2.2.2.1 x hx
  have s7 : σ 36 0 7 = nI S := h.2.1.2.2.1
  iterate 3 refine hK _ _ _ _ _ ?_
  refine Or.inl (calD (c8_checkPerson_36_ok _ _ P (by omega) h.1 h.2.1.2.1 (nI x) (nI_isIn (by omega) hx)) ?_)
  rintro r σ' ⟨rfl, hσ⟩
  subst σ'
  show K 0 5 [some (aR 34), some (aI (nI x)), none, none] [] σ
  iterate 4 refine hK _ _ _ _ _ ?_
  have L9 : ∀ (f : Nat) (k : Nat) (y : Int32), k + f = S → y = nI (blN t k) → K 0 9 [some (aR 34), some (aI (nI x)), some (aI (y)), some (aI (nI k))] [] σ := by
    intro f
    induction f with
    | zero =>
      intro k y hk hy
      have ek : k = S := by omega
      rw [ek] at hy
      subst hy
      iterate 3 refine hK _ _ _ _ _ ?_
      show K _ _ _ _ _
      rw [show σ 34 0 3 = nI 36 from h.1]
      show K _ _ _ _ _
      rw [show (nI 36).toNatClampNeg = 36 from rfl]
      refine hK _ _ _ _ _ ?_
      show K _ _ _ _ _
      rw [show σ 36 0 7 = nI S from s7]
      refine hK _ _ _ _ _ ?_
      refine And.intro (fun _ => ?_) (fun h9 => absurd ((nI_leI (by omega) (by omega)).mpr (by omega)) h9)
      iterate 2 refine hK _ _ _ _ _ ?_
      show K _ _ _ _ _
      rw [show σ 34 0 3 = nI 36 from h.1]
      show K _ _ _ _ _
      rw [show (nI 36).toNatClampNeg = 36 from rfl]
      iterate 3 refine hK _ _ _ _ _ ?_
      show K _ _ _ _ _
      rw [show σ 34 0 3 = nI 36 from h.1]
      show K _ _ _ _ _
      rw [show (nI 36).toNatClampNeg = 36 from rfl]
      iterate 3 refine hK _ _ _ _ _ ?_
      refine And.intro (vp_in_nI (n := x) (by omega) (by decide)) ?_
      rw [nI_clamp (show x < 2 ^ 31 by omega)]
      rw [show σ 41 0 x = nI (pP t x) from f5]
      iterate 2 refine hK _ _ _ _ _ ?_
      show K _ _ _ _ _
      rw [show σ 34 0 3 = nI 36 from h.1]
      show K _ _ _ _ _
      rw [show (nI 36).toNatClampNeg = 36 from rfl]
      iterate 3 refine hK _ _ _ _ _ ?_
      refine And.intro (vp_in_nI (n := x) (by omega) (by decide)) ?_
      rw [nI_clamp (show x < 2 ^ 31 by omega)]
      rw [show σ 42 0 x = nI (pQ t x) from f6]
      iterate 4 refine hK _ _ _ _ _ ?_
      refine Or.inr (Or.inl (yD0 (c6_minutesRound_36 _ σ t N P S G h.2.1 h.2.2.1 (pP t x) (pQ t x) (blN t S) ha hq) ?_))
      rintro r μ ⟨rfl, hle, hf⟩
      show K 0 73 [some (aR 34), some (aI (nI x)), some (aI (nI (blN t S))), some (aI (nI k))] [aI (nI (avK (stN t) N (pP t x) (fun z => (blN t S).testBit z) N (pQ t x)))] μ
      have hav : avO t N S x = if avK (stN t) N (pP t x) (fun z => (blN t S).testBit z) N (pQ t x) < 1000000 then nI (avK (stN t) N (pP t x) (fun z => (blN t S).testBit z) N (pQ t x)) else -1 := rfl
      rw [hav] at hK
      generalize avK (stN t) N (pP t x) (fun z => (blN t S).testBit z) N (pQ t x) = rr at hle hK ⊢
      iterate 4 refine hK _ _ _ _ _ ?_
      refine And.intro (fun h8 => ?_) (fun h8 => ?_)
      · have g8 : ¬ rr < 1000000 := fun q => absurd ((nI_leI (a := 1000000) (by decide) (by omega)).mp h8) (by omega)
        iterate 2 refine hK _ _ _ _ _ ?_
        exact ⟨by rw [if_neg g8]; rfl, hf⟩
      · have g8 : rr < 1000000 := Decidable.byContradiction fun q => h8 ((nI_leI (a := 1000000) (by decide) (by omega)).mpr (by omega))
        iterate 3 refine hK _ _ _ _ _ ?_
        exact ⟨by rw [if_pos g8], hf⟩
    | succ f ih =>
      intro k y hk hy
      obtain ⟨g10, -, -, -⟩ := hT.2.2.2.2.2 k (by omega)
      have hX := (hm.2.2.2.2.2 k (by omega)).1.2
      subst hy
      iterate 3 refine hK _ _ _ _ _ ?_
      show K _ _ _ _ _
      rw [show σ 34 0 3 = nI 36 from h.1]
      show K _ _ _ _ _
      rw [show (nI 36).toNatClampNeg = 36 from rfl]
      refine hK _ _ _ _ _ ?_
      show K _ _ _ _ _
      rw [show σ 36 0 7 = nI S from s7]
      refine hK _ _ _ _ _ ?_
      refine And.intro (fun h9 => absurd ((nI_leI (by omega) (by omega)).mp h9) (by omega)) (fun _ => ?_)
      iterate 4 refine hK _ _ _ _ _ ?_
      show K _ _ _ _ _
      rw [show σ 34 0 3 = nI 36 from h.1]
      show K _ _ _ _ _
      rw [show (nI 36).toNatClampNeg = 36 from rfl]
      iterate 3 refine hK _ _ _ _ _ ?_
      refine And.intro (vp_in_nI (n := k) (by omega) (by decide)) ?_
      rw [nI_clamp (show k < 2 ^ 31 by omega)]
      rw [show σ 46 0 k = nI (sX t k) from g10]
      iterate 4 refine hK _ _ _ _ _ ?_
      show K _ _ _ _ _
      rw [show nI k + Int32.ofInt 1 = nI (k + 1) from nIs _]
      refine hK _ _ _ _ _ ?_
      exact ih (k + 1) _ (by omega) (by exact nI_orp _ _ (by omega))
  exact L9 S 0 _ (by omega) rfl
theorem c6_minutesRound_54 (d : Nat) (σ t : sMem) (N P S G : Nat) (hC : CT σ t 54 N P S G) (hM : MI t N P S G) (a b B : Nat) (ha : a < N) (hb9 : b < N) : yMet l D0 b0 ty ad av lay (d + 1) 0 mX6_minutesRound [aR 55, aI (nI a), aI (nI b), aI (nI B), aR 99] σ (fun r σ' => r = [aI (nI (avK (stN t) N a (fun z => B.testBit z) N b))] ∧ avK (stN t) N a (fun z => B.testBit z) N b ≤ 1000000 ∧ ∀ i, i ≠ 99 → σ' i = σ i) (fun _ _ => False) := by
  refine yMet_intro lay_nd kX6_minutesRound xX6_ok (yY6_ok _) (by decide +kernel) rfl ?_
  intro K hK
  have hN := hM.1.1.1.1
  have hst : ∀ x y, x < N → y < N → t 13 x y = nI (stN t x y) ∧ stN t x y ≤ 1000000 := fun x y hx hy => ⟨(st_at hM.2.1 hx hy).1, by have := (st_at hM.2.1 hx hy).2; omega⟩
  generalize hbl : (fun z => B.testBit z) = bl at hK
  iterate 3 refine hK _ _ _ _ _ ?_
  refine Or.inl (calD (cJ_fill99 _ _ _) ?_)
  rintro r μ1 ⟨rfl, h1⟩
  show K 0 7 [some (aR 55), some (aI (nI a)), some (aI (nI b)), some (aI (nI B)), some (aR 99), none, none, none] [] μ1
  have hf1 : ∀ i, i ≠ 99 → μ1 i = σ i := fun i q => by rw [h1]; unfold flR; rw [sRow_off q]
  have hv1 : ∀ z, z < 12 → μ1 99 0 z = nI 1000000 := fun z q => by rw [h1]; unfold flR; rw [sRow_at, if_pos q]; rfl
  clear h1
  iterate 4 refine hK _ _ _ _ _ ?_
  refine And.intro (vp_in_nI (n := a) (by omega) (by decide)) ?_
  rw [nI_clamp (show a < 2 ^ 31 by omega)]
  iterate 2 refine hK _ _ _ _ _ ?_
  have L15 : ∀ (f : Nat) (k : Nat) (e6 e7 : Option AV) (μ : sMem), k + f = N → (∀ i, i ≠ 99 → μ i = σ i) → A9 μ (avK (stN t) N a bl k) N → K 0 15 [some (aR 55), some (aI (nI a)), some (aI (nI b)), some (aI (nI B)), some (aR 99), some (aI (nI k)), e6, e7] [] μ := by
    intro f
    induction f with
    | zero =>
      intro k e6 e7 μ hk hf hA
      have pl_μ : μ 55 0 0 = nI N := by rw [hf 55 (by decide)]; exact hC.1
      obtain ⟨kb, kl⟩ := hA b hb9
      rw [show k = N by omega] at kb kl
      iterate 3 refine hK _ _ _ _ _ ?_
      show K _ _ _ _ _
      rw [show μ 55 0 0 = nI N from pl_μ]
      refine hK _ _ _ _ _ ?_
      refine And.intro (fun _ => ?_) (fun h9 => absurd ((nI_leI (by omega) (by omega)).mpr (by omega)) h9)
      iterate 3 refine hK _ _ _ _ _ ?_
      refine And.intro (vp_in_nI (n := b) (by omega) (by decide)) ?_
      rw [nI_clamp (show b < 2 ^ 31 by omega)]
      rw [show μ 99 0 b = nI (avK (stN t) N a bl N b) from kb]
      refine hK _ _ _ _ _ ?_
      exact ⟨rfl, kl, hf⟩
    | succ f ih =>
      intro k e6 e7 μ hk hf hA
      have pl_μ : μ 55 0 0 = nI N := by rw [hf 55 (by decide)]; exact hC.1
      iterate 3 refine hK _ _ _ _ _ ?_
      show K _ _ _ _ _
      rw [show μ 55 0 0 = nI N from pl_μ]
      refine hK _ _ _ _ _ ?_
      refine And.intro (fun h9 => absurd ((nI_leI (by omega) (by omega)).mp h9) (by omega)) (fun _ => ?_)
      iterate 2 refine hK _ _ _ _ _ ?_
      have L27 : ∀ (f2 : Nat) (x : Nat) (e7 : Option AV) (ν : sMem), x + f2 = N → (∀ i, i ≠ 99 → ν i = σ i) → A9 ν (forG (avA (stN t) N a bl) (avK (stN t) N a bl k) x) N → K 0 27 [some (aR 55), some (aI (nI a)), some (aI (nI b)), some (aI (nI B)), some (aR 99), some (aI (nI k)), some (aI (nI x)), e7] [] ν := by
        intro f2
        induction f2 with
        | zero =>
          intro x e7 ν hx hf2 hA2
          have pl_ν : ν 55 0 0 = nI N := by rw [hf2 55 (by decide)]; exact hC.1
          iterate 3 refine hK _ _ _ _ _ ?_
          show K _ _ _ _ _
          rw [show ν 55 0 0 = nI N from pl_ν]
          refine hK _ _ _ _ _ ?_
          refine And.intro (fun _ => ?_) (fun h9 => absurd ((nI_leI (by omega) (by omega)).mpr (by omega)) h9)
          refine hK _ _ _ _ _ ?_
          show K _ _ _ _ _
          rw [show nI k + Int32.ofInt 1 = nI (k + 1) from nIs _]
          refine hK _ _ _ _ _ ?_
          exact ih (k + 1) _ _ ν (by omega) hf2 (by rw [show x = N by omega] at hA2; exact hA2)
        | succ f2 ih2 =>
          intro x e7 ν hx hf2 hA2
          have pl_ν : ν 55 0 0 = nI N := by rw [hf2 55 (by decide)]; exact hC.1
          have hs9 : forG (avA (stN t) N a bl) (avK (stN t) N a bl k) (x + 1) = avA (stN t) N a bl x (forG (avA (stN t) N a bl) (avK (stN t) N a bl k) x) := rfl
          generalize forG (avA (stN t) N a bl) (avK (stN t) N a bl k) x = c at hA2 hs9
          have hxN : x < N := by omega
          obtain ⟨vx, lx⟩ := hA2 x hxN
          iterate 3 refine hK _ _ _ _ _ ?_
          show K _ _ _ _ _
          rw [show ν 55 0 0 = nI N from pl_ν]
          refine hK _ _ _ _ _ ?_
          refine And.intro (fun h9 => absurd ((nI_leI (by omega) (by omega)).mp h9) (by omega)) (fun _ => ?_)
          have L111 : ∀ (e7 : Option AV), (1000000 ≤ c x ∨ (x ≠ a ∧ bl x = true)) → K 0 111 [some (aR 55), some (aI (nI a)), some (aI (nI b)), some (aI (nI B)), some (aR 99), some (aI (nI k)), some (aI (nI x)), e7] [] ν := by
            intro e7 hs
            refine hK _ _ _ _ _ ?_
            show K _ _ _ _ _
            rw [show nI x + Int32.ofInt 1 = nI (x + 1) from nIs _]
            refine hK _ _ _ _ _ ?_
            exact ih2 (x + 1) _ ν (by omega) hf2 (by rw [hs9]; unfold avA; rw [if_pos hs]; exact hA2)
          have L64 : ∀ (e7 : Option AV), ¬ (1000000 ≤ c x ∨ (x ≠ a ∧ bl x = true)) → K 0 64 [some (aR 55), some (aI (nI a)), some (aI (nI b)), some (aI (nI B)), some (aR 99), some (aI (nI k)), some (aI (nI x)), e7] [] ν := by
            intro e7 hs
            have hs8 : avA (stN t) N a bl x c = forG (avC (stN t) x) c N := if_neg hs
            rw [hs8] at hs9
            iterate 2 refine hK _ _ _ _ _ ?_
            have L67 : ∀ (f3 : Nat) (y : Nat) (κ : sMem), y + f3 = N → (∀ i, i ≠ 99 → κ i = σ i) → A9 κ (forG (avC (stN t) x) c y) N → K 0 67 [some (aR 55), some (aI (nI a)), some (aI (nI b)), some (aI (nI B)), some (aR 99), some (aI (nI k)), some (aI (nI x)), some (aI (nI y))] [] κ := by
              intro f3
              induction f3 with
              | zero =>
                intro y κ hy hf3 hA3
                have pl_κ : κ 55 0 0 = nI N := by rw [hf3 55 (by decide)]; exact hC.1
                iterate 3 refine hK _ _ _ _ _ ?_
                show K _ _ _ _ _
                rw [show κ 55 0 0 = nI N from pl_κ]
                refine hK _ _ _ _ _ ?_
                refine And.intro (fun _ => ?_) (fun h9 => absurd ((nI_leI (by omega) (by omega)).mpr (by omega)) h9)
                refine hK _ _ _ _ _ ?_
                show K _ _ _ _ _
                rw [show nI x + Int32.ofInt 1 = nI (x + 1) from nIs _]
                refine hK _ _ _ _ _ ?_
                exact ih2 (x + 1) _ κ (by omega) hf3 (by rw [hs9]; rw [show y = N by omega] at hA3; exact hA3)
              | succ f3 ih3 =>
                intro y κ hy hf3 hA3
                have pl_κ : κ 55 0 0 = nI N := by rw [hf3 55 (by decide)]; exact hC.1
                have hs7 : forG (avC (stN t) x) c (y + 1) = avC (stN t) x y (forG (avC (stN t) x) c y) := rfl
                generalize forG (avC (stN t) x) c y = c3 at hA3 hs7
                have hyN : y < N := by omega
                obtain ⟨vy, ly⟩ := hA3 y hyN
                obtain ⟨vx3, lx3⟩ := hA3 x hxN
                obtain ⟨s13, sl⟩ := hst x y hxN hyN
                have k13 : κ 56 x y = nI (stN t x y) := by rw [hf3 56 (by decide), (hC.2.2.2.2.2.1 x y hxN hyN).1]; exact s13
                iterate 3 refine hK _ _ _ _ _ ?_
                show K _ _ _ _ _
                rw [show κ 55 0 0 = nI N from pl_κ]
                refine hK _ _ _ _ _ ?_
                refine And.intro (fun h9 => absurd ((nI_leI (by omega) (by omega)).mp h9) (by omega)) (fun _ => ?_)
                iterate 5 refine hK _ _ _ _ _ ?_
                refine And.intro (vp_in_nI (n := y) (by omega) (by decide)) ?_
                rw [nI_clamp (show y < 2 ^ 31 by omega)]
                rw [show κ 99 0 y = nI (c3 y) from vy]
                iterate 3 refine hK _ _ _ _ _ ?_
                refine And.intro (vp_in_nI (n := x) (by omega) (by decide)) ?_
                rw [nI_clamp (show x < 2 ^ 31 by omega)]
                rw [show κ 99 0 x = nI (c3 x) from vx3]
                iterate 4 refine hK _ _ _ _ _ ?_
                refine And.intro (vp_in_nI (n := x) (by omega) (by decide)) ?_
                rw [nI_clamp (show x < 2 ^ 31 by omega)]
                iterate 2 refine hK _ _ _ _ _ ?_
                refine And.intro (by first | omega | (rw [nI_clamp (by omega)]; omega)) (And.intro (vp_in_nI (n := y) (by omega) (by decide)) ?_)
                rw [nI_clamp (show y < 2 ^ 31 by omega)]
                rw [show κ 56 x y = nI (stN t x y) from k13]
                refine hK _ _ _ _ _ ?_
                show K _ _ _ _ _
                rw [nIa]
                refine hK _ _ _ _ _ ?_
                show K _ _ _ _ _
                rw [mnI_nI (by omega) (by omega)]
                refine hK _ _ _ _ _ ?_
                refine And.intro (vp_in_nI (n := y) (by omega) (by decide)) ?_
                rw [nI_clamp (show y < 2 ^ 31 by omega)]
                refine hK _ _ _ _ _ ?_
                show K _ _ _ _ _
                rw [show nI y + Int32.ofInt 1 = nI (y + 1) from nIs _]
                refine hK _ _ _ _ _ ?_
                refine ih3 (y + 1) _ (by omega) (fun i hi => by rw [sUp_off hi]; exact hf3 i hi) (fun z hz => ?_)
                rw [hs7]
                refine ⟨?_, avC_le (fun z hz => (hA3 z hz).2) hyN z hz⟩
                unfold avC
                by_cases e : z = y
                · subst e; rw [sUp_at, fu_at]
                · rw [sUp_k e, fu_ne e]; exact (hA3 z hz).1
            exact L67 N 0 ν (by omega) hf2 hA2
          iterate 3 refine hK _ _ _ _ _ ?_
          refine And.intro (vp_in_nI (n := x) (by omega) (by decide)) ?_
          rw [nI_clamp (show x < 2 ^ 31 by omega)]
          rw [show ν 99 0 x = nI (c x) from vx]
          iterate 2 refine hK _ _ _ _ _ ?_
          refine And.intro (fun h8 => L111 _ (Or.inl ((nI_leI (a := 1000000) (by decide) (by omega)).mp h8))) (fun h8 => ?_)
          have g8 : ¬ 1000000 ≤ c x := fun q => h8 ((nI_leI (a := 1000000) (by decide) (by omega)).mpr q)
          iterate 3 refine hK _ _ _ _ _ ?_
          refine And.intro (fun h7 => L64 _ (fun q => q.elim g8 (fun q => q.1 ((nI_eq (by omega) (by omega)).mp h7)))) (fun h7 => ?_)
          have g7 : x ≠ a := fun e => h7 (by rw [e])
          iterate 3 refine hK _ _ _ _ _ ?_
          refine calD (c8_hasBit _ _ _ _) ?_
          rintro r σ' ⟨rfl, hσ⟩
          subst σ'
          show K 0 58 [some (aR 55), some (aI (nI a)), some (aI (nI b)), some (aI (nI B)), some (aR 99), some (aI (nI k)), some (aI (nI x)), e7] [aI (bI (hb (nI B) (nI x)))] ν
          refine hK _ _ _ _ _ ?_
          refine And.intro (fun h6 => L64 _ (fun q => q.elim g8 (fun q => by have c1 := bI_f h6; have c2 := q.2; rw [← hbl] at c2; rw [hb_nI _ _ (by omega), show B.testBit x = true from c2] at c1; cases c1))) (fun h6 => ?_)
          have c1 := bI_t h6
          rw [hb_nI _ _ (by omega)] at c1
          refine hK _ _ _ _ _ ?_
          exact L111 _ (Or.inr ⟨g7, by rw [← hbl]; exact c1⟩)
      exact L27 N 0 _ μ (by omega) hf hA
  refine L15 N 0 _ _ _ (by omega) (fun i hi => by rw [sUp_off hi]; exact hf1 i hi) (fun z hz => ?_)
  show _ = nI (if z = a then 0 else 1000000) ∧ (if z = a then 0 else 1000000) ≤ 1000000
  by_cases e : z = a
  · rw [if_pos e, e, sUp_at]; exact ⟨rfl, by decide⟩
  · rw [if_neg e, sUp_k e]; exact ⟨hv1 z (by omega), Nat.le_refl _⟩
theorem c8_avoid_54_x0 (d : Nat) (σ t : sMem) (N P S G : Nat) (h : HR σ t 54 N P S G) (x : Int32) (h0 : ¬ (0 ≤ x ∧ x ≤ nI P - 1)) : yMet l D0 b0 ty ad av lay (d + 7) 1 mX8_avoid [aR 34, aI (x)] σ (fun _ _ => False) (fun e σ' => e = yNSE ∧ σ' = σ) := by
  refine yMet_intro lay_nd kX8_avoid xX8_ok (yY8_ok _) (by decide +kernel) rfl ?_
  intro K hK
  have hN := h.2.2.1.1.1.1.1
  have hP := h.2.2.1.1.1.2.2.2.1.2
  have hS8 := h.2.2.1.1.1.2.2.2.2.1.2
  iterate 3 refine hK _ _ _ _ _ ?_
  refine Or.inr (Or.inr ⟨0, 1, rfl, yDX (c8_checkPerson_54_x _ _ P (by omega) h.1 h.2.1.2.1 x h0) (fun _ _ h => h.elim) ?_⟩)
  exact fun e σ' h => h
theorem c8_avoid_54_ok (d : Nat) (σ t : sMem) (N P S G : Nat) (h : HR σ t 54 N P S G) (x : Nat) (hx : x < P) : yMet l D0 b0 ty ad av lay (d + 7) 0 mX8_avoid [aR 34, aI (nI x)] σ (fun r σ' => r = [aI (avO t N S x)] ∧ ∀ i, i ≠ 99 → σ' i = σ i) (fun _ _ => False) := by
  refine yMet_intro lay_nd kX8_avoid xX8_ok (yY8_ok _) (by decide +kernel) rfl ?_
  intro K hK
  have hN := h.2.2.1.1.1.1.1
  have hP := h.2.2.1.1.1.2.2.2.1.2
  have hS8 := h.2.2.1.1.1.2.2.2.2.1.2
  have hm := MC_of h.2.2.1
  have hT := TT_of (c := t) h.2.1 h.2.2.1 (fun _ _ => rfl)
  obtain ⟨f5, f6, -, -, -⟩ := hT.2.2.2.2.1 x hx
  obtain ⟨⟨-, ha⟩, ⟨-, hq⟩, -, -⟩ := hm.2.2.2.2.1 x hx
  have s7 : σ 54 0 7 = nI S := h.2.1.2.2.1
  iterate 3 refine hK _ _ _ _ _ ?_
  refine Or.inl (calD (c8_checkPerson_54_ok _ _ P (by omega) h.1 h.2.1.2.1 (nI x) (nI_isIn (by omega) hx)) ?_)
  rintro r σ' ⟨rfl, hσ⟩
  subst σ'
  show K 0 5 [some (aR 34), some (aI (nI x)), none, none] [] σ
  iterate 4 refine hK _ _ _ _ _ ?_
  have L9 : ∀ (f : Nat) (k : Nat) (y : Int32), k + f = S → y = nI (blN t k) → K 0 9 [some (aR 34), some (aI (nI x)), some (aI (y)), some (aI (nI k))] [] σ := by
    intro f
    induction f with
    | zero =>
      intro k y hk hy
      have ek : k = S := by omega
      rw [ek] at hy
      subst hy
      iterate 3 refine hK _ _ _ _ _ ?_
      show K _ _ _ _ _
      rw [show σ 34 0 3 = nI 54 from h.1]
      show K _ _ _ _ _
      rw [show (nI 54).toNatClampNeg = 54 from rfl]
      refine hK _ _ _ _ _ ?_
      show K _ _ _ _ _
      rw [show σ 54 0 7 = nI S from s7]
      refine hK _ _ _ _ _ ?_
      refine And.intro (fun _ => ?_) (fun h9 => absurd ((nI_leI (by omega) (by omega)).mpr (by omega)) h9)
      iterate 2 refine hK _ _ _ _ _ ?_
      show K _ _ _ _ _
      rw [show σ 34 0 3 = nI 54 from h.1]
      show K _ _ _ _ _
      rw [show (nI 54).toNatClampNeg = 54 from rfl]
      iterate 3 refine hK _ _ _ _ _ ?_
      show K _ _ _ _ _
      rw [show σ 34 0 3 = nI 54 from h.1]
      show K _ _ _ _ _
      rw [show (nI 54).toNatClampNeg = 54 from rfl]
      iterate 3 refine hK _ _ _ _ _ ?_
      refine And.intro (vp_in_nI (n := x) (by omega) (by decide)) ?_
      rw [nI_clamp (show x < 2 ^ 31 by omega)]
      rw [show σ 59 0 x = nI (pP t x) from f5]
      iterate 2 refine hK _ _ _ _ _ ?_
      show K _ _ _ _ _
      rw [show σ 34 0 3 = nI 54 from h.1]
      show K _ _ _ _ _
      rw [show (nI 54).toNatClampNeg = 54 from rfl]
      iterate 3 refine hK _ _ _ _ _ ?_
      refine And.intro (vp_in_nI (n := x) (by omega) (by decide)) ?_
      rw [nI_clamp (show x < 2 ^ 31 by omega)]
      rw [show σ 60 0 x = nI (pQ t x) from f6]
      iterate 4 refine hK _ _ _ _ _ ?_
      refine Or.inr (Or.inl (yD0 (c6_minutesRound_54 _ σ t N P S G h.2.1 h.2.2.1 (pP t x) (pQ t x) (blN t S) ha hq) ?_))
      rintro r μ ⟨rfl, hle, hf⟩
      show K 0 73 [some (aR 34), some (aI (nI x)), some (aI (nI (blN t S))), some (aI (nI k))] [aI (nI (avK (stN t) N (pP t x) (fun z => (blN t S).testBit z) N (pQ t x)))] μ
      have hav : avO t N S x = if avK (stN t) N (pP t x) (fun z => (blN t S).testBit z) N (pQ t x) < 1000000 then nI (avK (stN t) N (pP t x) (fun z => (blN t S).testBit z) N (pQ t x)) else -1 := rfl
      rw [hav] at hK
      generalize avK (stN t) N (pP t x) (fun z => (blN t S).testBit z) N (pQ t x) = rr at hle hK ⊢
      iterate 4 refine hK _ _ _ _ _ ?_
      refine And.intro (fun h8 => ?_) (fun h8 => ?_)
      · have g8 : ¬ rr < 1000000 := fun q => absurd ((nI_leI (a := 1000000) (by decide) (by omega)).mp h8) (by omega)
        iterate 2 refine hK _ _ _ _ _ ?_
        exact ⟨by rw [if_neg g8]; rfl, hf⟩
      · have g8 : rr < 1000000 := Decidable.byContradiction fun q => h8 ((nI_leI (a := 1000000) (by decide) (by omega)).mpr (by omega))
        iterate 3 refine hK _ _ _ _ _ ?_
        exact ⟨by rw [if_pos g8], hf⟩
    | succ f ih =>
      intro k y hk hy
      obtain ⟨g10, -, -, -⟩ := hT.2.2.2.2.2 k (by omega)
      have hX := (hm.2.2.2.2.2 k (by omega)).1.2
      subst hy
      iterate 3 refine hK _ _ _ _ _ ?_
      show K _ _ _ _ _
      rw [show σ 34 0 3 = nI 54 from h.1]
      show K _ _ _ _ _
      rw [show (nI 54).toNatClampNeg = 54 from rfl]
      refine hK _ _ _ _ _ ?_
      show K _ _ _ _ _
      rw [show σ 54 0 7 = nI S from s7]
      refine hK _ _ _ _ _ ?_
      refine And.intro (fun h9 => absurd ((nI_leI (by omega) (by omega)).mp h9) (by omega)) (fun _ => ?_)
      iterate 4 refine hK _ _ _ _ _ ?_
      show K _ _ _ _ _
      rw [show σ 34 0 3 = nI 54 from h.1]
      show K _ _ _ _ _
      rw [show (nI 54).toNatClampNeg = 54 from rfl]
      iterate 3 refine hK _ _ _ _ _ ?_
      refine And.intro (vp_in_nI (n := k) (by omega) (by decide)) ?_
      rw [nI_clamp (show k < 2 ^ 31 by omega)]
      rw [show σ 64 0 k = nI (sX t k) from g10]
      iterate 4 refine hK _ _ _ _ _ ?_
      show K _ _ _ _ _
      rw [show nI k + Int32.ofInt 1 = nI (k + 1) from nIs _]
      refine hK _ _ _ _ _ ?_
      exact ih (k + 1) _ (by omega) (by exact nI_orp _ _ (by omega))
  exact L9 S 0 _ (by omega) rfl
end
