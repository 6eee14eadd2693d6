/-! THE REFERENCE: learn, soon -/
theorem bit_val (n z : Nat) (hz : z < 32) : (nI n >>> (nI z &&& 31)) &&& Int32.ofInt 1 = nI (if n.testBit z = true then 1 else 0) := by
  have e := bt_nI n z hz
  unfold bt at e
  show (nI n >>> (nI z &&& 31)) &&& 1 = _
  rcases bit01 (nI n >>> (nI z &&& 31)) with h | h
  · rw [h] at e ⊢
    rw [← e]; rfl
  · rw [h] at e ⊢
    rw [← e]; rfl
theorem bit_one {n z : Nat} (hz : z < 32) : (nI n >>> (nI z &&& 31)) &&& Int32.ofInt 1 = Int32.ofInt 1 ↔ n.testBit z = true := by
  rw [bit_val n z hz]
  cases n.testBit z with
  | true => exact ⟨fun _ => rfl, fun _ => rfl⟩
  | false => exact ⟨fun h => absurd h (by decide), fun h => by cases h⟩
theorem bit_zero {n z : Nat} (hz : z < 32) : (nI n >>> (nI z &&& 31)) &&& Int32.ofInt 1 = 0 ↔ n.testBit z = false := by
  rw [bit_val n z hz]
  cases n.testBit z with
  | true => exact ⟨fun h => absurd h (by decide), fun h => by cases h⟩
  | false => exact ⟨fun _ => rfl, fun _ => rfl⟩
theorem lnW_s {M : Nat → Nat} {z p led f o : Nat} : lnW M z p led (f + 1) o = if o ≠ p ∧ led.testBit o = false ∧ (M o).testBit z = true then some o else lnW M z p led f (o + 1) := rfl
def LR (σ : sMem) (N P : Nat) (K : Nat → Nat) : Prop := σ 3 0 0 = nI N ∧ σ 3 0 1 = nI P ∧ ∀ p, p < P → σ 32 0 p = nI (K p)
section
variable {l : Launch} {D : va_G} {b0 : Nat} {ty : Nat → ClassId}
theorem c9_all (d : Nat) (σ : sMem) (N : Nat) (hN : N ≤ 12) (h0 : σ 3 0 0 = nI N) : sMet l D b0 ty lay d mX9_all [aR 0] σ (fun r σ' => r = [aI (nI (2 ^ N - 1))] ∧ σ' = σ) := by
  refine sMet_intro lay_nd kX9_all xX9_ok (by decide +kernel) rfl ?_
  intro K hK
  iterate 5 refine hK _ _ _ _ ?_
  refine And.intro (vp_in_nI (n := 0) (by decide) (by decide)) ?_
  rw [show (Int32.ofInt 0).toNatClampNeg = 0 from rfl]
  rw [show σ 3 0 0 = nI N from h0]
  iterate 4 refine hK _ _ _ _ ?_
  exact ⟨by rw [← all_nI hN]; rfl, rfl⟩
theorem c9_layKnows (d : Nat) (σ : sMem) (P : Nat) (hP : P ≤ 10) (h1 : σ 3 0 1 = nI P) : sMet l D b0 ty lay d mX9_layKnows [aR 0] σ (fun r σ' => r = [] ∧ (∀ i, i ≠ 32 → σ' i = σ i) ∧ ∀ p, p < P → σ' 32 0 p = σ 6 p 4) := by
  refine sMet_intro lay_nd kX9_layKnows xX9_ok (by decide +kernel) rfl ?_
  intro K hK
  iterate 2 refine hK _ _ _ _ ?_
  have L2 : ∀ (f : Nat) (p : Nat) (μ : sMem), p + f = P → (∀ i, i ≠ 32 → μ i = σ i) → (∀ q, q < p → μ 32 0 q = σ 6 q 4) → K 2 [some (aR 0), some (aI (nI p))] [] μ := by
    intro f
    induction f with
    | zero =>
      intro p μ hp hf hd
      have e1 : μ 3 0 1 = nI P := by rw [hf 3 (by decide)]; exact h1
      iterate 5 refine hK _ _ _ _ ?_
      refine And.intro (vp_in_nI (n := 1) (by decide) (by decide)) ?_
      rw [show (Int32.ofInt 1).toNatClampNeg = 1 from rfl]
      rw [show μ 3 0 1 = nI P from e1]
      refine hK _ _ _ _ ?_
      refine And.intro (fun _ => ?_) (fun h9 => absurd ((nI_leI (by omega) (by omega)).mpr (by omega)) h9)
      refine hK _ _ _ _ ?_
      exact ⟨rfl, hf, fun q hq => hd q (by omega)⟩
    | succ f ih =>
      intro p μ hp hf hd
      have e1 : μ 3 0 1 = nI P := by rw [hf 3 (by decide)]; exact h1
      iterate 5 refine hK _ _ _ _ ?_
      refine And.intro (vp_in_nI (n := 1) (by decide) (by decide)) ?_
      rw [show (Int32.ofInt 1).toNatClampNeg = 1 from rfl]
      rw [show μ 3 0 1 = nI P from e1]
      refine hK _ _ _ _ ?_
      refine And.intro (fun h9 => absurd ((nI_leI (by omega) (by omega)).mp h9) (by omega)) (fun _ => ?_)
      iterate 7 refine hK _ _ _ _ ?_
      refine And.intro (vp_in_nI (n := p) (by omega) (by decide)) ?_
      rw [nI_clamp (show p < 2 ^ 31 by omega)]
      iterate 2 refine hK _ _ _ _ ?_
      refine And.intro (by first | omega | (rw [nI_clamp (by omega)]; omega)) (And.intro (vp_in_nI (n := 4) (by decide) (by decide)) ?_)
      rw [show (Int32.ofInt 4).toNatClampNeg = 4 from rfl]
      refine hK _ _ _ _ ?_
      refine And.intro (vp_in_nI (n := p) (by omega) (by decide)) ?_
      rw [nI_clamp (show p < 2 ^ 31 by omega)]
      refine hK _ _ _ _ ?_
      show K _ _ _ _
      rw [show nI p + Int32.ofInt 1 = nI (p + 1) from nIs _]
      refine hK _ _ _ _ ?_
      refine ih (p + 1) _ (by omega) (fun i hi => by rw [sUp_off hi]; exact hf i hi) (fun q hq => ?_)
      by_cases e : q = p
      · subst e; rw [sUp_at, hf 6 (by decide)]
      · rw [sUp_k e]; exact hd q (by omega)
  exact L2 P 0 σ (by omega) (fun _ _ => rfl) (fun q hq => absurd hq (Nat.not_lt_zero _))
theorem c9_learns (d : Nat) (σ : sMem) (N P : Nat) (M : Nat → Nat) (hN : N ≤ 12) (hP : P ≤ 10) (hM : ∀ q, q < P → M q < 2 ^ N) (hK0 : LR σ N P M) : sMet l D b0 ty lay (d + 1) mX9_learns [aR 0] σ (fun r σ' => r = [aI (bI (lnD N P M).2.2)] ∧ (∀ i, i ≠ 32 → i ≠ 33 → σ' i = σ i) ∧ LR σ' N P (lnD N P M).1) := by
  refine sMet_intro lay_nd kX9_learns xX9_ok (by decide +kernel) rfl ?_
  intro K hK
  have h12 : 2 ^ N ≤ 2 ^ 12 := Nat.pow_le_pow_right (by decide) hN
  iterate 6 refine hK _ _ _ _ ?_
  have L6 : ∀ (f0 : Nat) (p : Nat) (μ : sMem), p + f0 = P → (∀ i, i ≠ 33 → μ i = σ i) → (∀ q, q < p → μ 33 0 q = nI (M q)) → K 6 [some (aR 0), some (aI (Int32.ofInt 0)), some (aI (Int32.ofInt 0)), some (aI (nI p)), none, none, none] [] μ := by
    intro f0
    induction f0 with
    | zero =>
      intro p μ hp hf hd
      have e1 : μ 3 0 1 = nI P := by rw [hf 3 (by decide)]; exact hK0.2.1
      iterate 5 refine hK _ _ _ _ ?_
      refine And.intro (vp_in_nI (n := 1) (by decide) (by decide)) ?_
      rw [show (Int32.ofInt 1).toNatClampNeg = 1 from rfl]
      rw [show μ 3 0 1 = nI P from e1]
      refine hK _ _ _ _ ?_
      refine And.intro (fun _ => ?_) (fun h9 => absurd ((nI_leI (by omega) (by omega)).mpr (by omega)) h9)
      iterate 2 refine hK _ _ _ _ ?_
      have L36 : ∀ (f : Nat) (p : Nat) (e4 e5 e6 : Option AV) (st : (Nat → Nat) × Nat × Bool) (ν : sMem), p + f = P → st = forG (lnS M N P) (M, 0, false) p → (∀ i, i ≠ 32 → ν i = μ i) → (∀ q, q < P → ν 33 0 q = nI (M q)) → (∀ q, q < P → ν 32 0 q = nI (st.1 q)) → K 36 [some (aR 0), some (aI (bI st.2.2)), some (aI (nI st.2.1)), some (aI (nI p)), e4, e5, e6] [] ν := by
        intro f
        induction f with
        | zero =>
          intro p e4 e5 e6 st ν hp hst hf2 hm hd2
          have e0 : ν 3 0 0 = nI N := by rw [hf2 3 (by decide), hf 3 (by decide)]; exact hK0.1
          have e1 : ν 3 0 1 = nI P := by rw [hf2 3 (by decide), hf 3 (by decide)]; exact hK0.2.1
          iterate 5 refine hK _ _ _ _ ?_
          refine And.intro (vp_in_nI (n := 1) (by decide) (by decide)) ?_
          rw [show (Int32.ofInt 1).toNatClampNeg = 1 from rfl]
          rw [show ν 3 0 1 = nI P from e1]
          refine hK _ _ _ _ ?_
          refine And.intro (fun _ => ?_) (fun h9 => absurd ((nI_leI (by omega) (by omega)).mpr (by omega)) h9)
          iterate 2 refine hK _ _ _ _ ?_
          have ep : p = P := by omega
          rw [ep] at hst
          refine ⟨bI_01 _, ?_, fun i h1 h2 => by rw [hf2 i h1]; exact hf i h2, e0, e1, fun q hq => ?_⟩
          · unfold lnD; rw [← hst]
          · unfold lnD; rw [← hst]; exact hd2 q hq
        | succ f ih =>
          intro p e4 e5 e6 st ν hp hst hf2 hm hd2
          have e0 : ν 3 0 0 = nI N := by rw [hf2 3 (by decide), hf 3 (by decide)]; exact hK0.1
          have e1 : ν 3 0 1 = nI P := by rw [hf2 3 (by decide), hf 3 (by decide)]; exact hK0.2.1
          have hpP : p < P := by omega
          have hinv := lnD_inv (M := M) hN hM p (by omega)
          rw [← hst] at hinv
          have hs1 : forG (lnS M N P) (M, 0, false) (p + 1) = lnS M N P p st := by rw [hst]; rfl
          have hMp := hM p hpP
          have mp := hm p hpP
          have hun := un_at hN hMp
          have h97 := hd2 p hpP
          iterate 5 refine hK _ _ _ _ ?_
          refine And.intro (vp_in_nI (n := 1) (by decide) (by decide)) ?_
          rw [show (Int32.ofInt 1).toNatClampNeg = 1 from rfl]
          rw [show ν 3 0 1 = nI P from e1]
          refine hK _ _ _ _ ?_
          refine And.intro (fun h9 => absurd ((nI_leI (by omega) (by omega)).mp h9) (by omega)) (fun _ => ?_)
          iterate 4 refine hK _ _ _ _ ?_
          refine And.intro (vp_in_nI (n := p) (by omega) (by decide)) ?_
          rw [nI_clamp (show p < 2 ^ 31 by omega)]
          rw [show ν 33 0 p = nI (M p) from mp]
          iterate 2 refine hK _ _ _ _ ?_
          refine calD (c9_all _ _ N hN e0) ?_
          rintro r σ' ⟨rfl, hσ⟩
          subst σ'
          show K 56 [some (aR 0), some (aI (bI st.2.2)), some (aI (nI st.2.1)), some (aI (nI p)), e4, e5, e6] [aI (nI (2 ^ N - 1)), aI (nI (M p))] ν
          refine hK _ _ _ _ ?_
          refine And.intro (fun h8 => ?_) (fun h8 => ?_)
          · have hne : M p ≠ 2 ^ N - 1 := fun e => h8 (by rw [e])
            obtain ⟨z1, z2, z3⟩ := hun.2.1 hne
            have hs2 : lnS M N P p st = lnU st.1 (lnz (M p)) p st.2.1 st.2.2 (lnW M (lnz (M p)) p st.2.1 P 0) := if_neg hne
            have hzd : lnz (M p) = lnzF (M p) 13 0 := rfl
            generalize lnz (M p) = zz at z1 z2 z3 hs2 hzd
            have L89 : ∀ (e6 : Option AV), K 89 [some (aR 0), some (aI (bI st.2.2)), some (aI (nI st.2.1)), some (aI (nI p)), some (aI (nI zz)), some (aI (-1)), e6] [] ν := by
              intro e6
              iterate 4 refine hK _ _ _ _ ?_
              refine And.intro (vp_in_nI (n := 1) (by decide) (by decide)) ?_
              rw [show (Int32.ofInt 1).toNatClampNeg = 1 from rfl]
              rw [show ν 3 0 1 = nI P from e1]
              iterate 3 refine hK _ _ _ _ ?_
              have L99 : ∀ (o : Nat) (y : Int32) (x : Option Nat), o ≤ P → y = nI o - Int32.ofInt 1 → x = lnW M zz p st.2.1 (P - o) o → K 99 [some (aR 0), some (aI (bI st.2.2)), some (aI (nI st.2.1)), some (aI (nI p)), some (aI (nI zz)), some (aI (oI x)), some (aI (y))] [] ν := by
                intro o
                induction o with
                | zero =>
                  intro y x hoP9 hy hx9
                  iterate 2 refine hK _ _ _ _ ?_
                  refine And.intro (fun _ => ?_) (fun h7 => absurd (by rw [hy]; decide) h7)
                  have hx : x = lnW M zz p st.2.1 P 0 := hx9
                  rcases x with _ | o
                  · rw [← hx] at hs2
                    rw [hs2] at hs1
                    have hs1 : forG (lnS M N P) (M, 0, false) (p + 1) = st := hs1
                    iterate 3 refine hK _ _ _ _ ?_
                    refine And.intro (fun h7 => absurd rfl h7) (fun _ => ?_)
                    iterate 2 refine hK _ _ _ _ ?_
                    show K _ _ _ _
                    rw [show nI p + Int32.ofInt 1 = nI (p + 1) from nIs _]
                    refine hK _ _ _ _ ?_
                    exact ih (p + 1) _ _ _ st ν (by omega) hs1.symm hf2 hm hd2
                  · have hoP := (lnW_lt _ _ hx.symm).2
                    rw [← hx] at hs2
                    rw [hs2] at hs1
                    have hs1 : forG (lnS M N P) (M, 0, false) (p + 1) = (fu st.1 p (st.1 p ||| 2 ^ zz), st.2.1 ||| 2 ^ o, true) := hs1
                    rw [oI_some]
                    iterate 3 refine hK _ _ _ _ ?_
                    refine And.intro (fun _ => ?_) (fun h7 => absurd h7 (nI_ne (by omega)))
                    iterate 5 refine hK _ _ _ _ ?_
                    show K _ _ _ _
                    rw [show nI st.2.1 ||| (Int32.ofInt 1 <<< (nI o &&& 31)) = nI (st.2.1 ||| 2 ^ o) from nI_orp _ _ (by omega)]
                    iterate 6 refine hK _ _ _ _ ?_
                    refine And.intro (vp_in_nI (n := p) (by omega) (by decide)) ?_
                    rw [nI_clamp (show p < 2 ^ 31 by omega)]
                    rw [show ν 32 0 p = nI (st.1 p) from h97]
                    iterate 4 refine hK _ _ _ _ ?_
                    show K _ _ _ _
                    rw [show nI (st.1 p) ||| (Int32.ofInt 1 <<< (nI zz &&& 31)) = nI ((st.1 p) ||| 2 ^ zz) from nI_orp _ _ (by omega)]
                    refine hK _ _ _ _ ?_
                    refine And.intro (vp_in_nI (n := p) (by omega) (by decide)) ?_
                    rw [nI_clamp (show p < 2 ^ 31 by omega)]
                    iterate 3 refine hK _ _ _ _ ?_
                    show K _ _ _ _
                    rw [show nI p + Int32.ofInt 1 = nI (p + 1) from nIs _]
                    refine hK _ _ _ _ ?_
                    refine ih (p + 1) _ _ _ (fu st.1 p (st.1 p ||| 2 ^ zz), st.2.1 ||| 2 ^ o, true) _ (by omega) hs1.symm (fun i hi => by rw [sUp_off hi]; exact hf2 i hi) (fun q hq => by rw [sUp_off (by decide)]; exact hm q hq) (fun q hq => ?_)
                    show _ = nI (fu st.1 p (st.1 p ||| 2 ^ zz) q)
                    by_cases e : q = p
                    · subst e; rw [sUp_at, fu_at]
                    · rw [sUp_k e, fu_ne e]; exact hd2 q hq
                | succ o ih3 =>
                  intro y x hoP9 hy hx9
                  have hy2 : y = nI o := hy.trans (nIm (b := 1) (by omega))
                  subst hy2
                  have hoP : o < P := by omega
                  have mo := hm o hoP
                  have hst9 : lnW M zz p st.2.1 (P - o) o = if o ≠ p ∧ st.2.1.testBit o = false ∧ (M o).testBit zz = true then some o else x := by
                    rw [show P - o = (P - (o + 1)) + 1 by omega, lnW_s, hx9]
                  iterate 2 refine hK _ _ _ _ ?_
                  refine And.intro (fun h7 => absurd h7 (nI_pos (by omega))) (fun _ => ?_)
                  iterate 3 refine hK _ _ _ _ ?_
                  refine And.intro (fun h6 => ?_) (fun h6 => ?_)
                  · have c1 : o = p := (nI_eq (by omega) (by omega)).mp h6
                    iterate 2 refine hK _ _ _ _ ?_
                    exact ih3 _ x (by omega) (x1 _) (by rw [hst9, if_neg (fun q => q.1 c1)])
                  · have c1 : o ≠ p := fun e => h6 (by rw [e])
                    iterate 6 refine hK _ _ _ _ ?_
                    refine And.intro (fun h5 => ?_) (fun h5 => ?_)
                    · have c2 : ¬ st.2.1.testBit o = false := fun q => h5 ((bit_zero (by omega)).mpr q)
                      iterate 2 refine hK _ _ _ _ ?_
                      exact ih3 _ x (by omega) (x1 _) (by rw [hst9, if_neg (fun q => c2 q.2.1)])
                    · have c2 := (bit_zero (by omega)).mp h5
                      iterate 4 refine hK _ _ _ _ ?_
                      refine And.intro (vp_in_nI (n := o) (by omega) (by decide)) ?_
                      rw [nI_clamp (show o < 2 ^ 31 by omega)]
                      rw [show ν 33 0 o = nI (M o) from mo]
                      iterate 6 refine hK _ _ _ _ ?_
                      refine And.intro (fun h4 => ?_) (fun h4 => ?_)
                      · have c3 : ¬ (M o).testBit zz = true := fun q => h4 ((bit_one (by omega)).mpr q)
                        iterate 2 refine hK _ _ _ _ ?_
                        exact ih3 _ x (by omega) (x1 _) (by rw [hst9, if_neg (fun q => c3 q.2.2)])
                      · have c3 := (bit_one (by omega)).mp h4
                        iterate 4 refine hK _ _ _ _ ?_
                        exact ih3 _ (some o) (by omega) (x1 _) (by rw [hst9, if_pos ⟨c1, c2, c3⟩])
              exact L99 P _ none (Nat.le_refl _) rfl (by rw [Nat.sub_self]; rfl)
            iterate 4 refine hK _ _ _ _ ?_
            have L68 : ∀ (f2 : Nat) (z : Nat), z + f2 = 13 → lnzF (M p) f2 z = zz → K 68 [some (aR 0), some (aI (bI st.2.2)), some (aI (nI st.2.1)), some (aI (nI p)), some (aI (nI z)), some (aI (-1)), e6] [] ν := by
              intro f2
              induction f2 with
              | zero =>
                intro z hz0 hz9
                have hz9 : z = zz := hz9
                exfalso
                omega
              | succ f2 ih2 =>
                intro z hz0 hz9
                iterate 4 refine hK _ _ _ _ ?_
                refine And.intro (vp_in_nI (n := p) (by omega) (by decide)) ?_
                rw [nI_clamp (show p < 2 ^ 31 by omega)]
                rw [show ν 33 0 p = nI (M p) from mp]
                iterate 6 refine hK _ _ _ _ ?_
                refine And.intro (fun h7 => ?_) (fun h7 => ?_)
                · have c1 : ¬ (M p).testBit z = true := fun q => h7 ((bit_one (by omega)).mpr q)
                  rw [lnzF_no c1] at hz9
                  subst hz9
                  exact L89 _
                · have c1 := (bit_one (by omega)).mp h7
                  rw [lnzF_at c1] at hz9
                  refine hK _ _ _ _ ?_
                  show K _ _ _ _
                  rw [show nI z + Int32.ofInt 1 = nI (z + 1) from nIs _]
                  refine hK _ _ _ _ ?_
                  exact ih2 (z + 1) (by omega) hz9
            exact L68 13 0 (by omega) hzd.symm
          · have he := (nI_eq (by omega) (by omega)).mp h8
            have hs2 : lnS M N P p st = st := if_pos he
            rw [hs2] at hs1
            iterate 2 refine hK _ _ _ _ ?_
            show K _ _ _ _
            rw [show nI p + Int32.ofInt 1 = nI (p + 1) from nIs _]
            refine hK _ _ _ _ ?_
            exact ih (p + 1) _ _ _ st ν (by omega) hs1.symm hf2 hm hd2
      exact L36 P 0 _ _ _ (M, 0, false) μ (by omega) rfl (fun _ _ => rfl) (fun q hq => hd q (by omega)) (fun q hq => by rw [hf 32 (by decide)]; exact hK0.2.2 q hq)
    | succ f0 ih =>
      intro p μ hp hf hd
      have e1 : μ 3 0 1 = nI P := by rw [hf 3 (by decide)]; exact hK0.2.1
      have k32 : μ 32 0 p = nI (M p) := by rw [hf 32 (by decide)]; exact hK0.2.2 p (by omega)
      iterate 5 refine hK _ _ _ _ ?_
      refine And.intro (vp_in_nI (n := 1) (by decide) (by decide)) ?_
      rw [show (Int32.ofInt 1).toNatClampNeg = 1 from rfl]
      rw [show μ 3 0 1 = nI P from e1]
      refine hK _ _ _ _ ?_
      refine And.intro (fun h9 => absurd ((nI_leI (by omega) (by omega)).mp h9) (by omega)) (fun _ => ?_)
      iterate 7 refine hK _ _ _ _ ?_
      refine And.intro (vp_in_nI (n := p) (by omega) (by decide)) ?_
      rw [nI_clamp (show p < 2 ^ 31 by omega)]
      rw [show μ 32 0 p = nI (M p) from k32]
      refine hK _ _ _ _ ?_
      refine And.intro (vp_in_nI (n := p) (by omega) (by decide)) ?_
      rw [nI_clamp (show p < 2 ^ 31 by omega)]
      refine hK _ _ _ _ ?_
      show K _ _ _ _
      rw [show nI p + Int32.ofInt 1 = nI (p + 1) from nIs _]
      refine hK _ _ _ _ ?_
      refine ih (p + 1) _ (by omega) (fun i hi => by rw [sUp_off hi]; exact hf i hi) (fun q hq => ?_)
      by_cases e : q = p
      · subst e; rw [sUp_at]
      · rw [sUp_k e]; exact hd q (by omega)
  exact L6 P 0 σ (by omega) (fun _ _ => rfl) (fun q hq => absurd hq (Nat.not_lt_zero _))
theorem c9_isAllKnown (d : Nat) (σ : sMem) (N P : Nat) (Q : Nat → Nat) (hN : N ≤ 12) (hP : P ≤ 10) (hQ : ∀ q, q < P → Q q < 2 ^ N) (hK0 : LR σ N P Q) : sMet l D b0 ty lay (d + 1) mX9_isAllKnown [aR 0] σ (fun r σ' => r = [aI (bI (akB Q N P 0))] ∧ σ' = σ) := by
  refine sMet_intro lay_nd kX9_isAllKnown xX9_ok (by decide +kernel) rfl ?_
  intro K hK
  have h12 : 2 ^ N ≤ 2 ^ 12 := Nat.pow_le_pow_right (by decide) hN
  generalize hZ0 : bI (akB Q N P 0) = Z at hK
  iterate 2 refine hK _ _ _ _ ?_
  have L2 : ∀ (f : Nat) (p : Nat), p + f = P → bI (akB Q N f p) = Z → K 2 [some (aR 0), some (aI (nI p))] [] σ := by
    intro f
    induction f with
    | zero =>
      intro p hp hz9
      iterate 5 refine hK _ _ _ _ ?_
      refine And.intro (vp_in_nI (n := 1) (by decide) (by decide)) ?_
      rw [show (Int32.ofInt 1).toNatClampNeg = 1 from rfl]
      rw [show σ 3 0 1 = nI P from hK0.2.1]
      refine hK _ _ _ _ ?_
      refine And.intro (fun _ => ?_) (fun h9 => absurd ((nI_leI (by omega) (by omega)).mpr (by omega)) h9)
      iterate 2 refine hK _ _ _ _ ?_
      exact ⟨Or.inr rfl, by rw [← hz9]; rfl, rfl⟩
    | succ f ih =>
      intro p hp hz9
      have hst : akB Q N (f + 1) p = if Q p = 2 ^ N - 1 then akB Q N f (p + 1) else false := rfl
      rw [hst] at hz9
      have hq := hQ p (by omega)
      iterate 5 refine hK _ _ _ _ ?_
      refine And.intro (vp_in_nI (n := 1) (by decide) (by decide)) ?_
      rw [show (Int32.ofInt 1).toNatClampNeg = 1 from rfl]
      rw [show σ 3 0 1 = nI P from hK0.2.1]
      refine hK _ _ _ _ ?_
      refine And.intro (fun h9 => absurd ((nI_leI (by omega) (by omega)).mp h9) (by omega)) (fun _ => ?_)
      iterate 4 refine hK _ _ _ _ ?_
      refine And.intro (vp_in_nI (n := p) (by omega) (by decide)) ?_
      rw [nI_clamp (show p < 2 ^ 31 by omega)]
      rw [show σ 32 0 p = nI (Q p) from hK0.2.2 p (by omega)]
      iterate 2 refine hK _ _ _ _ ?_
      refine calD (c9_all _ _ N hN hK0.1) ?_
      rintro r σ' ⟨rfl, hσ⟩
      subst σ'
      show K 22 [some (aR 0), some (aI (nI p))] [aI (nI (2 ^ N - 1)), aI (nI (Q p))] σ
      refine hK _ _ _ _ ?_
      refine And.intro (fun h8 => ?_) (fun h8 => ?_)
      · rw [if_pos ((nI_eq (by omega) (by omega)).mp h8)] at hz9
        refine hK _ _ _ _ ?_
        show K _ _ _ _
        rw [show nI p + Int32.ofInt 1 = nI (p + 1) from nIs _]
        refine hK _ _ _ _ ?_
        exact ih (p + 1) (by omega) hz9
      · rw [if_neg (fun e => h8 (by rw [e]))] at hz9
        iterate 2 refine hK _ _ _ _ ?_
        exact ⟨Or.inl rfl, by rw [← hz9]; rfl, rfl⟩
  exact L2 P 0 (by omega) hZ0
theorem c9_learn (d : Nat) (σ : sMem) (N P S G : Nat) (hJ : MJ σ N P S G) (x : Int32) (hM : MI σ N P S G) : sMet l D b0 ty lay (d + 4) mX9_learn [aR 0, aI (x)] σ (fun r σ' => ((0 ≤ x ∧ x ≤ 99) → r = [aI (nI (smK (lnI N P (kwN σ) x.toNatClampNeg) P))] ∧ KP G (sUp σ 0 0 0 0) σ') ∧ (¬ (0 ≤ x ∧ x ≤ 99) → r = [aI 0] ∧ σ' = sUp σ 0 0 0 1)) := by
  refine sMet_intro lay_nd kX9_learn xX9_ok (by decide +kernel) rfl ?_
  intro K hK
  have hN := hJ.1.1.1
  have hN2 := hJ.1.2.1
  have hP := hJ.1.2.2.2.1.2
  have hS := hJ.1.2.2.2.2.1.2
  have hG4 := hJ.2.2.2.2.2
  have hkw : ∀ q, q < P → kwN σ q < 2 ^ N := fun q hq => (kw_at hM hq).2
  iterate 3 refine hK _ _ _ _ ?_
  show K _ _ _ (sUp σ 0 0 0 0)
  have hJz := hJ.z0 0 0
  have z0 : sUp σ 0 0 0 0 0 0 0 = 0 := sUp_at _ _ _ _ _
  generalize hz : sUp σ 0 0 0 0 = z at hJz z0 ⊢
  iterate 5 refine hK _ _ _ _ ?_
  refine calD (c9_in _ _ _ _ _) ?_
  rintro r σ' ⟨rfl, hσ⟩
  subst σ'
  show K 13 [some (aR 0), some (aI (x)), none, none, none] [aI (if (0 ≤ x ∧ x ≤ 99) then 1 else 0), aR 0] z
  refine hK _ _ _ _ ?_
  refine And.intro (fun h00 => ?_) (fun h00 => ?_)
  · have hg0 : (0 ≤ x ∧ x ≤ 99) := ite_ne h00
    iterate 3 refine hK _ _ _ _ ?_
    refine calD (c9_bad0 _ _ _ z0) ?_
    rintro r σ' ⟨rfl, hσ⟩
    subst σ'
    show K 25 [some (aR 0), some (aI (x)), none, none, none] [aI (0)] z
    refine hK _ _ _ _ ?_
    refine And.intro (fun _ => ?_) (fun h => absurd rfl h)
    obtain ⟨n, hn, rfl⟩ : ∃ k : Nat, k < 100 ∧ x = nI k := inN (N := 100) hg0 (by decide)
    rw [nI_clamp (show n < 2 ^ 31 by omega)] at hK
    iterate 2 refine hK _ _ _ _ ?_
    refine calD (c9_layKnows _ z P hP hJz.1.2.2.2.1.1) ?_
    rintro r μ0 ⟨rfl, hf0, hk0⟩
    show K 34 [some (aR 0), some (aI (nI n)), none, none, none] [] μ0
    have hl0 : LR μ0 N P (kwN σ) := ⟨by rw [hf0 3 (by decide)]; exact hJz.1.2.2.1, by rw [hf0 3 (by decide)]; exact hJz.1.2.2.2.1.1, fun q hq => by rw [hk0 q hq, ← hz, sUp_off (by decide)]; exact (kw_at hM hq).1⟩
    iterate 2 refine hK _ _ _ _ ?_
    have L36 : ∀ (f : Nat) (k : Nat) (μ : sMem), k + f = n → (∀ i, i ≠ 32 → i ≠ 33 → μ i = z i) → LR μ N P (lnI N P (kwN σ) k) → K 36 [some (aR 0), some (aI (nI n)), some (aI (nI k)), none, none] [] μ := by
      intro f
      induction f with
      | zero =>
        intro k μ hk9 hf hk
        iterate 3 refine hK _ _ _ _ ?_
        refine And.intro (fun _ => ?_) (fun h9 => absurd ((nI_leI (by omega) (by omega)).mpr (by omega)) h9)
        iterate 4 refine hK _ _ _ _ ?_
        have hLt := fun q hq => lnI_lt hN hkw k q hq
        have h12 : 2 ^ N ≤ 2 ^ 12 := Nat.pow_le_pow_right (by decide) hN
        have L56 : ∀ (f2 : Nat) (p : Nat) (y : Int32) (e4 : Option AV), p + f2 = P → y = nI (smK (lnI N P (kwN σ) k) p) → K 56 [some (aR 0), some (aI (nI n)), some (aI (y)), some (aI (nI p)), e4] [] μ := by
          intro f2
          induction f2 with
          | zero =>
            intro p y e4 hp hy
            iterate 5 refine hK _ _ _ _ ?_
            refine And.intro (vp_in_nI (n := 1) (by decide) (by decide)) ?_
            rw [show (Int32.ofInt 1).toNatClampNeg = 1 from rfl]
            rw [show μ 3 0 1 = nI P from hk.2.1]
            refine hK _ _ _ _ ?_
            refine And.intro (fun _ => ?_) (fun h9 => absurd ((nI_leI (by omega) (by omega)).mpr (by omega)) h9)
            iterate 2 refine hK _ _ _ _ ?_
            refine ⟨fun _ => ?_, fun n => absurd hg0 n⟩
            exact ⟨by rw [hy, show p = P by omega, show k = n by omega], by rw [hz]; exact (KP.of (fun i h1 h2 => hf i (by omega) (by omega)) (fun k _ _ _ _ => by rw [hf 0 (by decide) (by decide)]))⟩
          | succ f2 ih2 =>
            intro p y e4 hp hy
            have k32 := hk.2.2 p (by omega)
            iterate 5 refine hK _ _ _ _ ?_
            refine And.intro (vp_in_nI (n := 1) (by decide) (by decide)) ?_
            rw [show (Int32.ofInt 1).toNatClampNeg = 1 from rfl]
            rw [show μ 3 0 1 = nI P from hk.2.1]
            refine hK _ _ _ _ ?_
            refine And.intro (fun h9 => absurd ((nI_leI (by omega) (by omega)).mp h9) (by omega)) (fun _ => ?_)
            iterate 2 refine hK _ _ _ _ ?_
            have L69 : ∀ (f3 : Nat) (zc : Nat) (y3 : Int32), zc + f3 = N → y3 = nI (smK (lnI N P (kwN σ) k) p + pcB (lnI N P (kwN σ) k p) zc) → K 69 [some (aR 0), some (aI (nI n)), some (aI (y3)), some (aI (nI p)), some (aI (nI zc))] [] μ := by
              intro f3
              induction f3 with
              | zero =>
                intro zc y3 hzc hy3
                iterate 5 refine hK _ _ _ _ ?_
                refine And.intro (vp_in_nI (n := 0) (by decide) (by decide)) ?_
                rw [show (Int32.ofInt 0).toNatClampNeg = 0 from rfl]
                rw [show μ 3 0 0 = nI N from hk.1]
                refine hK _ _ _ _ ?_
                refine And.intro (fun _ => ?_) (fun h9 => absurd ((nI_leI (by omega) (by omega)).mpr (by omega)) h9)
                refine hK _ _ _ _ ?_
                show K _ _ _ _
                rw [show nI p + Int32.ofInt 1 = nI (p + 1) from nIs _]
                refine hK _ _ _ _ ?_
                exact ih2 (p + 1) _ _ (by omega) (by rw [hy3, show zc = N by omega, ← pcB_12 hN (hLt p (by omega))]; rfl)
              | succ f3 ih3 =>
                intro zc y3 hzc hy3
                iterate 5 refine hK _ _ _ _ ?_
                refine And.intro (vp_in_nI (n := 0) (by decide) (by decide)) ?_
                rw [show (Int32.ofInt 0).toNatClampNeg = 0 from rfl]
                rw [show μ 3 0 0 = nI N from hk.1]
                refine hK _ _ _ _ ?_
                refine And.intro (fun h9 => absurd ((nI_leI (by omega) (by omega)).mp h9) (by omega)) (fun _ => ?_)
                iterate 5 refine hK _ _ _ _ ?_
                refine And.intro (vp_in_nI (n := p) (by omega) (by decide)) ?_
                rw [nI_clamp (show p < 2 ^ 31 by omega)]
                rw [show μ 32 0 p = nI (lnI N P (kwN σ) k p) from k32]
                iterate 4 refine hK _ _ _ _ ?_
                show K _ _ _ _
                rw [bit_val _ zc (by omega)]
                iterate 3 refine hK _ _ _ _ ?_
                show K _ _ _ _
                rw [show nI zc + Int32.ofInt 1 = nI (zc + 1) from nIs _]
                refine hK _ _ _ _ ?_
                exact ih3 (zc + 1) _ (by omega) (by rw [hy3, nIa, Nat.add_assoc]; rfl)
            exact L69 N 0 _ (by omega) (by rw [hy]; rfl)
        exact L56 P 0 _ _ (by omega) rfl
      | succ f ih =>
        intro k μ hk9 hf hk
        iterate 3 refine hK _ _ _ _ ?_
        refine And.intro (fun h9 => absurd ((nI_leI (by omega) (by omega)).mp h9) (by omega)) (fun _ => ?_)
        iterate 2 refine hK _ _ _ _ ?_
        refine calD (c9_learns _ μ N P _ hN hP (fun q hq => lnI_lt hN hkw k q hq) hk) ?_
        rintro r ν ⟨rfl, hfν, hkν⟩
        show K 45 [some (aR 0), some (aI (nI n)), some (aI (nI k)), none, none] [aI (bI (lnD N P (lnI N P (kwN σ) k)).2.2)] ν
        iterate 2 refine hK _ _ _ _ ?_
        show K _ _ _ _
        rw [show nI k + Int32.ofInt 1 = nI (k + 1) from nIs _]
        refine hK _ _ _ _ ?_
        exact ih (k + 1) ν (by omega) (fun i h1 h2 => (hfν i h1 h2).trans (hf i h1 h2)) hkν
    exact L36 n 0 μ0 (by omega) (fun i h1 _ => hf0 i h1) hl0
  · have hn : ¬ (0 ≤ x ∧ x ≤ 99) := ite_eq h00
    iterate 4 refine hK _ _ _ _ ?_
    refine calD (c9_bad1 _ _ _ z0 (by decide)) ?_
    rintro r σ' ⟨rfl, rfl⟩
    show K 25 [some (aR 0), some (aI (x)), none, none, none] [aI (1)] (sUp z 0 0 0 1)
    refine hK _ _ _ _ ?_
    refine And.intro (fun h => absurd h (by decide)) (fun _ => ?_)
    iterate 2 refine hK _ _ _ _ ?_
    exact ⟨fun q0 => absurd q0 hn, fun _ => ⟨rfl, by rw [← hz, sUp_twice]; try rfl⟩⟩
theorem c9_soon (d : Nat) (σ : sMem) (N P S G : Nat) (hJ : MJ σ N P S G) (hM : MI σ N P S G) : sMet l D b0 ty lay (d + 4) mX9_soon [aR 0] σ (fun r σ' => (r = [aI (soF N P 120 0 (kwN σ))] ∧ KP G (sUp σ 0 0 0 0) σ')) := by
  refine sMet_intro lay_nd kX9_soon xX9_ok (by decide +kernel) rfl ?_
  intro K hK
  have hN := hJ.1.1.1
  have hN2 := hJ.1.2.1
  have hP := hJ.1.2.2.2.1.2
  have hS := hJ.1.2.2.2.2.1.2
  have hG4 := hJ.2.2.2.2.2
  have hkw : ∀ q, q < P → kwN σ q < 2 ^ N := fun q hq => (kw_at hM hq).2
  iterate 3 refine hK _ _ _ _ ?_
  show K _ _ _ (sUp σ 0 0 0 0)
  have hJz := hJ.z0 0 0
  have z0 : sUp σ 0 0 0 0 0 0 0 = 0 := sUp_at _ _ _ _ _
  generalize hz : sUp σ 0 0 0 0 = z at hJz z0 ⊢
  generalize hZ0 : soF N P 120 0 (kwN σ) = Z at hK
  iterate 2 refine hK _ _ _ _ ?_
  refine calD (c9_layKnows _ z P hP hJz.1.2.2.2.1.1) ?_
  rintro r μ0 ⟨rfl, hf0, hk0⟩
  show K 9 [some (aR 0), none] [] μ0
  have hl0 : LR μ0 N P (kwN σ) := ⟨by rw [hf0 3 (by decide)]; exact hJz.1.2.2.1, by rw [hf0 3 (by decide)]; exact hJz.1.2.2.2.1.1, fun q hq => by rw [hk0 q hq, ← hz, sUp_off (by decide)]; exact (kw_at hM hq).1⟩
  iterate 2 refine hK _ _ _ _ ?_
  have L11 : ∀ (f : Nat) (k : Nat) (Q : Nat → Nat) (μ : sMem), k + f = 120 → msK N Q P ≤ f → (∀ q, q < P → Q q < 2 ^ N) → (∀ i, i ≠ 32 → i ≠ 33 → μ i = z i) → LR μ N P Q → soF N P f k Q = Z → K 11 [some (aR 0), some (aI (nI k))] [] μ := by
    intro f
    induction f with
    | zero =>
      intro k Q μ hk9 hms0 hQ hf hk hz9
      have hal : akB Q N P 0 = true := (akB_at P 0).mpr (fun q _ hq => msK_0 hN hQ P (Nat.le_refl _) (by omega) q (by omega))
      have hz9 : (if akB Q N P 0 = true then nI k else -1) = Z := hz9
      rw [if_pos hal] at hz9
      iterate 2 refine hK _ _ _ _ ?_
      refine calD (c9_isAllKnown _ μ N P Q hN hP hQ hk) ?_
      rintro r σ' ⟨rfl, hσ⟩
      subst σ'
      show K 15 [some (aR 0), some (aI (nI k))] [aI (bI (akB Q N P 0))] μ
      refine hK _ _ _ _ ?_
      refine And.intro (fun _ => ?_) (fun h9 => absurd h9 (by rw [hal]; decide))
      iterate 2 refine hK _ _ _ _ ?_
      exact ⟨by rw [hz9], by rw [hz]; exact (KP.of (fun i h1 h2 => hf i (by omega) (by omega)) (fun k _ _ _ _ => by rw [hf 0 (by decide) (by decide)]))⟩
    | succ f ih =>
      intro k Q μ hk9 hms0 hQ hf hk hz9
      have hz9 : (if akB Q N P 0 = true then nI k else if (lnD N P Q).2.2 = true then soF N P f (k + 1) (lnD N P Q).1 else -1) = Z := hz9
      iterate 2 refine hK _ _ _ _ ?_
      refine calD (c9_isAllKnown _ μ N P Q hN hP hQ hk) ?_
      rintro r σ' ⟨rfl, hσ⟩
      subst σ'
      show K 15 [some (aR 0), some (aI (nI k))] [aI (bI (akB Q N P 0))] μ
      refine hK _ _ _ _ ?_
      refine And.intro (fun h8 => ?_) (fun h8 => ?_)
      · have c1 := bI_t h8
        rw [if_pos c1] at hz9
        iterate 2 refine hK _ _ _ _ ?_
        exact ⟨by rw [hz9], by rw [hz]; exact (KP.of (fun i h1 h2 => hf i (by omega) (by omega)) (fun k _ _ _ _ => by rw [hf 0 (by decide) (by decide)]))⟩
      · have c1 := bI_f h8
        rw [if_neg (by rw [c1]; decide)] at hz9
        iterate 2 refine hK _ _ _ _ ?_
        refine calD (c9_learns _ μ N P Q hN hP hQ hk) ?_
        rintro r ν ⟨rfl, hfν, hkν⟩
        show K 22 [some (aR 0), some (aI (nI k))] [aI (bI (lnD N P Q).2.2)] ν
        refine hK _ _ _ _ ?_
        refine And.intro (fun h7 => ?_) (fun h7 => ?_)
        · have c2 := bI_t h7
          rw [if_pos c2] at hz9
          have hms := lnD_ms hN hQ c2
          refine hK _ _ _ _ ?_
          show K _ _ _ _
          rw [show nI k + Int32.ofInt 1 = nI (k + 1) from nIs _]
          refine hK _ _ _ _ ?_
          exact ih (k + 1) (lnD N P Q).1 ν (by omega) (by omega) (fun q hq => ((lnD_inv hN hQ P (Nat.le_refl _)).2.1 q hq).1) (fun i h1 h2 => (hfν i h1 h2).trans (hf i h1 h2)) hkν hz9
        · have c2 := bI_f h7
          rw [if_neg (by rw [c2]; decide)] at hz9
          have hf9 : ∀ i, i ≠ 32 → i ≠ 33 → ν i = z i := fun i h1 h2 => (hfν i h1 h2).trans (hf i h1 h2)
          iterate 2 refine hK _ _ _ _ ?_
          exact ⟨by rw [← hz9]; rfl, by rw [hz]; exact (KP.of (fun i h1 h2 => hf9 i (by omega) (by omega)) (fun k _ _ _ _ => by rw [hf9 0 (by decide) (by decide)]))⟩
  exact L11 120 0 (kwN σ) μ0 (by omega) (Nat.le_trans (msK_N N (kwN σ) P) (Nat.mul_le_mul hP hN)) hkw (fun i h1 _ => hf0 i h1) hl0 hZ0
end
