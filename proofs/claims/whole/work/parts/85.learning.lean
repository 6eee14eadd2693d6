/-! THE CLASS: Learning -/
def kwN (t : sMem) (p : Nat) : Nat := (t 6 p 4).toNatClampNeg
theorem kw_at {t : sMem} {N P S G : Nat} (h : MI t N P S G) {p : Nat} (hp : p < P) : t 6 p 4 = nI (kwN t p) ∧ kwN t p < 2 ^ N := by
  obtain ⟨w, e, hw⟩ := h.2.2.2.1 p hp
  have hN := h.1.1.1.1
  have h12 : 2 ^ N ≤ 2 ^ 12 := Nat.pow_le_pow_right (by decide) hN
  have : kwN t p = w := by unfold kwN; rw [e, nI_clamp (by omega)]
  rw [this]
  exact ⟨e, hw⟩
def LK (σ : sMem) (N P : Nat) (K : Nat → Nat) : Prop := σ 96 0 0 = nI P ∧ σ 96 0 1 = nI (2 ^ N - 1) ∧ ∀ p, p < P → σ 97 0 p = nI (K p)
theorem all_nI {N : Nat} (hN : N ≤ 12) : (1 : Int32) <<< (nI N &&& 31) - 1 = nI (2 ^ N - 1) := by
  rw [nI_shl N (by omega)]
  exact nIm (b := 1) (Nat.one_le_two_pow)
section
variable {l : Launch} {D0 : va_G} {b0 : Nat} {ty : Nat → ClassId} {ad av : Nat → Nat}
theorem c2_firstWhoKnew (d : Nat) (σ : sMem) (N P : Nat) (M : Nat → Nat) (hP : P ≤ 10) (h0 : σ 96 0 0 = nI P) (hM : ∀ q, q < P → σ 98 0 q = nI (M q)) (z p led : Nat) (hz : z < 12) (hp : p < P) : yMet l D0 b0 ty ad av lay (d + 1) 0 mX2_firstWhoKnew [aR 96, aI (nI (2 ^ z)), aI (nI p), aI (nI led)] σ (fun r σ' => r = [aI (oI (lnW M z p led P 0))] ∧ σ' = σ) (fun _ _ => False) := by
  refine yMet_intro lay_nd kX2_firstWhoKnew xX2_ok (yY2_ok _) (by decide +kernel) rfl ?_
  intro K hK
  generalize hZ0 : oI (lnW M z p led P 0) = Z at hK
  iterate 2 refine hK _ _ _ _ _ ?_
  have L3 : ∀ (f : Nat) (o : Nat), o + f = P → oI (lnW M z p led f o) = Z → K 0 3 [some (aR 96), some (aI (nI (2 ^ z))), some (aI (nI p)), some (aI (nI led)), some (aI (nI o))] [] σ := by
    intro f
    induction f with
    | zero =>
      intro o ho hz9
      iterate 3 refine hK _ _ _ _ _ ?_
      show K _ _ _ _ _
      rw [show σ 96 0 0 = nI P from h0]
      refine hK _ _ _ _ _ ?_
      refine And.intro (fun _ => ?_) (fun h9 => absurd ((nI_leI (by omega) (by omega)).mpr (by omega)) h9)
      iterate 2 refine hK _ _ _ _ _ ?_
      exact ⟨by rw [← hz9]; rfl, rfl⟩
    | succ f ih =>
      intro o ho hz9
      have hst : lnW M z p led (f + 1) o = if o ≠ p ∧ led.testBit o = false ∧ (M o).testBit z = true then some o else lnW M z p led f (o + 1) := rfl
      rw [hst] at hz9
      have hMo := hM o (by omega)
      iterate 3 refine hK _ _ _ _ _ ?_
      show K _ _ _ _ _
      rw [show σ 96 0 0 = nI P from h0]
      refine hK _ _ _ _ _ ?_
      refine And.intro (fun h9 => absurd ((nI_leI (by omega) (by omega)).mp h9) (by omega)) (fun _ => ?_)
      iterate 3 refine hK _ _ _ _ _ ?_
      refine And.intro (fun h8 => ?_) (fun h8 => ?_)
      · have c1 : o = p := (nI_eq (by omega) (by omega)).mp h8
        rw [if_neg (fun q => q.1 c1)] at hz9
        refine hK _ _ _ _ _ ?_
        show K _ _ _ _ _
        rw [show nI o + Int32.ofInt 1 = nI (o + 1) from nIs _]
        refine hK _ _ _ _ _ ?_
        exact ih (o + 1) (by omega) hz9
      · have c1 : o ≠ p := fun e => h8 (by rw [e])
        iterate 4 refine hK _ _ _ _ _ ?_
        refine And.intro (vp_in_nI (n := o) (by omega) (by decide)) ?_
        rw [nI_clamp (show o < 2 ^ 31 by omega)]
        rw [show σ 98 0 o = nI (M o) from hMo]
        iterate 3 refine hK _ _ _ _ _ ?_
        refine And.intro (fun h7 => ?_) (fun h7 => ?_)
        · have c2 := (bit_and (by omega)).mp h7
          rw [if_neg (fun q => by rw [q.2.2] at c2; cases c2)] at hz9
          refine hK _ _ _ _ _ ?_
          show K _ _ _ _ _
          rw [show nI o + Int32.ofInt 1 = nI (o + 1) from nIs _]
          refine hK _ _ _ _ _ ?_
          exact ih (o + 1) (by omega) hz9
        · have c2 : (M o).testBit z = true := by
            cases hq : (M o).testBit z with
            | true => rfl
            | false => exact absurd ((bit_and (by omega)).mpr hq) h7
          iterate 3 refine hK _ _ _ _ _ ?_
          refine calD (c8_hasBit _ _ _ _) ?_
          rintro r σ' ⟨rfl, hσ⟩
          subst σ'
          show K 0 36 [some (aR 96), some (aI (nI (2 ^ z))), some (aI (nI p)), some (aI (nI led)), some (aI (nI o))] [aI (bI (hb (nI led) (nI o)))] σ
          refine hK _ _ _ _ _ ?_
          refine And.intro (fun h6 => ?_) (fun h6 => ?_)
          · have c3 := bI_t h6
            rw [hb_nI _ _ (by omega)] at c3
            rw [if_neg (fun q => by rw [q.2.1] at c3; cases c3)] at hz9
            refine hK _ _ _ _ _ ?_
            show K _ _ _ _ _
            rw [show nI o + Int32.ofInt 1 = nI (o + 1) from nIs _]
            refine hK _ _ _ _ _ ?_
            exact ih (o + 1) (by omega) hz9
          · have c3 := bI_f h6
            rw [hb_nI _ _ (by omega)] at c3
            rw [if_pos ⟨c1, c3, c2⟩] at hz9
            iterate 2 refine hK _ _ _ _ _ ?_
            exact ⟨by rw [← hz9]; rfl, rfl⟩
  exact L3 P 0 (by omega) hZ0
theorem c2_goOneDay (d : Nat) (σ : sMem) (N P : Nat) (M : Nat → Nat) (hN : N ≤ 12) (hP : P ≤ 10) (hM : ∀ q, q < P → M q < 2 ^ N) (hK0 : LK σ N P M) : yMet l D0 b0 ty ad av lay (d + 2) 0 mX2_goOneDay [aR 96] σ (fun r σ' => r = [aI (bI (lnD N P M).2.2)] ∧ (∀ i, i ≠ 97 → i ≠ 98 → σ' i = σ i) ∧ LK σ' N P (lnD N P M).1) (fun _ _ => False) := by
  refine yMet_intro lay_nd kX2_goOneDay xX2_ok (yY2_ok _) (by decide +kernel) rfl ?_
  intro K hK
  have h12 : 2 ^ N ≤ 2 ^ 12 := Nat.pow_le_pow_right (by decide) hN
  iterate 8 refine hK _ _ _ _ _ ?_
  refine ⟨97, 0, 10, 98, 0, 10, 0, 0, 10, ⟨rfl, rfl, rfl⟩, ⟨rfl, rfl, rfl⟩, rfl, rfl, rfl, by decide, by decide, by decide, by decide, ?_⟩
  have f0 : ∀ i, i ≠ 98 → (sRow σ 98 0 (va_cpy (σ 97 0) (σ 98 0) 0 0 10)) i = σ i := fun i hi => sRow_off hi
  have m0 : ∀ q, q < P → (sRow σ 98 0 (va_cpy (σ 97 0) (σ 98 0) 0 0 10)) 98 0 q = nI (M q) := fun q hq => by rw [sRow_at, cpy_at (by omega)]; exact hK0.2.2 q hq
  generalize (sRow σ 98 0 (va_cpy (σ 97 0) (σ 98 0) 0 0 10)) = μ0 at f0 m0 ⊢
  iterate 6 refine hK _ _ _ _ _ ?_
  have L21 : ∀ (f : Nat) (p : Nat) (e4 e5 e6 : Option AV) (st : (Nat → Nat) × Nat × Bool) (μ : sMem), p + f = P → st = forG (lnS M N P) (M, 0, false) p → (∀ i, i ≠ 97 → μ i = μ0 i) → (∀ q, q < P → μ 98 0 q = nI (M q)) → (∀ q, q < P → μ 97 0 q = nI (st.1 q)) → K 0 21 [some (aR 96), some (aI (nI st.2.1)), some (aI (bI st.2.2)), some (aI (nI p)), e4, e5, e6] [] μ := by
    intro f
    induction f with
    | zero =>
      intro p e4 e5 e6 st μ hp hst hf hm hd
      have e0 : μ 96 0 0 = nI P := by rw [hf 96 (by decide), f0 96 (by decide)]; exact hK0.1
      have e1 : μ 96 0 1 = nI (2 ^ N - 1) := by rw [hf 96 (by decide), f0 96 (by decide)]; exact hK0.2.1
      iterate 3 refine hK _ _ _ _ _ ?_
      show K _ _ _ _ _
      rw [show μ 96 0 0 = nI P from e0]
      refine hK _ _ _ _ _ ?_
      refine And.intro (fun _ => ?_) (fun h9 => absurd ((nI_leI (by omega) (by omega)).mpr (by omega)) h9)
      iterate 2 refine hK _ _ _ _ _ ?_
      have ep : p = P := by omega
      rw [ep] at hst
      refine ⟨bI_01 _, ?_, fun i h1 h2 => by rw [hf i h1]; exact f0 i h2, e0, e1, fun q hq => ?_⟩
      · unfold lnD; rw [← hst]
      · unfold lnD; rw [← hst]; exact hd q hq
    | succ f ih =>
      intro p e4 e5 e6 st μ hp hst hf hm hd
      have e0 : μ 96 0 0 = nI P := by rw [hf 96 (by decide), f0 96 (by decide)]; exact hK0.1
      have e1 : μ 96 0 1 = nI (2 ^ N - 1) := by rw [hf 96 (by decide), f0 96 (by decide)]; exact hK0.2.1
      have hpP : p < P := by omega
      have hinv := lnD_inv (M := M) hN hM p (by omega)
      rw [← hst] at hinv
      have hs1 : forG (lnS M N P) (M, 0, false) (p + 1) = lnS M N P p st := by rw [hst]; rfl
      have hMp := hM p hpP
      have mp := hm p hpP
      have hun := un_at hN hMp
      have hsp : st.1 p = M p := hinv.1 p (Nat.le_refl _)
      have h97 := hd p hpP
      have hled : st.2.1 < 1024 := Nat.lt_of_lt_of_le hinv.2.2.1 (Nat.pow_le_pow_right (n := 2) (j := 10) (by decide) hP)
      iterate 3 refine hK _ _ _ _ _ ?_
      show K _ _ _ _ _
      rw [show μ 96 0 0 = nI P from e0]
      refine hK _ _ _ _ _ ?_
      refine And.intro (fun h9 => absurd ((nI_leI (by omega) (by omega)).mp h9) (by omega)) (fun _ => ?_)
      iterate 2 refine hK _ _ _ _ _ ?_
      show K _ _ _ _ _
      rw [show μ 96 0 1 = nI (2 ^ N - 1) from e1]
      iterate 4 refine hK _ _ _ _ _ ?_
      refine And.intro (vp_in_nI (n := p) (by omega) (by decide)) ?_
      rw [nI_clamp (show p < 2 ^ 31 by omega)]
      rw [show μ 98 0 p = nI (M p) from mp]
      iterate 3 refine hK _ _ _ _ _ ?_
      show K _ _ _ (aI (unI N (M p)) :: _) _
      iterate 3 refine hK _ _ _ _ _ ?_
      refine And.intro (fun h8 => ?_) (fun h8 => ?_)
      · have hne : M p ≠ 2 ^ N - 1 := fun e => h8 (hun.1.mpr e)
        obtain ⟨z1, z2, z3⟩ := hun.2.1 hne
        have hs2 : lnS M N P p st = lnU st.1 (lnz (M p)) p st.2.1 st.2.2 (lnW M (lnz (M p)) p st.2.1 P 0) := if_neg hne
        iterate 4 refine hK _ _ _ _ _ ?_
        show K _ _ _ _ _
        rw [z1]
        iterate 6 refine hK _ _ _ _ _ ?_
        refine Or.inr (Or.inl (yD0 (c2_firstWhoKnew _ _ N P M hP e0 hm (lnz (M p)) p st.2.1 (by omega) hpP) ?_))
        rintro r σ' ⟨rfl, hσ⟩
        subst σ'
        show K 0 68 [some (aR 96), some (aI (nI st.2.1)), some (aI (bI st.2.2)), some (aI (nI p)), some (aI (unI N (M p))), some (aI (nI (2 ^ (lnz (M p))))), e6] [aI (oI (lnW M (lnz (M p)) p st.2.1 P 0))] μ
        rcases ho : lnW M (lnz (M p)) p st.2.1 P 0 with _ | o
        · rw [ho] at hs2
          rw [hs2] at hs1
          have hs1 : forG (lnS M N P) (M, 0, false) (p + 1) = st := hs1
          iterate 4 refine hK _ _ _ _ _ ?_
          refine And.intro (fun _ => ?_) (fun h7 => absurd rfl h7)
          refine hK _ _ _ _ _ ?_
          show K _ _ _ _ _
          rw [show nI p + Int32.ofInt 1 = nI (p + 1) from nIs _]
          refine hK _ _ _ _ _ ?_
          exact ih (p + 1) _ _ _ st μ (by omega) hs1.symm hf hm hd
        · have hoP := (lnW_lt _ _ ho).2
          rw [ho] at hs2
          rw [hs2] at hs1
          have hs1 : forG (lnS M N P) (M, 0, false) (p + 1) = (fu st.1 p (st.1 p ||| 2 ^ lnz (M p)), st.2.1 ||| 2 ^ o, true) := hs1
          rw [oI_some]
          iterate 4 refine hK _ _ _ _ _ ?_
          refine And.intro (fun h7 => absurd h7 (nI_ne (by omega))) (fun _ => ?_)
          iterate 5 refine hK _ _ _ _ _ ?_
          show K _ _ _ _ _
          rw [show nI st.2.1 ||| (Int32.ofInt 1 <<< (nI o &&& 31)) = nI (st.2.1 ||| 2 ^ o) from nI_orp _ _ (by omega)]
          iterate 6 refine hK _ _ _ _ _ ?_
          refine And.intro (vp_in_nI (n := p) (by omega) (by decide)) ?_
          rw [nI_clamp (show p < 2 ^ 31 by omega)]
          rw [show μ 97 0 p = nI (st.1 p) from h97]
          iterate 3 refine hK _ _ _ _ _ ?_
          refine And.intro (vp_in_nI (n := p) (by omega) (by decide)) ?_
          rw [nI_clamp (show p < 2 ^ 31 by omega)]
          iterate 3 refine hK _ _ _ _ _ ?_
          show K _ _ _ _ _
          rw [show nI p + Int32.ofInt 1 = nI (p + 1) from nIs _]
          refine hK _ _ _ _ _ ?_
          rw [nI_or]
          refine ih (p + 1) _ _ _ (fu st.1 p (st.1 p ||| 2 ^ lnz (M p)), st.2.1 ||| 2 ^ o, true) _ (by omega) hs1.symm (fun i hi => by rw [sUp_off hi]; exact hf i hi) (fun q hq => by rw [sUp_off (by decide)]; exact hm q hq) (fun q hq => ?_)
          show _ = nI (fu st.1 p (st.1 p ||| 2 ^ lnz (M p)) q)
          by_cases e : q = p
          · subst e; rw [sUp_at, fu_at]
          · rw [sUp_k e, fu_ne e]; exact hd q hq
      · have he := hun.1.mp h8
        have hs2 : lnS M N P p st = st := if_pos he
        rw [hs2] at hs1
        iterate 2 refine hK _ _ _ _ _ ?_
        show K _ _ _ _ _
        rw [show nI p + Int32.ofInt 1 = nI (p + 1) from nIs _]
        refine hK _ _ _ _ _ ?_
        exact ih (p + 1) _ _ _ st μ (by omega) hs1.symm hf hm hd
  exact L21 P 0 _ _ _ (M, 0, false) μ0 (by omega) rfl (fun _ _ => rfl) m0 (fun q hq => by rw [f0 97 (by decide)]; exact hK0.2.2 q hq)
theorem c2_allKnowAll (d : Nat) (σ : sMem) (N P : Nat) (Q : Nat → Nat) (hN : N ≤ 12) (hP : P ≤ 10) (hQ : ∀ q, q < P → Q q < 2 ^ N) (hK0 : LK σ N P Q) : sMet l D0 b0 ty lay d mX2_allKnowAll [aR 96] σ (fun r σ' => r = [aI (bI (akB Q N P 0))] ∧ σ' = σ) := by
  refine sMet_intro lay_nd kX2_allKnowAll xX2_ok (by decide +kernel) rfl ?_
  intro K hK
  have h12 : 2 ^ N ≤ 2 ^ 12 := Nat.pow_le_pow_right (by decide) hN
  generalize hZ0 : bI (akB Q N P 0) = Z at hK
  iterate 2 refine hK _ _ _ _ ?_
  have L2 : ∀ (f : Nat) (p : Nat), p + f = P → bI (akB Q N f p) = Z → K 2 [some (aR 96), some (aI (nI p))] [] σ := by
    intro f
    induction f with
    | zero =>
      intro p hp hz9
      iterate 3 refine hK _ _ _ _ ?_
      show K _ _ _ _
      rw [show σ 96 0 0 = nI P from hK0.1]
      refine hK _ _ _ _ ?_
      refine And.intro (fun _ => ?_) (fun h9 => absurd ((nI_leI (by omega) (by omega)).mpr (by omega)) h9)
      iterate 2 refine hK _ _ _ _ ?_
      exact ⟨Or.inr rfl, by rw [← hz9]; rfl, rfl⟩
    | succ f ih =>
      intro p hp hz9
      have hst : akB Q N (f + 1) p = if Q p = 2 ^ N - 1 then akB Q N f (p + 1) else false := rfl
      rw [hst] at hz9
      have hq := hQ p (by omega)
      iterate 3 refine hK _ _ _ _ ?_
      show K _ _ _ _
      rw [show σ 96 0 0 = nI P from hK0.1]
      refine hK _ _ _ _ ?_
      refine And.intro (fun h9 => absurd ((nI_leI (by omega) (by omega)).mp h9) (by omega)) (fun _ => ?_)
      iterate 4 refine hK _ _ _ _ ?_
      refine And.intro (vp_in_nI (n := p) (by omega) (by decide)) ?_
      rw [nI_clamp (show p < 2 ^ 31 by omega)]
      rw [show σ 97 0 p = nI (Q p) from hK0.2.2 p (by omega)]
      iterate 2 refine hK _ _ _ _ ?_
      show K _ _ _ _
      rw [show σ 96 0 1 = nI (2 ^ N - 1) from hK0.2.1]
      refine hK _ _ _ _ ?_
      refine And.intro (fun h8 => ?_) (fun h8 => ?_)
      · rw [if_pos ((nI_eq (by omega) (by omega)).mp h8)] at hz9
        refine hK _ _ _ _ ?_
        show K _ _ _ _
        rw [show nI p + Int32.ofInt 1 = nI (p + 1) from nIs _]
        refine hK _ _ _ _ ?_
        exact ih (p + 1) (by omega) hz9
      · rw [if_neg (fun e => h8 (by rw [e]))] at hz9
        iterate 2 refine hK _ _ _ _ ?_
        exact ⟨Or.inl rfl, by rw [← hz9]; rfl, rfl⟩
  exact L2 P 0 (by omega) hZ0
theorem c2_knownTogether (d : Nat) (σ : sMem) (N P : Nat) (Q : Nat → Nat) (hN : N ≤ 12) (hP : P ≤ 10) (hQ : ∀ q, q < P → Q q < 2 ^ N) (hK0 : LK σ N P Q) : sMet l D0 b0 ty lay (d + 1) mX2_knownTogether [aR 96] σ (fun r σ' => r = [aI (nI (smK Q P))] ∧ σ' = σ) := by
  refine sMet_intro lay_nd kX2_knownTogether xX2_ok (by decide +kernel) rfl ?_
  intro K hK
  have h12 : 2 ^ N ≤ 2 ^ 12 := Nat.pow_le_pow_right (by decide) hN
  iterate 4 refine hK _ _ _ _ ?_
  have L4 : ∀ (f : Nat) (p : Nat) (y : Int32), p + f = P → y = nI (smK Q p) → K 4 [some (aR 96), some (aI (y)), some (aI (nI p))] [] σ := by
    intro f
    induction f with
    | zero =>
      intro p y hp hy
      iterate 3 refine hK _ _ _ _ ?_
      show K _ _ _ _
      rw [show σ 96 0 0 = nI P from hK0.1]
      refine hK _ _ _ _ ?_
      refine And.intro (fun _ => ?_) (fun h9 => absurd ((nI_leI (by omega) (by omega)).mpr (by omega)) h9)
      iterate 2 refine hK _ _ _ _ ?_
      exact ⟨by rw [hy, show p = P by omega], rfl⟩
    | succ f ih =>
      intro p y hp hy
      have hq := hQ p (by omega)
      iterate 3 refine hK _ _ _ _ ?_
      show K _ _ _ _
      rw [show σ 96 0 0 = nI P from hK0.1]
      refine hK _ _ _ _ ?_
      refine And.intro (fun h9 => absurd ((nI_leI (by omega) (by omega)).mp h9) (by omega)) (fun _ => ?_)
      iterate 5 refine hK _ _ _ _ ?_
      refine And.intro (vp_in_nI (n := p) (by omega) (by decide)) ?_
      rw [nI_clamp (show p < 2 ^ 31 by omega)]
      rw [show σ 97 0 p = nI (Q p) from hK0.2.2 p (by omega)]
      refine hK _ _ _ _ ?_
      refine calD (cJ_bc _ _ _) ?_
      rintro r σ' ⟨rfl, hσ⟩
      subst σ'
      show K 22 [some (aR 96), some (aI (y)), some (aI (nI p))] [aI (bcI (nI (Q p))), aI (y)] σ
      rw [bc_nI (show Q p < 4096 by omega)]
      iterate 3 refine hK _ _ _ _ ?_
      show K _ _ _ _
      rw [show nI p + Int32.ofInt 1 = nI (p + 1) from nIs _]
      refine hK _ _ _ _ ?_
      exact ih (p + 1) _ (by omega) (by rw [hy, nIa]; rfl)
  exact L4 P 0 _ (by omega) rfl
theorem c2_begin_36 (d : Nat) (σ t : sMem) (N P S G : Nat) (hC : CT σ t 36 N P S G) (hM : MI t N P S G) : yMet l D0 b0 ty ad av lay (d + 1) 0 mX2_begin [aR 96, aR 36] σ (fun r σ' => r = [] ∧ (∀ i, i ≠ 96 → i ≠ 97 → σ' i = σ i) ∧ LK σ' N P (kwN t)) (fun _ _ => False) := by
  refine yMet_intro lay_nd kX2_begin xX2_ok (yY2_ok _) (by decide +kernel) rfl ?_
  intro K hK
  have hN := hM.1.1.1.1
  have hP := hM.1.1.2.2.2.1.2
  iterate 3 refine hK _ _ _ _ _ ?_
  show K _ _ _ _ _
  rw [show σ 36 0 1 = nI P from hC.2.1]
  iterate 5 refine hK _ _ _ _ _ ?_
  show K _ _ _ _ _
  rw [sUp_off (by decide), show σ 37 0 0 = nI N from hC.1]
  refine hK _ _ _ _ _ ?_
  refine calD (c8_allBits _ _ _) ?_
  rintro r σ' ⟨rfl, rfl⟩
  show K 0 19 [some (aR 96), some (aR 36)] [aI (1 <<< (nI N &&& 31) - 1), aR 96] (sUp σ 96 0 0 (nI P))
  rw [all_nI hN]
  iterate 9 refine hK _ _ _ _ _ ?_
  refine ⟨45, 0, 10, 97, 0, 10, 0, 0, 10, ⟨rfl, rfl, rfl⟩, ⟨rfl, rfl, rfl⟩, rfl, rfl, rfl, by decide, by decide, by decide, by decide, ?_⟩
  refine hK _ _ _ _ _ ?_
  refine ⟨rfl, fun i h1 h2 => by rw [sRow_off h2, sUp_off h1, sUp_off h1], by rw [sRow_off (by decide), sUp_k (by decide), sUp_at], by rw [sRow_off (by decide), sUp_at], fun p hp => ?_⟩
  rw [sRow_at, cpy_at (by omega), sUp_off (by decide), sUp_off (by decide), (hC.2.2.2.2.2.2.1 p hp).2.2.2.2]
  exact (kw_at hM hp).1
theorem c8_learn_36_x0 (d : Nat) (σ t : sMem) (N P S G : Nat) (h : HR σ t 36 N P S G) (x : Int32) (h0 : ¬ (0 ≤ x ∧ x ≤ 99)) : yMet l D0 b0 ty ad av lay (d + 7) 1 mX8_learn [aR 34, aI (x)] σ (fun _ _ => False) (fun e σ' => e = yIAE ∧ σ' = σ) := by
  refine yMet_intro lay_nd kX8_learn xX8_ok (yYX8_learn_ok) (by decide +kernel) rfl ?_
  intro K hK
  iterate 2 refine hK _ _ _ _ _ ?_
  refine And.intro (fun h9 => ?_) (fun h9 => ?_)
  · refine hK _ _ _ _ _ ?_
    exact ⟨0, rfl, rfl, rfl⟩
  · iterate 3 refine hK _ _ _ _ _ ?_
    refine And.intro (fun h8 => absurd ⟨Int32.not_lt.mp h9, h8⟩ h0) (fun _ => ?_)
    refine hK _ _ _ _ _ ?_
    exact ⟨0, rfl, rfl, rfl⟩
theorem c8_learn_36_ok (d : Nat) (σ t : sMem) (N P S G : Nat) (h : HR σ t 36 N P S G) (n : Nat) (hn : n ≤ 99) : yMet l D0 b0 ty ad av lay (d + 7) 0 mX8_learn [aR 34, aI (nI n)] σ (fun r σ' => r = [aI (nI (smK (lnI N P (kwN t) n) P))] ∧ ∀ i, i < 96 ∨ 98 < i → σ' i = σ i) (fun _ _ => False) := by
  refine yMet_intro lay_nd kX8_learn xX8_ok (yYX8_learn_ok) (by decide +kernel) rfl ?_
  intro K hK
  have hN := h.2.2.1.1.1.1.1
  have hP := h.2.2.1.1.1.2.2.2.1.2
  have hS8 := h.2.2.1.1.1.2.2.2.2.1.2
  have hkw : ∀ q, q < P → kwN t q < 2 ^ N := fun q hq => (kw_at h.2.2.1 hq).2
  iterate 2 refine hK _ _ _ _ _ ?_
  refine And.intro (fun h9 => absurd h9 (nI_pos (by omega))) (fun _ => ?_)
  iterate 3 refine hK _ _ _ _ _ ?_
  refine And.intro (fun _ => ?_) (fun h9 => absurd ((nI_leI (b := 99) (by omega) (by decide)).mpr hn) h9)
  iterate 4 refine hK _ _ _ _ _ ?_
  show K _ _ _ _ _
  rw [show σ 34 0 3 = nI 36 from h.1]
  show K _ _ _ _ _
  rw [show (nI 36).toNatClampNeg = 36 from rfl]
  refine hK _ _ _ _ _ ?_
  refine Or.inr (Or.inl (yD0 (c2_begin_36 _ σ t N P S G h.2.1 h.2.2.1) ?_))
  rintro r μ0 ⟨rfl, hf0, hk0⟩
  show K 0 32 [some (aR 34), some (aI (nI n)), none] [] μ0
  iterate 2 refine hK _ _ _ _ _ ?_
  have L34 : ∀ (f : Nat) (k : Nat) (μ : sMem), k + f = n → (∀ i, i < 96 ∨ 98 < i → μ i = σ i) → LK μ N P (lnI N P (kwN t) k) → K 0 34 [some (aR 34), some (aI (nI n)), some (aI (nI k))] [] μ := by
    intro f
    induction f with
    | zero =>
      intro k μ hk9 hf hk
      iterate 3 refine hK _ _ _ _ _ ?_
      refine And.intro (fun _ => ?_) (fun h9 => absurd ((nI_leI (by omega) (by omega)).mpr (by omega)) h9)
      iterate 3 refine hK _ _ _ _ _ ?_
      refine Or.inl (calD (c2_knownTogether _ μ N P _ hN hP (fun q hq => lnI_lt hN hkw k q hq) hk) ?_)
      rintro r σ' ⟨rfl, hσ⟩
      subst σ'
      show K 0 60 [some (aR 34), some (aI (nI n)), some (aI (nI k))] [aI (nI (smK (lnI N P (kwN t) k) P))] μ
      refine hK _ _ _ _ _ ?_
      exact ⟨by rw [show k = n by omega], hf⟩
    | succ f ih =>
      intro k μ hk9 hf hk
      iterate 3 refine hK _ _ _ _ _ ?_
      refine And.intro (fun h9 => absurd ((nI_leI (by omega) (by omega)).mp h9) (by omega)) (fun _ => ?_)
      iterate 3 refine hK _ _ _ _ _ ?_
      refine Or.inr (Or.inl (yD0 (c2_goOneDay _ μ N P _ hN hP (fun q hq => lnI_lt hN hkw k q hq) hk) ?_))
      rintro r ν ⟨rfl, hfν, hkν⟩
      show K 0 46 [some (aR 34), some (aI (nI n)), some (aI (nI k))] [aI (bI (lnD N P (lnI N P (kwN t) k)).2.2)] ν
      iterate 2 refine hK _ _ _ _ _ ?_
      show K _ _ _ _ _
      rw [show nI k + Int32.ofInt 1 = nI (k + 1) from nIs _]
      refine hK _ _ _ _ _ ?_
      exact ih (k + 1) ν (by omega) (fun i hi => (hfν i (by omega) (by omega)).trans (hf i hi)) hkν
  exact L34 n 0 μ0 (by omega) (fun i hi => hf0 i (by omega) (by omega)) hk0
theorem c8_soon_36 (d : Nat) (σ t : sMem) (N P S G : Nat) (h : HR σ t 36 N P S G) : yMet l D0 b0 ty ad av lay (d + 7) 0 mX8_soon [aR 34] σ (fun r σ' => r = [aI (soF N P 120 0 (kwN t))] ∧ ∀ i, i < 96 ∨ 98 < i → σ' i = σ i) (fun _ _ => False) := by
  refine yMet_intro lay_nd kX8_soon xX8_ok (yY8_ok _) (by decide +kernel) rfl ?_
  intro K hK
  have hN := h.2.2.1.1.1.1.1
  have hP := h.2.2.1.1.1.2.2.2.1.2
  have hS8 := h.2.2.1.1.1.2.2.2.2.1.2
  have hkw : ∀ q, q < P → kwN t q < 2 ^ N := fun q hq => (kw_at h.2.2.1 hq).2
  generalize hZ0 : soF N P 120 0 (kwN t) = Z at hK
  iterate 4 refine hK _ _ _ _ _ ?_
  show K _ _ _ _ _
  rw [show σ 34 0 3 = nI 36 from h.1]
  show K _ _ _ _ _
  rw [show (nI 36).toNatClampNeg = 36 from rfl]
  refine hK _ _ _ _ _ ?_
  refine Or.inr (Or.inl (yD0 (c2_begin_36 _ σ t N P S G h.2.1 h.2.2.1) ?_))
  rintro r μ0 ⟨rfl, hf0, hk0⟩
  show K 0 11 [some (aR 34), none] [] μ0
  iterate 2 refine hK _ _ _ _ _ ?_
  have L13 : ∀ (f : Nat) (k : Nat) (Q : Nat → Nat) (μ : sMem), k + f = 120 → msK N Q P ≤ f → (∀ q, q < P → Q q < 2 ^ N) → (∀ i, i < 96 ∨ 98 < i → μ i = σ i) → LK μ N P Q → soF N P f k Q = Z → K 0 13 [some (aR 34), some (aI (nI k))] [] μ := by
    intro f
    induction f with
    | zero =>
      intro k Q μ hk9 hms0 hQ hf hk hz9
      have hal : akB Q N P 0 = true := (akB_at P 0).mpr (fun q _ hq => msK_0 hN hQ P (Nat.le_refl _) (by omega) q (by omega))
      have hz9 : (if akB Q N P 0 = true then nI k else -1) = Z := hz9
      rw [if_pos hal] at hz9
      iterate 3 refine hK _ _ _ _ _ ?_
      refine And.intro (fun h9 => absurd ((nI_ltI (a := 120) (by decide) (by omega)).mp h9) (by omega)) (fun _ => ?_)
      iterate 3 refine hK _ _ _ _ _ ?_
      refine Or.inl (calD (c2_allKnowAll _ μ N P Q hN hP hQ hk) ?_)
      rintro r σ' ⟨rfl, hσ⟩
      subst σ'
      show K 0 26 [some (aR 34), some (aI (nI k))] [aI (bI (akB Q N P 0))] μ
      refine hK _ _ _ _ _ ?_
      refine And.intro (fun h9 => absurd h9 (by rw [hal]; decide)) (fun _ => ?_)
      iterate 2 refine hK _ _ _ _ _ ?_
      exact ⟨by rw [hz9], hf⟩
    | succ f ih =>
      intro k Q μ hk9 hms0 hQ hf hk hz9
      have hz9 : (if akB Q N P 0 = true then nI k else if (lnD N P Q).2.2 = true then soF N P f (k + 1) (lnD N P Q).1 else -1) = Z := hz9
      iterate 3 refine hK _ _ _ _ _ ?_
      refine And.intro (fun h9 => absurd ((nI_ltI (a := 120) (by decide) (by omega)).mp h9) (by omega)) (fun _ => ?_)
      iterate 3 refine hK _ _ _ _ _ ?_
      refine Or.inl (calD (c2_allKnowAll _ μ N P Q hN hP hQ hk) ?_)
      rintro r σ' ⟨rfl, hσ⟩
      subst σ'
      show K 0 26 [some (aR 34), some (aI (nI k))] [aI (bI (akB Q N P 0))] μ
      refine hK _ _ _ _ _ ?_
      refine And.intro (fun h8 => ?_) (fun h8 => ?_)
      · have c1 := bI_f h8
        rw [if_neg (by rw [c1]; decide)] at hz9
        iterate 3 refine hK _ _ _ _ _ ?_
        refine Or.inr (Or.inl (yD0 (c2_goOneDay _ μ N P Q hN hP hQ hk) ?_))
        rintro r ν ⟨rfl, hfν, hkν⟩
        show K 0 38 [some (aR 34), some (aI (nI k))] [aI (bI (lnD N P Q).2.2)] ν
        refine hK _ _ _ _ _ ?_
        refine And.intro (fun h7 => ?_) (fun h7 => ?_)
        · have c2 := bI_t h7
          rw [if_pos c2] at hz9
          have hms := lnD_ms hN hQ c2
          refine hK _ _ _ _ _ ?_
          show K _ _ _ _ _
          rw [show nI k + Int32.ofInt 1 = nI (k + 1) from nIs _]
          refine hK _ _ _ _ _ ?_
          exact ih (k + 1) (lnD N P Q).1 ν (by omega) (by omega) (fun q hq => ((lnD_inv hN hQ P (Nat.le_refl _)).2.1 q hq).1) (fun i hi => (hfν i (by omega) (by omega)).trans (hf i hi)) hkν hz9
        · have c2 := bI_f h7
          rw [if_neg (by rw [c2]; decide)] at hz9
          iterate 2 refine hK _ _ _ _ _ ?_
          exact ⟨by rw [← hz9]; rfl, fun i hi => (hfν i (by omega) (by omega)).trans (hf i hi)⟩
      · have c1 := bI_t h8
        rw [if_pos c1] at hz9
        iterate 2 refine hK _ _ _ _ _ ?_
        exact ⟨by rw [hz9], hf⟩
  exact L13 120 0 (kwN t) μ0 (by omega) (Nat.le_trans (msK_N N (kwN t) P) (Nat.mul_le_mul hP hN)) hkw (fun i hi => hf0 i (by omega) (by omega)) hk0 hZ0
theorem c2_begin_54 (d : Nat) (σ t : sMem) (N P S G : Nat) (hC : CT σ t 54 N P S G) (hM : MI t N P S G) : yMet l D0 b0 ty ad av lay (d + 1) 0 mX2_begin [aR 96, aR 54] σ (fun r σ' => r = [] ∧ (∀ i, i ≠ 96 → i ≠ 97 → σ' i = σ i) ∧ LK σ' N P (kwN t)) (fun _ _ => False) := by
  refine yMet_intro lay_nd kX2_begin xX2_ok (yY2_ok _) (by decide +kernel) rfl ?_
  intro K hK
  have hN := hM.1.1.1.1
  have hP := hM.1.1.2.2.2.1.2
  iterate 3 refine hK _ _ _ _ _ ?_
  show K _ _ _ _ _
  rw [show σ 54 0 1 = nI P from hC.2.1]
  iterate 5 refine hK _ _ _ _ _ ?_
  show K _ _ _ _ _
  rw [sUp_off (by decide), show σ 55 0 0 = nI N from hC.1]
  refine hK _ _ _ _ _ ?_
  refine calD (c8_allBits _ _ _) ?_
  rintro r σ' ⟨rfl, rfl⟩
  show K 0 19 [some (aR 96), some (aR 54)] [aI (1 <<< (nI N &&& 31) - 1), aR 96] (sUp σ 96 0 0 (nI P))
  rw [all_nI hN]
  iterate 9 refine hK _ _ _ _ _ ?_
  refine ⟨63, 0, 10, 97, 0, 10, 0, 0, 10, ⟨rfl, rfl, rfl⟩, ⟨rfl, rfl, rfl⟩, rfl, rfl, rfl, by decide, by decide, by decide, by decide, ?_⟩
  refine hK _ _ _ _ _ ?_
  refine ⟨rfl, fun i h1 h2 => by rw [sRow_off h2, sUp_off h1, sUp_off h1], by rw [sRow_off (by decide), sUp_k (by decide), sUp_at], by rw [sRow_off (by decide), sUp_at], fun p hp => ?_⟩
  rw [sRow_at, cpy_at (by omega), sUp_off (by decide), sUp_off (by decide), (hC.2.2.2.2.2.2.1 p hp).2.2.2.2]
  exact (kw_at hM hp).1
theorem c8_learn_54_x0 (d : Nat) (σ t : sMem) (N P S G : Nat) (h : HR σ t 54 N P S G) (x : Int32) (h0 : ¬ (0 ≤ x ∧ x ≤ 99)) : yMet l D0 b0 ty ad av lay (d + 7) 1 mX8_learn [aR 34, aI (x)] σ (fun _ _ => False) (fun e σ' => e = yIAE ∧ σ' = σ) := by
  refine yMet_intro lay_nd kX8_learn xX8_ok (yYX8_learn_ok) (by decide +kernel) rfl ?_
  intro K hK
  iterate 2 refine hK _ _ _ _ _ ?_
  refine And.intro (fun h9 => ?_) (fun h9 => ?_)
  · refine hK _ _ _ _ _ ?_
    exact ⟨0, rfl, rfl, rfl⟩
  · iterate 3 refine hK _ _ _ _ _ ?_
    refine And.intro (fun h8 => absurd ⟨Int32.not_lt.mp h9, h8⟩ h0) (fun _ => ?_)
    refine hK _ _ _ _ _ ?_
    exact ⟨0, rfl, rfl, rfl⟩
theorem c8_learn_54_ok (d : Nat) (σ t : sMem) (N P S G : Nat) (h : HR σ t 54 N P S G) (n : Nat) (hn : n ≤ 99) : yMet l D0 b0 ty ad av lay (d + 7) 0 mX8_learn [aR 34, aI (nI n)] σ (fun r σ' => r = [aI (nI (smK (lnI N P (kwN t) n) P))] ∧ ∀ i, i < 96 ∨ 98 < i → σ' i = σ i) (fun _ _ => False) := by
  refine yMet_intro lay_nd kX8_learn xX8_ok (yYX8_learn_ok) (by decide +kernel) rfl ?_
  intro K hK
  have hN := h.2.2.1.1.1.1.1
  have hP := h.2.2.1.1.1.2.2.2.1.2
  have hS8 := h.2.2.1.1.1.2.2.2.2.1.2
  have hkw : ∀ q, q < P → kwN t q < 2 ^ N := fun q hq => (kw_at h.2.2.1 hq).2
  iterate 2 refine hK _ _ _ _ _ ?_
  refine And.intro (fun h9 => absurd h9 (nI_pos (by omega))) (fun _ => ?_)
  iterate 3 refine hK _ _ _ _ _ ?_
  refine And.intro (fun _ => ?_) (fun h9 => absurd ((nI_leI (b := 99) (by omega) (by decide)).mpr hn) h9)
  iterate 4 refine hK _ _ _ _ _ ?_
  show K _ _ _ _ _
  rw [show σ 34 0 3 = nI 54 from h.1]
  show K _ _ _ _ _
  rw [show (nI 54).toNatClampNeg = 54 from rfl]
  refine hK _ _ _ _ _ ?_
  refine Or.inr (Or.inl (yD0 (c2_begin_54 _ σ t N P S G h.2.1 h.2.2.1) ?_))
  rintro r μ0 ⟨rfl, hf0, hk0⟩
  show K 0 32 [some (aR 34), some (aI (nI n)), none] [] μ0
  iterate 2 refine hK _ _ _ _ _ ?_
  have L34 : ∀ (f : Nat) (k : Nat) (μ : sMem), k + f = n → (∀ i, i < 96 ∨ 98 < i → μ i = σ i) → LK μ N P (lnI N P (kwN t) k) → K 0 34 [some (aR 34), some (aI (nI n)), some (aI (nI k))] [] μ := by
    intro f
    induction f with
    | zero =>
      intro k μ hk9 hf hk
      iterate 3 refine hK _ _ _ _ _ ?_
      refine And.intro (fun _ => ?_) (fun h9 => absurd ((nI_leI (by omega) (by omega)).mpr (by omega)) h9)
      iterate 3 refine hK _ _ _ _ _ ?_
      refine Or.inl (calD (c2_knownTogether _ μ N P _ hN hP (fun q hq => lnI_lt hN hkw k q hq) hk) ?_)
      rintro r σ' ⟨rfl, hσ⟩
      subst σ'
      show K 0 60 [some (aR 34), some (aI (nI n)), some (aI (nI k))] [aI (nI (smK (lnI N P (kwN t) k) P))] μ
      refine hK _ _ _ _ _ ?_
      exact ⟨by rw [show k = n by omega], hf⟩
    | succ f ih =>
      intro k μ hk9 hf hk
      iterate 3 refine hK _ _ _ _ _ ?_
      refine And.intro (fun h9 => absurd ((nI_leI (by omega) (by omega)).mp h9) (by omega)) (fun _ => ?_)
      iterate 3 refine hK _ _ _ _ _ ?_
      refine Or.inr (Or.inl (yD0 (c2_goOneDay _ μ N P _ hN hP (fun q hq => lnI_lt hN hkw k q hq) hk) ?_))
      rintro r ν ⟨rfl, hfν, hkν⟩
      show K 0 46 [some (aR 34), some (aI (nI n)), some (aI (nI k))] [aI (bI (lnD N P (lnI N P (kwN t) k)).2.2)] ν
      iterate 2 refine hK _ _ _ _ _ ?_
      show K _ _ _ _ _
      rw [show nI k + Int32.ofInt 1 = nI (k + 1) from nIs _]
      refine hK _ _ _ _ _ ?_
      exact ih (k + 1) ν (by omega) (fun i hi => (hfν i (by omega) (by omega)).trans (hf i hi)) hkν
  exact L34 n 0 μ0 (by omega) (fun i hi => hf0 i (by omega) (by omega)) hk0
theorem c8_soon_54 (d : Nat) (σ t : sMem) (N P S G : Nat) (h : HR σ t 54 N P S G) : yMet l D0 b0 ty ad av lay (d + 7) 0 mX8_soon [aR 34] σ (fun r σ' => r = [aI (soF N P 120 0 (kwN t))] ∧ ∀ i, i < 96 ∨ 98 < i → σ' i = σ i) (fun _ _ => False) := by
  refine yMet_intro lay_nd kX8_soon xX8_ok (yY8_ok _) (by decide +kernel) rfl ?_
  intro K hK
  have hN := h.2.2.1.1.1.1.1
  have hP := h.2.2.1.1.1.2.2.2.1.2
  have hS8 := h.2.2.1.1.1.2.2.2.2.1.2
  have hkw : ∀ q, q < P → kwN t q < 2 ^ N := fun q hq => (kw_at h.2.2.1 hq).2
  generalize hZ0 : soF N P 120 0 (kwN t) = Z at hK
  iterate 4 refine hK _ _ _ _ _ ?_
  show K _ _ _ _ _
  rw [show σ 34 0 3 = nI 54 from h.1]
  show K _ _ _ _ _
  rw [show (nI 54).toNatClampNeg = 54 from rfl]
  refine hK _ _ _ _ _ ?_
  refine Or.inr (Or.inl (yD0 (c2_begin_54 _ σ t N P S G h.2.1 h.2.2.1) ?_))
  rintro r μ0 ⟨rfl, hf0, hk0⟩
  show K 0 11 [some (aR 34), none] [] μ0
  iterate 2 refine hK _ _ _ _ _ ?_
  have L13 : ∀ (f : Nat) (k : Nat) (Q : Nat → Nat) (μ : sMem), k + f = 120 → msK N Q P ≤ f → (∀ q, q < P → Q q < 2 ^ N) → (∀ i, i < 96 ∨ 98 < i → μ i = σ i) → LK μ N P Q → soF N P f k Q = Z → K 0 13 [some (aR 34), some (aI (nI k))] [] μ := by
    intro f
    induction f with
    | zero =>
      intro k Q μ hk9 hms0 hQ hf hk hz9
      have hal : akB Q N P 0 = true := (akB_at P 0).mpr (fun q _ hq => msK_0 hN hQ P (Nat.le_refl _) (by omega) q (by omega))
      have hz9 : (if akB Q N P 0 = true then nI k else -1) = Z := hz9
      rw [if_pos hal] at hz9
      iterate 3 refine hK _ _ _ _ _ ?_
      refine And.intro (fun h9 => absurd ((nI_ltI (a := 120) (by decide) (by omega)).mp h9) (by omega)) (fun _ => ?_)
      iterate 3 refine hK _ _ _ _ _ ?_
      refine Or.inl (calD (c2_allKnowAll _ μ N P Q hN hP hQ hk) ?_)
      rintro r σ' ⟨rfl, hσ⟩
      subst σ'
      show K 0 26 [some (aR 34), some (aI (nI k))] [aI (bI (akB Q N P 0))] μ
      refine hK _ _ _ _ _ ?_
      refine And.intro (fun h9 => absurd h9 (by rw [hal]; decide)) (fun _ => ?_)
      iterate 2 refine hK _ _ _ _ _ ?_
      exact ⟨by rw [hz9], hf⟩
    | succ f ih =>
      intro k Q μ hk9 hms0 hQ hf hk hz9
      have hz9 : (if akB Q N P 0 = true then nI k else if (lnD N P Q).2.2 = true then soF N P f (k + 1) (lnD N P Q).1 else -1) = Z := hz9
      iterate 3 refine hK _ _ _ _ _ ?_
      refine And.intro (fun h9 => absurd ((nI_ltI (a := 120) (by decide) (by omega)).mp h9) (by omega)) (fun _ => ?_)
      iterate 3 refine hK _ _ _ _ _ ?_
      refine Or.inl (calD (c2_allKnowAll _ μ N P Q hN hP hQ hk) ?_)
      rintro r σ' ⟨rfl, hσ⟩
      subst σ'
      show K 0 26 [some (aR 34), some (aI (nI k))] [aI (bI (akB Q N P 0))] μ
      refine hK _ _ _ _ _ ?_
      refine And.intro (fun h8 => ?_) (fun h8 => ?_)
      · have c1 := bI_f h8
        rw [if_neg (by rw [c1]; decide)] at hz9
        iterate 3 refine hK _ _ _ _ _ ?_
        refine Or.inr (Or.inl (yD0 (c2_goOneDay _ μ N P Q hN hP hQ hk) ?_))
        rintro r ν ⟨rfl, hfν, hkν⟩
        show K 0 38 [some (aR 34), some (aI (nI k))] [aI (bI (lnD N P Q).2.2)] ν
        refine hK _ _ _ _ _ ?_
        refine And.intro (fun h7 => ?_) (fun h7 => ?_)
        · have c2 := bI_t h7
          rw [if_pos c2] at hz9
          have hms := lnD_ms hN hQ c2
          refine hK _ _ _ _ _ ?_
          show K _ _ _ _ _
          rw [show nI k + Int32.ofInt 1 = nI (k + 1) from nIs _]
          refine hK _ _ _ _ _ ?_
          exact ih (k + 1) (lnD N P Q).1 ν (by omega) (by omega) (fun q hq => ((lnD_inv hN hQ P (Nat.le_refl _)).2.1 q hq).1) (fun i hi => (hfν i (by omega) (by omega)).trans (hf i hi)) hkν hz9
        · have c2 := bI_f h7
          rw [if_neg (by rw [c2]; decide)] at hz9
          iterate 2 refine hK _ _ _ _ _ ?_
          exact ⟨by rw [← hz9]; rfl, fun i hi => (hfν i (by omega) (by omega)).trans (hf i hi)⟩
      · have c1 := bI_t h8
        rw [if_pos c1] at hz9
        iterate 2 refine hK _ _ _ _ _ ?_
        exact ⟨by rw [hz9], hf⟩
  exact L13 120 0 (kwN t) μ0 (by omega) (Nat.le_trans (msK_N N (kwN t) P) (Nat.mul_le_mul hP hN)) hkw (fun i hi => hf0 i (by omega) (by omega)) hk0 hZ0
end
