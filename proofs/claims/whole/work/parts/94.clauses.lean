/-! THE CLASS: Reader, clause by clause -/
theorem CSR.ite {σ ρ : sMem} {n : Nat} {c : Prop} [Decidable c] {i j k : Nat} {v : Int32} (h : CSR σ ρ n) (h0 : i ≠ 0) (h1 : i ≠ 1) : CSR σ (if c then sUp ρ i j k v else ρ) n := by
  split
  · exact h.up i j k v h0 h1
  · exact h
def CLP (w n : Nat) (σ ρ' σ' : sMem) : Prop := (∀ i, i ≠ 74 → (i < w ∨ w + 18 ≤ i) → σ' i = σ i) ∧ CSR σ' ρ' n ∧ (ρ' 0 0 5 = 0 → TWR σ' ρ' w ∧ ∃ N P S G Q, RVN ρ' N P S G Q)
section
variable {l : Launch} {D0 : va_G} {b0 : Nat} {ty : Nat → ClassId} {ad av : Nat → Nat}
theorem c6_addStreet_36 (d : Nat) (σ : sMem) (Q a b m : Nat) (hQ : σ 37 0 1 = nI Q) (ha : a < 12) (hb9 : b < 12) : yMet l D0 b0 ty ad av lay (d + 1) 0 mX6_addStreet [aR 37, aI (nI a), aI (nI b), aI (nI m)] σ (fun r σ' => r = [] ∧ σ' = sUp (sUp (sUp σ 37 0 1 (nI (Q + 1))) 38 a b (mnI (σ 38 a b) (nI m))) 38 b a (mnI (σ 38 a b) (nI m))) (fun _ _ => False) := by
  refine yMet_intro lay_nd kX6_addStreet xX6_ok (yY6_ok _) (by decide +kernel) rfl ?_
  intro K hK
  iterate 3 refine hK _ _ _ _ _ ?_
  show K _ _ _ _ _
  rw [show σ 37 0 1 = nI Q from hQ]
  iterate 2 refine hK _ _ _ _ _ ?_
  show K _ _ _ _ _
  rw [show nI Q + Int32.ofInt 1 = nI (Q + 1) from nIs _]
  iterate 5 refine hK _ _ _ _ _ ?_
  refine And.intro (vp_in_nI (n := a) (by omega) (by decide)) ?_
  rw [nI_clamp (show a < 2 ^ 31 by omega)]
  iterate 5 refine hK _ _ _ _ _ ?_
  refine And.intro (vp_in_nI (n := a) (by omega) (by decide)) ?_
  rw [nI_clamp (show a < 2 ^ 31 by omega)]
  iterate 2 refine hK _ _ _ _ _ ?_
  refine And.intro (by first | omega | (rw [nI_clamp (by omega)]; omega)) (And.intro (vp_in_nI (n := b) (by omega) (by decide)) ?_)
  rw [nI_clamp (show b < 2 ^ 31 by omega)]
  rw [sUp_off (by decide)]
  iterate 3 refine hK _ _ _ _ _ ?_
  refine And.intro (by first | omega | (rw [nI_clamp (by omega)]; omega)) (And.intro (vp_in_nI (n := b) (by omega) (by decide)) ?_)
  rw [nI_clamp (show b < 2 ^ 31 by omega)]
  iterate 4 refine hK _ _ _ _ _ ?_
  refine And.intro (vp_in_nI (n := b) (by omega) (by decide)) ?_
  rw [nI_clamp (show b < 2 ^ 31 by omega)]
  iterate 5 refine hK _ _ _ _ _ ?_
  refine And.intro (vp_in_nI (n := a) (by omega) (by decide)) ?_
  rw [nI_clamp (show a < 2 ^ 31 by omega)]
  iterate 2 refine hK _ _ _ _ _ ?_
  refine And.intro (by first | omega | (rw [nI_clamp (by omega)]; omega)) (And.intro (vp_in_nI (n := b) (by omega) (by decide)) ?_)
  rw [nI_clamp (show b < 2 ^ 31 by omega)]
  rw [sUp_at]
  refine hK _ _ _ _ _ ?_
  refine And.intro (by first | omega | (rw [nI_clamp (by omega)]; omega)) (And.intro (vp_in_nI (n := a) (by omega) (by decide)) ?_)
  rw [nI_clamp (show a < 2 ^ 31 by omega)]
  refine hK _ _ _ _ _ ?_
  exact ⟨rfl, rfl⟩
theorem c7_addPerson_36 (d : Nat) (σ : sMem) (N P a b m x : Nat) (hN : N ≤ 12) (h0 : σ 37 0 0 = nI N) (h1 : σ 36 0 1 = nI P) (hP : P < 10) : yMet l D0 b0 ty ad av lay (d + 1) 0 mX7_addPerson [aR 36, aI (nI a), aI (nI b), aI (nI m), aI (nI x)] σ (fun r σ' => r = [] ∧ σ' = (sUp (sUp (sUp (sUp (sUp (sUp σ 41 0 P (nI a)) 42 0 P (nI b)) 43 0 P (nI m)) 44 0 P (nI x)) 45 0 P (nI (2 ^ N - 1))) 36 0 1 (nI (P + 1)))) (fun _ _ => False) := by
  refine yMet_intro lay_nd kX7_addPerson xX7_ok (yY7_ok _) (by decide +kernel) rfl ?_
  intro K hK
  iterate 2 refine hK _ _ _ _ _ ?_
  show K _ _ _ _ _
  rw [show σ 36 0 1 = nI P from h1]
  iterate 2 refine hK _ _ _ _ _ ?_
  refine And.intro (fun _ => ?_) (fun h9 => absurd ((nI_ltI (b := 10) (by omega) (by decide)).mpr hP) h9)
  iterate 4 refine hK _ _ _ _ _ ?_
  show K _ _ _ _ _
  rw [show σ 36 0 1 = nI P from h1]
  iterate 2 refine hK _ _ _ _ _ ?_
  refine And.intro (vp_in_nI (n := P) (by omega) (by decide)) ?_
  rw [nI_clamp (show P < 2 ^ 31 by omega)]
  iterate 4 refine hK _ _ _ _ _ ?_
  show K _ _ _ _ _
  rw [sUp_off (by decide), show σ 36 0 1 = nI P from h1]
  iterate 2 refine hK _ _ _ _ _ ?_
  refine And.intro (vp_in_nI (n := P) (by omega) (by decide)) ?_
  rw [nI_clamp (show P < 2 ^ 31 by omega)]
  iterate 4 refine hK _ _ _ _ _ ?_
  show K _ _ _ _ _
  rw [sUp_off (by decide), sUp_off (by decide), show σ 36 0 1 = nI P from h1]
  iterate 2 refine hK _ _ _ _ _ ?_
  refine And.intro (vp_in_nI (n := P) (by omega) (by decide)) ?_
  rw [nI_clamp (show P < 2 ^ 31 by omega)]
  iterate 4 refine hK _ _ _ _ _ ?_
  show K _ _ _ _ _
  rw [sUp_off (by decide), sUp_off (by decide), sUp_off (by decide), show σ 36 0 1 = nI P from h1]
  iterate 2 refine hK _ _ _ _ _ ?_
  refine And.intro (vp_in_nI (n := P) (by omega) (by decide)) ?_
  rw [nI_clamp (show P < 2 ^ 31 by omega)]
  iterate 4 refine hK _ _ _ _ _ ?_
  show K _ _ _ _ _
  rw [sUp_off (by decide), sUp_off (by decide), sUp_off (by decide), sUp_off (by decide), show σ 36 0 1 = nI P from h1]
  iterate 3 refine hK _ _ _ _ _ ?_
  show K _ _ _ _ _
  rw [sUp_off (by decide), sUp_off (by decide), sUp_off (by decide), sUp_off (by decide), show σ 37 0 0 = nI N from h0]
  refine hK _ _ _ _ _ ?_
  refine calD (c8_allBits _ _ _) ?_
  rintro r σ' ⟨rfl, rfl⟩
  show K 0 69 [some (aR 36), some (aI (nI a)), some (aI (nI b)), some (aI (nI m)), some (aI (nI x))] [aI (1 <<< (nI N &&& 31) - 1), aI (nI P), aR 45] (sUp (sUp (sUp (sUp σ 41 0 P (nI a)) 42 0 P (nI b)) 43 0 P (nI m)) 44 0 P (nI x))
  rw [all_nI hN]
  refine hK _ _ _ _ _ ?_
  refine And.intro (vp_in_nI (n := P) (by omega) (by decide)) ?_
  rw [nI_clamp (show P < 2 ^ 31 by omega)]
  iterate 3 refine hK _ _ _ _ _ ?_
  show K _ _ _ _ _
  rw [sUp_off (by decide), sUp_off (by decide), sUp_off (by decide), sUp_off (by decide), sUp_off (by decide), show σ 36 0 1 = nI P from h1]
  iterate 2 refine hK _ _ _ _ _ ?_
  show K _ _ _ _ _
  rw [show nI P + Int32.ofInt 1 = nI (P + 1) from nIs _]
  iterate 2 refine hK _ _ _ _ _ ?_
  exact ⟨rfl, rfl⟩
theorem c7_addStranger_36 (d : Nat) (σ : sMem) (S a b m : Nat) (h1 : σ 36 0 7 = nI S) (hS : S < 8) : sMet l D0 b0 ty lay d mX7_addStranger [aR 36, aI (nI a), aI (nI b), aI (nI m)] σ (fun r σ' => r = [] ∧ σ' = (sUp (sUp (sUp (sUp (sUp (sUp σ 46 0 S (nI a)) 47 0 S (nI b)) 48 0 S (nI m)) 49 0 S (nI 8)) 50 0 S (nI 0)) 36 0 7 (nI (S + 1)))) := by
  refine sMet_intro lay_nd kX7_addStranger xX7_ok (by decide +kernel) rfl ?_
  intro K hK
  iterate 2 refine hK _ _ _ _ ?_
  show K _ _ _ _
  rw [show σ 36 0 7 = nI S from h1]
  iterate 2 refine hK _ _ _ _ ?_
  refine And.intro (fun _ => ?_) (fun h9 => absurd ((nI_ltI (b := 8) (by omega) (by decide)).mpr hS) h9)
  iterate 4 refine hK _ _ _ _ ?_
  show K _ _ _ _
  rw [show σ 36 0 7 = nI S from h1]
  iterate 2 refine hK _ _ _ _ ?_
  refine And.intro (vp_in_nI (n := S) (by omega) (by decide)) ?_
  rw [nI_clamp (show S < 2 ^ 31 by omega)]
  iterate 4 refine hK _ _ _ _ ?_
  show K _ _ _ _
  rw [sUp_off (by decide), show σ 36 0 7 = nI S from h1]
  iterate 2 refine hK _ _ _ _ ?_
  refine And.intro (vp_in_nI (n := S) (by omega) (by decide)) ?_
  rw [nI_clamp (show S < 2 ^ 31 by omega)]
  iterate 4 refine hK _ _ _ _ ?_
  show K _ _ _ _
  rw [sUp_off (by decide), sUp_off (by decide), show σ 36 0 7 = nI S from h1]
  iterate 2 refine hK _ _ _ _ ?_
  refine And.intro (vp_in_nI (n := S) (by omega) (by decide)) ?_
  rw [nI_clamp (show S < 2 ^ 31 by omega)]
  iterate 4 refine hK _ _ _ _ ?_
  show K _ _ _ _
  rw [sUp_off (by decide), sUp_off (by decide), sUp_off (by decide), show σ 36 0 7 = nI S from h1]
  iterate 2 refine hK _ _ _ _ ?_
  refine And.intro (vp_in_nI (n := S) (by omega) (by decide)) ?_
  rw [nI_clamp (show S < 2 ^ 31 by omega)]
  iterate 4 refine hK _ _ _ _ ?_
  show K _ _ _ _
  rw [sUp_off (by decide), sUp_off (by decide), sUp_off (by decide), sUp_off (by decide), show σ 36 0 7 = nI S from h1]
  iterate 2 refine hK _ _ _ _ ?_
  refine And.intro (vp_in_nI (n := S) (by omega) (by decide)) ?_
  rw [nI_clamp (show S < 2 ^ 31 by omega)]
  iterate 3 refine hK _ _ _ _ ?_
  show K _ _ _ _
  rw [sUp_off (by decide), sUp_off (by decide), sUp_off (by decide), sUp_off (by decide), sUp_off (by decide), show σ 36 0 7 = nI S from h1]
  iterate 2 refine hK _ _ _ _ ?_
  show K _ _ _ _
  rw [show nI S + Int32.ofInt 1 = nI (S + 1) from nIs _]
  iterate 2 refine hK _ _ _ _ ?_
  exact ⟨rfl, by rw [show (Int8.ofInt 8).toInt32 = nI 8 by decide]; rfl⟩
theorem c7_addGuide_36 (d : Nat) (σ : sMem) (G a b : Nat) (h1 : σ 36 0 13 = nI G) (hG : G < 4) : sMet l D0 b0 ty lay d mX7_addGuide [aR 36, aI (nI a), aI (nI b)] σ (fun r σ' => r = [] ∧ σ' = (sUp (sUp (sUp σ 51 0 G (nI a)) 52 0 G (nI b)) 36 0 13 (nI (G + 1)))) := by
  refine sMet_intro lay_nd kX7_addGuide xX7_ok (by decide +kernel) rfl ?_
  intro K hK
  iterate 2 refine hK _ _ _ _ ?_
  show K _ _ _ _
  rw [show σ 36 0 13 = nI G from h1]
  iterate 2 refine hK _ _ _ _ ?_
  refine And.intro (fun _ => ?_) (fun h9 => absurd ((nI_ltI (b := 4) (by omega) (by decide)).mpr hG) h9)
  iterate 4 refine hK _ _ _ _ ?_
  show K _ _ _ _
  rw [show σ 36 0 13 = nI G from h1]
  iterate 2 refine hK _ _ _ _ ?_
  refine And.intro (vp_in_nI (n := G) (by omega) (by decide)) ?_
  rw [nI_clamp (show G < 2 ^ 31 by omega)]
  iterate 4 refine hK _ _ _ _ ?_
  show K _ _ _ _
  rw [sUp_off (by decide), show σ 36 0 13 = nI G from h1]
  iterate 2 refine hK _ _ _ _ ?_
  refine And.intro (vp_in_nI (n := G) (by omega) (by decide)) ?_
  rw [nI_clamp (show G < 2 ^ 31 by omega)]
  iterate 3 refine hK _ _ _ _ ?_
  show K _ _ _ _
  rw [sUp_off (by decide), sUp_off (by decide), show σ 36 0 13 = nI G from h1]
  iterate 2 refine hK _ _ _ _ ?_
  show K _ _ _ _
  rw [show nI G + Int32.ofInt 1 = nI (G + 1) from nIs _]
  iterate 2 refine hK _ _ _ _ ?_
  exact ⟨rfl, rfl⟩
theorem c4_readPlaces_36 (d : Nat) (σ ρ : sMem) (n N P S G Q : Nat) (hC : CSR σ ρ n) (hW : TWR σ ρ 36) (hV : RVN ρ N P S G Q) (hf0 : ρ 0 0 5 = 0) (hV0 : RVN ρ N 0 0 0 0) (hz0 : ∀ x, x < 12 → ρ 11 0 x = 0) : yMet l D0 b0 ty ad av lay (d + 4) 0 mX4_readPlaces [aR 74, aR 36] σ (fun r σ' => r = [] ∧ CLP 36 n σ (clE (sUp (numM ρ 2 12 (-1)).2 2 0 0 (numM ρ 2 12 (-1)).1)) σ') (fun _ _ => False) := by
  refine yMet_intro lay_nd kX4_readPlaces xX4_ok (yY4_ok _) (by decide +kernel) rfl ?_
  intro K hK
  obtain ⟨hN2, hN12, hP10, hS8, hG4, hQ20⟩ := hV.1
  obtain ⟨t0, t1, t2, t3, t5, -⟩ := hV.2.1
  have c0 := hW.1.1.trans t0
  have c5 := hW.1.2.1.trans t5
  have c1 := hW.1.2.2.1.trans t1
  have c2 := hW.1.2.2.2.1.trans t2
  have c3 := hW.1.2.2.2.2.1.trans t3
  have h12 : 2 ^ N ≤ 2 ^ 12 := Nat.pow_le_pow_right (by decide) hN12
  iterate 4 refine hK _ _ _ _ _ ?_
  refine Or.inr (Or.inl (yD0 (c4_number _ σ ρ n 2 12 hC (by decide)) ?_))
  rintro r σ1 ⟨x1, rfl, hx1, g1, hC1⟩
  show K 0 7 [some (aR 74), some (aR 36), none] [aI (x1)] σ1
  have hv1 := numM_val ρ 2 12 (-1)
  have hi1 : ∀ i, i ≠ 0 → (numM ρ 2 12 (-1)).2 i = ρ i := fun i hi => numM_i _ _ _ _ i hi
  generalize numM ρ 2 12 (-1) = q1 at hx1 hC1 hv1 hi1 hK
  have c0_σ1 : σ1 37 0 0 = nI N := by rw [g1 37 (by decide)]; exact c0
  have c5_σ1 : σ1 37 0 1 = nI Q := by rw [g1 37 (by decide)]; exact c5
  have c1_σ1 : σ1 36 0 1 = nI P := by rw [g1 36 (by decide)]; exact c1
  have c2_σ1 : σ1 36 0 7 = nI S := by rw [g1 36 (by decide)]; exact c2
  have c3_σ1 : σ1 36 0 13 = nI G := by rw [g1 36 (by decide)]; exact c3
  iterate 3 refine hK _ _ _ _ _ ?_
  refine Or.inl (calD (c4_ends _ σ1 (sUp q1.2 2 0 0 (q1.1)) n (hC1.up 2 0 0 _ (by decide) (by decide))) ?_)
  rintro r τ ⟨rfl, gE, hCE⟩
  show K 0 12 [some (aR 74), some (aR 36), some (aI (x1))] [aI (bI (decide (clE (sUp q1.2 2 0 0 (q1.1)) 0 0 5 = 0)))] τ
  have gT : R74 σ τ := g1.tr gE
  generalize hrm : (sUp q1.2 2 0 0 (q1.1)) = ρm at hCE hK ⊢
  have c0_τ : τ 37 0 0 = nI N := by rw [gT 37 (by decide)]; exact c0
  have c5_τ : τ 37 0 1 = nI Q := by rw [gT 37 (by decide)]; exact c5
  have c1_τ : τ 36 0 1 = nI P := by rw [gT 36 (by decide)]; exact c1
  have c2_τ : τ 36 0 7 = nI S := by rw [gT 36 (by decide)]; exact c2
  have c3_τ : τ 36 0 13 = nI G := by rw [gT 36 (by decide)]; exact c3
  refine hK _ _ _ _ _ ?_
  refine And.intro (fun h9 => ?_) (fun h9 => ?_)
  · have hno := of_decide_eq_false (bI_f h9)
    refine hK _ _ _ _ _ ?_
    exact ⟨rfl, fun i h1 _ => gT i h1, hCE, fun q => absurd q hno⟩
  · have hok := of_decide_eq_true (bI_t h9)
    have z0 := clE_ok hok
    rw [← hrm] at z0
    have z1 : q1.2 0 0 5 = 0 := by rw [sUp_off (by decide)] at z0; exact z0
    obtain ⟨y1, r1, d1⟩ := hv1.1 z1
    have ex1 := hx1 z1
    obtain ⟨K, b1, b1', e1⟩ : ∃ k : Nat, 2 ≤ k ∧ k ≤ 12 ∧ q1.1 = nI k := nI_rng (lo := 2) (hi := 12) r1.1 r1.2 (by decide) (by decide)
    rw [e1] at ex1
    subst ex1
    iterate 5 refine hK _ _ _ _ _ ?_
    refine ⟨rfl, fun i h1 h2 => ?_, hCE.cg ?_ ?_, fun _ => ?_⟩
    · rw [sUp_off (by omega)]; exact gT i h1
    · rw [sUp_off (by decide)]
    · rw [sUp_off (by decide)]
    have hrow : ∀ i, i ≠ 0 → clE ρm i = (sUp ρ 2 0 0 (nI K)) i := fun i hi => by
      rw [clE_i _ _ hi, ← hrm]
      exact sUp_cgi (hi1 i hi) e1
    exact ⟨(TWR_places (K := K) (hW.cg (fun i h1 h2 => gT i (by omega)) (fun _ _ => rfl)) (by omega)).cg (fun _ _ _ => rfl) (fun i hi => hrow i (by omega)), K, 0, 0, 0, 0, (RVN_places (K := K) hV0 (by omega) (by omega) hz0).cg (fun i hi => hrow i (by omega))⟩
theorem c4_readLaw_36 (d : Nat) (σ ρ : sMem) (n N P S G Q : Nat) (hC : CSR σ ρ n) (hW : TWR σ ρ 36) (hV : RVN ρ N P S G Q) (hf0 : ρ 0 0 5 = 0) : yMet l D0 b0 ty ad av lay (d + 4) 0 mX4_readLaw [aR 74, aR 36] σ (fun r σ' => r = [] ∧ CLP 36 n σ (clE (sUp (numM ρ 0 9 (-1)).2 2 0 4 (numM ρ 0 9 (-1)).1)) σ') (fun _ _ => False) := by
  refine yMet_intro lay_nd kX4_readLaw xX4_ok (yY4_ok _) (by decide +kernel) rfl ?_
  intro K hK
  obtain ⟨hN2, hN12, hP10, hS8, hG4, hQ20⟩ := hV.1
  obtain ⟨t0, t1, t2, t3, t5, -⟩ := hV.2.1
  have c0 := hW.1.1.trans t0
  have c5 := hW.1.2.1.trans t5
  have c1 := hW.1.2.2.1.trans t1
  have c2 := hW.1.2.2.2.1.trans t2
  have c3 := hW.1.2.2.2.2.1.trans t3
  have h12 : 2 ^ N ≤ 2 ^ 12 := Nat.pow_le_pow_right (by decide) hN12
  iterate 4 refine hK _ _ _ _ _ ?_
  refine Or.inr (Or.inl (yD0 (c4_number _ σ ρ n 0 9 hC (by decide)) ?_))
  rintro r σ1 ⟨x1, rfl, hx1, g1, hC1⟩
  show K 0 7 [some (aR 74), some (aR 36), none] [aI (x1)] σ1
  have hv1 := numM_val ρ 0 9 (-1)
  have hi1 : ∀ i, i ≠ 0 → (numM ρ 0 9 (-1)).2 i = ρ i := fun i hi => numM_i _ _ _ _ i hi
  generalize numM ρ 0 9 (-1) = q1 at hx1 hC1 hv1 hi1 hK
  have c0_σ1 : σ1 37 0 0 = nI N := by rw [g1 37 (by decide)]; exact c0
  have c5_σ1 : σ1 37 0 1 = nI Q := by rw [g1 37 (by decide)]; exact c5
  have c1_σ1 : σ1 36 0 1 = nI P := by rw [g1 36 (by decide)]; exact c1
  have c2_σ1 : σ1 36 0 7 = nI S := by rw [g1 36 (by decide)]; exact c2
  have c3_σ1 : σ1 36 0 13 = nI G := by rw [g1 36 (by decide)]; exact c3
  iterate 3 refine hK _ _ _ _ _ ?_
  refine Or.inl (calD (c4_ends _ σ1 (sUp q1.2 2 0 4 (q1.1)) n (hC1.up 2 0 4 _ (by decide) (by decide))) ?_)
  rintro r τ ⟨rfl, gE, hCE⟩
  show K 0 12 [some (aR 74), some (aR 36), some (aI (x1))] [aI (bI (decide (clE (sUp q1.2 2 0 4 (q1.1)) 0 0 5 = 0)))] τ
  have gT : R74 σ τ := g1.tr gE
  generalize hrm : (sUp q1.2 2 0 4 (q1.1)) = ρm at hCE hK ⊢
  have c0_τ : τ 37 0 0 = nI N := by rw [gT 37 (by decide)]; exact c0
  have c5_τ : τ 37 0 1 = nI Q := by rw [gT 37 (by decide)]; exact c5
  have c1_τ : τ 36 0 1 = nI P := by rw [gT 36 (by decide)]; exact c1
  have c2_τ : τ 36 0 7 = nI S := by rw [gT 36 (by decide)]; exact c2
  have c3_τ : τ 36 0 13 = nI G := by rw [gT 36 (by decide)]; exact c3
  refine hK _ _ _ _ _ ?_
  refine And.intro (fun h9 => ?_) (fun h9 => ?_)
  · have hno := of_decide_eq_false (bI_f h9)
    refine hK _ _ _ _ _ ?_
    exact ⟨rfl, fun i h1 _ => gT i h1, hCE, fun q => absurd q hno⟩
  · have hok := of_decide_eq_true (bI_t h9)
    have z0 := clE_ok hok
    rw [← hrm] at z0
    have z1 : q1.2 0 0 5 = 0 := by rw [sUp_off (by decide)] at z0; exact z0
    obtain ⟨y1, r1, d1⟩ := hv1.1 z1
    have ex1 := hx1 z1
    obtain ⟨K, b1, b1', e1⟩ : ∃ k : Nat, 0 ≤ k ∧ k ≤ 9 ∧ q1.1 = nI k := nI_rng (lo := 0) (hi := 9) r1.1 r1.2 (by decide) (by decide)
    rw [e1] at ex1
    subst ex1
    iterate 4 refine hK _ _ _ _ _ ?_
    refine ⟨rfl, fun i h1 h2 => ?_, hCE.cg ?_ ?_, fun _ => ?_⟩
    · rw [sUp_off (by omega)]; exact gT i h1
    · rw [sUp_off (by decide)]
    · rw [sUp_off (by decide)]
    have hrow : ∀ i, i ≠ 0 → clE ρm i = (sUp ρ 2 0 4 (nI K)) i := fun i hi => by
      rw [clE_i _ _ hi, ← hrm]
      exact sUp_cgi (hi1 i hi) e1
    exact ⟨(TWR_law (K := K) (hW.cg (fun i h1 h2 => gT i (by omega)) (fun _ _ => rfl)) (by omega)).cg (fun _ _ _ => rfl) (fun i hi => hrow i (by omega)), N, P, S, G, Q, (RVN_law (K := K) hV (by omega)).cg (fun i hi => hrow i (by omega))⟩
theorem c4_readStreet_36 (d : Nat) (σ ρ : sMem) (n N P S G Q : Nat) (hC : CSR σ ρ n) (hW : TWR σ ρ 36) (hV : RVN ρ N P S G Q) (hf0 : ρ 0 0 5 = 0) (hQl : Q < 20) : yMet l D0 b0 ty ad av lay (d + 4) 0 mX4_readStreet [aR 74, aR 36] σ (fun r σ' => r = [] ∧ CLP 36 n σ (clE (sUp (sUp (numM (sUp (numM (sUp (numM ρ 0 (nI N - 1) (-1)).2 4 Q 0 (numM ρ 0 (nI N - 1) (-1)).1) 0 (nI N - 1) ((sUp (numM ρ 0 (nI N - 1) (-1)).2 4 Q 0 (numM ρ 0 (nI N - 1) (-1)).1) 4 Q 0)).2 4 Q 1 (numM (sUp (numM ρ 0 (nI N - 1) (-1)).2 4 Q 0 (numM ρ 0 (nI N - 1) (-1)).1) 0 (nI N - 1) ((sUp (numM ρ 0 (nI N - 1) (-1)).2 4 Q 0 (numM ρ 0 (nI N - 1) (-1)).1) 4 Q 0)).1) 1 60 (-1)).2 4 Q 2 (numM (sUp (numM (sUp (numM ρ 0 (nI N - 1) (-1)).2 4 Q 0 (numM ρ 0 (nI N - 1) (-1)).1) 0 (nI N - 1) ((sUp (numM ρ 0 (nI N - 1) (-1)).2 4 Q 0 (numM ρ 0 (nI N - 1) (-1)).1) 4 Q 0)).2 4 Q 1 (numM (sUp (numM ρ 0 (nI N - 1) (-1)).2 4 Q 0 (numM ρ 0 (nI N - 1) (-1)).1) 0 (nI N - 1) ((sUp (numM ρ 0 (nI N - 1) (-1)).2 4 Q 0 (numM ρ 0 (nI N - 1) (-1)).1) 4 Q 0)).1) 1 60 (-1)).1) 2 0 5 ((sUp (numM (sUp (numM (sUp (numM ρ 0 (nI N - 1) (-1)).2 4 Q 0 (numM ρ 0 (nI N - 1) (-1)).1) 0 (nI N - 1) ((sUp (numM ρ 0 (nI N - 1) (-1)).2 4 Q 0 (numM ρ 0 (nI N - 1) (-1)).1) 4 Q 0)).2 4 Q 1 (numM (sUp (numM ρ 0 (nI N - 1) (-1)).2 4 Q 0 (numM ρ 0 (nI N - 1) (-1)).1) 0 (nI N - 1) ((sUp (numM ρ 0 (nI N - 1) (-1)).2 4 Q 0 (numM ρ 0 (nI N - 1) (-1)).1) 4 Q 0)).1) 1 60 (-1)).2 4 Q 2 (numM (sUp (numM (sUp (numM ρ 0 (nI N - 1) (-1)).2 4 Q 0 (numM ρ 0 (nI N - 1) (-1)).1) 0 (nI N - 1) ((sUp (numM ρ 0 (nI N - 1) (-1)).2 4 Q 0 (numM ρ 0 (nI N - 1) (-1)).1) 4 Q 0)).2 4 Q 1 (numM (sUp (numM ρ 0 (nI N - 1) (-1)).2 4 Q 0 (numM ρ 0 (nI N - 1) (-1)).1) 0 (nI N - 1) ((sUp (numM ρ 0 (nI N - 1) (-1)).2 4 Q 0 (numM ρ 0 (nI N - 1) (-1)).1) 4 Q 0)).1) 1 60 (-1)).1) 2 0 5 + 1))) σ') (fun _ _ => False) := by
  refine yMet_intro lay_nd kX4_readStreet xX4_ok (yY4_ok _) (by decide +kernel) rfl ?_
  intro K hK
  obtain ⟨hN2, hN12, hP10, hS8, hG4, hQ20⟩ := hV.1
  obtain ⟨t0, t1, t2, t3, t5, -⟩ := hV.2.1
  have c0 := hW.1.1.trans t0
  have c5 := hW.1.2.1.trans t5
  have c1 := hW.1.2.2.1.trans t1
  have c2 := hW.1.2.2.2.1.trans t2
  have c3 := hW.1.2.2.2.2.1.trans t3
  have h12 : 2 ^ N ≤ 2 ^ 12 := Nat.pow_le_pow_right (by decide) hN12
  iterate 5 refine hK _ _ _ _ _ ?_
  show K _ _ _ _ _
  rw [show σ 37 0 0 = nI N from c0]
  iterate 3 refine hK _ _ _ _ _ ?_
  refine Or.inr (Or.inl (yD0 (c4_number _ σ ρ n 0 (nI N - 1) hC (by decide)) ?_))
  rintro r σ1 ⟨x1, rfl, hx1, g1, hC1⟩
  show K 0 14 [some (aR 74), some (aR 36), none, none, none] [aI (x1)] σ1
  have hv1 := numM_val ρ 0 (nI N - 1) (-1)
  have hi1 : ∀ i, i ≠ 0 → (numM ρ 0 (nI N - 1) (-1)).2 i = ρ i := fun i hi => numM_i _ _ _ _ i hi
  generalize numM ρ 0 (nI N - 1) (-1) = q1 at hx1 hC1 hv1 hi1 hK
  have c0_σ1 : σ1 37 0 0 = nI N := by rw [g1 37 (by decide)]; exact c0
  have c5_σ1 : σ1 37 0 1 = nI Q := by rw [g1 37 (by decide)]; exact c5
  have c1_σ1 : σ1 36 0 1 = nI P := by rw [g1 36 (by decide)]; exact c1
  have c2_σ1 : σ1 36 0 7 = nI S := by rw [g1 36 (by decide)]; exact c2
  have c3_σ1 : σ1 36 0 13 = nI G := by rw [g1 36 (by decide)]; exact c3
  iterate 6 refine hK _ _ _ _ _ ?_
  show K _ _ _ _ _
  rw [show σ1 37 0 0 = nI N from c0_σ1]
  iterate 3 refine hK _ _ _ _ _ ?_
  refine Or.inr (Or.inl (yD0 (c4_other _ σ1 (sUp q1.2 4 Q 0 (q1.1)) n x1 ((sUp q1.2 4 Q 0 (q1.1)) 4 Q 0) (nI N - 1) (hC1.up 4 Q 0 _ (by decide) (by decide)) (fun q => by rw [sUp_at]; exact hx1 (by rw [sUp_off (by decide)] at q; exact q))) ?_))
  rintro r σ2 ⟨x2, rfl, hx2, g2, hC2⟩
  show K 0 29 [some (aR 74), some (aR 36), some (aI (x1)), none, none] [aI (x2)] σ2
  have hv2 := numM_val (sUp q1.2 4 Q 0 (q1.1)) 0 (nI N - 1) ((sUp q1.2 4 Q 0 (q1.1)) 4 Q 0)
  have hi2 : ∀ i, i ≠ 0 → (numM (sUp q1.2 4 Q 0 (q1.1)) 0 (nI N - 1) ((sUp q1.2 4 Q 0 (q1.1)) 4 Q 0)).2 i = (sUp q1.2 4 Q 0 (q1.1)) i := fun i hi => numM_i _ _ _ _ i hi
  generalize numM (sUp q1.2 4 Q 0 (q1.1)) 0 (nI N - 1) ((sUp q1.2 4 Q 0 (q1.1)) 4 Q 0) = q2 at hx2 hC2 hv2 hi2 hK
  have gg2 : R74 σ σ2 := g1.tr g2
  have c0_σ2 : σ2 37 0 0 = nI N := by rw [gg2 37 (by decide)]; exact c0
  have c5_σ2 : σ2 37 0 1 = nI Q := by rw [gg2 37 (by decide)]; exact c5
  have c1_σ2 : σ2 36 0 1 = nI P := by rw [gg2 36 (by decide)]; exact c1
  have c2_σ2 : σ2 36 0 7 = nI S := by rw [gg2 36 (by decide)]; exact c2
  have c3_σ2 : σ2 36 0 13 = nI G := by rw [gg2 36 (by decide)]; exact c3
  iterate 5 refine hK _ _ _ _ _ ?_
  refine Or.inr (Or.inl (yD0 (c4_number _ σ2 (sUp q2.2 4 Q 1 (q2.1)) n 1 60 (hC2.up 4 Q 1 _ (by decide) (by decide)) (by decide)) ?_))
  rintro r σ3 ⟨x3, rfl, hx3, g3, hC3⟩
  show K 0 37 [some (aR 74), some (aR 36), some (aI (x1)), some (aI (x2)), none] [aI (x3)] σ3
  have hv3 := numM_val (sUp q2.2 4 Q 1 (q2.1)) 1 60 (-1)
  have hi3 : ∀ i, i ≠ 0 → (numM (sUp q2.2 4 Q 1 (q2.1)) 1 60 (-1)).2 i = (sUp q2.2 4 Q 1 (q2.1)) i := fun i hi => numM_i _ _ _ _ i hi
  generalize numM (sUp q2.2 4 Q 1 (q2.1)) 1 60 (-1) = q3 at hx3 hC3 hv3 hi3 hK
  have gg3 : R74 σ σ3 := gg2.tr g3
  have c0_σ3 : σ3 37 0 0 = nI N := by rw [gg3 37 (by decide)]; exact c0
  have c5_σ3 : σ3 37 0 1 = nI Q := by rw [gg3 37 (by decide)]; exact c5
  have c1_σ3 : σ3 36 0 1 = nI P := by rw [gg3 36 (by decide)]; exact c1
  have c2_σ3 : σ3 36 0 7 = nI S := by rw [gg3 36 (by decide)]; exact c2
  have c3_σ3 : σ3 36 0 13 = nI G := by rw [gg3 36 (by decide)]; exact c3
  iterate 3 refine hK _ _ _ _ _ ?_
  refine Or.inl (calD (c4_ends _ σ3 (sUp (sUp q3.2 4 Q 2 (q3.1)) 2 0 5 ((sUp q3.2 4 Q 2 (q3.1)) 2 0 5 + 1)) n ((hC3.up 4 Q 2 _ (by decide) (by decide)).up 2 0 5 _ (by decide) (by decide))) ?_)
  rintro r τ ⟨rfl, gE, hCE⟩
  show K 0 43 [some (aR 74), some (aR 36), some (aI (x1)), some (aI (x2)), some (aI (x3))] [aI (bI (decide (clE (sUp (sUp q3.2 4 Q 2 (q3.1)) 2 0 5 ((sUp q3.2 4 Q 2 (q3.1)) 2 0 5 + 1)) 0 0 5 = 0)))] τ
  have gT : R74 σ τ := gg3.tr gE
  generalize hrm : (sUp (sUp q3.2 4 Q 2 (q3.1)) 2 0 5 ((sUp q3.2 4 Q 2 (q3.1)) 2 0 5 + 1)) = ρm at hCE hK ⊢
  have c0_τ : τ 37 0 0 = nI N := by rw [gT 37 (by decide)]; exact c0
  have c5_τ : τ 37 0 1 = nI Q := by rw [gT 37 (by decide)]; exact c5
  have c1_τ : τ 36 0 1 = nI P := by rw [gT 36 (by decide)]; exact c1
  have c2_τ : τ 36 0 7 = nI S := by rw [gT 36 (by decide)]; exact c2
  have c3_τ : τ 36 0 13 = nI G := by rw [gT 36 (by decide)]; exact c3
  refine hK _ _ _ _ _ ?_
  refine And.intro (fun h9 => ?_) (fun h9 => ?_)
  · have hno := of_decide_eq_false (bI_f h9)
    refine hK _ _ _ _ _ ?_
    exact ⟨rfl, fun i h1 _ => gT i h1, hCE, fun q => absurd q hno⟩
  · have hok := of_decide_eq_true (bI_t h9)
    have z0 := clE_ok hok
    rw [← hrm] at z0
    have z3 : q3.2 0 0 5 = 0 := by rw [sUp_off (by decide), sUp_off (by decide)] at z0; exact z0
    obtain ⟨y3, r3, d3⟩ := hv3.1 z3
    have ex3 := hx3 z3
    rw [sUp_off (by decide)] at y3
    have z2 := y3
    obtain ⟨y2, r2, d2⟩ := hv2.1 z2
    have ex2 := hx2 z2
    rw [sUp_off (by decide)] at y2
    have z1 := y2
    obtain ⟨y1, r1, d1⟩ := hv1.1 z1
    have ex1 := hx1 z1
    obtain ⟨a, b1, e1⟩ := inN r1 (by omega)
    rw [e1] at ex1
    subst ex1
    obtain ⟨b, b2, e2⟩ := inN r2 (by omega)
    rw [e2] at ex2
    subst ex2
    obtain ⟨m, b3, b3', e3⟩ : ∃ k : Nat, 1 ≤ k ∧ k ≤ 60 ∧ q3.1 = nI k := nI_rng (lo := 1) (hi := 60) r3.1 r3.2 (by decide) (by decide)
    rw [e3] at ex3
    subst ex3
    iterate 6 refine hK _ _ _ _ _ ?_
    refine Or.inr (Or.inl (yD0 (c6_addStreet_36 _ τ Q a b m c5_τ (by omega) (by omega)) ?_))
    rintro r σ' ⟨rfl, rfl⟩
    show K 0 57 [some (aR 74), some (aR 36), some (aI (nI a)), some (aI (nI b)), some (aI (nI m))] [] (sUp (sUp (sUp τ 37 0 1 (nI (Q + 1))) 38 a b (mnI (τ 38 a b) (nI m))) 38 b a (mnI (τ 38 a b) (nI m)))
    refine hK _ _ _ _ _ ?_
    have hab : a ≠ b := fun e => d2 (by rw [sUp_at, e2, e1, e])
    refine ⟨rfl, fun i h1 h2 => ?_, hCE.cg ?_ ?_, fun _ => ?_⟩
    · rw [sUp_off (by omega), sUp_off (by omega), sUp_off (by omega)]; exact gT i h1
    · rw [sUp_off (by decide), sUp_off (by decide), sUp_off (by decide)]
    · rw [sUp_off (by decide), sUp_off (by decide), sUp_off (by decide)]
    have hrow : ∀ i, i ≠ 0 → clE ρm i = (sUp (sUp (sUp (sUp ρ 4 Q 0 (nI a)) 4 Q 1 (nI b)) 4 Q 2 (nI m)) 2 0 5 (nI (Q + 1))) i := fun i hi => by
      rw [clE_i _ _ hi, ← hrm]
      refine sUp_cgi (sUp_cgi ((hi3 i hi).trans (sUp_cgi ((hi2 i hi).trans (sUp_cgi (hi1 i hi) e1)) e2)) e3) ?_
      rw [sUp_off (by decide), hi3 2 (by decide), sUp_off (by decide), hi2 2 (by decide), sUp_off (by decide), hi1 2 (by decide), t5]
      exact nIs Q
    exact ⟨(TWR_street (Q := Q) (a := a) (b := b) (m := m) (hW.cg (fun i h1 h2 => gT i (by omega)) (fun _ _ => rfl)) t5 (by omega) (by omega) (by omega)).cg (fun _ _ _ => rfl) (fun i hi => hrow i (by omega)), N, P, S, G, Q + 1, (RVN_street hV (by omega) b1 b2 hab (by omega) (by omega)).cg (fun i hi => hrow i (by omega))⟩
theorem c4_readPerson_36 (d : Nat) (σ ρ : sMem) (n N P S G Q : Nat) (hC : CSR σ ρ n) (hW : TWR σ ρ 36) (hV : RVN ρ N P S G Q) (hf0 : ρ 0 0 5 = 0) (hPl : P < 10) : yMet l D0 b0 ty ad av lay (d + 4) 0 mX4_readPerson [aR 74, aR 36] σ (fun r σ' => r = [] ∧ CLP 36 n σ (clE (sUp (sUp (sUp (numM (sUp (numM (sUp (numM (sUp (numM ρ 0 (nI N - 1) (-1)).2 5 P 0 (numM ρ 0 (nI N - 1) (-1)).1) 0 (nI N - 1) ((sUp (numM ρ 0 (nI N - 1) (-1)).2 5 P 0 (numM ρ 0 (nI N - 1) (-1)).1) 5 P 0)).2 5 P 1 (numM (sUp (numM ρ 0 (nI N - 1) (-1)).2 5 P 0 (numM ρ 0 (nI N - 1) (-1)).1) 0 (nI N - 1) ((sUp (numM ρ 0 (nI N - 1) (-1)).2 5 P 0 (numM ρ 0 (nI N - 1) (-1)).1) 5 P 0)).1) 0 500 (-1)).2 5 P 2 (numM (sUp (numM (sUp (numM ρ 0 (nI N - 1) (-1)).2 5 P 0 (numM ρ 0 (nI N - 1) (-1)).1) 0 (nI N - 1) ((sUp (numM ρ 0 (nI N - 1) (-1)).2 5 P 0 (numM ρ 0 (nI N - 1) (-1)).1) 5 P 0)).2 5 P 1 (numM (sUp (numM ρ 0 (nI N - 1) (-1)).2 5 P 0 (numM ρ 0 (nI N - 1) (-1)).1) 0 (nI N - 1) ((sUp (numM ρ 0 (nI N - 1) (-1)).2 5 P 0 (numM ρ 0 (nI N - 1) (-1)).1) 5 P 0)).1) 0 500 (-1)).1) 1 99 (-1)).2 5 P 3 (numM (sUp (numM (sUp (numM (sUp (numM ρ 0 (nI N - 1) (-1)).2 5 P 0 (numM ρ 0 (nI N - 1) (-1)).1) 0 (nI N - 1) ((sUp (numM ρ 0 (nI N - 1) (-1)).2 5 P 0 (numM ρ 0 (nI N - 1) (-1)).1) 5 P 0)).2 5 P 1 (numM (sUp (numM ρ 0 (nI N - 1) (-1)).2 5 P 0 (numM ρ 0 (nI N - 1) (-1)).1) 0 (nI N - 1) ((sUp (numM ρ 0 (nI N - 1) (-1)).2 5 P 0 (numM ρ 0 (nI N - 1) (-1)).1) 5 P 0)).1) 0 500 (-1)).2 5 P 2 (numM (sUp (numM (sUp (numM ρ 0 (nI N - 1) (-1)).2 5 P 0 (numM ρ 0 (nI N - 1) (-1)).1) 0 (nI N - 1) ((sUp (numM ρ 0 (nI N - 1) (-1)).2 5 P 0 (numM ρ 0 (nI N - 1) (-1)).1) 5 P 0)).2 5 P 1 (numM (sUp (numM ρ 0 (nI N - 1) (-1)).2 5 P 0 (numM ρ 0 (nI N - 1) (-1)).1) 0 (nI N - 1) ((sUp (numM ρ 0 (nI N - 1) (-1)).2 5 P 0 (numM ρ 0 (nI N - 1) (-1)).1) 5 P 0)).1) 0 500 (-1)).1) 1 99 (-1)).1) 5 P 4 (((1 <<< ((nI N - 1 + 1) &&& 31)) - 1))) 2 0 1 ((sUp (sUp (numM (sUp (numM (sUp (numM (sUp (numM ρ 0 (nI N - 1) (-1)).2 5 P 0 (numM ρ 0 (nI N - 1) (-1)).1) 0 (nI N - 1) ((sUp (numM ρ 0 (nI N - 1) (-1)).2 5 P 0 (numM ρ 0 (nI N - 1) (-1)).1) 5 P 0)).2 5 P 1 (numM (sUp (numM ρ 0 (nI N - 1) (-1)).2 5 P 0 (numM ρ 0 (nI N - 1) (-1)).1) 0 (nI N - 1) ((sUp (numM ρ 0 (nI N - 1) (-1)).2 5 P 0 (numM ρ 0 (nI N - 1) (-1)).1) 5 P 0)).1) 0 500 (-1)).2 5 P 2 (numM (sUp (numM (sUp (numM ρ 0 (nI N - 1) (-1)).2 5 P 0 (numM ρ 0 (nI N - 1) (-1)).1) 0 (nI N - 1) ((sUp (numM ρ 0 (nI N - 1) (-1)).2 5 P 0 (numM ρ 0 (nI N - 1) (-1)).1) 5 P 0)).2 5 P 1 (numM (sUp (numM ρ 0 (nI N - 1) (-1)).2 5 P 0 (numM ρ 0 (nI N - 1) (-1)).1) 0 (nI N - 1) ((sUp (numM ρ 0 (nI N - 1) (-1)).2 5 P 0 (numM ρ 0 (nI N - 1) (-1)).1) 5 P 0)).1) 0 500 (-1)).1) 1 99 (-1)).2 5 P 3 (numM (sUp (numM (sUp (numM (sUp (numM ρ 0 (nI N - 1) (-1)).2 5 P 0 (numM ρ 0 (nI N - 1) (-1)).1) 0 (nI N - 1) ((sUp (numM ρ 0 (nI N - 1) (-1)).2 5 P 0 (numM ρ 0 (nI N - 1) (-1)).1) 5 P 0)).2 5 P 1 (numM (sUp (numM ρ 0 (nI N - 1) (-1)).2 5 P 0 (numM ρ 0 (nI N - 1) (-1)).1) 0 (nI N - 1) ((sUp (numM ρ 0 (nI N - 1) (-1)).2 5 P 0 (numM ρ 0 (nI N - 1) (-1)).1) 5 P 0)).1) 0 500 (-1)).2 5 P 2 (numM (sUp (numM (sUp (numM ρ 0 (nI N - 1) (-1)).2 5 P 0 (numM ρ 0 (nI N - 1) (-1)).1) 0 (nI N - 1) ((sUp (numM ρ 0 (nI N - 1) (-1)).2 5 P 0 (numM ρ 0 (nI N - 1) (-1)).1) 5 P 0)).2 5 P 1 (numM (sUp (numM ρ 0 (nI N - 1) (-1)).2 5 P 0 (numM ρ 0 (nI N - 1) (-1)).1) 0 (nI N - 1) ((sUp (numM ρ 0 (nI N - 1) (-1)).2 5 P 0 (numM ρ 0 (nI N - 1) (-1)).1) 5 P 0)).1) 0 500 (-1)).1) 1 99 (-1)).1) 5 P 4 (((1 <<< ((nI N - 1 + 1) &&& 31)) - 1))) 2 0 1 + 1))) σ') (fun _ _ => False) := by
  refine yMet_intro lay_nd kX4_readPerson xX4_ok (yY4_ok _) (by decide +kernel) rfl ?_
  intro K hK
  obtain ⟨hN2, hN12, hP10, hS8, hG4, hQ20⟩ := hV.1
  obtain ⟨t0, t1, t2, t3, t5, -⟩ := hV.2.1
  have c0 := hW.1.1.trans t0
  have c5 := hW.1.2.1.trans t5
  have c1 := hW.1.2.2.1.trans t1
  have c2 := hW.1.2.2.2.1.trans t2
  have c3 := hW.1.2.2.2.2.1.trans t3
  have h12 : 2 ^ N ≤ 2 ^ 12 := Nat.pow_le_pow_right (by decide) hN12
  iterate 5 refine hK _ _ _ _ _ ?_
  show K _ _ _ _ _
  rw [show σ 37 0 0 = nI N from c0]
  iterate 3 refine hK _ _ _ _ _ ?_
  refine Or.inr (Or.inl (yD0 (c4_number _ σ ρ n 0 (nI N - 1) hC (by decide)) ?_))
  rintro r σ1 ⟨x1, rfl, hx1, g1, hC1⟩
  show K 0 14 [some (aR 74), some (aR 36), none, none, none, none] [aI (x1)] σ1
  have hv1 := numM_val ρ 0 (nI N - 1) (-1)
  have hi1 : ∀ i, i ≠ 0 → (numM ρ 0 (nI N - 1) (-1)).2 i = ρ i := fun i hi => numM_i _ _ _ _ i hi
  generalize numM ρ 0 (nI N - 1) (-1) = q1 at hx1 hC1 hv1 hi1 hK
  have c0_σ1 : σ1 37 0 0 = nI N := by rw [g1 37 (by decide)]; exact c0
  have c5_σ1 : σ1 37 0 1 = nI Q := by rw [g1 37 (by decide)]; exact c5
  have c1_σ1 : σ1 36 0 1 = nI P := by rw [g1 36 (by decide)]; exact c1
  have c2_σ1 : σ1 36 0 7 = nI S := by rw [g1 36 (by decide)]; exact c2
  have c3_σ1 : σ1 36 0 13 = nI G := by rw [g1 36 (by decide)]; exact c3
  iterate 6 refine hK _ _ _ _ _ ?_
  show K _ _ _ _ _
  rw [show σ1 37 0 0 = nI N from c0_σ1]
  iterate 3 refine hK _ _ _ _ _ ?_
  refine Or.inr (Or.inl (yD0 (c4_other _ σ1 (sUp q1.2 5 P 0 (q1.1)) n x1 ((sUp q1.2 5 P 0 (q1.1)) 5 P 0) (nI N - 1) (hC1.up 5 P 0 _ (by decide) (by decide)) (fun q => by rw [sUp_at]; exact hx1 (by rw [sUp_off (by decide)] at q; exact q))) ?_))
  rintro r σ2 ⟨x2, rfl, hx2, g2, hC2⟩
  show K 0 29 [some (aR 74), some (aR 36), some (aI (x1)), none, none, none] [aI (x2)] σ2
  have hv2 := numM_val (sUp q1.2 5 P 0 (q1.1)) 0 (nI N - 1) ((sUp q1.2 5 P 0 (q1.1)) 5 P 0)
  have hi2 : ∀ i, i ≠ 0 → (numM (sUp q1.2 5 P 0 (q1.1)) 0 (nI N - 1) ((sUp q1.2 5 P 0 (q1.1)) 5 P 0)).2 i = (sUp q1.2 5 P 0 (q1.1)) i := fun i hi => numM_i _ _ _ _ i hi
  generalize numM (sUp q1.2 5 P 0 (q1.1)) 0 (nI N - 1) ((sUp q1.2 5 P 0 (q1.1)) 5 P 0) = q2 at hx2 hC2 hv2 hi2 hK
  have gg2 : R74 σ σ2 := g1.tr g2
  have c0_σ2 : σ2 37 0 0 = nI N := by rw [gg2 37 (by decide)]; exact c0
  have c5_σ2 : σ2 37 0 1 = nI Q := by rw [gg2 37 (by decide)]; exact c5
  have c1_σ2 : σ2 36 0 1 = nI P := by rw [gg2 36 (by decide)]; exact c1
  have c2_σ2 : σ2 36 0 7 = nI S := by rw [gg2 36 (by decide)]; exact c2
  have c3_σ2 : σ2 36 0 13 = nI G := by rw [gg2 36 (by decide)]; exact c3
  iterate 5 refine hK _ _ _ _ _ ?_
  refine Or.inr (Or.inl (yD0 (c4_number _ σ2 (sUp q2.2 5 P 1 (q2.1)) n 0 500 (hC2.up 5 P 1 _ (by decide) (by decide)) (by decide)) ?_))
  rintro r σ3 ⟨x3, rfl, hx3, g3, hC3⟩
  show K 0 38 [some (aR 74), some (aR 36), some (aI (x1)), some (aI (x2)), none, none] [aI (x3)] σ3
  have hv3 := numM_val (sUp q2.2 5 P 1 (q2.1)) 0 500 (-1)
  have hi3 : ∀ i, i ≠ 0 → (numM (sUp q2.2 5 P 1 (q2.1)) 0 500 (-1)).2 i = (sUp q2.2 5 P 1 (q2.1)) i := fun i hi => numM_i _ _ _ _ i hi
  generalize numM (sUp q2.2 5 P 1 (q2.1)) 0 500 (-1) = q3 at hx3 hC3 hv3 hi3 hK
  have gg3 : R74 σ σ3 := gg2.tr g3
  have c0_σ3 : σ3 37 0 0 = nI N := by rw [gg3 37 (by decide)]; exact c0
  have c5_σ3 : σ3 37 0 1 = nI Q := by rw [gg3 37 (by decide)]; exact c5
  have c1_σ3 : σ3 36 0 1 = nI P := by rw [gg3 36 (by decide)]; exact c1
  have c2_σ3 : σ3 36 0 7 = nI S := by rw [gg3 36 (by decide)]; exact c2
  have c3_σ3 : σ3 36 0 13 = nI G := by rw [gg3 36 (by decide)]; exact c3
  iterate 5 refine hK _ _ _ _ _ ?_
  refine Or.inr (Or.inl (yD0 (c4_number _ σ3 (sUp q3.2 5 P 2 (q3.1)) n 1 99 (hC3.up 5 P 2 _ (by decide) (by decide)) (by decide)) ?_))
  rintro r σ4 ⟨x4, rfl, hx4, g4, hC4⟩
  show K 0 47 [some (aR 74), some (aR 36), some (aI (x1)), some (aI (x2)), some (aI (x3)), none] [aI (x4)] σ4
  have hv4 := numM_val (sUp q3.2 5 P 2 (q3.1)) 1 99 (-1)
  have hi4 : ∀ i, i ≠ 0 → (numM (sUp q3.2 5 P 2 (q3.1)) 1 99 (-1)).2 i = (sUp q3.2 5 P 2 (q3.1)) i := fun i hi => numM_i _ _ _ _ i hi
  generalize numM (sUp q3.2 5 P 2 (q3.1)) 1 99 (-1) = q4 at hx4 hC4 hv4 hi4 hK
  have gg4 : R74 σ σ4 := gg3.tr g4
  have c0_σ4 : σ4 37 0 0 = nI N := by rw [gg4 37 (by decide)]; exact c0
  have c5_σ4 : σ4 37 0 1 = nI Q := by rw [gg4 37 (by decide)]; exact c5
  have c1_σ4 : σ4 36 0 1 = nI P := by rw [gg4 36 (by decide)]; exact c1
  have c2_σ4 : σ4 36 0 7 = nI S := by rw [gg4 36 (by decide)]; exact c2
  have c3_σ4 : σ4 36 0 13 = nI G := by rw [gg4 36 (by decide)]; exact c3
  iterate 3 refine hK _ _ _ _ _ ?_
  refine Or.inl (calD (c4_ends _ σ4 (sUp (sUp (sUp q4.2 5 P 3 (q4.1)) 5 P 4 (((1 <<< ((nI N - 1 + 1) &&& 31)) - 1))) 2 0 1 ((sUp (sUp q4.2 5 P 3 (q4.1)) 5 P 4 (((1 <<< ((nI N - 1 + 1) &&& 31)) - 1))) 2 0 1 + 1)) n (((hC4.up 5 P 3 _ (by decide) (by decide)).up 5 P 4 _ (by decide) (by decide)).up 2 0 1 _ (by decide) (by decide))) ?_)
  rintro r τ ⟨rfl, gE, hCE⟩
  show K 0 53 [some (aR 74), some (aR 36), some (aI (x1)), some (aI (x2)), some (aI (x3)), some (aI (x4))] [aI (bI (decide (clE (sUp (sUp (sUp q4.2 5 P 3 (q4.1)) 5 P 4 (((1 <<< ((nI N - 1 + 1) &&& 31)) - 1))) 2 0 1 ((sUp (sUp q4.2 5 P 3 (q4.1)) 5 P 4 (((1 <<< ((nI N - 1 + 1) &&& 31)) - 1))) 2 0 1 + 1)) 0 0 5 = 0)))] τ
  have gT : R74 σ τ := gg4.tr gE
  generalize hrm : (sUp (sUp (sUp q4.2 5 P 3 (q4.1)) 5 P 4 (((1 <<< ((nI N - 1 + 1) &&& 31)) - 1))) 2 0 1 ((sUp (sUp q4.2 5 P 3 (q4.1)) 5 P 4 (((1 <<< ((nI N - 1 + 1) &&& 31)) - 1))) 2 0 1 + 1)) = ρm at hCE hK ⊢
  have c0_τ : τ 37 0 0 = nI N := by rw [gT 37 (by decide)]; exact c0
  have c5_τ : τ 37 0 1 = nI Q := by rw [gT 37 (by decide)]; exact c5
  have c1_τ : τ 36 0 1 = nI P := by rw [gT 36 (by decide)]; exact c1
  have c2_τ : τ 36 0 7 = nI S := by rw [gT 36 (by decide)]; exact c2
  have c3_τ : τ 36 0 13 = nI G := by rw [gT 36 (by decide)]; exact c3
  refine hK _ _ _ _ _ ?_
  refine And.intro (fun h9 => ?_) (fun h9 => ?_)
  · have hno := of_decide_eq_false (bI_f h9)
    refine hK _ _ _ _ _ ?_
    exact ⟨rfl, fun i h1 _ => gT i h1, hCE, fun q => absurd q hno⟩
  · have hok := of_decide_eq_true (bI_t h9)
    have z0 := clE_ok hok
    rw [← hrm] at z0
    have z4 : q4.2 0 0 5 = 0 := by rw [sUp_off (by decide), sUp_off (by decide), sUp_off (by decide)] at z0; exact z0
    obtain ⟨y4, r4, d4⟩ := hv4.1 z4
    have ex4 := hx4 z4
    rw [sUp_off (by decide)] at y4
    have z3 := y4
    obtain ⟨y3, r3, d3⟩ := hv3.1 z3
    have ex3 := hx3 z3
    rw [sUp_off (by decide)] at y3
    have z2 := y3
    obtain ⟨y2, r2, d2⟩ := hv2.1 z2
    have ex2 := hx2 z2
    rw [sUp_off (by decide)] at y2
    have z1 := y2
    obtain ⟨y1, r1, d1⟩ := hv1.1 z1
    have ex1 := hx1 z1
    obtain ⟨a, b1, e1⟩ := inN r1 (by omega)
    rw [e1] at ex1
    subst ex1
    obtain ⟨b, b2, e2⟩ := inN r2 (by omega)
    rw [e2] at ex2
    subst ex2
    obtain ⟨m, b3, b3', e3⟩ : ∃ k : Nat, 0 ≤ k ∧ k ≤ 500 ∧ q3.1 = nI k := nI_rng (lo := 0) (hi := 500) r3.1 r3.2 (by decide) (by decide)
    rw [e3] at ex3
    subst ex3
    obtain ⟨x, b4, b4', e4⟩ : ∃ k : Nat, 1 ≤ k ∧ k ≤ 99 ∧ q4.1 = nI k := nI_rng (lo := 1) (hi := 99) r4.1 r4.2 (by decide) (by decide)
    rw [e4] at ex4
    subst ex4
    iterate 6 refine hK _ _ _ _ _ ?_
    refine Or.inr (Or.inl (yD0 (c7_addPerson_36 _ τ N P a b m x hN12 c0_τ c1_τ hPl) ?_))
    rintro r σ' ⟨rfl, rfl⟩
    show K 0 66 [some (aR 74), some (aR 36), some (aI (nI a)), some (aI (nI b)), some (aI (nI m)), some (aI (nI x))] [] (sUp (sUp (sUp (sUp (sUp (sUp τ 41 0 P (nI a)) 42 0 P (nI b)) 43 0 P (nI m)) 44 0 P (nI x)) 45 0 P (nI (2 ^ N - 1))) 36 0 1 (nI (P + 1)))
    refine hK _ _ _ _ _ ?_
    have hab : a ≠ b := fun e => d2 (by rw [sUp_at, e2, e1, e])
    have hkw : (1 <<< ((nI N - 1 + 1) &&& 31) : Int32) - 1 = nI (2 ^ N - 1) := by rw [Int32.sub_add_cancel]; exact all_nI hN12
    have h1N : 2 ^ N - 1 < 2 ^ N := Nat.sub_lt (Nat.two_pow_pos N) (by decide)
    refine ⟨rfl, fun i h1 h2 => ?_, hCE.cg ?_ ?_, fun _ => ?_⟩
    · rw [sUp_off (by omega), sUp_off (by omega), sUp_off (by omega), sUp_off (by omega), sUp_off (by omega), sUp_off (by omega)]; exact gT i h1
    · rw [sUp_off (by decide), sUp_off (by decide), sUp_off (by decide), sUp_off (by decide), sUp_off (by decide), sUp_off (by decide)]
    · rw [sUp_off (by decide), sUp_off (by decide), sUp_off (by decide), sUp_off (by decide), sUp_off (by decide), sUp_off (by decide)]
    have hrow : ∀ i, i ≠ 0 → clE ρm i = (sUp (sUp (sUp (sUp (sUp (sUp ρ 5 P 0 (nI a)) 5 P 1 (nI b)) 5 P 2 (nI m)) 5 P 3 (nI x)) 5 P 4 (nI (2 ^ N - 1))) 2 0 1 (nI (P + 1))) i := fun i hi => by
      rw [clE_i _ _ hi, ← hrm]
      refine sUp_cgi (sUp_cgi (sUp_cgi ((hi4 i hi).trans (sUp_cgi ((hi3 i hi).trans (sUp_cgi ((hi2 i hi).trans (sUp_cgi (hi1 i hi) e1)) e2)) e3)) e4) hkw) ?_
      rw [sUp_off (by decide), sUp_off (by decide), hi4 2 (by decide), sUp_off (by decide), hi3 2 (by decide), sUp_off (by decide), hi2 2 (by decide), sUp_off (by decide), hi1 2 (by decide), t1]
      exact nIs P
    exact ⟨(TWR_person (a := a) (b := b) (m := m) (v := x) (k := 2 ^ N - 1) (hW.cg (fun i h1 h2 => gT i (by omega)) (fun _ _ => rfl)) t1 (by omega)).cg (fun _ _ _ => rfl) (fun i hi => hrow i (by omega)), N, P + 1, S, G, Q, (RVN_person hV hPl b1 b2 hab (by omega) (by omega) (by omega) h1N).cg (fun i hi => hrow i (by omega))⟩
theorem c4_readStranger_36 (d : Nat) (σ ρ : sMem) (n N P S G Q : Nat) (hC : CSR σ ρ n) (hW : TWR σ ρ 36) (hV : RVN ρ N P S G Q) (hf0 : ρ 0 0 5 = 0) (hSl : S < 8) : yMet l D0 b0 ty ad av lay (d + 4) 0 mX4_readStranger [aR 74, aR 36] σ (fun r σ' => r = [] ∧ CLP 36 n σ (clE (sUp (sUp (sUp (sUp (numM (sUp (numM (sUp (numM ρ 0 (nI N - 1) (-1)).2 7 S 0 (numM ρ 0 (nI N - 1) (-1)).1) 0 (nI N - 1) ((sUp (numM ρ 0 (nI N - 1) (-1)).2 7 S 0 (numM ρ 0 (nI N - 1) (-1)).1) 7 S 0)).2 7 S 1 (numM (sUp (numM ρ 0 (nI N - 1) (-1)).2 7 S 0 (numM ρ 0 (nI N - 1) (-1)).1) 0 (nI N - 1) ((sUp (numM ρ 0 (nI N - 1) (-1)).2 7 S 0 (numM ρ 0 (nI N - 1) (-1)).1) 7 S 0)).1) 0 500 (-1)).2 7 S 2 (numM (sUp (numM (sUp (numM ρ 0 (nI N - 1) (-1)).2 7 S 0 (numM ρ 0 (nI N - 1) (-1)).1) 0 (nI N - 1) ((sUp (numM ρ 0 (nI N - 1) (-1)).2 7 S 0 (numM ρ 0 (nI N - 1) (-1)).1) 7 S 0)).2 7 S 1 (numM (sUp (numM ρ 0 (nI N - 1) (-1)).2 7 S 0 (numM ρ 0 (nI N - 1) (-1)).1) 0 (nI N - 1) ((sUp (numM ρ 0 (nI N - 1) (-1)).2 7 S 0 (numM ρ 0 (nI N - 1) (-1)).1) 7 S 0)).1) 0 500 (-1)).1) 7 S 3 8) 7 S 4 0) 2 0 2 ((sUp (sUp (sUp (numM (sUp (numM (sUp (numM ρ 0 (nI N - 1) (-1)).2 7 S 0 (numM ρ 0 (nI N - 1) (-1)).1) 0 (nI N - 1) ((sUp (numM ρ 0 (nI N - 1) (-1)).2 7 S 0 (numM ρ 0 (nI N - 1) (-1)).1) 7 S 0)).2 7 S 1 (numM (sUp (numM ρ 0 (nI N - 1) (-1)).2 7 S 0 (numM ρ 0 (nI N - 1) (-1)).1) 0 (nI N - 1) ((sUp (numM ρ 0 (nI N - 1) (-1)).2 7 S 0 (numM ρ 0 (nI N - 1) (-1)).1) 7 S 0)).1) 0 500 (-1)).2 7 S 2 (numM (sUp (numM (sUp (numM ρ 0 (nI N - 1) (-1)).2 7 S 0 (numM ρ 0 (nI N - 1) (-1)).1) 0 (nI N - 1) ((sUp (numM ρ 0 (nI N - 1) (-1)).2 7 S 0 (numM ρ 0 (nI N - 1) (-1)).1) 7 S 0)).2 7 S 1 (numM (sUp (numM ρ 0 (nI N - 1) (-1)).2 7 S 0 (numM ρ 0 (nI N - 1) (-1)).1) 0 (nI N - 1) ((sUp (numM ρ 0 (nI N - 1) (-1)).2 7 S 0 (numM ρ 0 (nI N - 1) (-1)).1) 7 S 0)).1) 0 500 (-1)).1) 7 S 3 8) 7 S 4 0) 2 0 2 + 1))) σ') (fun _ _ => False) := by
  refine yMet_intro lay_nd kX4_readStranger xX4_ok (yY4_ok _) (by decide +kernel) rfl ?_
  intro K hK
  obtain ⟨hN2, hN12, hP10, hS8, hG4, hQ20⟩ := hV.1
  obtain ⟨t0, t1, t2, t3, t5, -⟩ := hV.2.1
  have c0 := hW.1.1.trans t0
  have c5 := hW.1.2.1.trans t5
  have c1 := hW.1.2.2.1.trans t1
  have c2 := hW.1.2.2.2.1.trans t2
  have c3 := hW.1.2.2.2.2.1.trans t3
  have h12 : 2 ^ N ≤ 2 ^ 12 := Nat.pow_le_pow_right (by decide) hN12
  iterate 5 refine hK _ _ _ _ _ ?_
  show K _ _ _ _ _
  rw [show σ 37 0 0 = nI N from c0]
  iterate 3 refine hK _ _ _ _ _ ?_
  refine Or.inr (Or.inl (yD0 (c4_number _ σ ρ n 0 (nI N - 1) hC (by decide)) ?_))
  rintro r σ1 ⟨x1, rfl, hx1, g1, hC1⟩
  show K 0 14 [some (aR 74), some (aR 36), none, none, none] [aI (x1)] σ1
  have hv1 := numM_val ρ 0 (nI N - 1) (-1)
  have hi1 : ∀ i, i ≠ 0 → (numM ρ 0 (nI N - 1) (-1)).2 i = ρ i := fun i hi => numM_i _ _ _ _ i hi
  generalize numM ρ 0 (nI N - 1) (-1) = q1 at hx1 hC1 hv1 hi1 hK
  have c0_σ1 : σ1 37 0 0 = nI N := by rw [g1 37 (by decide)]; exact c0
  have c5_σ1 : σ1 37 0 1 = nI Q := by rw [g1 37 (by decide)]; exact c5
  have c1_σ1 : σ1 36 0 1 = nI P := by rw [g1 36 (by decide)]; exact c1
  have c2_σ1 : σ1 36 0 7 = nI S := by rw [g1 36 (by decide)]; exact c2
  have c3_σ1 : σ1 36 0 13 = nI G := by rw [g1 36 (by decide)]; exact c3
  iterate 6 refine hK _ _ _ _ _ ?_
  show K _ _ _ _ _
  rw [show σ1 37 0 0 = nI N from c0_σ1]
  iterate 3 refine hK _ _ _ _ _ ?_
  refine Or.inr (Or.inl (yD0 (c4_other _ σ1 (sUp q1.2 7 S 0 (q1.1)) n x1 ((sUp q1.2 7 S 0 (q1.1)) 7 S 0) (nI N - 1) (hC1.up 7 S 0 _ (by decide) (by decide)) (fun q => by rw [sUp_at]; exact hx1 (by rw [sUp_off (by decide)] at q; exact q))) ?_))
  rintro r σ2 ⟨x2, rfl, hx2, g2, hC2⟩
  show K 0 29 [some (aR 74), some (aR 36), some (aI (x1)), none, none] [aI (x2)] σ2
  have hv2 := numM_val (sUp q1.2 7 S 0 (q1.1)) 0 (nI N - 1) ((sUp q1.2 7 S 0 (q1.1)) 7 S 0)
  have hi2 : ∀ i, i ≠ 0 → (numM (sUp q1.2 7 S 0 (q1.1)) 0 (nI N - 1) ((sUp q1.2 7 S 0 (q1.1)) 7 S 0)).2 i = (sUp q1.2 7 S 0 (q1.1)) i := fun i hi => numM_i _ _ _ _ i hi
  generalize numM (sUp q1.2 7 S 0 (q1.1)) 0 (nI N - 1) ((sUp q1.2 7 S 0 (q1.1)) 7 S 0) = q2 at hx2 hC2 hv2 hi2 hK
  have gg2 : R74 σ σ2 := g1.tr g2
  have c0_σ2 : σ2 37 0 0 = nI N := by rw [gg2 37 (by decide)]; exact c0
  have c5_σ2 : σ2 37 0 1 = nI Q := by rw [gg2 37 (by decide)]; exact c5
  have c1_σ2 : σ2 36 0 1 = nI P := by rw [gg2 36 (by decide)]; exact c1
  have c2_σ2 : σ2 36 0 7 = nI S := by rw [gg2 36 (by decide)]; exact c2
  have c3_σ2 : σ2 36 0 13 = nI G := by rw [gg2 36 (by decide)]; exact c3
  iterate 5 refine hK _ _ _ _ _ ?_
  refine Or.inr (Or.inl (yD0 (c4_number _ σ2 (sUp q2.2 7 S 1 (q2.1)) n 0 500 (hC2.up 7 S 1 _ (by decide) (by decide)) (by decide)) ?_))
  rintro r σ3 ⟨x3, rfl, hx3, g3, hC3⟩
  show K 0 38 [some (aR 74), some (aR 36), some (aI (x1)), some (aI (x2)), none] [aI (x3)] σ3
  have hv3 := numM_val (sUp q2.2 7 S 1 (q2.1)) 0 500 (-1)
  have hi3 : ∀ i, i ≠ 0 → (numM (sUp q2.2 7 S 1 (q2.1)) 0 500 (-1)).2 i = (sUp q2.2 7 S 1 (q2.1)) i := fun i hi => numM_i _ _ _ _ i hi
  generalize numM (sUp q2.2 7 S 1 (q2.1)) 0 500 (-1) = q3 at hx3 hC3 hv3 hi3 hK
  have gg3 : R74 σ σ3 := gg2.tr g3
  have c0_σ3 : σ3 37 0 0 = nI N := by rw [gg3 37 (by decide)]; exact c0
  have c5_σ3 : σ3 37 0 1 = nI Q := by rw [gg3 37 (by decide)]; exact c5
  have c1_σ3 : σ3 36 0 1 = nI P := by rw [gg3 36 (by decide)]; exact c1
  have c2_σ3 : σ3 36 0 7 = nI S := by rw [gg3 36 (by decide)]; exact c2
  have c3_σ3 : σ3 36 0 13 = nI G := by rw [gg3 36 (by decide)]; exact c3
  iterate 3 refine hK _ _ _ _ _ ?_
  refine Or.inl (calD (c4_ends _ σ3 (sUp (sUp (sUp (sUp q3.2 7 S 2 (q3.1)) 7 S 3 (8)) 7 S 4 (0)) 2 0 2 ((sUp (sUp (sUp q3.2 7 S 2 (q3.1)) 7 S 3 (8)) 7 S 4 (0)) 2 0 2 + 1)) n ((((hC3.up 7 S 2 _ (by decide) (by decide)).up 7 S 3 _ (by decide) (by decide)).up 7 S 4 _ (by decide) (by decide)).up 2 0 2 _ (by decide) (by decide))) ?_)
  rintro r τ ⟨rfl, gE, hCE⟩
  show K 0 44 [some (aR 74), some (aR 36), some (aI (x1)), some (aI (x2)), some (aI (x3))] [aI (bI (decide (clE (sUp (sUp (sUp (sUp q3.2 7 S 2 (q3.1)) 7 S 3 (8)) 7 S 4 (0)) 2 0 2 ((sUp (sUp (sUp q3.2 7 S 2 (q3.1)) 7 S 3 (8)) 7 S 4 (0)) 2 0 2 + 1)) 0 0 5 = 0)))] τ
  have gT : R74 σ τ := gg3.tr gE
  generalize hrm : (sUp (sUp (sUp (sUp q3.2 7 S 2 (q3.1)) 7 S 3 (8)) 7 S 4 (0)) 2 0 2 ((sUp (sUp (sUp q3.2 7 S 2 (q3.1)) 7 S 3 (8)) 7 S 4 (0)) 2 0 2 + 1)) = ρm at hCE hK ⊢
  have c0_τ : τ 37 0 0 = nI N := by rw [gT 37 (by decide)]; exact c0
  have c5_τ : τ 37 0 1 = nI Q := by rw [gT 37 (by decide)]; exact c5
  have c1_τ : τ 36 0 1 = nI P := by rw [gT 36 (by decide)]; exact c1
  have c2_τ : τ 36 0 7 = nI S := by rw [gT 36 (by decide)]; exact c2
  have c3_τ : τ 36 0 13 = nI G := by rw [gT 36 (by decide)]; exact c3
  refine hK _ _ _ _ _ ?_
  refine And.intro (fun h9 => ?_) (fun h9 => ?_)
  · have hno := of_decide_eq_false (bI_f h9)
    refine hK _ _ _ _ _ ?_
    exact ⟨rfl, fun i h1 _ => gT i h1, hCE, fun q => absurd q hno⟩
  · have hok := of_decide_eq_true (bI_t h9)
    have z0 := clE_ok hok
    rw [← hrm] at z0
    have z3 : q3.2 0 0 5 = 0 := by rw [sUp_off (by decide), sUp_off (by decide), sUp_off (by decide), sUp_off (by decide)] at z0; exact z0
    obtain ⟨y3, r3, d3⟩ := hv3.1 z3
    have ex3 := hx3 z3
    rw [sUp_off (by decide)] at y3
    have z2 := y3
    obtain ⟨y2, r2, d2⟩ := hv2.1 z2
    have ex2 := hx2 z2
    rw [sUp_off (by decide)] at y2
    have z1 := y2
    obtain ⟨y1, r1, d1⟩ := hv1.1 z1
    have ex1 := hx1 z1
    obtain ⟨a, b1, e1⟩ := inN r1 (by omega)
    rw [e1] at ex1
    subst ex1
    obtain ⟨b, b2, e2⟩ := inN r2 (by omega)
    rw [e2] at ex2
    subst ex2
    obtain ⟨m, b3, b3', e3⟩ : ∃ k : Nat, 0 ≤ k ∧ k ≤ 500 ∧ q3.1 = nI k := nI_rng (lo := 0) (hi := 500) r3.1 r3.2 (by decide) (by decide)
    rw [e3] at ex3
    subst ex3
    iterate 5 refine hK _ _ _ _ _ ?_
    refine Or.inl (calD (c7_addStranger_36 _ τ S a b m c2_τ hSl) ?_)
    rintro r σ' ⟨rfl, rfl⟩
    show K 0 55 [some (aR 74), some (aR 36), some (aI (nI a)), some (aI (nI b)), some (aI (nI m))] [] (sUp (sUp (sUp (sUp (sUp (sUp τ 46 0 S (nI a)) 47 0 S (nI b)) 48 0 S (nI m)) 49 0 S (nI 8)) 50 0 S (nI 0)) 36 0 7 (nI (S + 1)))
    refine hK _ _ _ _ _ ?_
    have hab : a ≠ b := fun e => d2 (by rw [sUp_at, e2, e1, e])
    refine ⟨rfl, fun i h1 h2 => ?_, hCE.cg ?_ ?_, fun _ => ?_⟩
    · rw [sUp_off (by omega), sUp_off (by omega), sUp_off (by omega), sUp_off (by omega), sUp_off (by omega), sUp_off (by omega)]; exact gT i h1
    · rw [sUp_off (by decide), sUp_off (by decide), sUp_off (by decide), sUp_off (by decide), sUp_off (by decide), sUp_off (by decide)]
    · rw [sUp_off (by decide), sUp_off (by decide), sUp_off (by decide), sUp_off (by decide), sUp_off (by decide), sUp_off (by decide)]
    have hrow : ∀ i, i ≠ 0 → clE ρm i = (sUp (sUp (sUp (sUp (sUp (sUp ρ 7 S 0 (nI a)) 7 S 1 (nI b)) 7 S 2 (nI m)) 7 S 3 (nI 8)) 7 S 4 (nI 0)) 2 0 2 (nI (S + 1))) i := fun i hi => by
      rw [clE_i _ _ hi, ← hrm]
      refine sUp_cgi (sUp_cgi (sUp_cgi (sUp_cgi ((hi3 i hi).trans (sUp_cgi ((hi2 i hi).trans (sUp_cgi (hi1 i hi) e1)) e2)) e3) rfl) rfl) ?_
      rw [sUp_off (by decide), sUp_off (by decide), sUp_off (by decide), hi3 2 (by decide), sUp_off (by decide), hi2 2 (by decide), sUp_off (by decide), hi1 2 (by decide), t2]
      exact nIs S
    exact ⟨(TWR_stranger (a := a) (b := b) (m := m) (hW.cg (fun i h1 h2 => gT i (by omega)) (fun _ _ => rfl)) t2 (by omega)).cg (fun _ _ _ => rfl) (fun i hi => hrow i (by omega)), N, P, S + 1, G, Q, (RVN_stranger hV hSl b1 b2 hab (by omega)).cg (fun i hi => hrow i (by omega))⟩
theorem c4_readGuide_36 (d : Nat) (σ ρ : sMem) (n N P S G Q : Nat) (hC : CSR σ ρ n) (hW : TWR σ ρ 36) (hV : RVN ρ N P S G Q) (hf0 : ρ 0 0 5 = 0) (hGl : G < 4) : yMet l D0 b0 ty ad av lay (d + 4) 0 mX4_readGuide [aR 74, aR 36] σ (fun r σ' => r = [] ∧ CLP 36 n σ (clE (sUp (sUp (numM (sUp (numM ρ 0 (nI N - 1) (-1)).2 9 G 0 (numM ρ 0 (nI N - 1) (-1)).1) 0 9 (-1)).2 9 G 1 (numM (sUp (numM ρ 0 (nI N - 1) (-1)).2 9 G 0 (numM ρ 0 (nI N - 1) (-1)).1) 0 9 (-1)).1) 2 0 3 ((sUp (numM (sUp (numM ρ 0 (nI N - 1) (-1)).2 9 G 0 (numM ρ 0 (nI N - 1) (-1)).1) 0 9 (-1)).2 9 G 1 (numM (sUp (numM ρ 0 (nI N - 1) (-1)).2 9 G 0 (numM ρ 0 (nI N - 1) (-1)).1) 0 9 (-1)).1) 2 0 3 + 1))) σ') (fun _ _ => False) := by
  refine yMet_intro lay_nd kX4_readGuide xX4_ok (yY4_ok _) (by decide +kernel) rfl ?_
  intro K hK
  obtain ⟨hN2, hN12, hP10, hS8, hG4, hQ20⟩ := hV.1
  obtain ⟨t0, t1, t2, t3, t5, -⟩ := hV.2.1
  have c0 := hW.1.1.trans t0
  have c5 := hW.1.2.1.trans t5
  have c1 := hW.1.2.2.1.trans t1
  have c2 := hW.1.2.2.2.1.trans t2
  have c3 := hW.1.2.2.2.2.1.trans t3
  have h12 : 2 ^ N ≤ 2 ^ 12 := Nat.pow_le_pow_right (by decide) hN12
  iterate 5 refine hK _ _ _ _ _ ?_
  show K _ _ _ _ _
  rw [show σ 37 0 0 = nI N from c0]
  iterate 3 refine hK _ _ _ _ _ ?_
  refine Or.inr (Or.inl (yD0 (c4_number _ σ ρ n 0 (nI N - 1) hC (by decide)) ?_))
  rintro r σ1 ⟨x1, rfl, hx1, g1, hC1⟩
  show K 0 14 [some (aR 74), some (aR 36), none, none] [aI (x1)] σ1
  have hv1 := numM_val ρ 0 (nI N - 1) (-1)
  have hi1 : ∀ i, i ≠ 0 → (numM ρ 0 (nI N - 1) (-1)).2 i = ρ i := fun i hi => numM_i _ _ _ _ i hi
  generalize numM ρ 0 (nI N - 1) (-1) = q1 at hx1 hC1 hv1 hi1 hK
  have c0_σ1 : σ1 37 0 0 = nI N := by rw [g1 37 (by decide)]; exact c0
  have c5_σ1 : σ1 37 0 1 = nI Q := by rw [g1 37 (by decide)]; exact c5
  have c1_σ1 : σ1 36 0 1 = nI P := by rw [g1 36 (by decide)]; exact c1
  have c2_σ1 : σ1 36 0 7 = nI S := by rw [g1 36 (by decide)]; exact c2
  have c3_σ1 : σ1 36 0 13 = nI G := by rw [g1 36 (by decide)]; exact c3
  iterate 5 refine hK _ _ _ _ _ ?_
  refine Or.inr (Or.inl (yD0 (c4_number _ σ1 (sUp q1.2 9 G 0 (q1.1)) n 0 9 (hC1.up 9 G 0 _ (by decide) (by decide)) (by decide)) ?_))
  rintro r σ2 ⟨x2, rfl, hx2, g2, hC2⟩
  show K 0 22 [some (aR 74), some (aR 36), some (aI (x1)), none] [aI (x2)] σ2
  have hv2 := numM_val (sUp q1.2 9 G 0 (q1.1)) 0 9 (-1)
  have hi2 : ∀ i, i ≠ 0 → (numM (sUp q1.2 9 G 0 (q1.1)) 0 9 (-1)).2 i = (sUp q1.2 9 G 0 (q1.1)) i := fun i hi => numM_i _ _ _ _ i hi
  generalize numM (sUp q1.2 9 G 0 (q1.1)) 0 9 (-1) = q2 at hx2 hC2 hv2 hi2 hK
  have gg2 : R74 σ σ2 := g1.tr g2
  have c0_σ2 : σ2 37 0 0 = nI N := by rw [gg2 37 (by decide)]; exact c0
  have c5_σ2 : σ2 37 0 1 = nI Q := by rw [gg2 37 (by decide)]; exact c5
  have c1_σ2 : σ2 36 0 1 = nI P := by rw [gg2 36 (by decide)]; exact c1
  have c2_σ2 : σ2 36 0 7 = nI S := by rw [gg2 36 (by decide)]; exact c2
  have c3_σ2 : σ2 36 0 13 = nI G := by rw [gg2 36 (by decide)]; exact c3
  iterate 3 refine hK _ _ _ _ _ ?_
  refine Or.inl (calD (c4_ends _ σ2 (sUp (sUp q2.2 9 G 1 (q2.1)) 2 0 3 ((sUp q2.2 9 G 1 (q2.1)) 2 0 3 + 1)) n ((hC2.up 9 G 1 _ (by decide) (by decide)).up 2 0 3 _ (by decide) (by decide))) ?_)
  rintro r τ ⟨rfl, gE, hCE⟩
  show K 0 27 [some (aR 74), some (aR 36), some (aI (x1)), some (aI (x2))] [aI (bI (decide (clE (sUp (sUp q2.2 9 G 1 (q2.1)) 2 0 3 ((sUp q2.2 9 G 1 (q2.1)) 2 0 3 + 1)) 0 0 5 = 0)))] τ
  have gT : R74 σ τ := gg2.tr gE
  generalize hrm : (sUp (sUp q2.2 9 G 1 (q2.1)) 2 0 3 ((sUp q2.2 9 G 1 (q2.1)) 2 0 3 + 1)) = ρm at hCE hK ⊢
  have c0_τ : τ 37 0 0 = nI N := by rw [gT 37 (by decide)]; exact c0
  have c5_τ : τ 37 0 1 = nI Q := by rw [gT 37 (by decide)]; exact c5
  have c1_τ : τ 36 0 1 = nI P := by rw [gT 36 (by decide)]; exact c1
  have c2_τ : τ 36 0 7 = nI S := by rw [gT 36 (by decide)]; exact c2
  have c3_τ : τ 36 0 13 = nI G := by rw [gT 36 (by decide)]; exact c3
  refine hK _ _ _ _ _ ?_
  refine And.intro (fun h9 => ?_) (fun h9 => ?_)
  · have hno := of_decide_eq_false (bI_f h9)
    refine hK _ _ _ _ _ ?_
    exact ⟨rfl, fun i h1 _ => gT i h1, hCE, fun q => absurd q hno⟩
  · have hok := of_decide_eq_true (bI_t h9)
    have z0 := clE_ok hok
    rw [← hrm] at z0
    have z2 : q2.2 0 0 5 = 0 := by rw [sUp_off (by decide), sUp_off (by decide)] at z0; exact z0
    obtain ⟨y2, r2, d2⟩ := hv2.1 z2
    have ex2 := hx2 z2
    rw [sUp_off (by decide)] at y2
    have z1 := y2
    obtain ⟨y1, r1, d1⟩ := hv1.1 z1
    have ex1 := hx1 z1
    obtain ⟨a, b1, e1⟩ := inN r1 (by omega)
    rw [e1] at ex1
    subst ex1
    obtain ⟨b, b2, b2', e2⟩ : ∃ k : Nat, 0 ≤ k ∧ k ≤ 9 ∧ q2.1 = nI k := nI_rng (lo := 0) (hi := 9) r2.1 r2.2 (by decide) (by decide)
    rw [e2] at ex2
    subst ex2
    iterate 4 refine hK _ _ _ _ _ ?_
    refine Or.inl (calD (c7_addGuide_36 _ τ G a b c3_τ hGl) ?_)
    rintro r σ' ⟨rfl, rfl⟩
    show K 0 36 [some (aR 74), some (aR 36), some (aI (nI a)), some (aI (nI b))] [] (sUp (sUp (sUp τ 51 0 G (nI a)) 52 0 G (nI b)) 36 0 13 (nI (G + 1)))
    refine hK _ _ _ _ _ ?_
    refine ⟨rfl, fun i h1 h2 => ?_, hCE.cg ?_ ?_, fun _ => ?_⟩
    · rw [sUp_off (by omega), sUp_off (by omega), sUp_off (by omega)]; exact gT i h1
    · rw [sUp_off (by decide), sUp_off (by decide), sUp_off (by decide)]
    · rw [sUp_off (by decide), sUp_off (by decide), sUp_off (by decide)]
    have hrow : ∀ i, i ≠ 0 → clE ρm i = (sUp (sUp (sUp ρ 9 G 0 (nI a)) 9 G 1 (nI b)) 2 0 3 (nI (G + 1))) i := fun i hi => by
      rw [clE_i _ _ hi, ← hrm]
      refine sUp_cgi (sUp_cgi ((hi2 i hi).trans (sUp_cgi (hi1 i hi) e1)) e2) ?_
      rw [sUp_off (by decide), hi2 2 (by decide), sUp_off (by decide), hi1 2 (by decide), t3]
      exact nIs G
    exact ⟨(TWR_guide (a := a) (b := b) (hW.cg (fun i h1 h2 => gT i (by omega)) (fun _ _ => rfl)) t3 (by omega)).cg (fun _ _ _ => rfl) (fun i hi => hrow i (by omega)), N, P, S, G + 1, Q, (RVN_guide hV hGl b1 (by omega)).cg (fun i hi => hrow i (by omega))⟩
theorem c4_readSign_36 (d : Nat) (σ ρ : sMem) (n N P S G Q : Nat) (hC : CSR σ ρ n) (hW : TWR σ ρ 36) (hV : RVN ρ N P S G Q) (hf0 : ρ 0 0 5 = 0) : yMet l D0 b0 ty ad av lay (d + 4) 0 mX4_readSign [aR 74, aR 36] σ (fun r σ' => r = [] ∧ CLP 36 n σ (clE (if (numM (numM ρ 0 (nI N - 1) (-1)).2 0 (nI N - 1) (numM ρ 0 (nI N - 1) (-1)).1).2 0 0 5 = 0 then sUp (numM (numM ρ 0 (nI N - 1) (-1)).2 0 (nI N - 1) (numM ρ 0 (nI N - 1) (-1)).1).2 11 0 (numM ρ 0 (nI N - 1) (-1)).1.toNatClampNeg ((numM (numM ρ 0 (nI N - 1) (-1)).2 0 (nI N - 1) (numM ρ 0 (nI N - 1) (-1)).1).2 11 0 (numM ρ 0 (nI N - 1) (-1)).1.toNatClampNeg ||| (1 <<< ((numM (numM ρ 0 (nI N - 1) (-1)).2 0 (nI N - 1) (numM ρ 0 (nI N - 1) (-1)).1).1 &&& 31))) else (numM (numM ρ 0 (nI N - 1) (-1)).2 0 (nI N - 1) (numM ρ 0 (nI N - 1) (-1)).1).2)) σ') (fun _ _ => False) := by
  refine yMet_intro lay_nd kX4_readSign xX4_ok (yY4_ok _) (by decide +kernel) rfl ?_
  intro K hK
  obtain ⟨hN2, hN12, hP10, hS8, hG4, hQ20⟩ := hV.1
  obtain ⟨t0, t1, t2, t3, t5, -⟩ := hV.2.1
  have c0 := hW.1.1.trans t0
  have c5 := hW.1.2.1.trans t5
  have c1 := hW.1.2.2.1.trans t1
  have c2 := hW.1.2.2.2.1.trans t2
  have c3 := hW.1.2.2.2.2.1.trans t3
  have h12 : 2 ^ N ≤ 2 ^ 12 := Nat.pow_le_pow_right (by decide) hN12
  iterate 5 refine hK _ _ _ _ _ ?_
  show K _ _ _ _ _
  rw [show σ 37 0 0 = nI N from c0]
  iterate 3 refine hK _ _ _ _ _ ?_
  refine Or.inr (Or.inl (yD0 (c4_number _ σ ρ n 0 (nI N - 1) hC (by decide)) ?_))
  rintro r σ1 ⟨x1, rfl, hx1, g1, hC1⟩
  show K 0 14 [some (aR 74), some (aR 36), none, none] [aI (x1)] σ1
  have hv1 := numM_val ρ 0 (nI N - 1) (-1)
  have hi1 : ∀ i, i ≠ 0 → (numM ρ 0 (nI N - 1) (-1)).2 i = ρ i := fun i hi => numM_i _ _ _ _ i hi
  generalize numM ρ 0 (nI N - 1) (-1) = q1 at hx1 hC1 hv1 hi1 hK
  have c0_σ1 : σ1 37 0 0 = nI N := by rw [g1 37 (by decide)]; exact c0
  have c5_σ1 : σ1 37 0 1 = nI Q := by rw [g1 37 (by decide)]; exact c5
  have c1_σ1 : σ1 36 0 1 = nI P := by rw [g1 36 (by decide)]; exact c1
  have c2_σ1 : σ1 36 0 7 = nI S := by rw [g1 36 (by decide)]; exact c2
  have c3_σ1 : σ1 36 0 13 = nI G := by rw [g1 36 (by decide)]; exact c3
  iterate 6 refine hK _ _ _ _ _ ?_
  show K _ _ _ _ _
  rw [show σ1 37 0 0 = nI N from c0_σ1]
  iterate 3 refine hK _ _ _ _ _ ?_
  refine Or.inr (Or.inl (yD0 (c4_other _ σ1 q1.2 n x1 q1.1 (nI N - 1) hC1 (fun q => hx1 q)) ?_))
  rintro r σ2 ⟨x2, rfl, hx2, g2, hC2⟩
  show K 0 29 [some (aR 74), some (aR 36), some (aI (x1)), none] [aI (x2)] σ2
  have hv2 := numM_val q1.2 0 (nI N - 1) q1.1
  have hi2 : ∀ i, i ≠ 0 → (numM q1.2 0 (nI N - 1) q1.1).2 i = q1.2 i := fun i hi => numM_i _ _ _ _ i hi
  generalize numM q1.2 0 (nI N - 1) q1.1 = q2 at hx2 hC2 hv2 hi2 hK
  have gg2 : R74 σ σ2 := g1.tr g2
  have c0_σ2 : σ2 37 0 0 = nI N := by rw [gg2 37 (by decide)]; exact c0
  have c5_σ2 : σ2 37 0 1 = nI Q := by rw [gg2 37 (by decide)]; exact c5
  have c1_σ2 : σ2 36 0 1 = nI P := by rw [gg2 36 (by decide)]; exact c1
  have c2_σ2 : σ2 36 0 7 = nI S := by rw [gg2 36 (by decide)]; exact c2
  have c3_σ2 : σ2 36 0 13 = nI G := by rw [gg2 36 (by decide)]; exact c3
  iterate 3 refine hK _ _ _ _ _ ?_
  refine Or.inl (calD (c4_ends _ σ2 (if q2.2 0 0 5 = 0 then sUp q2.2 11 0 q1.1.toNatClampNeg (q2.2 11 0 q1.1.toNatClampNeg ||| (1 <<< (q2.1 &&& 31))) else q2.2) n (hC2.ite (by decide) (by decide))) ?_)
  rintro r τ ⟨rfl, gE, hCE⟩
  show K 0 34 [some (aR 74), some (aR 36), some (aI (x1)), some (aI (x2))] [aI (bI (decide (clE (if q2.2 0 0 5 = 0 then sUp q2.2 11 0 q1.1.toNatClampNeg (q2.2 11 0 q1.1.toNatClampNeg ||| (1 <<< (q2.1 &&& 31))) else q2.2) 0 0 5 = 0)))] τ
  have gT : R74 σ τ := gg2.tr gE
  generalize hrm : (if q2.2 0 0 5 = 0 then sUp q2.2 11 0 q1.1.toNatClampNeg (q2.2 11 0 q1.1.toNatClampNeg ||| (1 <<< (q2.1 &&& 31))) else q2.2) = ρm at hCE hK ⊢
  have c0_τ : τ 37 0 0 = nI N := by rw [gT 37 (by decide)]; exact c0
  have c5_τ : τ 37 0 1 = nI Q := by rw [gT 37 (by decide)]; exact c5
  have c1_τ : τ 36 0 1 = nI P := by rw [gT 36 (by decide)]; exact c1
  have c2_τ : τ 36 0 7 = nI S := by rw [gT 36 (by decide)]; exact c2
  have c3_τ : τ 36 0 13 = nI G := by rw [gT 36 (by decide)]; exact c3
  refine hK _ _ _ _ _ ?_
  refine And.intro (fun h9 => ?_) (fun h9 => ?_)
  · have hno := of_decide_eq_false (bI_f h9)
    refine hK _ _ _ _ _ ?_
    exact ⟨rfl, fun i h1 _ => gT i h1, hCE, fun q => absurd q hno⟩
  · have hok := of_decide_eq_true (bI_t h9)
    have z0 := clE_ok hok
    rw [← hrm] at z0
    have z2 : q2.2 0 0 5 = 0 := by
      by_cases e : q2.2 0 0 5 = 0
      · exact e
      · rw [if_neg e] at z0; exact z0
    obtain ⟨y2, r2, d2⟩ := hv2.1 z2
    have ex2 := hx2 z2
    have z1 := y2
    obtain ⟨y1, r1, d1⟩ := hv1.1 z1
    have ex1 := hx1 z1
    obtain ⟨a, b1, e1⟩ := inN r1 (by omega)
    rw [e1] at ex1
    subst ex1
    obtain ⟨b, b2, e2⟩ := inN r2 (by omega)
    rw [e2] at ex2
    subst ex2
    obtain ⟨k, ek, hk⟩ := hV.2.2.2.2.2.2 a (by omega)
    have kx : τ 53 0 a = nI k := by rw [gT 53 (by decide), hW.2.2.2.2.2 a (by omega)]; exact ek
    iterate 5 refine hK _ _ _ _ _ ?_
    refine And.intro (vp_in_nI (n := a) (by omega) (by decide)) ?_
    rw [nI_clamp (show a < 2 ^ 31 by omega)]
    rw [show τ 53 0 a = nI k from kx]
    iterate 4 refine hK _ _ _ _ _ ?_
    show K _ _ _ _ _
    rw [show nI k ||| (Int32.ofInt 1 <<< (nI b &&& 31)) = nI (k ||| 2 ^ b) from nI_orp _ _ (by omega)]
    refine hK _ _ _ _ _ ?_
    refine And.intro (vp_in_nI (n := a) (by omega) (by decide)) ?_
    rw [nI_clamp (show a < 2 ^ 31 by omega)]
    refine hK _ _ _ _ _ ?_
    refine ⟨rfl, fun i h1 h2 => ?_, hCE.cg ?_ ?_, fun _ => ?_⟩
    · rw [sUp_off (by omega)]; exact gT i h1
    · rw [sUp_off (by decide)]
    · rw [sUp_off (by decide)]
    have hrow : ∀ i, i ≠ 0 → clE ρm i = (sUp ρ 11 0 a (nI (k ||| 2 ^ b))) i := fun i hi => by
      rw [clE_i _ _ hi, ← hrm]
      rw [if_pos z2, e1, nI_clamp (by omega)]
      refine sUp_cgi ((hi2 i hi).trans (hi1 i hi)) ?_
      rw [hi2 11 (by decide), hi1 11 (by decide), ek, e2]
      exact nI_orp _ _ (by omega)
    exact ⟨(TWR_sign (q0 := a) (z := nI (k ||| 2 ^ b)) (hW.cg (fun i h1 h2 => gT i (by omega)) (fun _ _ => rfl))).cg (fun _ _ _ => rfl) (fun i hi => hrow i (by omega)), N, P, S, G, Q, (RVN_sign (q := a) hV (or_lt hk b2)).cg (fun i hi => hrow i (by omega))⟩
theorem c4_readNot_36 (d : Nat) (σ ρ : sMem) (n N P S G Q : Nat) (hC : CSR σ ρ n) (hW : TWR σ ρ 36) (hV : RVN ρ N P S G Q) (hf0 : ρ 0 0 5 = 0) : yMet l D0 b0 ty ad av lay (d + 4) 0 mX4_readNot [aR 74, aR 36] σ (fun r σ' => r = [] ∧ CLP 36 n σ (clE (if (numM (numM ρ 0 (nI P - 1) (-1)).2 0 (nI N - 1) (-1)).2 0 0 5 = 0 then sUp (numM (numM ρ 0 (nI P - 1) (-1)).2 0 (nI N - 1) (-1)).2 5 (numM ρ 0 (nI P - 1) (-1)).1.toNatClampNeg 4 ((numM (numM ρ 0 (nI P - 1) (-1)).2 0 (nI N - 1) (-1)).2 5 (numM ρ 0 (nI P - 1) (-1)).1.toNatClampNeg 4 &&& ((1 <<< ((numM (numM ρ 0 (nI P - 1) (-1)).2 0 (nI N - 1) (-1)).1 &&& 31)) ^^^ (-1))) else (numM (numM ρ 0 (nI P - 1) (-1)).2 0 (nI N - 1) (-1)).2)) σ') (fun _ _ => False) := by
  refine yMet_intro lay_nd kX4_readNot xX4_ok (yY4_ok _) (by decide +kernel) rfl ?_
  intro K hK
  obtain ⟨hN2, hN12, hP10, hS8, hG4, hQ20⟩ := hV.1
  obtain ⟨t0, t1, t2, t3, t5, -⟩ := hV.2.1
  have c0 := hW.1.1.trans t0
  have c5 := hW.1.2.1.trans t5
  have c1 := hW.1.2.2.1.trans t1
  have c2 := hW.1.2.2.2.1.trans t2
  have c3 := hW.1.2.2.2.2.1.trans t3
  have h12 : 2 ^ N ≤ 2 ^ 12 := Nat.pow_le_pow_right (by decide) hN12
  iterate 4 refine hK _ _ _ _ _ ?_
  show K _ _ _ _ _
  rw [show σ 36 0 1 = nI P from c1]
  iterate 3 refine hK _ _ _ _ _ ?_
  refine Or.inr (Or.inl (yD0 (c4_number _ σ ρ n 0 (nI P - 1) hC (by decide)) ?_))
  rintro r σ1 ⟨x1, rfl, hx1, g1, hC1⟩
  show K 0 11 [some (aR 74), some (aR 36), none, none] [aI (x1)] σ1
  have hv1 := numM_val ρ 0 (nI P - 1) (-1)
  have hi1 : ∀ i, i ≠ 0 → (numM ρ 0 (nI P - 1) (-1)).2 i = ρ i := fun i hi => numM_i _ _ _ _ i hi
  generalize numM ρ 0 (nI P - 1) (-1) = q1 at hx1 hC1 hv1 hi1 hK
  have c0_σ1 : σ1 37 0 0 = nI N := by rw [g1 37 (by decide)]; exact c0
  have c5_σ1 : σ1 37 0 1 = nI Q := by rw [g1 37 (by decide)]; exact c5
  have c1_σ1 : σ1 36 0 1 = nI P := by rw [g1 36 (by decide)]; exact c1
  have c2_σ1 : σ1 36 0 7 = nI S := by rw [g1 36 (by decide)]; exact c2
  have c3_σ1 : σ1 36 0 13 = nI G := by rw [g1 36 (by decide)]; exact c3
  iterate 6 refine hK _ _ _ _ _ ?_
  show K _ _ _ _ _
  rw [show σ1 37 0 0 = nI N from c0_σ1]
  iterate 3 refine hK _ _ _ _ _ ?_
  refine Or.inr (Or.inl (yD0 (c4_number _ σ1 q1.2 n 0 (nI N - 1) hC1 (by decide)) ?_))
  rintro r σ2 ⟨x2, rfl, hx2, g2, hC2⟩
  show K 0 26 [some (aR 74), some (aR 36), some (aI (x1)), none] [aI (x2)] σ2
  have hv2 := numM_val q1.2 0 (nI N - 1) (-1)
  have hi2 : ∀ i, i ≠ 0 → (numM q1.2 0 (nI N - 1) (-1)).2 i = q1.2 i := fun i hi => numM_i _ _ _ _ i hi
  generalize numM q1.2 0 (nI N - 1) (-1) = q2 at hx2 hC2 hv2 hi2 hK
  have gg2 : R74 σ σ2 := g1.tr g2
  have c0_σ2 : σ2 37 0 0 = nI N := by rw [gg2 37 (by decide)]; exact c0
  have c5_σ2 : σ2 37 0 1 = nI Q := by rw [gg2 37 (by decide)]; exact c5
  have c1_σ2 : σ2 36 0 1 = nI P := by rw [gg2 36 (by decide)]; exact c1
  have c2_σ2 : σ2 36 0 7 = nI S := by rw [gg2 36 (by decide)]; exact c2
  have c3_σ2 : σ2 36 0 13 = nI G := by rw [gg2 36 (by decide)]; exact c3
  iterate 3 refine hK _ _ _ _ _ ?_
  refine Or.inl (calD (c4_ends _ σ2 (if q2.2 0 0 5 = 0 then sUp q2.2 5 q1.1.toNatClampNeg 4 (q2.2 5 q1.1.toNatClampNeg 4 &&& ((1 <<< (q2.1 &&& 31)) ^^^ (-1))) else q2.2) n (hC2.ite (by decide) (by decide))) ?_)
  rintro r τ ⟨rfl, gE, hCE⟩
  show K 0 31 [some (aR 74), some (aR 36), some (aI (x1)), some (aI (x2))] [aI (bI (decide (clE (if q2.2 0 0 5 = 0 then sUp q2.2 5 q1.1.toNatClampNeg 4 (q2.2 5 q1.1.toNatClampNeg 4 &&& ((1 <<< (q2.1 &&& 31)) ^^^ (-1))) else q2.2) 0 0 5 = 0)))] τ
  have gT : R74 σ τ := gg2.tr gE
  generalize hrm : (if q2.2 0 0 5 = 0 then sUp q2.2 5 q1.1.toNatClampNeg 4 (q2.2 5 q1.1.toNatClampNeg 4 &&& ((1 <<< (q2.1 &&& 31)) ^^^ (-1))) else q2.2) = ρm at hCE hK ⊢
  have c0_τ : τ 37 0 0 = nI N := by rw [gT 37 (by decide)]; exact c0
  have c5_τ : τ 37 0 1 = nI Q := by rw [gT 37 (by decide)]; exact c5
  have c1_τ : τ 36 0 1 = nI P := by rw [gT 36 (by decide)]; exact c1
  have c2_τ : τ 36 0 7 = nI S := by rw [gT 36 (by decide)]; exact c2
  have c3_τ : τ 36 0 13 = nI G := by rw [gT 36 (by decide)]; exact c3
  refine hK _ _ _ _ _ ?_
  refine And.intro (fun h9 => ?_) (fun h9 => ?_)
  · have hno := of_decide_eq_false (bI_f h9)
    refine hK _ _ _ _ _ ?_
    exact ⟨rfl, fun i h1 _ => gT i h1, hCE, fun q => absurd q hno⟩
  · have hok := of_decide_eq_true (bI_t h9)
    have z0 := clE_ok hok
    rw [← hrm] at z0
    have z2 : q2.2 0 0 5 = 0 := by
      by_cases e : q2.2 0 0 5 = 0
      · exact e
      · rw [if_neg e] at z0; exact z0
    obtain ⟨y2, r2, d2⟩ := hv2.1 z2
    have ex2 := hx2 z2
    have z1 := y2
    obtain ⟨y1, r1, d1⟩ := hv1.1 z1
    have ex1 := hx1 z1
    obtain ⟨a, b1, e1⟩ := inN r1 (by omega)
    rw [e1] at ex1
    subst ex1
    obtain ⟨b, b2, e2⟩ := inN r2 (by omega)
    rw [e2] at ex2
    subst ex2
    have bw : a < P := b1
    obtain ⟨k, ek, hk⟩ : ∃ k : Nat, ρ 5 a 4 = nI k ∧ k < 2 ^ N := by
      obtain ⟨_, _, _, _, k, -, -, -, -, -, h⟩ := hV.2.2.1 a bw
      exact ⟨k, h⟩
    have kx : τ 45 0 a = ρ 5 a 4 := by rw [gT 45 (by decide)]; exact (hW.2.2.1 a (by rw [rc_at t1 (by omega)]; exact bw)).2.2.2.2
    rw [ek] at kx
    iterate 5 refine hK _ _ _ _ _ ?_
    refine And.intro (vp_in_nI (n := a) (by omega) (by decide)) ?_
    rw [nI_clamp (show a < 2 ^ 31 by omega)]
    rw [show τ 45 0 a = nI k from kx]
    iterate 7 refine hK _ _ _ _ _ ?_
    refine And.intro (vp_in_nI (n := a) (by omega) (by decide)) ?_
    rw [nI_clamp (show a < 2 ^ 31 by omega)]
    refine hK _ _ _ _ _ ?_
    have hvv : nI k &&& ((Int32.ofInt 1 <<< (nI b &&& 31)) ^^^ Int32.ofInt (-1)) = nI (k &&& (4095 ^^^ 2 ^ b)) := nI_andn (by omega) (by omega)
    try rw [show nI k &&& ((Int32.ofInt 1 <<< (nI b &&& 31)) ^^^ Int32.ofInt (-1)) = nI (k &&& (4095 ^^^ 2 ^ b)) from hvv]
    refine ⟨rfl, fun i h1 h2 => ?_, hCE.cg ?_ ?_, fun _ => ?_⟩
    · rw [sUp_off (by omega)]; exact gT i h1
    · rw [sUp_off (by decide)]
    · rw [sUp_off (by decide)]
    have hrow : ∀ i, i ≠ 0 → clE ρm i = (sUp ρ 5 a 4 (nI (k &&& (4095 ^^^ 2 ^ b)))) i := fun i hi => by
      rw [clE_i _ _ hi, ← hrm]
      rw [if_pos z2, e1, nI_clamp (by omega)]
      refine sUp_cgi ((hi2 i hi).trans (hi1 i hi)) ?_
      rw [hi2 5 (by decide), hi1 5 (by decide), ek, e2]
      exact hvv
    exact ⟨(TWR_not (q0 := a) (z := nI (k &&& (4095 ^^^ 2 ^ b))) (hW.cg (fun i h1 h2 => gT i (by omega)) (fun _ _ => rfl))).cg (fun _ _ _ => rfl) (fun i hi => hrow i (by omega)), N, P, S, G, Q, (RVN_not (q := a) hV (Nat.lt_of_le_of_lt Nat.and_le_left hk)).cg (fun i hi => hrow i (by omega))⟩
theorem c4_readFinds_36 (d : Nat) (σ ρ : sMem) (n N P S G Q : Nat) (hC : CSR σ ρ n) (hW : TWR σ ρ 36) (hV : RVN ρ N P S G Q) (hf0 : ρ 0 0 5 = 0) : yMet l D0 b0 ty ad av lay (d + 4) 0 mX4_readFinds [aR 74, aR 36] σ (fun r σ' => r = [] ∧ CLP 36 n σ (clE (if (numM (numM ρ 0 (nI S - 1) (-1)).2 0 (nI N - 1) (-1)).2 0 0 5 = 0 then sUp (numM (numM ρ 0 (nI S - 1) (-1)).2 0 (nI N - 1) (-1)).2 7 (numM ρ 0 (nI S - 1) (-1)).1.toNatClampNeg 4 ((numM (numM ρ 0 (nI S - 1) (-1)).2 0 (nI N - 1) (-1)).2 7 (numM ρ 0 (nI S - 1) (-1)).1.toNatClampNeg 4 ||| (1 <<< ((numM (numM ρ 0 (nI S - 1) (-1)).2 0 (nI N - 1) (-1)).1 &&& 31))) else (numM (numM ρ 0 (nI S - 1) (-1)).2 0 (nI N - 1) (-1)).2)) σ') (fun _ _ => False) := by
  refine yMet_intro lay_nd kX4_readFinds xX4_ok (yY4_ok _) (by decide +kernel) rfl ?_
  intro K hK
  obtain ⟨hN2, hN12, hP10, hS8, hG4, hQ20⟩ := hV.1
  obtain ⟨t0, t1, t2, t3, t5, -⟩ := hV.2.1
  have c0 := hW.1.1.trans t0
  have c5 := hW.1.2.1.trans t5
  have c1 := hW.1.2.2.1.trans t1
  have c2 := hW.1.2.2.2.1.trans t2
  have c3 := hW.1.2.2.2.2.1.trans t3
  have h12 : 2 ^ N ≤ 2 ^ 12 := Nat.pow_le_pow_right (by decide) hN12
  iterate 4 refine hK _ _ _ _ _ ?_
  show K _ _ _ _ _
  rw [show σ 36 0 7 = nI S from c2]
  iterate 3 refine hK _ _ _ _ _ ?_
  refine Or.inr (Or.inl (yD0 (c4_number _ σ ρ n 0 (nI S - 1) hC (by decide)) ?_))
  rintro r σ1 ⟨x1, rfl, hx1, g1, hC1⟩
  show K 0 11 [some (aR 74), some (aR 36), none, none] [aI (x1)] σ1
  have hv1 := numM_val ρ 0 (nI S - 1) (-1)
  have hi1 : ∀ i, i ≠ 0 → (numM ρ 0 (nI S - 1) (-1)).2 i = ρ i := fun i hi => numM_i _ _ _ _ i hi
  generalize numM ρ 0 (nI S - 1) (-1) = q1 at hx1 hC1 hv1 hi1 hK
  have c0_σ1 : σ1 37 0 0 = nI N := by rw [g1 37 (by decide)]; exact c0
  have c5_σ1 : σ1 37 0 1 = nI Q := by rw [g1 37 (by decide)]; exact c5
  have c1_σ1 : σ1 36 0 1 = nI P := by rw [g1 36 (by decide)]; exact c1
  have c2_σ1 : σ1 36 0 7 = nI S := by rw [g1 36 (by decide)]; exact c2
  have c3_σ1 : σ1 36 0 13 = nI G := by rw [g1 36 (by decide)]; exact c3
  iterate 6 refine hK _ _ _ _ _ ?_
  show K _ _ _ _ _
  rw [show σ1 37 0 0 = nI N from c0_σ1]
  iterate 3 refine hK _ _ _ _ _ ?_
  refine Or.inr (Or.inl (yD0 (c4_number _ σ1 q1.2 n 0 (nI N - 1) hC1 (by decide)) ?_))
  rintro r σ2 ⟨x2, rfl, hx2, g2, hC2⟩
  show K 0 26 [some (aR 74), some (aR 36), some (aI (x1)), none] [aI (x2)] σ2
  have hv2 := numM_val q1.2 0 (nI N - 1) (-1)
  have hi2 : ∀ i, i ≠ 0 → (numM q1.2 0 (nI N - 1) (-1)).2 i = q1.2 i := fun i hi => numM_i _ _ _ _ i hi
  generalize numM q1.2 0 (nI N - 1) (-1) = q2 at hx2 hC2 hv2 hi2 hK
  have gg2 : R74 σ σ2 := g1.tr g2
  have c0_σ2 : σ2 37 0 0 = nI N := by rw [gg2 37 (by decide)]; exact c0
  have c5_σ2 : σ2 37 0 1 = nI Q := by rw [gg2 37 (by decide)]; exact c5
  have c1_σ2 : σ2 36 0 1 = nI P := by rw [gg2 36 (by decide)]; exact c1
  have c2_σ2 : σ2 36 0 7 = nI S := by rw [gg2 36 (by decide)]; exact c2
  have c3_σ2 : σ2 36 0 13 = nI G := by rw [gg2 36 (by decide)]; exact c3
  iterate 3 refine hK _ _ _ _ _ ?_
  refine Or.inl (calD (c4_ends _ σ2 (if q2.2 0 0 5 = 0 then sUp q2.2 7 q1.1.toNatClampNeg 4 (q2.2 7 q1.1.toNatClampNeg 4 ||| (1 <<< (q2.1 &&& 31))) else q2.2) n (hC2.ite (by decide) (by decide))) ?_)
  rintro r τ ⟨rfl, gE, hCE⟩
  show K 0 31 [some (aR 74), some (aR 36), some (aI (x1)), some (aI (x2))] [aI (bI (decide (clE (if q2.2 0 0 5 = 0 then sUp q2.2 7 q1.1.toNatClampNeg 4 (q2.2 7 q1.1.toNatClampNeg 4 ||| (1 <<< (q2.1 &&& 31))) else q2.2) 0 0 5 = 0)))] τ
  have gT : R74 σ τ := gg2.tr gE
  generalize hrm : (if q2.2 0 0 5 = 0 then sUp q2.2 7 q1.1.toNatClampNeg 4 (q2.2 7 q1.1.toNatClampNeg 4 ||| (1 <<< (q2.1 &&& 31))) else q2.2) = ρm at hCE hK ⊢
  have c0_τ : τ 37 0 0 = nI N := by rw [gT 37 (by decide)]; exact c0
  have c5_τ : τ 37 0 1 = nI Q := by rw [gT 37 (by decide)]; exact c5
  have c1_τ : τ 36 0 1 = nI P := by rw [gT 36 (by decide)]; exact c1
  have c2_τ : τ 36 0 7 = nI S := by rw [gT 36 (by decide)]; exact c2
  have c3_τ : τ 36 0 13 = nI G := by rw [gT 36 (by decide)]; exact c3
  refine hK _ _ _ _ _ ?_
  refine And.intro (fun h9 => ?_) (fun h9 => ?_)
  · have hno := of_decide_eq_false (bI_f h9)
    refine hK _ _ _ _ _ ?_
    exact ⟨rfl, fun i h1 _ => gT i h1, hCE, fun q => absurd q hno⟩
  · have hok := of_decide_eq_true (bI_t h9)
    have z0 := clE_ok hok
    rw [← hrm] at z0
    have z2 : q2.2 0 0 5 = 0 := by
      by_cases e : q2.2 0 0 5 = 0
      · exact e
      · rw [if_neg e] at z0; exact z0
    obtain ⟨y2, r2, d2⟩ := hv2.1 z2
    have ex2 := hx2 z2
    have z1 := y2
    obtain ⟨y1, r1, d1⟩ := hv1.1 z1
    have ex1 := hx1 z1
    obtain ⟨a, b1, e1⟩ := inN r1 (by omega)
    rw [e1] at ex1
    subst ex1
    obtain ⟨b, b2, e2⟩ := inN r2 (by omega)
    rw [e2] at ex2
    subst ex2
    have bw : a < S := b1
    obtain ⟨k, ek, hk⟩ : ∃ k : Nat, ρ 7 a 4 = nI k ∧ k < 2 ^ N := by
      obtain ⟨_, _, _, _, k, -, -, -, -, -, h⟩ := hV.2.2.2.1 a bw
      exact ⟨k, h⟩
    have kx : τ 50 0 a = ρ 7 a 4 := by rw [gT 50 (by decide)]; exact (hW.2.2.2.1 a (by rw [rc_at t2 (by omega)]; exact bw)).2.2.2.2
    rw [ek] at kx
    iterate 5 refine hK _ _ _ _ _ ?_
    refine And.intro (vp_in_nI (n := a) (by omega) (by decide)) ?_
    rw [nI_clamp (show a < 2 ^ 31 by omega)]
    rw [show τ 50 0 a = nI k from kx]
    iterate 4 refine hK _ _ _ _ _ ?_
    show K _ _ _ _ _
    rw [show nI k ||| (Int32.ofInt 1 <<< (nI b &&& 31)) = nI (k ||| 2 ^ b) from nI_orp _ _ (by omega)]
    refine hK _ _ _ _ _ ?_
    refine And.intro (vp_in_nI (n := a) (by omega) (by decide)) ?_
    rw [nI_clamp (show a < 2 ^ 31 by omega)]
    refine hK _ _ _ _ _ ?_
    refine ⟨rfl, fun i h1 h2 => ?_, hCE.cg ?_ ?_, fun _ => ?_⟩
    · rw [sUp_off (by omega)]; exact gT i h1
    · rw [sUp_off (by decide)]
    · rw [sUp_off (by decide)]
    have hrow : ∀ i, i ≠ 0 → clE ρm i = (sUp ρ 7 a 4 (nI (k ||| 2 ^ b))) i := fun i hi => by
      rw [clE_i _ _ hi, ← hrm]
      rw [if_pos z2, e1, nI_clamp (by omega)]
      refine sUp_cgi ((hi2 i hi).trans (hi1 i hi)) ?_
      rw [hi2 7 (by decide), hi1 7 (by decide), ek, e2]
      exact nI_orp _ _ (by omega)
    exact ⟨(TWR_finds (q0 := a) (z := nI (k ||| 2 ^ b)) (hW.cg (fun i h1 h2 => gT i (by omega)) (fun _ _ => rfl))).cg (fun _ _ _ => rfl) (fun i hi => hrow i (by omega)), N, P, S, G, Q, (RVN_finds (q := a) hV (or_lt hk b2)).cg (fun i hi => hrow i (by omega))⟩
theorem c4_readChance_36 (d : Nat) (σ ρ : sMem) (n N P S G Q : Nat) (hC : CSR σ ρ n) (hW : TWR σ ρ 36) (hV : RVN ρ N P S G Q) (hf0 : ρ 0 0 5 = 0) : yMet l D0 b0 ty ad av lay (d + 4) 0 mX4_readChance [aR 74, aR 36] σ (fun r σ' => r = [] ∧ CLP 36 n σ (clE (if (numM (numM ρ 0 (nI S - 1) (-1)).2 1 8 (-1)).2 0 0 5 = 0 then sUp (numM (numM ρ 0 (nI S - 1) (-1)).2 1 8 (-1)).2 7 (numM ρ 0 (nI S - 1) (-1)).1.toNatClampNeg 3 ((numM (numM ρ 0 (nI S - 1) (-1)).2 1 8 (-1)).1) else (numM (numM ρ 0 (nI S - 1) (-1)).2 1 8 (-1)).2)) σ') (fun _ _ => False) := by
  refine yMet_intro lay_nd kX4_readChance xX4_ok (yY4_ok _) (by decide +kernel) rfl ?_
  intro K hK
  obtain ⟨hN2, hN12, hP10, hS8, hG4, hQ20⟩ := hV.1
  obtain ⟨t0, t1, t2, t3, t5, -⟩ := hV.2.1
  have c0 := hW.1.1.trans t0
  have c5 := hW.1.2.1.trans t5
  have c1 := hW.1.2.2.1.trans t1
  have c2 := hW.1.2.2.2.1.trans t2
  have c3 := hW.1.2.2.2.2.1.trans t3
  have h12 : 2 ^ N ≤ 2 ^ 12 := Nat.pow_le_pow_right (by decide) hN12
  iterate 4 refine hK _ _ _ _ _ ?_
  show K _ _ _ _ _
  rw [show σ 36 0 7 = nI S from c2]
  iterate 3 refine hK _ _ _ _ _ ?_
  refine Or.inr (Or.inl (yD0 (c4_number _ σ ρ n 0 (nI S - 1) hC (by decide)) ?_))
  rintro r σ1 ⟨x1, rfl, hx1, g1, hC1⟩
  show K 0 11 [some (aR 74), some (aR 36), none, none] [aI (x1)] σ1
  have hv1 := numM_val ρ 0 (nI S - 1) (-1)
  have hi1 : ∀ i, i ≠ 0 → (numM ρ 0 (nI S - 1) (-1)).2 i = ρ i := fun i hi => numM_i _ _ _ _ i hi
  generalize numM ρ 0 (nI S - 1) (-1) = q1 at hx1 hC1 hv1 hi1 hK
  have c0_σ1 : σ1 37 0 0 = nI N := by rw [g1 37 (by decide)]; exact c0
  have c5_σ1 : σ1 37 0 1 = nI Q := by rw [g1 37 (by decide)]; exact c5
  have c1_σ1 : σ1 36 0 1 = nI P := by rw [g1 36 (by decide)]; exact c1
  have c2_σ1 : σ1 36 0 7 = nI S := by rw [g1 36 (by decide)]; exact c2
  have c3_σ1 : σ1 36 0 13 = nI G := by rw [g1 36 (by decide)]; exact c3
  iterate 5 refine hK _ _ _ _ _ ?_
  refine Or.inr (Or.inl (yD0 (c4_number _ σ1 q1.2 n 1 8 hC1 (by decide)) ?_))
  rintro r σ2 ⟨x2, rfl, hx2, g2, hC2⟩
  show K 0 19 [some (aR 74), some (aR 36), some (aI (x1)), none] [aI (x2)] σ2
  have hv2 := numM_val q1.2 1 8 (-1)
  have hi2 : ∀ i, i ≠ 0 → (numM q1.2 1 8 (-1)).2 i = q1.2 i := fun i hi => numM_i _ _ _ _ i hi
  generalize numM q1.2 1 8 (-1) = q2 at hx2 hC2 hv2 hi2 hK
  have gg2 : R74 σ σ2 := g1.tr g2
  have c0_σ2 : σ2 37 0 0 = nI N := by rw [gg2 37 (by decide)]; exact c0
  have c5_σ2 : σ2 37 0 1 = nI Q := by rw [gg2 37 (by decide)]; exact c5
  have c1_σ2 : σ2 36 0 1 = nI P := by rw [gg2 36 (by decide)]; exact c1
  have c2_σ2 : σ2 36 0 7 = nI S := by rw [gg2 36 (by decide)]; exact c2
  have c3_σ2 : σ2 36 0 13 = nI G := by rw [gg2 36 (by decide)]; exact c3
  iterate 3 refine hK _ _ _ _ _ ?_
  refine Or.inl (calD (c4_ends _ σ2 (if q2.2 0 0 5 = 0 then sUp q2.2 7 q1.1.toNatClampNeg 3 (q2.1) else q2.2) n (hC2.ite (by decide) (by decide))) ?_)
  rintro r τ ⟨rfl, gE, hCE⟩
  show K 0 24 [some (aR 74), some (aR 36), some (aI (x1)), some (aI (x2))] [aI (bI (decide (clE (if q2.2 0 0 5 = 0 then sUp q2.2 7 q1.1.toNatClampNeg 3 (q2.1) else q2.2) 0 0 5 = 0)))] τ
  have gT : R74 σ τ := gg2.tr gE
  generalize hrm : (if q2.2 0 0 5 = 0 then sUp q2.2 7 q1.1.toNatClampNeg 3 (q2.1) else q2.2) = ρm at hCE hK ⊢
  have c0_τ : τ 37 0 0 = nI N := by rw [gT 37 (by decide)]; exact c0
  have c5_τ : τ 37 0 1 = nI Q := by rw [gT 37 (by decide)]; exact c5
  have c1_τ : τ 36 0 1 = nI P := by rw [gT 36 (by decide)]; exact c1
  have c2_τ : τ 36 0 7 = nI S := by rw [gT 36 (by decide)]; exact c2
  have c3_τ : τ 36 0 13 = nI G := by rw [gT 36 (by decide)]; exact c3
  refine hK _ _ _ _ _ ?_
  refine And.intro (fun h9 => ?_) (fun h9 => ?_)
  · have hno := of_decide_eq_false (bI_f h9)
    refine hK _ _ _ _ _ ?_
    exact ⟨rfl, fun i h1 _ => gT i h1, hCE, fun q => absurd q hno⟩
  · have hok := of_decide_eq_true (bI_t h9)
    have z0 := clE_ok hok
    rw [← hrm] at z0
    have z2 : q2.2 0 0 5 = 0 := by
      by_cases e : q2.2 0 0 5 = 0
      · exact e
      · rw [if_neg e] at z0; exact z0
    obtain ⟨y2, r2, d2⟩ := hv2.1 z2
    have ex2 := hx2 z2
    have z1 := y2
    obtain ⟨y1, r1, d1⟩ := hv1.1 z1
    have ex1 := hx1 z1
    obtain ⟨a, b1, e1⟩ := inN r1 (by omega)
    rw [e1] at ex1
    subst ex1
    obtain ⟨b, b2, b2', e2⟩ : ∃ k : Nat, 1 ≤ k ∧ k ≤ 8 ∧ q2.1 = nI k := nI_rng (lo := 1) (hi := 8) r2.1 r2.2 (by decide) (by decide)
    rw [e2] at ex2
    subst ex2
    have bw : a < S := b1
    obtain ⟨k, ek, hk⟩ : ∃ k : Nat, ρ 7 a 4 = nI k ∧ k < 2 ^ N := by
      obtain ⟨_, _, _, _, k, -, -, -, -, -, h⟩ := hV.2.2.2.1 a bw
      exact ⟨k, h⟩
    have kx : τ 49 0 a = ρ 7 a 3 := by rw [gT 49 (by decide)]; exact (hW.2.2.2.1 a (by rw [rc_at t2 (by omega)]; exact bw)).2.2.2.1
    iterate 5 refine hK _ _ _ _ _ ?_
    refine And.intro (vp_in_nI (n := a) (by omega) (by decide)) ?_
    rw [nI_clamp (show a < 2 ^ 31 by omega)]
    refine hK _ _ _ _ _ ?_
    refine ⟨rfl, fun i h1 h2 => ?_, hCE.cg ?_ ?_, fun _ => ?_⟩
    · rw [sUp_off (by omega)]; exact gT i h1
    · rw [sUp_off (by decide)]
    · rw [sUp_off (by decide)]
    have hrow : ∀ i, i ≠ 0 → clE ρm i = (sUp ρ 7 a 3 (nI b)) i := fun i hi => by
      rw [clE_i _ _ hi, ← hrm]
      rw [if_pos z2, e1, nI_clamp (by omega)]
      refine sUp_cgi ((hi2 i hi).trans (hi1 i hi)) ?_
      exact e2
    exact ⟨(TWR_chance (q0 := a) (z := nI b) (hW.cg (fun i h1 h2 => gT i (by omega)) (fun _ _ => rfl))).cg (fun _ _ _ => rfl) (fun i hi => hrow i (by omega)), N, P, S, G, Q, (RVN_chance (q := a) hV (by omega) (by omega)).cg (fun i hi => hrow i (by omega))⟩
theorem c6_addStreet_54 (d : Nat) (σ : sMem) (Q a b m : Nat) (hQ : σ 55 0 1 = nI Q) (ha : a < 12) (hb9 : b < 12) : yMet l D0 b0 ty ad av lay (d + 1) 0 mX6_addStreet [aR 55, aI (nI a), aI (nI b), aI (nI m)] σ (fun r σ' => r = [] ∧ σ' = sUp (sUp (sUp σ 55 0 1 (nI (Q + 1))) 56 a b (mnI (σ 56 a b) (nI m))) 56 b a (mnI (σ 56 a b) (nI m))) (fun _ _ => False) := by
  refine yMet_intro lay_nd kX6_addStreet xX6_ok (yY6_ok _) (by decide +kernel) rfl ?_
  intro K hK
  iterate 3 refine hK _ _ _ _ _ ?_
  show K _ _ _ _ _
  rw [show σ 55 0 1 = nI Q from hQ]
  iterate 2 refine hK _ _ _ _ _ ?_
  show K _ _ _ _ _
  rw [show nI Q + Int32.ofInt 1 = nI (Q + 1) from nIs _]
  iterate 5 refine hK _ _ _ _ _ ?_
  refine And.intro (vp_in_nI (n := a) (by omega) (by decide)) ?_
  rw [nI_clamp (show a < 2 ^ 31 by omega)]
  iterate 5 refine hK _ _ _ _ _ ?_
  refine And.intro (vp_in_nI (n := a) (by omega) (by decide)) ?_
  rw [nI_clamp (show a < 2 ^ 31 by omega)]
  iterate 2 refine hK _ _ _ _ _ ?_
  refine And.intro (by first | omega | (rw [nI_clamp (by omega)]; omega)) (And.intro (vp_in_nI (n := b) (by omega) (by decide)) ?_)
  rw [nI_clamp (show b < 2 ^ 31 by omega)]
  rw [sUp_off (by decide)]
  iterate 3 refine hK _ _ _ _ _ ?_
  refine And.intro (by first | omega | (rw [nI_clamp (by omega)]; omega)) (And.intro (vp_in_nI (n := b) (by omega) (by decide)) ?_)
  rw [nI_clamp (show b < 2 ^ 31 by omega)]
  iterate 4 refine hK _ _ _ _ _ ?_
  refine And.intro (vp_in_nI (n := b) (by omega) (by decide)) ?_
  rw [nI_clamp (show b < 2 ^ 31 by omega)]
  iterate 5 refine hK _ _ _ _ _ ?_
  refine And.intro (vp_in_nI (n := a) (by omega) (by decide)) ?_
  rw [nI_clamp (show a < 2 ^ 31 by omega)]
  iterate 2 refine hK _ _ _ _ _ ?_
  refine And.intro (by first | omega | (rw [nI_clamp (by omega)]; omega)) (And.intro (vp_in_nI (n := b) (by omega) (by decide)) ?_)
  rw [nI_clamp (show b < 2 ^ 31 by omega)]
  rw [sUp_at]
  refine hK _ _ _ _ _ ?_
  refine And.intro (by first | omega | (rw [nI_clamp (by omega)]; omega)) (And.intro (vp_in_nI (n := a) (by omega) (by decide)) ?_)
  rw [nI_clamp (show a < 2 ^ 31 by omega)]
  refine hK _ _ _ _ _ ?_
  exact ⟨rfl, rfl⟩
theorem c7_addPerson_54 (d : Nat) (σ : sMem) (N P a b m x : Nat) (hN : N ≤ 12) (h0 : σ 55 0 0 = nI N) (h1 : σ 54 0 1 = nI P) (hP : P < 10) : yMet l D0 b0 ty ad av lay (d + 1) 0 mX7_addPerson [aR 54, aI (nI a), aI (nI b), aI (nI m), aI (nI x)] σ (fun r σ' => r = [] ∧ σ' = (sUp (sUp (sUp (sUp (sUp (sUp σ 59 0 P (nI a)) 60 0 P (nI b)) 61 0 P (nI m)) 62 0 P (nI x)) 63 0 P (nI (2 ^ N - 1))) 54 0 1 (nI (P + 1)))) (fun _ _ => False) := by
  refine yMet_intro lay_nd kX7_addPerson xX7_ok (yY7_ok _) (by decide +kernel) rfl ?_
  intro K hK
  iterate 2 refine hK _ _ _ _ _ ?_
  show K _ _ _ _ _
  rw [show σ 54 0 1 = nI P from h1]
  iterate 2 refine hK _ _ _ _ _ ?_
  refine And.intro (fun _ => ?_) (fun h9 => absurd ((nI_ltI (b := 10) (by omega) (by decide)).mpr hP) h9)
  iterate 4 refine hK _ _ _ _ _ ?_
  show K _ _ _ _ _
  rw [show σ 54 0 1 = nI P from h1]
  iterate 2 refine hK _ _ _ _ _ ?_
  refine And.intro (vp_in_nI (n := P) (by omega) (by decide)) ?_
  rw [nI_clamp (show P < 2 ^ 31 by omega)]
  iterate 4 refine hK _ _ _ _ _ ?_
  show K _ _ _ _ _
  rw [sUp_off (by decide), show σ 54 0 1 = nI P from h1]
  iterate 2 refine hK _ _ _ _ _ ?_
  refine And.intro (vp_in_nI (n := P) (by omega) (by decide)) ?_
  rw [nI_clamp (show P < 2 ^ 31 by omega)]
  iterate 4 refine hK _ _ _ _ _ ?_
  show K _ _ _ _ _
  rw [sUp_off (by decide), sUp_off (by decide), show σ 54 0 1 = nI P from h1]
  iterate 2 refine hK _ _ _ _ _ ?_
  refine And.intro (vp_in_nI (n := P) (by omega) (by decide)) ?_
  rw [nI_clamp (show P < 2 ^ 31 by omega)]
  iterate 4 refine hK _ _ _ _ _ ?_
  show K _ _ _ _ _
  rw [sUp_off (by decide), sUp_off (by decide), sUp_off (by decide), show σ 54 0 1 = nI P from h1]
  iterate 2 refine hK _ _ _ _ _ ?_
  refine And.intro (vp_in_nI (n := P) (by omega) (by decide)) ?_
  rw [nI_clamp (show P < 2 ^ 31 by omega)]
  iterate 4 refine hK _ _ _ _ _ ?_
  show K _ _ _ _ _
  rw [sUp_off (by decide), sUp_off (by decide), sUp_off (by decide), sUp_off (by decide), show σ 54 0 1 = nI P from h1]
  iterate 3 refine hK _ _ _ _ _ ?_
  show K _ _ _ _ _
  rw [sUp_off (by decide), sUp_off (by decide), sUp_off (by decide), sUp_off (by decide), show σ 55 0 0 = nI N from h0]
  refine hK _ _ _ _ _ ?_
  refine calD (c8_allBits _ _ _) ?_
  rintro r σ' ⟨rfl, rfl⟩
  show K 0 69 [some (aR 54), some (aI (nI a)), some (aI (nI b)), some (aI (nI m)), some (aI (nI x))] [aI (1 <<< (nI N &&& 31) - 1), aI (nI P), aR 63] (sUp (sUp (sUp (sUp σ 59 0 P (nI a)) 60 0 P (nI b)) 61 0 P (nI m)) 62 0 P (nI x))
  rw [all_nI hN]
  refine hK _ _ _ _ _ ?_
  refine And.intro (vp_in_nI (n := P) (by omega) (by decide)) ?_
  rw [nI_clamp (show P < 2 ^ 31 by omega)]
  iterate 3 refine hK _ _ _ _ _ ?_
  show K _ _ _ _ _
  rw [sUp_off (by decide), sUp_off (by decide), sUp_off (by decide), sUp_off (by decide), sUp_off (by decide), show σ 54 0 1 = nI P from h1]
  iterate 2 refine hK _ _ _ _ _ ?_
  show K _ _ _ _ _
  rw [show nI P + Int32.ofInt 1 = nI (P + 1) from nIs _]
  iterate 2 refine hK _ _ _ _ _ ?_
  exact ⟨rfl, rfl⟩
theorem c7_addStranger_54 (d : Nat) (σ : sMem) (S a b m : Nat) (h1 : σ 54 0 7 = nI S) (hS : S < 8) : sMet l D0 b0 ty lay d mX7_addStranger [aR 54, aI (nI a), aI (nI b), aI (nI m)] σ (fun r σ' => r = [] ∧ σ' = (sUp (sUp (sUp (sUp (sUp (sUp σ 64 0 S (nI a)) 65 0 S (nI b)) 66 0 S (nI m)) 67 0 S (nI 8)) 68 0 S (nI 0)) 54 0 7 (nI (S + 1)))) := by
  refine sMet_intro lay_nd kX7_addStranger xX7_ok (by decide +kernel) rfl ?_
  intro K hK
  iterate 2 refine hK _ _ _ _ ?_
  show K _ _ _ _
  rw [show σ 54 0 7 = nI S from h1]
  iterate 2 refine hK _ _ _ _ ?_
  refine And.intro (fun _ => ?_) (fun h9 => absurd ((nI_ltI (b := 8) (by omega) (by decide)).mpr hS) h9)
  iterate 4 refine hK _ _ _ _ ?_
  show K _ _ _ _
  rw [show σ 54 0 7 = nI S from h1]
  iterate 2 refine hK _ _ _ _ ?_
  refine And.intro (vp_in_nI (n := S) (by omega) (by decide)) ?_
  rw [nI_clamp (show S < 2 ^ 31 by omega)]
  iterate 4 refine hK _ _ _ _ ?_
  show K _ _ _ _
  rw [sUp_off (by decide), show σ 54 0 7 = nI S from h1]
  iterate 2 refine hK _ _ _ _ ?_
  refine And.intro (vp_in_nI (n := S) (by omega) (by decide)) ?_
  rw [nI_clamp (show S < 2 ^ 31 by omega)]
  iterate 4 refine hK _ _ _ _ ?_
  show K _ _ _ _
  rw [sUp_off (by decide), sUp_off (by decide), show σ 54 0 7 = nI S from h1]
  iterate 2 refine hK _ _ _ _ ?_
  refine And.intro (vp_in_nI (n := S) (by omega) (by decide)) ?_
  rw [nI_clamp (show S < 2 ^ 31 by omega)]
  iterate 4 refine hK _ _ _ _ ?_
  show K _ _ _ _
  rw [sUp_off (by decide), sUp_off (by decide), sUp_off (by decide), show σ 54 0 7 = nI S from h1]
  iterate 2 refine hK _ _ _ _ ?_
  refine And.intro (vp_in_nI (n := S) (by omega) (by decide)) ?_
  rw [nI_clamp (show S < 2 ^ 31 by omega)]
  iterate 4 refine hK _ _ _ _ ?_
  show K _ _ _ _
  rw [sUp_off (by decide), sUp_off (by decide), sUp_off (by decide), sUp_off (by decide), show σ 54 0 7 = nI S from h1]
  iterate 2 refine hK _ _ _ _ ?_
  refine And.intro (vp_in_nI (n := S) (by omega) (by decide)) ?_
  rw [nI_clamp (show S < 2 ^ 31 by omega)]
  iterate 3 refine hK _ _ _ _ ?_
  show K _ _ _ _
  rw [sUp_off (by decide), sUp_off (by decide), sUp_off (by decide), sUp_off (by decide), sUp_off (by decide), show σ 54 0 7 = nI S from h1]
  iterate 2 refine hK _ _ _ _ ?_
  show K _ _ _ _
  rw [show nI S + Int32.ofInt 1 = nI (S + 1) from nIs _]
  iterate 2 refine hK _ _ _ _ ?_
  exact ⟨rfl, by rw [show (Int8.ofInt 8).toInt32 = nI 8 by decide]; rfl⟩
theorem c7_addGuide_54 (d : Nat) (σ : sMem) (G a b : Nat) (h1 : σ 54 0 13 = nI G) (hG : G < 4) : sMet l D0 b0 ty lay d mX7_addGuide [aR 54, aI (nI a), aI (nI b)] σ (fun r σ' => r = [] ∧ σ' = (sUp (sUp (sUp σ 69 0 G (nI a)) 70 0 G (nI b)) 54 0 13 (nI (G + 1)))) := by
  refine sMet_intro lay_nd kX7_addGuide xX7_ok (by decide +kernel) rfl ?_
  intro K hK
  iterate 2 refine hK _ _ _ _ ?_
  show K _ _ _ _
  rw [show σ 54 0 13 = nI G from h1]
  iterate 2 refine hK _ _ _ _ ?_
  refine And.intro (fun _ => ?_) (fun h9 => absurd ((nI_ltI (b := 4) (by omega) (by decide)).mpr hG) h9)
  iterate 4 refine hK _ _ _ _ ?_
  show K _ _ _ _
  rw [show σ 54 0 13 = nI G from h1]
  iterate 2 refine hK _ _ _ _ ?_
  refine And.intro (vp_in_nI (n := G) (by omega) (by decide)) ?_
  rw [nI_clamp (show G < 2 ^ 31 by omega)]
  iterate 4 refine hK _ _ _ _ ?_
  show K _ _ _ _
  rw [sUp_off (by decide), show σ 54 0 13 = nI G from h1]
  iterate 2 refine hK _ _ _ _ ?_
  refine And.intro (vp_in_nI (n := G) (by omega) (by decide)) ?_
  rw [nI_clamp (show G < 2 ^ 31 by omega)]
  iterate 3 refine hK _ _ _ _ ?_
  show K _ _ _ _
  rw [sUp_off (by decide), sUp_off (by decide), show σ 54 0 13 = nI G from h1]
  iterate 2 refine hK _ _ _ _ ?_
  show K _ _ _ _
  rw [show nI G + Int32.ofInt 1 = nI (G + 1) from nIs _]
  iterate 2 refine hK _ _ _ _ ?_
  exact ⟨rfl, rfl⟩
theorem c4_readPlaces_54 (d : Nat) (σ ρ : sMem) (n N P S G Q : Nat) (hC : CSR σ ρ n) (hW : TWR σ ρ 54) (hV : RVN ρ N P S G Q) (hf0 : ρ 0 0 5 = 0) (hV0 : RVN ρ N 0 0 0 0) (hz0 : ∀ x, x < 12 → ρ 11 0 x = 0) : yMet l D0 b0 ty ad av lay (d + 4) 0 mX4_readPlaces [aR 74, aR 54] σ (fun r σ' => r = [] ∧ CLP 54 n σ (clE (sUp (numM ρ 2 12 (-1)).2 2 0 0 (numM ρ 2 12 (-1)).1)) σ') (fun _ _ => False) := by
  refine yMet_intro lay_nd kX4_readPlaces xX4_ok (yY4_ok _) (by decide +kernel) rfl ?_
  intro K hK
  obtain ⟨hN2, hN12, hP10, hS8, hG4, hQ20⟩ := hV.1
  obtain ⟨t0, t1, t2, t3, t5, -⟩ := hV.2.1
  have c0 := hW.1.1.trans t0
  have c5 := hW.1.2.1.trans t5
  have c1 := hW.1.2.2.1.trans t1
  have c2 := hW.1.2.2.2.1.trans t2
  have c3 := hW.1.2.2.2.2.1.trans t3
  have h12 : 2 ^ N ≤ 2 ^ 12 := Nat.pow_le_pow_right (by decide) hN12
  iterate 4 refine hK _ _ _ _ _ ?_
  refine Or.inr (Or.inl (yD0 (c4_number _ σ ρ n 2 12 hC (by decide)) ?_))
  rintro r σ1 ⟨x1, rfl, hx1, g1, hC1⟩
  show K 0 7 [some (aR 74), some (aR 54), none] [aI (x1)] σ1
  have hv1 := numM_val ρ 2 12 (-1)
  have hi1 : ∀ i, i ≠ 0 → (numM ρ 2 12 (-1)).2 i = ρ i := fun i hi => numM_i _ _ _ _ i hi
  generalize numM ρ 2 12 (-1) = q1 at hx1 hC1 hv1 hi1 hK
  have c0_σ1 : σ1 55 0 0 = nI N := by rw [g1 55 (by decide)]; exact c0
  have c5_σ1 : σ1 55 0 1 = nI Q := by rw [g1 55 (by decide)]; exact c5
  have c1_σ1 : σ1 54 0 1 = nI P := by rw [g1 54 (by decide)]; exact c1
  have c2_σ1 : σ1 54 0 7 = nI S := by rw [g1 54 (by decide)]; exact c2
  have c3_σ1 : σ1 54 0 13 = nI G := by rw [g1 54 (by decide)]; exact c3
  iterate 3 refine hK _ _ _ _ _ ?_
  refine Or.inl (calD (c4_ends _ σ1 (sUp q1.2 2 0 0 (q1.1)) n (hC1.up 2 0 0 _ (by decide) (by decide))) ?_)
  rintro r τ ⟨rfl, gE, hCE⟩
  show K 0 12 [some (aR 74), some (aR 54), some (aI (x1))] [aI (bI (decide (clE (sUp q1.2 2 0 0 (q1.1)) 0 0 5 = 0)))] τ
  have gT : R74 σ τ := g1.tr gE
  generalize hrm : (sUp q1.2 2 0 0 (q1.1)) = ρm at hCE hK ⊢
  have c0_τ : τ 55 0 0 = nI N := by rw [gT 55 (by decide)]; exact c0
  have c5_τ : τ 55 0 1 = nI Q := by rw [gT 55 (by decide)]; exact c5
  have c1_τ : τ 54 0 1 = nI P := by rw [gT 54 (by decide)]; exact c1
  have c2_τ : τ 54 0 7 = nI S := by rw [gT 54 (by decide)]; exact c2
  have c3_τ : τ 54 0 13 = nI G := by rw [gT 54 (by decide)]; exact c3
  refine hK _ _ _ _ _ ?_
  refine And.intro (fun h9 => ?_) (fun h9 => ?_)
  · have hno := of_decide_eq_false (bI_f h9)
    refine hK _ _ _ _ _ ?_
    exact ⟨rfl, fun i h1 _ => gT i h1, hCE, fun q => absurd q hno⟩
  · have hok := of_decide_eq_true (bI_t h9)
    have z0 := clE_ok hok
    rw [← hrm] at z0
    have z1 : q1.2 0 0 5 = 0 := by rw [sUp_off (by decide)] at z0; exact z0
    obtain ⟨y1, r1, d1⟩ := hv1.1 z1
    have ex1 := hx1 z1
    obtain ⟨K, b1, b1', e1⟩ : ∃ k : Nat, 2 ≤ k ∧ k ≤ 12 ∧ q1.1 = nI k := nI_rng (lo := 2) (hi := 12) r1.1 r1.2 (by decide) (by decide)
    rw [e1] at ex1
    subst ex1
    iterate 5 refine hK _ _ _ _ _ ?_
    refine ⟨rfl, fun i h1 h2 => ?_, hCE.cg ?_ ?_, fun _ => ?_⟩
    · rw [sUp_off (by omega)]; exact gT i h1
    · rw [sUp_off (by decide)]
    · rw [sUp_off (by decide)]
    have hrow : ∀ i, i ≠ 0 → clE ρm i = (sUp ρ 2 0 0 (nI K)) i := fun i hi => by
      rw [clE_i _ _ hi, ← hrm]
      exact sUp_cgi (hi1 i hi) e1
    exact ⟨(TWR_places (K := K) (hW.cg (fun i h1 h2 => gT i (by omega)) (fun _ _ => rfl)) (by omega)).cg (fun _ _ _ => rfl) (fun i hi => hrow i (by omega)), K, 0, 0, 0, 0, (RVN_places (K := K) hV0 (by omega) (by omega) hz0).cg (fun i hi => hrow i (by omega))⟩
theorem c4_readLaw_54 (d : Nat) (σ ρ : sMem) (n N P S G Q : Nat) (hC : CSR σ ρ n) (hW : TWR σ ρ 54) (hV : RVN ρ N P S G Q) (hf0 : ρ 0 0 5 = 0) : yMet l D0 b0 ty ad av lay (d + 4) 0 mX4_readLaw [aR 74, aR 54] σ (fun r σ' => r = [] ∧ CLP 54 n σ (clE (sUp (numM ρ 0 9 (-1)).2 2 0 4 (numM ρ 0 9 (-1)).1)) σ') (fun _ _ => False) := by
  refine yMet_intro lay_nd kX4_readLaw xX4_ok (yY4_ok _) (by decide +kernel) rfl ?_
  intro K hK
  obtain ⟨hN2, hN12, hP10, hS8, hG4, hQ20⟩ := hV.1
  obtain ⟨t0, t1, t2, t3, t5, -⟩ := hV.2.1
  have c0 := hW.1.1.trans t0
  have c5 := hW.1.2.1.trans t5
  have c1 := hW.1.2.2.1.trans t1
  have c2 := hW.1.2.2.2.1.trans t2
  have c3 := hW.1.2.2.2.2.1.trans t3
  have h12 : 2 ^ N ≤ 2 ^ 12 := Nat.pow_le_pow_right (by decide) hN12
  iterate 4 refine hK _ _ _ _ _ ?_
  refine Or.inr (Or.inl (yD0 (c4_number _ σ ρ n 0 9 hC (by decide)) ?_))
  rintro r σ1 ⟨x1, rfl, hx1, g1, hC1⟩
  show K 0 7 [some (aR 74), some (aR 54), none] [aI (x1)] σ1
  have hv1 := numM_val ρ 0 9 (-1)
  have hi1 : ∀ i, i ≠ 0 → (numM ρ 0 9 (-1)).2 i = ρ i := fun i hi => numM_i _ _ _ _ i hi
  generalize numM ρ 0 9 (-1) = q1 at hx1 hC1 hv1 hi1 hK
  have c0_σ1 : σ1 55 0 0 = nI N := by rw [g1 55 (by decide)]; exact c0
  have c5_σ1 : σ1 55 0 1 = nI Q := by rw [g1 55 (by decide)]; exact c5
  have c1_σ1 : σ1 54 0 1 = nI P := by rw [g1 54 (by decide)]; exact c1
  have c2_σ1 : σ1 54 0 7 = nI S := by rw [g1 54 (by decide)]; exact c2
  have c3_σ1 : σ1 54 0 13 = nI G := by rw [g1 54 (by decide)]; exact c3
  iterate 3 refine hK _ _ _ _ _ ?_
  refine Or.inl (calD (c4_ends _ σ1 (sUp q1.2 2 0 4 (q1.1)) n (hC1.up 2 0 4 _ (by decide) (by decide))) ?_)
  rintro r τ ⟨rfl, gE, hCE⟩
  show K 0 12 [some (aR 74), some (aR 54), some (aI (x1))] [aI (bI (decide (clE (sUp q1.2 2 0 4 (q1.1)) 0 0 5 = 0)))] τ
  have gT : R74 σ τ := g1.tr gE
  generalize hrm : (sUp q1.2 2 0 4 (q1.1)) = ρm at hCE hK ⊢
  have c0_τ : τ 55 0 0 = nI N := by rw [gT 55 (by decide)]; exact c0
  have c5_τ : τ 55 0 1 = nI Q := by rw [gT 55 (by decide)]; exact c5
  have c1_τ : τ 54 0 1 = nI P := by rw [gT 54 (by decide)]; exact c1
  have c2_τ : τ 54 0 7 = nI S := by rw [gT 54 (by decide)]; exact c2
  have c3_τ : τ 54 0 13 = nI G := by rw [gT 54 (by decide)]; exact c3
  refine hK _ _ _ _ _ ?_
  refine And.intro (fun h9 => ?_) (fun h9 => ?_)
  · have hno := of_decide_eq_false (bI_f h9)
    refine hK _ _ _ _ _ ?_
    exact ⟨rfl, fun i h1 _ => gT i h1, hCE, fun q => absurd q hno⟩
  · have hok := of_decide_eq_true (bI_t h9)
    have z0 := clE_ok hok
    rw [← hrm] at z0
    have z1 : q1.2 0 0 5 = 0 := by rw [sUp_off (by decide)] at z0; exact z0
    obtain ⟨y1, r1, d1⟩ := hv1.1 z1
    have ex1 := hx1 z1
    obtain ⟨K, b1, b1', e1⟩ : ∃ k : Nat, 0 ≤ k ∧ k ≤ 9 ∧ q1.1 = nI k := nI_rng (lo := 0) (hi := 9) r1.1 r1.2 (by decide) (by decide)
    rw [e1] at ex1
    subst ex1
    iterate 4 refine hK _ _ _ _ _ ?_
    refine ⟨rfl, fun i h1 h2 => ?_, hCE.cg ?_ ?_, fun _ => ?_⟩
    · rw [sUp_off (by omega)]; exact gT i h1
    · rw [sUp_off (by decide)]
    · rw [sUp_off (by decide)]
    have hrow : ∀ i, i ≠ 0 → clE ρm i = (sUp ρ 2 0 4 (nI K)) i := fun i hi => by
      rw [clE_i _ _ hi, ← hrm]
      exact sUp_cgi (hi1 i hi) e1
    exact ⟨(TWR_law (K := K) (hW.cg (fun i h1 h2 => gT i (by omega)) (fun _ _ => rfl)) (by omega)).cg (fun _ _ _ => rfl) (fun i hi => hrow i (by omega)), N, P, S, G, Q, (RVN_law (K := K) hV (by omega)).cg (fun i hi => hrow i (by omega))⟩
theorem c4_readStreet_54 (d : Nat) (σ ρ : sMem) (n N P S G Q : Nat) (hC : CSR σ ρ n) (hW : TWR σ ρ 54) (hV : RVN ρ N P S G Q) (hf0 : ρ 0 0 5 = 0) (hQl : Q < 20) : yMet l D0 b0 ty ad av lay (d + 4) 0 mX4_readStreet [aR 74, aR 54] σ (fun r σ' => r = [] ∧ CLP 54 n σ (clE (sUp (sUp (numM (sUp (numM (sUp (numM ρ 0 (nI N - 1) (-1)).2 4 Q 0 (numM ρ 0 (nI N - 1) (-1)).1) 0 (nI N - 1) ((sUp (numM ρ 0 (nI N - 1) (-1)).2 4 Q 0 (numM ρ 0 (nI N - 1) (-1)).1) 4 Q 0)).2 4 Q 1 (numM (sUp (numM ρ 0 (nI N - 1) (-1)).2 4 Q 0 (numM ρ 0 (nI N - 1) (-1)).1) 0 (nI N - 1) ((sUp (numM ρ 0 (nI N - 1) (-1)).2 4 Q 0 (numM ρ 0 (nI N - 1) (-1)).1) 4 Q 0)).1) 1 60 (-1)).2 4 Q 2 (numM (sUp (numM (sUp (numM ρ 0 (nI N - 1) (-1)).2 4 Q 0 (numM ρ 0 (nI N - 1) (-1)).1) 0 (nI N - 1) ((sUp (numM ρ 0 (nI N - 1) (-1)).2 4 Q 0 (numM ρ 0 (nI N - 1) (-1)).1) 4 Q 0)).2 4 Q 1 (numM (sUp (numM ρ 0 (nI N - 1) (-1)).2 4 Q 0 (numM ρ 0 (nI N - 1) (-1)).1) 0 (nI N - 1) ((sUp (numM ρ 0 (nI N - 1) (-1)).2 4 Q 0 (numM ρ 0 (nI N - 1) (-1)).1) 4 Q 0)).1) 1 60 (-1)).1) 2 0 5 ((sUp (numM (sUp (numM (sUp (numM ρ 0 (nI N - 1) (-1)).2 4 Q 0 (numM ρ 0 (nI N - 1) (-1)).1) 0 (nI N - 1) ((sUp (numM ρ 0 (nI N - 1) (-1)).2 4 Q 0 (numM ρ 0 (nI N - 1) (-1)).1) 4 Q 0)).2 4 Q 1 (numM (sUp (numM ρ 0 (nI N - 1) (-1)).2 4 Q 0 (numM ρ 0 (nI N - 1) (-1)).1) 0 (nI N - 1) ((sUp (numM ρ 0 (nI N - 1) (-1)).2 4 Q 0 (numM ρ 0 (nI N - 1) (-1)).1) 4 Q 0)).1) 1 60 (-1)).2 4 Q 2 (numM (sUp (numM (sUp (numM ρ 0 (nI N - 1) (-1)).2 4 Q 0 (numM ρ 0 (nI N - 1) (-1)).1) 0 (nI N - 1) ((sUp (numM ρ 0 (nI N - 1) (-1)).2 4 Q 0 (numM ρ 0 (nI N - 1) (-1)).1) 4 Q 0)).2 4 Q 1 (numM (sUp (numM ρ 0 (nI N - 1) (-1)).2 4 Q 0 (numM ρ 0 (nI N - 1) (-1)).1) 0 (nI N - 1) ((sUp (numM ρ 0 (nI N - 1) (-1)).2 4 Q 0 (numM ρ 0 (nI N - 1) (-1)).1) 4 Q 0)).1) 1 60 (-1)).1) 2 0 5 + 1))) σ') (fun _ _ => False) := by
  refine yMet_intro lay_nd kX4_readStreet xX4_ok (yY4_ok _) (by decide +kernel) rfl ?_
  intro K hK
  obtain ⟨hN2, hN12, hP10, hS8, hG4, hQ20⟩ := hV.1
  obtain ⟨t0, t1, t2, t3, t5, -⟩ := hV.2.1
  have c0 := hW.1.1.trans t0
  have c5 := hW.1.2.1.trans t5
  have c1 := hW.1.2.2.1.trans t1
  have c2 := hW.1.2.2.2.1.trans t2
  have c3 := hW.1.2.2.2.2.1.trans t3
  have h12 : 2 ^ N ≤ 2 ^ 12 := Nat.pow_le_pow_right (by decide) hN12
  iterate 5 refine hK _ _ _ _ _ ?_
  show K _ _ _ _ _
  rw [show σ 55 0 0 = nI N from c0]
  iterate 3 refine hK _ _ _ _ _ ?_
  refine Or.inr (Or.inl (yD0 (c4_number _ σ ρ n 0 (nI N - 1) hC (by decide)) ?_))
  rintro r σ1 ⟨x1, rfl, hx1, g1, hC1⟩
  show K 0 14 [some (aR 74), some (aR 54), none, none, none] [aI (x1)] σ1
  have hv1 := numM_val ρ 0 (nI N - 1) (-1)
  have hi1 : ∀ i, i ≠ 0 → (numM ρ 0 (nI N - 1) (-1)).2 i = ρ i := fun i hi => numM_i _ _ _ _ i hi
  generalize numM ρ 0 (nI N - 1) (-1) = q1 at hx1 hC1 hv1 hi1 hK
  have c0_σ1 : σ1 55 0 0 = nI N := by rw [g1 55 (by decide)]; exact c0
  have c5_σ1 : σ1 55 0 1 = nI Q := by rw [g1 55 (by decide)]; exact c5
  have c1_σ1 : σ1 54 0 1 = nI P := by rw [g1 54 (by decide)]; exact c1
  have c2_σ1 : σ1 54 0 7 = nI S := by rw [g1 54 (by decide)]; exact c2
  have c3_σ1 : σ1 54 0 13 = nI G := by rw [g1 54 (by decide)]; exact c3
  iterate 6 refine hK _ _ _ _ _ ?_
  show K _ _ _ _ _
  rw [show σ1 55 0 0 = nI N from c0_σ1]
  iterate 3 refine hK _ _ _ _ _ ?_
  refine Or.inr (Or.inl (yD0 (c4_other _ σ1 (sUp q1.2 4 Q 0 (q1.1)) n x1 ((sUp q1.2 4 Q 0 (q1.1)) 4 Q 0) (nI N - 1) (hC1.up 4 Q 0 _ (by decide) (by decide)) (fun q => by rw [sUp_at]; exact hx1 (by rw [sUp_off (by decide)] at q; exact q))) ?_))
  rintro r σ2 ⟨x2, rfl, hx2, g2, hC2⟩
  show K 0 29 [some (aR 74), some (aR 54), some (aI (x1)), none, none] [aI (x2)] σ2
  have hv2 := numM_val (sUp q1.2 4 Q 0 (q1.1)) 0 (nI N - 1) ((sUp q1.2 4 Q 0 (q1.1)) 4 Q 0)
  have hi2 : ∀ i, i ≠ 0 → (numM (sUp q1.2 4 Q 0 (q1.1)) 0 (nI N - 1) ((sUp q1.2 4 Q 0 (q1.1)) 4 Q 0)).2 i = (sUp q1.2 4 Q 0 (q1.1)) i := fun i hi => numM_i _ _ _ _ i hi
  generalize numM (sUp q1.2 4 Q 0 (q1.1)) 0 (nI N - 1) ((sUp q1.2 4 Q 0 (q1.1)) 4 Q 0) = q2 at hx2 hC2 hv2 hi2 hK
  have gg2 : R74 σ σ2 := g1.tr g2
  have c0_σ2 : σ2 55 0 0 = nI N := by rw [gg2 55 (by decide)]; exact c0
  have c5_σ2 : σ2 55 0 1 = nI Q := by rw [gg2 55 (by decide)]; exact c5
  have c1_σ2 : σ2 54 0 1 = nI P := by rw [gg2 54 (by decide)]; exact c1
  have c2_σ2 : σ2 54 0 7 = nI S := by rw [gg2 54 (by decide)]; exact c2
  have c3_σ2 : σ2 54 0 13 = nI G := by rw [gg2 54 (by decide)]; exact c3
  iterate 5 refine hK _ _ _ _ _ ?_
  refine Or.inr (Or.inl (yD0 (c4_number _ σ2 (sUp q2.2 4 Q 1 (q2.1)) n 1 60 (hC2.up 4 Q 1 _ (by decide) (by decide)) (by decide)) ?_))
  rintro r σ3 ⟨x3, rfl, hx3, g3, hC3⟩
  show K 0 37 [some (aR 74), some (aR 54), some (aI (x1)), some (aI (x2)), none] [aI (x3)] σ3
  have hv3 := numM_val (sUp q2.2 4 Q 1 (q2.1)) 1 60 (-1)
  have hi3 : ∀ i, i ≠ 0 → (numM (sUp q2.2 4 Q 1 (q2.1)) 1 60 (-1)).2 i = (sUp q2.2 4 Q 1 (q2.1)) i := fun i hi => numM_i _ _ _ _ i hi
  generalize numM (sUp q2.2 4 Q 1 (q2.1)) 1 60 (-1) = q3 at hx3 hC3 hv3 hi3 hK
  have gg3 : R74 σ σ3 := gg2.tr g3
  have c0_σ3 : σ3 55 0 0 = nI N := by rw [gg3 55 (by decide)]; exact c0
  have c5_σ3 : σ3 55 0 1 = nI Q := by rw [gg3 55 (by decide)]; exact c5
  have c1_σ3 : σ3 54 0 1 = nI P := by rw [gg3 54 (by decide)]; exact c1
  have c2_σ3 : σ3 54 0 7 = nI S := by rw [gg3 54 (by decide)]; exact c2
  have c3_σ3 : σ3 54 0 13 = nI G := by rw [gg3 54 (by decide)]; exact c3
  iterate 3 refine hK _ _ _ _ _ ?_
  refine Or.inl (calD (c4_ends _ σ3 (sUp (sUp q3.2 4 Q 2 (q3.1)) 2 0 5 ((sUp q3.2 4 Q 2 (q3.1)) 2 0 5 + 1)) n ((hC3.up 4 Q 2 _ (by decide) (by decide)).up 2 0 5 _ (by decide) (by decide))) ?_)
  rintro r τ ⟨rfl, gE, hCE⟩
  show K 0 43 [some (aR 74), some (aR 54), some (aI (x1)), some (aI (x2)), some (aI (x3))] [aI (bI (decide (clE (sUp (sUp q3.2 4 Q 2 (q3.1)) 2 0 5 ((sUp q3.2 4 Q 2 (q3.1)) 2 0 5 + 1)) 0 0 5 = 0)))] τ
  have gT : R74 σ τ := gg3.tr gE
  generalize hrm : (sUp (sUp q3.2 4 Q 2 (q3.1)) 2 0 5 ((sUp q3.2 4 Q 2 (q3.1)) 2 0 5 + 1)) = ρm at hCE hK ⊢
  have c0_τ : τ 55 0 0 = nI N := by rw [gT 55 (by decide)]; exact c0
  have c5_τ : τ 55 0 1 = nI Q := by rw [gT 55 (by decide)]; exact c5
  have c1_τ : τ 54 0 1 = nI P := by rw [gT 54 (by decide)]; exact c1
  have c2_τ : τ 54 0 7 = nI S := by rw [gT 54 (by decide)]; exact c2
  have c3_τ : τ 54 0 13 = nI G := by rw [gT 54 (by decide)]; exact c3
  refine hK _ _ _ _ _ ?_
  refine And.intro (fun h9 => ?_) (fun h9 => ?_)
  · have hno := of_decide_eq_false (bI_f h9)
    refine hK _ _ _ _ _ ?_
    exact ⟨rfl, fun i h1 _ => gT i h1, hCE, fun q => absurd q hno⟩
  · have hok := of_decide_eq_true (bI_t h9)
    have z0 := clE_ok hok
    rw [← hrm] at z0
    have z3 : q3.2 0 0 5 = 0 := by rw [sUp_off (by decide), sUp_off (by decide)] at z0; exact z0
    obtain ⟨y3, r3, d3⟩ := hv3.1 z3
    have ex3 := hx3 z3
    rw [sUp_off (by decide)] at y3
    have z2 := y3
    obtain ⟨y2, r2, d2⟩ := hv2.1 z2
    have ex2 := hx2 z2
    rw [sUp_off (by decide)] at y2
    have z1 := y2
    obtain ⟨y1, r1, d1⟩ := hv1.1 z1
    have ex1 := hx1 z1
    obtain ⟨a, b1, e1⟩ := inN r1 (by omega)
    rw [e1] at ex1
    subst ex1
    obtain ⟨b, b2, e2⟩ := inN r2 (by omega)
    rw [e2] at ex2
    subst ex2
    obtain ⟨m, b3, b3', e3⟩ : ∃ k : Nat, 1 ≤ k ∧ k ≤ 60 ∧ q3.1 = nI k := nI_rng (lo := 1) (hi := 60) r3.1 r3.2 (by decide) (by decide)
    rw [e3] at ex3
    subst ex3
    iterate 6 refine hK _ _ _ _ _ ?_
    refine Or.inr (Or.inl (yD0 (c6_addStreet_54 _ τ Q a b m c5_τ (by omega) (by omega)) ?_))
    rintro r σ' ⟨rfl, rfl⟩
    show K 0 57 [some (aR 74), some (aR 54), some (aI (nI a)), some (aI (nI b)), some (aI (nI m))] [] (sUp (sUp (sUp τ 55 0 1 (nI (Q + 1))) 56 a b (mnI (τ 56 a b) (nI m))) 56 b a (mnI (τ 56 a b) (nI m)))
    refine hK _ _ _ _ _ ?_
    have hab : a ≠ b := fun e => d2 (by rw [sUp_at, e2, e1, e])
    refine ⟨rfl, fun i h1 h2 => ?_, hCE.cg ?_ ?_, fun _ => ?_⟩
    · rw [sUp_off (by omega), sUp_off (by omega), sUp_off (by omega)]; exact gT i h1
    · rw [sUp_off (by decide), sUp_off (by decide), sUp_off (by decide)]
    · rw [sUp_off (by decide), sUp_off (by decide), sUp_off (by decide)]
    have hrow : ∀ i, i ≠ 0 → clE ρm i = (sUp (sUp (sUp (sUp ρ 4 Q 0 (nI a)) 4 Q 1 (nI b)) 4 Q 2 (nI m)) 2 0 5 (nI (Q + 1))) i := fun i hi => by
      rw [clE_i _ _ hi, ← hrm]
      refine sUp_cgi (sUp_cgi ((hi3 i hi).trans (sUp_cgi ((hi2 i hi).trans (sUp_cgi (hi1 i hi) e1)) e2)) e3) ?_
      rw [sUp_off (by decide), hi3 2 (by decide), sUp_off (by decide), hi2 2 (by decide), sUp_off (by decide), hi1 2 (by decide), t5]
      exact nIs Q
    exact ⟨(TWR_street (Q := Q) (a := a) (b := b) (m := m) (hW.cg (fun i h1 h2 => gT i (by omega)) (fun _ _ => rfl)) t5 (by omega) (by omega) (by omega)).cg (fun _ _ _ => rfl) (fun i hi => hrow i (by omega)), N, P, S, G, Q + 1, (RVN_street hV (by omega) b1 b2 hab (by omega) (by omega)).cg (fun i hi => hrow i (by omega))⟩
theorem c4_readPerson_54 (d : Nat) (σ ρ : sMem) (n N P S G Q : Nat) (hC : CSR σ ρ n) (hW : TWR σ ρ 54) (hV : RVN ρ N P S G Q) (hf0 : ρ 0 0 5 = 0) (hPl : P < 10) : yMet l D0 b0 ty ad av lay (d + 4) 0 mX4_readPerson [aR 74, aR 54] σ (fun r σ' => r = [] ∧ CLP 54 n σ (clE (sUp (sUp (sUp (numM (sUp (numM (sUp (numM (sUp (numM ρ 0 (nI N - 1) (-1)).2 5 P 0 (numM ρ 0 (nI N - 1) (-1)).1) 0 (nI N - 1) ((sUp (numM ρ 0 (nI N - 1) (-1)).2 5 P 0 (numM ρ 0 (nI N - 1) (-1)).1) 5 P 0)).2 5 P 1 (numM (sUp (numM ρ 0 (nI N - 1) (-1)).2 5 P 0 (numM ρ 0 (nI N - 1) (-1)).1) 0 (nI N - 1) ((sUp (numM ρ 0 (nI N - 1) (-1)).2 5 P 0 (numM ρ 0 (nI N - 1) (-1)).1) 5 P 0)).1) 0 500 (-1)).2 5 P 2 (numM (sUp (numM (sUp (numM ρ 0 (nI N - 1) (-1)).2 5 P 0 (numM ρ 0 (nI N - 1) (-1)).1) 0 (nI N - 1) ((sUp (numM ρ 0 (nI N - 1) (-1)).2 5 P 0 (numM ρ 0 (nI N - 1) (-1)).1) 5 P 0)).2 5 P 1 (numM (sUp (numM ρ 0 (nI N - 1) (-1)).2 5 P 0 (numM ρ 0 (nI N - 1) (-1)).1) 0 (nI N - 1) ((sUp (numM ρ 0 (nI N - 1) (-1)).2 5 P 0 (numM ρ 0 (nI N - 1) (-1)).1) 5 P 0)).1) 0 500 (-1)).1) 1 99 (-1)).2 5 P 3 (numM (sUp (numM (sUp (numM (sUp (numM ρ 0 (nI N - 1) (-1)).2 5 P 0 (numM ρ 0 (nI N - 1) (-1)).1) 0 (nI N - 1) ((sUp (numM ρ 0 (nI N - 1) (-1)).2 5 P 0 (numM ρ 0 (nI N - 1) (-1)).1) 5 P 0)).2 5 P 1 (numM (sUp (numM ρ 0 (nI N - 1) (-1)).2 5 P 0 (numM ρ 0 (nI N - 1) (-1)).1) 0 (nI N - 1) ((sUp (numM ρ 0 (nI N - 1) (-1)).2 5 P 0 (numM ρ 0 (nI N - 1) (-1)).1) 5 P 0)).1) 0 500 (-1)).2 5 P 2 (numM (sUp (numM (sUp (numM ρ 0 (nI N - 1) (-1)).2 5 P 0 (numM ρ 0 (nI N - 1) (-1)).1) 0 (nI N - 1) ((sUp (numM ρ 0 (nI N - 1) (-1)).2 5 P 0 (numM ρ 0 (nI N - 1) (-1)).1) 5 P 0)).2 5 P 1 (numM (sUp (numM ρ 0 (nI N - 1) (-1)).2 5 P 0 (numM ρ 0 (nI N - 1) (-1)).1) 0 (nI N - 1) ((sUp (numM ρ 0 (nI N - 1) (-1)).2 5 P 0 (numM ρ 0 (nI N - 1) (-1)).1) 5 P 0)).1) 0 500 (-1)).1) 1 99 (-1)).1) 5 P 4 (((1 <<< ((nI N - 1 + 1) &&& 31)) - 1))) 2 0 1 ((sUp (sUp (numM (sUp (numM (sUp (numM (sUp (numM ρ 0 (nI N - 1) (-1)).2 5 P 0 (numM ρ 0 (nI N - 1) (-1)).1) 0 (nI N - 1) ((sUp (numM ρ 0 (nI N - 1) (-1)).2 5 P 0 (numM ρ 0 (nI N - 1) (-1)).1) 5 P 0)).2 5 P 1 (numM (sUp (numM ρ 0 (nI N - 1) (-1)).2 5 P 0 (numM ρ 0 (nI N - 1) (-1)).1) 0 (nI N - 1) ((sUp (numM ρ 0 (nI N - 1) (-1)).2 5 P 0 (numM ρ 0 (nI N - 1) (-1)).1) 5 P 0)).1) 0 500 (-1)).2 5 P 2 (numM (sUp (numM (sUp (numM ρ 0 (nI N - 1) (-1)).2 5 P 0 (numM ρ 0 (nI N - 1) (-1)).1) 0 (nI N - 1) ((sUp (numM ρ 0 (nI N - 1) (-1)).2 5 P 0 (numM ρ 0 (nI N - 1) (-1)).1) 5 P 0)).2 5 P 1 (numM (sUp (numM ρ 0 (nI N - 1) (-1)).2 5 P 0 (numM ρ 0 (nI N - 1) (-1)).1) 0 (nI N - 1) ((sUp (numM ρ 0 (nI N - 1) (-1)).2 5 P 0 (numM ρ 0 (nI N - 1) (-1)).1) 5 P 0)).1) 0 500 (-1)).1) 1 99 (-1)).2 5 P 3 (numM (sUp (numM (sUp (numM (sUp (numM ρ 0 (nI N - 1) (-1)).2 5 P 0 (numM ρ 0 (nI N - 1) (-1)).1) 0 (nI N - 1) ((sUp (numM ρ 0 (nI N - 1) (-1)).2 5 P 0 (numM ρ 0 (nI N - 1) (-1)).1) 5 P 0)).2 5 P 1 (numM (sUp (numM ρ 0 (nI N - 1) (-1)).2 5 P 0 (numM ρ 0 (nI N - 1) (-1)).1) 0 (nI N - 1) ((sUp (numM ρ 0 (nI N - 1) (-1)).2 5 P 0 (numM ρ 0 (nI N - 1) (-1)).1) 5 P 0)).1) 0 500 (-1)).2 5 P 2 (numM (sUp (numM (sUp (numM ρ 0 (nI N - 1) (-1)).2 5 P 0 (numM ρ 0 (nI N - 1) (-1)).1) 0 (nI N - 1) ((sUp (numM ρ 0 (nI N - 1) (-1)).2 5 P 0 (numM ρ 0 (nI N - 1) (-1)).1) 5 P 0)).2 5 P 1 (numM (sUp (numM ρ 0 (nI N - 1) (-1)).2 5 P 0 (numM ρ 0 (nI N - 1) (-1)).1) 0 (nI N - 1) ((sUp (numM ρ 0 (nI N - 1) (-1)).2 5 P 0 (numM ρ 0 (nI N - 1) (-1)).1) 5 P 0)).1) 0 500 (-1)).1) 1 99 (-1)).1) 5 P 4 (((1 <<< ((nI N - 1 + 1) &&& 31)) - 1))) 2 0 1 + 1))) σ') (fun _ _ => False) := by
  refine yMet_intro lay_nd kX4_readPerson xX4_ok (yY4_ok _) (by decide +kernel) rfl ?_
  intro K hK
  obtain ⟨hN2, hN12, hP10, hS8, hG4, hQ20⟩ := hV.1
  obtain ⟨t0, t1, t2, t3, t5, -⟩ := hV.2.1
  have c0 := hW.1.1.trans t0
  have c5 := hW.1.2.1.trans t5
  have c1 := hW.1.2.2.1.trans t1
  have c2 := hW.1.2.2.2.1.trans t2
  have c3 := hW.1.2.2.2.2.1.trans t3
  have h12 : 2 ^ N ≤ 2 ^ 12 := Nat.pow_le_pow_right (by decide) hN12
  iterate 5 refine hK _ _ _ _ _ ?_
  show K _ _ _ _ _
  rw [show σ 55 0 0 = nI N from c0]
  iterate 3 refine hK _ _ _ _ _ ?_
  refine Or.inr (Or.inl (yD0 (c4_number _ σ ρ n 0 (nI N - 1) hC (by decide)) ?_))
  rintro r σ1 ⟨x1, rfl, hx1, g1, hC1⟩
  show K 0 14 [some (aR 74), some (aR 54), none, none, none, none] [aI (x1)] σ1
  have hv1 := numM_val ρ 0 (nI N - 1) (-1)
  have hi1 : ∀ i, i ≠ 0 → (numM ρ 0 (nI N - 1) (-1)).2 i = ρ i := fun i hi => numM_i _ _ _ _ i hi
  generalize numM ρ 0 (nI N - 1) (-1) = q1 at hx1 hC1 hv1 hi1 hK
  have c0_σ1 : σ1 55 0 0 = nI N := by rw [g1 55 (by decide)]; exact c0
  have c5_σ1 : σ1 55 0 1 = nI Q := by rw [g1 55 (by decide)]; exact c5
  have c1_σ1 : σ1 54 0 1 = nI P := by rw [g1 54 (by decide)]; exact c1
  have c2_σ1 : σ1 54 0 7 = nI S := by rw [g1 54 (by decide)]; exact c2
  have c3_σ1 : σ1 54 0 13 = nI G := by rw [g1 54 (by decide)]; exact c3
  iterate 6 refine hK _ _ _ _ _ ?_
  show K _ _ _ _ _
  rw [show σ1 55 0 0 = nI N from c0_σ1]
  iterate 3 refine hK _ _ _ _ _ ?_
  refine Or.inr (Or.inl (yD0 (c4_other _ σ1 (sUp q1.2 5 P 0 (q1.1)) n x1 ((sUp q1.2 5 P 0 (q1.1)) 5 P 0) (nI N - 1) (hC1.up 5 P 0 _ (by decide) (by decide)) (fun q => by rw [sUp_at]; exact hx1 (by rw [sUp_off (by decide)] at q; exact q))) ?_))
  rintro r σ2 ⟨x2, rfl, hx2, g2, hC2⟩
  show K 0 29 [some (aR 74), some (aR 54), some (aI (x1)), none, none, none] [aI (x2)] σ2
  have hv2 := numM_val (sUp q1.2 5 P 0 (q1.1)) 0 (nI N - 1) ((sUp q1.2 5 P 0 (q1.1)) 5 P 0)
  have hi2 : ∀ i, i ≠ 0 → (numM (sUp q1.2 5 P 0 (q1.1)) 0 (nI N - 1) ((sUp q1.2 5 P 0 (q1.1)) 5 P 0)).2 i = (sUp q1.2 5 P 0 (q1.1)) i := fun i hi => numM_i _ _ _ _ i hi
  generalize numM (sUp q1.2 5 P 0 (q1.1)) 0 (nI N - 1) ((sUp q1.2 5 P 0 (q1.1)) 5 P 0) = q2 at hx2 hC2 hv2 hi2 hK
  have gg2 : R74 σ σ2 := g1.tr g2
  have c0_σ2 : σ2 55 0 0 = nI N := by rw [gg2 55 (by decide)]; exact c0
  have c5_σ2 : σ2 55 0 1 = nI Q := by rw [gg2 55 (by decide)]; exact c5
  have c1_σ2 : σ2 54 0 1 = nI P := by rw [gg2 54 (by decide)]; exact c1
  have c2_σ2 : σ2 54 0 7 = nI S := by rw [gg2 54 (by decide)]; exact c2
  have c3_σ2 : σ2 54 0 13 = nI G := by rw [gg2 54 (by decide)]; exact c3
  iterate 5 refine hK _ _ _ _ _ ?_
  refine Or.inr (Or.inl (yD0 (c4_number _ σ2 (sUp q2.2 5 P 1 (q2.1)) n 0 500 (hC2.up 5 P 1 _ (by decide) (by decide)) (by decide)) ?_))
  rintro r σ3 ⟨x3, rfl, hx3, g3, hC3⟩
  show K 0 38 [some (aR 74), some (aR 54), some (aI (x1)), some (aI (x2)), none, none] [aI (x3)] σ3
  have hv3 := numM_val (sUp q2.2 5 P 1 (q2.1)) 0 500 (-1)
  have hi3 : ∀ i, i ≠ 0 → (numM (sUp q2.2 5 P 1 (q2.1)) 0 500 (-1)).2 i = (sUp q2.2 5 P 1 (q2.1)) i := fun i hi => numM_i _ _ _ _ i hi
  generalize numM (sUp q2.2 5 P 1 (q2.1)) 0 500 (-1) = q3 at hx3 hC3 hv3 hi3 hK
  have gg3 : R74 σ σ3 := gg2.tr g3
  have c0_σ3 : σ3 55 0 0 = nI N := by rw [gg3 55 (by decide)]; exact c0
  have c5_σ3 : σ3 55 0 1 = nI Q := by rw [gg3 55 (by decide)]; exact c5
  have c1_σ3 : σ3 54 0 1 = nI P := by rw [gg3 54 (by decide)]; exact c1
  have c2_σ3 : σ3 54 0 7 = nI S := by rw [gg3 54 (by decide)]; exact c2
  have c3_σ3 : σ3 54 0 13 = nI G := by rw [gg3 54 (by decide)]; exact c3
  iterate 5 refine hK _ _ _ _ _ ?_
  refine Or.inr (Or.inl (yD0 (c4_number _ σ3 (sUp q3.2 5 P 2 (q3.1)) n 1 99 (hC3.up 5 P 2 _ (by decide) (by decide)) (by decide)) ?_))
  rintro r σ4 ⟨x4, rfl, hx4, g4, hC4⟩
  show K 0 47 [some (aR 74), some (aR 54), some (aI (x1)), some (aI (x2)), some (aI (x3)), none] [aI (x4)] σ4
  have hv4 := numM_val (sUp q3.2 5 P 2 (q3.1)) 1 99 (-1)
  have hi4 : ∀ i, i ≠ 0 → (numM (sUp q3.2 5 P 2 (q3.1)) 1 99 (-1)).2 i = (sUp q3.2 5 P 2 (q3.1)) i := fun i hi => numM_i _ _ _ _ i hi
  generalize numM (sUp q3.2 5 P 2 (q3.1)) 1 99 (-1) = q4 at hx4 hC4 hv4 hi4 hK
  have gg4 : R74 σ σ4 := gg3.tr g4
  have c0_σ4 : σ4 55 0 0 = nI N := by rw [gg4 55 (by decide)]; exact c0
  have c5_σ4 : σ4 55 0 1 = nI Q := by rw [gg4 55 (by decide)]; exact c5
  have c1_σ4 : σ4 54 0 1 = nI P := by rw [gg4 54 (by decide)]; exact c1
  have c2_σ4 : σ4 54 0 7 = nI S := by rw [gg4 54 (by decide)]; exact c2
  have c3_σ4 : σ4 54 0 13 = nI G := by rw [gg4 54 (by decide)]; exact c3
  iterate 3 refine hK _ _ _ _ _ ?_
  refine Or.inl (calD (c4_ends _ σ4 (sUp (sUp (sUp q4.2 5 P 3 (q4.1)) 5 P 4 (((1 <<< ((nI N - 1 + 1) &&& 31)) - 1))) 2 0 1 ((sUp (sUp q4.2 5 P 3 (q4.1)) 5 P 4 (((1 <<< ((nI N - 1 + 1) &&& 31)) - 1))) 2 0 1 + 1)) n (((hC4.up 5 P 3 _ (by decide) (by decide)).up 5 P 4 _ (by decide) (by decide)).up 2 0 1 _ (by decide) (by decide))) ?_)
  rintro r τ ⟨rfl, gE, hCE⟩
  show K 0 53 [some (aR 74), some (aR 54), some (aI (x1)), some (aI (x2)), some (aI (x3)), some (aI (x4))] [aI (bI (decide (clE (sUp (sUp (sUp q4.2 5 P 3 (q4.1)) 5 P 4 (((1 <<< ((nI N - 1 + 1) &&& 31)) - 1))) 2 0 1 ((sUp (sUp q4.2 5 P 3 (q4.1)) 5 P 4 (((1 <<< ((nI N - 1 + 1) &&& 31)) - 1))) 2 0 1 + 1)) 0 0 5 = 0)))] τ
  have gT : R74 σ τ := gg4.tr gE
  generalize hrm : (sUp (sUp (sUp q4.2 5 P 3 (q4.1)) 5 P 4 (((1 <<< ((nI N - 1 + 1) &&& 31)) - 1))) 2 0 1 ((sUp (sUp q4.2 5 P 3 (q4.1)) 5 P 4 (((1 <<< ((nI N - 1 + 1) &&& 31)) - 1))) 2 0 1 + 1)) = ρm at hCE hK ⊢
  have c0_τ : τ 55 0 0 = nI N := by rw [gT 55 (by decide)]; exact c0
  have c5_τ : τ 55 0 1 = nI Q := by rw [gT 55 (by decide)]; exact c5
  have c1_τ : τ 54 0 1 = nI P := by rw [gT 54 (by decide)]; exact c1
  have c2_τ : τ 54 0 7 = nI S := by rw [gT 54 (by decide)]; exact c2
  have c3_τ : τ 54 0 13 = nI G := by rw [gT 54 (by decide)]; exact c3
  refine hK _ _ _ _ _ ?_
  refine And.intro (fun h9 => ?_) (fun h9 => ?_)
  · have hno := of_decide_eq_false (bI_f h9)
    refine hK _ _ _ _ _ ?_
    exact ⟨rfl, fun i h1 _ => gT i h1, hCE, fun q => absurd q hno⟩
  · have hok := of_decide_eq_true (bI_t h9)
    have z0 := clE_ok hok
    rw [← hrm] at z0
    have z4 : q4.2 0 0 5 = 0 := by rw [sUp_off (by decide), sUp_off (by decide), sUp_off (by decide)] at z0; exact z0
    obtain ⟨y4, r4, d4⟩ := hv4.1 z4
    have ex4 := hx4 z4
    rw [sUp_off (by decide)] at y4
    have z3 := y4
    obtain ⟨y3, r3, d3⟩ := hv3.1 z3
    have ex3 := hx3 z3
    rw [sUp_off (by decide)] at y3
    have z2 := y3
    obtain ⟨y2, r2, d2⟩ := hv2.1 z2
    have ex2 := hx2 z2
    rw [sUp_off (by decide)] at y2
    have z1 := y2
    obtain ⟨y1, r1, d1⟩ := hv1.1 z1
    have ex1 := hx1 z1
    obtain ⟨a, b1, e1⟩ := inN r1 (by omega)
    rw [e1] at ex1
    subst ex1
    obtain ⟨b, b2, e2⟩ := inN r2 (by omega)
    rw [e2] at ex2
    subst ex2
    obtain ⟨m, b3, b3', e3⟩ : ∃ k : Nat, 0 ≤ k ∧ k ≤ 500 ∧ q3.1 = nI k := nI_rng (lo := 0) (hi := 500) r3.1 r3.2 (by decide) (by decide)
    rw [e3] at ex3
    subst ex3
    obtain ⟨x, b4, b4', e4⟩ : ∃ k : Nat, 1 ≤ k ∧ k ≤ 99 ∧ q4.1 = nI k := nI_rng (lo := 1) (hi := 99) r4.1 r4.2 (by decide) (by decide)
    rw [e4] at ex4
    subst ex4
    iterate 6 refine hK _ _ _ _ _ ?_
    refine Or.inr (Or.inl (yD0 (c7_addPerson_54 _ τ N P a b m x hN12 c0_τ c1_τ hPl) ?_))
    rintro r σ' ⟨rfl, rfl⟩
    show K 0 66 [some (aR 74), some (aR 54), some (aI (nI a)), some (aI (nI b)), some (aI (nI m)), some (aI (nI x))] [] (sUp (sUp (sUp (sUp (sUp (sUp τ 59 0 P (nI a)) 60 0 P (nI b)) 61 0 P (nI m)) 62 0 P (nI x)) 63 0 P (nI (2 ^ N - 1))) 54 0 1 (nI (P + 1)))
    refine hK _ _ _ _ _ ?_
    have hab : a ≠ b := fun e => d2 (by rw [sUp_at, e2, e1, e])
    have hkw : (1 <<< ((nI N - 1 + 1) &&& 31) : Int32) - 1 = nI (2 ^ N - 1) := by rw [Int32.sub_add_cancel]; exact all_nI hN12
    have h1N : 2 ^ N - 1 < 2 ^ N := Nat.sub_lt (Nat.two_pow_pos N) (by decide)
    refine ⟨rfl, fun i h1 h2 => ?_, hCE.cg ?_ ?_, fun _ => ?_⟩
    · rw [sUp_off (by omega), sUp_off (by omega), sUp_off (by omega), sUp_off (by omega), sUp_off (by omega), sUp_off (by omega)]; exact gT i h1
    · rw [sUp_off (by decide), sUp_off (by decide), sUp_off (by decide), sUp_off (by decide), sUp_off (by decide), sUp_off (by decide)]
    · rw [sUp_off (by decide), sUp_off (by decide), sUp_off (by decide), sUp_off (by decide), sUp_off (by decide), sUp_off (by decide)]
    have hrow : ∀ i, i ≠ 0 → clE ρm i = (sUp (sUp (sUp (sUp (sUp (sUp ρ 5 P 0 (nI a)) 5 P 1 (nI b)) 5 P 2 (nI m)) 5 P 3 (nI x)) 5 P 4 (nI (2 ^ N - 1))) 2 0 1 (nI (P + 1))) i := fun i hi => by
      rw [clE_i _ _ hi, ← hrm]
      refine sUp_cgi (sUp_cgi (sUp_cgi ((hi4 i hi).trans (sUp_cgi ((hi3 i hi).trans (sUp_cgi ((hi2 i hi).trans (sUp_cgi (hi1 i hi) e1)) e2)) e3)) e4) hkw) ?_
      rw [sUp_off (by decide), sUp_off (by decide), hi4 2 (by decide), sUp_off (by decide), hi3 2 (by decide), sUp_off (by decide), hi2 2 (by decide), sUp_off (by decide), hi1 2 (by decide), t1]
      exact nIs P
    exact ⟨(TWR_person (a := a) (b := b) (m := m) (v := x) (k := 2 ^ N - 1) (hW.cg (fun i h1 h2 => gT i (by omega)) (fun _ _ => rfl)) t1 (by omega)).cg (fun _ _ _ => rfl) (fun i hi => hrow i (by omega)), N, P + 1, S, G, Q, (RVN_person hV hPl b1 b2 hab (by omega) (by omega) (by omega) h1N).cg (fun i hi => hrow i (by omega))⟩
theorem c4_readStranger_54 (d : Nat) (σ ρ : sMem) (n N P S G Q : Nat) (hC : CSR σ ρ n) (hW : TWR σ ρ 54) (hV : RVN ρ N P S G Q) (hf0 : ρ 0 0 5 = 0) (hSl : S < 8) : yMet l D0 b0 ty ad av lay (d + 4) 0 mX4_readStranger [aR 74, aR 54] σ (fun r σ' => r = [] ∧ CLP 54 n σ (clE (sUp (sUp (sUp (sUp (numM (sUp (numM (sUp (numM ρ 0 (nI N - 1) (-1)).2 7 S 0 (numM ρ 0 (nI N - 1) (-1)).1) 0 (nI N - 1) ((sUp (numM ρ 0 (nI N - 1) (-1)).2 7 S 0 (numM ρ 0 (nI N - 1) (-1)).1) 7 S 0)).2 7 S 1 (numM (sUp (numM ρ 0 (nI N - 1) (-1)).2 7 S 0 (numM ρ 0 (nI N - 1) (-1)).1) 0 (nI N - 1) ((sUp (numM ρ 0 (nI N - 1) (-1)).2 7 S 0 (numM ρ 0 (nI N - 1) (-1)).1) 7 S 0)).1) 0 500 (-1)).2 7 S 2 (numM (sUp (numM (sUp (numM ρ 0 (nI N - 1) (-1)).2 7 S 0 (numM ρ 0 (nI N - 1) (-1)).1) 0 (nI N - 1) ((sUp (numM ρ 0 (nI N - 1) (-1)).2 7 S 0 (numM ρ 0 (nI N - 1) (-1)).1) 7 S 0)).2 7 S 1 (numM (sUp (numM ρ 0 (nI N - 1) (-1)).2 7 S 0 (numM ρ 0 (nI N - 1) (-1)).1) 0 (nI N - 1) ((sUp (numM ρ 0 (nI N - 1) (-1)).2 7 S 0 (numM ρ 0 (nI N - 1) (-1)).1) 7 S 0)).1) 0 500 (-1)).1) 7 S 3 8) 7 S 4 0) 2 0 2 ((sUp (sUp (sUp (numM (sUp (numM (sUp (numM ρ 0 (nI N - 1) (-1)).2 7 S 0 (numM ρ 0 (nI N - 1) (-1)).1) 0 (nI N - 1) ((sUp (numM ρ 0 (nI N - 1) (-1)).2 7 S 0 (numM ρ 0 (nI N - 1) (-1)).1) 7 S 0)).2 7 S 1 (numM (sUp (numM ρ 0 (nI N - 1) (-1)).2 7 S 0 (numM ρ 0 (nI N - 1) (-1)).1) 0 (nI N - 1) ((sUp (numM ρ 0 (nI N - 1) (-1)).2 7 S 0 (numM ρ 0 (nI N - 1) (-1)).1) 7 S 0)).1) 0 500 (-1)).2 7 S 2 (numM (sUp (numM (sUp (numM ρ 0 (nI N - 1) (-1)).2 7 S 0 (numM ρ 0 (nI N - 1) (-1)).1) 0 (nI N - 1) ((sUp (numM ρ 0 (nI N - 1) (-1)).2 7 S 0 (numM ρ 0 (nI N - 1) (-1)).1) 7 S 0)).2 7 S 1 (numM (sUp (numM ρ 0 (nI N - 1) (-1)).2 7 S 0 (numM ρ 0 (nI N - 1) (-1)).1) 0 (nI N - 1) ((sUp (numM ρ 0 (nI N - 1) (-1)).2 7 S 0 (numM ρ 0 (nI N - 1) (-1)).1) 7 S 0)).1) 0 500 (-1)).1) 7 S 3 8) 7 S 4 0) 2 0 2 + 1))) σ') (fun _ _ => False) := by
  refine yMet_intro lay_nd kX4_readStranger xX4_ok (yY4_ok _) (by decide +kernel) rfl ?_
  intro K hK
  obtain ⟨hN2, hN12, hP10, hS8, hG4, hQ20⟩ := hV.1
  obtain ⟨t0, t1, t2, t3, t5, -⟩ := hV.2.1
  have c0 := hW.1.1.trans t0
  have c5 := hW.1.2.1.trans t5
  have c1 := hW.1.2.2.1.trans t1
  have c2 := hW.1.2.2.2.1.trans t2
  have c3 := hW.1.2.2.2.2.1.trans t3
  have h12 : 2 ^ N ≤ 2 ^ 12 := Nat.pow_le_pow_right (by decide) hN12
  iterate 5 refine hK _ _ _ _ _ ?_
  show K _ _ _ _ _
  rw [show σ 55 0 0 = nI N from c0]
  iterate 3 refine hK _ _ _ _ _ ?_
  refine Or.inr (Or.inl (yD0 (c4_number _ σ ρ n 0 (nI N - 1) hC (by decide)) ?_))
  rintro r σ1 ⟨x1, rfl, hx1, g1, hC1⟩
  show K 0 14 [some (aR 74), some (aR 54), none, none, none] [aI (x1)] σ1
  have hv1 := numM_val ρ 0 (nI N - 1) (-1)
  have hi1 : ∀ i, i ≠ 0 → (numM ρ 0 (nI N - 1) (-1)).2 i = ρ i := fun i hi => numM_i _ _ _ _ i hi
  generalize numM ρ 0 (nI N - 1) (-1) = q1 at hx1 hC1 hv1 hi1 hK
  have c0_σ1 : σ1 55 0 0 = nI N := by rw [g1 55 (by decide)]; exact c0
  have c5_σ1 : σ1 55 0 1 = nI Q := by rw [g1 55 (by decide)]; exact c5
  have c1_σ1 : σ1 54 0 1 = nI P := by rw [g1 54 (by decide)]; exact c1
  have c2_σ1 : σ1 54 0 7 = nI S := by rw [g1 54 (by decide)]; exact c2
  have c3_σ1 : σ1 54 0 13 = nI G := by rw [g1 54 (by decide)]; exact c3
  iterate 6 refine hK _ _ _ _ _ ?_
  show K _ _ _ _ _
  rw [show σ1 55 0 0 = nI N from c0_σ1]
  iterate 3 refine hK _ _ _ _ _ ?_
  refine Or.inr (Or.inl (yD0 (c4_other _ σ1 (sUp q1.2 7 S 0 (q1.1)) n x1 ((sUp q1.2 7 S 0 (q1.1)) 7 S 0) (nI N - 1) (hC1.up 7 S 0 _ (by decide) (by decide)) (fun q => by rw [sUp_at]; exact hx1 (by rw [sUp_off (by decide)] at q; exact q))) ?_))
  rintro r σ2 ⟨x2, rfl, hx2, g2, hC2⟩
  show K 0 29 [some (aR 74), some (aR 54), some (aI (x1)), none, none] [aI (x2)] σ2
  have hv2 := numM_val (sUp q1.2 7 S 0 (q1.1)) 0 (nI N - 1) ((sUp q1.2 7 S 0 (q1.1)) 7 S 0)
  have hi2 : ∀ i, i ≠ 0 → (numM (sUp q1.2 7 S 0 (q1.1)) 0 (nI N - 1) ((sUp q1.2 7 S 0 (q1.1)) 7 S 0)).2 i = (sUp q1.2 7 S 0 (q1.1)) i := fun i hi => numM_i _ _ _ _ i hi
  generalize numM (sUp q1.2 7 S 0 (q1.1)) 0 (nI N - 1) ((sUp q1.2 7 S 0 (q1.1)) 7 S 0) = q2 at hx2 hC2 hv2 hi2 hK
  have gg2 : R74 σ σ2 := g1.tr g2
  have c0_σ2 : σ2 55 0 0 = nI N := by rw [gg2 55 (by decide)]; exact c0
  have c5_σ2 : σ2 55 0 1 = nI Q := by rw [gg2 55 (by decide)]; exact c5
  have c1_σ2 : σ2 54 0 1 = nI P := by rw [gg2 54 (by decide)]; exact c1
  have c2_σ2 : σ2 54 0 7 = nI S := by rw [gg2 54 (by decide)]; exact c2
  have c3_σ2 : σ2 54 0 13 = nI G := by rw [gg2 54 (by decide)]; exact c3
  iterate 5 refine hK _ _ _ _ _ ?_
  refine Or.inr (Or.inl (yD0 (c4_number _ σ2 (sUp q2.2 7 S 1 (q2.1)) n 0 500 (hC2.up 7 S 1 _ (by decide) (by decide)) (by decide)) ?_))
  rintro r σ3 ⟨x3, rfl, hx3, g3, hC3⟩
  show K 0 38 [some (aR 74), some (aR 54), some (aI (x1)), some (aI (x2)), none] [aI (x3)] σ3
  have hv3 := numM_val (sUp q2.2 7 S 1 (q2.1)) 0 500 (-1)
  have hi3 : ∀ i, i ≠ 0 → (numM (sUp q2.2 7 S 1 (q2.1)) 0 500 (-1)).2 i = (sUp q2.2 7 S 1 (q2.1)) i := fun i hi => numM_i _ _ _ _ i hi
  generalize numM (sUp q2.2 7 S 1 (q2.1)) 0 500 (-1) = q3 at hx3 hC3 hv3 hi3 hK
  have gg3 : R74 σ σ3 := gg2.tr g3
  have c0_σ3 : σ3 55 0 0 = nI N := by rw [gg3 55 (by decide)]; exact c0
  have c5_σ3 : σ3 55 0 1 = nI Q := by rw [gg3 55 (by decide)]; exact c5
  have c1_σ3 : σ3 54 0 1 = nI P := by rw [gg3 54 (by decide)]; exact c1
  have c2_σ3 : σ3 54 0 7 = nI S := by rw [gg3 54 (by decide)]; exact c2
  have c3_σ3 : σ3 54 0 13 = nI G := by rw [gg3 54 (by decide)]; exact c3
  iterate 3 refine hK _ _ _ _ _ ?_
  refine Or.inl (calD (c4_ends _ σ3 (sUp (sUp (sUp (sUp q3.2 7 S 2 (q3.1)) 7 S 3 (8)) 7 S 4 (0)) 2 0 2 ((sUp (sUp (sUp q3.2 7 S 2 (q3.1)) 7 S 3 (8)) 7 S 4 (0)) 2 0 2 + 1)) n ((((hC3.up 7 S 2 _ (by decide) (by decide)).up 7 S 3 _ (by decide) (by decide)).up 7 S 4 _ (by decide) (by decide)).up 2 0 2 _ (by decide) (by decide))) ?_)
  rintro r τ ⟨rfl, gE, hCE⟩
  show K 0 44 [some (aR 74), some (aR 54), some (aI (x1)), some (aI (x2)), some (aI (x3))] [aI (bI (decide (clE (sUp (sUp (sUp (sUp q3.2 7 S 2 (q3.1)) 7 S 3 (8)) 7 S 4 (0)) 2 0 2 ((sUp (sUp (sUp q3.2 7 S 2 (q3.1)) 7 S 3 (8)) 7 S 4 (0)) 2 0 2 + 1)) 0 0 5 = 0)))] τ
  have gT : R74 σ τ := gg3.tr gE
  generalize hrm : (sUp (sUp (sUp (sUp q3.2 7 S 2 (q3.1)) 7 S 3 (8)) 7 S 4 (0)) 2 0 2 ((sUp (sUp (sUp q3.2 7 S 2 (q3.1)) 7 S 3 (8)) 7 S 4 (0)) 2 0 2 + 1)) = ρm at hCE hK ⊢
  have c0_τ : τ 55 0 0 = nI N := by rw [gT 55 (by decide)]; exact c0
  have c5_τ : τ 55 0 1 = nI Q := by rw [gT 55 (by decide)]; exact c5
  have c1_τ : τ 54 0 1 = nI P := by rw [gT 54 (by decide)]; exact c1
  have c2_τ : τ 54 0 7 = nI S := by rw [gT 54 (by decide)]; exact c2
  have c3_τ : τ 54 0 13 = nI G := by rw [gT 54 (by decide)]; exact c3
  refine hK _ _ _ _ _ ?_
  refine And.intro (fun h9 => ?_) (fun h9 => ?_)
  · have hno := of_decide_eq_false (bI_f h9)
    refine hK _ _ _ _ _ ?_
    exact ⟨rfl, fun i h1 _ => gT i h1, hCE, fun q => absurd q hno⟩
  · have hok := of_decide_eq_true (bI_t h9)
    have z0 := clE_ok hok
    rw [← hrm] at z0
    have z3 : q3.2 0 0 5 = 0 := by rw [sUp_off (by decide), sUp_off (by decide), sUp_off (by decide), sUp_off (by decide)] at z0; exact z0
    obtain ⟨y3, r3, d3⟩ := hv3.1 z3
    have ex3 := hx3 z3
    rw [sUp_off (by decide)] at y3
    have z2 := y3
    obtain ⟨y2, r2, d2⟩ := hv2.1 z2
    have ex2 := hx2 z2
    rw [sUp_off (by decide)] at y2
    have z1 := y2
    obtain ⟨y1, r1, d1⟩ := hv1.1 z1
    have ex1 := hx1 z1
    obtain ⟨a, b1, e1⟩ := inN r1 (by omega)
    rw [e1] at ex1
    subst ex1
    obtain ⟨b, b2, e2⟩ := inN r2 (by omega)
    rw [e2] at ex2
    subst ex2
    obtain ⟨m, b3, b3', e3⟩ : ∃ k : Nat, 0 ≤ k ∧ k ≤ 500 ∧ q3.1 = nI k := nI_rng (lo := 0) (hi := 500) r3.1 r3.2 (by decide) (by decide)
    rw [e3] at ex3
    subst ex3
    iterate 5 refine hK _ _ _ _ _ ?_
    refine Or.inl (calD (c7_addStranger_54 _ τ S a b m c2_τ hSl) ?_)
    rintro r σ' ⟨rfl, rfl⟩
    show K 0 55 [some (aR 74), some (aR 54), some (aI (nI a)), some (aI (nI b)), some (aI (nI m))] [] (sUp (sUp (sUp (sUp (sUp (sUp τ 64 0 S (nI a)) 65 0 S (nI b)) 66 0 S (nI m)) 67 0 S (nI 8)) 68 0 S (nI 0)) 54 0 7 (nI (S + 1)))
    refine hK _ _ _ _ _ ?_
    have hab : a ≠ b := fun e => d2 (by rw [sUp_at, e2, e1, e])
    refine ⟨rfl, fun i h1 h2 => ?_, hCE.cg ?_ ?_, fun _ => ?_⟩
    · rw [sUp_off (by omega), sUp_off (by omega), sUp_off (by omega), sUp_off (by omega), sUp_off (by omega), sUp_off (by omega)]; exact gT i h1
    · rw [sUp_off (by decide), sUp_off (by decide), sUp_off (by decide), sUp_off (by decide), sUp_off (by decide), sUp_off (by decide)]
    · rw [sUp_off (by decide), sUp_off (by decide), sUp_off (by decide), sUp_off (by decide), sUp_off (by decide), sUp_off (by decide)]
    have hrow : ∀ i, i ≠ 0 → clE ρm i = (sUp (sUp (sUp (sUp (sUp (sUp ρ 7 S 0 (nI a)) 7 S 1 (nI b)) 7 S 2 (nI m)) 7 S 3 (nI 8)) 7 S 4 (nI 0)) 2 0 2 (nI (S + 1))) i := fun i hi => by
      rw [clE_i _ _ hi, ← hrm]
      refine sUp_cgi (sUp_cgi (sUp_cgi (sUp_cgi ((hi3 i hi).trans (sUp_cgi ((hi2 i hi).trans (sUp_cgi (hi1 i hi) e1)) e2)) e3) rfl) rfl) ?_
      rw [sUp_off (by decide), sUp_off (by decide), sUp_off (by decide), hi3 2 (by decide), sUp_off (by decide), hi2 2 (by decide), sUp_off (by decide), hi1 2 (by decide), t2]
      exact nIs S
    exact ⟨(TWR_stranger (a := a) (b := b) (m := m) (hW.cg (fun i h1 h2 => gT i (by omega)) (fun _ _ => rfl)) t2 (by omega)).cg (fun _ _ _ => rfl) (fun i hi => hrow i (by omega)), N, P, S + 1, G, Q, (RVN_stranger hV hSl b1 b2 hab (by omega)).cg (fun i hi => hrow i (by omega))⟩
theorem c4_readGuide_54 (d : Nat) (σ ρ : sMem) (n N P S G Q : Nat) (hC : CSR σ ρ n) (hW : TWR σ ρ 54) (hV : RVN ρ N P S G Q) (hf0 : ρ 0 0 5 = 0) (hGl : G < 4) : yMet l D0 b0 ty ad av lay (d + 4) 0 mX4_readGuide [aR 74, aR 54] σ (fun r σ' => r = [] ∧ CLP 54 n σ (clE (sUp (sUp (numM (sUp (numM ρ 0 (nI N - 1) (-1)).2 9 G 0 (numM ρ 0 (nI N - 1) (-1)).1) 0 9 (-1)).2 9 G 1 (numM (sUp (numM ρ 0 (nI N - 1) (-1)).2 9 G 0 (numM ρ 0 (nI N - 1) (-1)).1) 0 9 (-1)).1) 2 0 3 ((sUp (numM (sUp (numM ρ 0 (nI N - 1) (-1)).2 9 G 0 (numM ρ 0 (nI N - 1) (-1)).1) 0 9 (-1)).2 9 G 1 (numM (sUp (numM ρ 0 (nI N - 1) (-1)).2 9 G 0 (numM ρ 0 (nI N - 1) (-1)).1) 0 9 (-1)).1) 2 0 3 + 1))) σ') (fun _ _ => False) := by
  refine yMet_intro lay_nd kX4_readGuide xX4_ok (yY4_ok _) (by decide +kernel) rfl ?_
  intro K hK
  obtain ⟨hN2, hN12, hP10, hS8, hG4, hQ20⟩ := hV.1
  obtain ⟨t0, t1, t2, t3, t5, -⟩ := hV.2.1
  have c0 := hW.1.1.trans t0
  have c5 := hW.1.2.1.trans t5
  have c1 := hW.1.2.2.1.trans t1
  have c2 := hW.1.2.2.2.1.trans t2
  have c3 := hW.1.2.2.2.2.1.trans t3
  have h12 : 2 ^ N ≤ 2 ^ 12 := Nat.pow_le_pow_right (by decide) hN12
  iterate 5 refine hK _ _ _ _ _ ?_
  show K _ _ _ _ _
  rw [show σ 55 0 0 = nI N from c0]
  iterate 3 refine hK _ _ _ _ _ ?_
  refine Or.inr (Or.inl (yD0 (c4_number _ σ ρ n 0 (nI N - 1) hC (by decide)) ?_))
  rintro r σ1 ⟨x1, rfl, hx1, g1, hC1⟩
  show K 0 14 [some (aR 74), some (aR 54), none, none] [aI (x1)] σ1
  have hv1 := numM_val ρ 0 (nI N - 1) (-1)
  have hi1 : ∀ i, i ≠ 0 → (numM ρ 0 (nI N - 1) (-1)).2 i = ρ i := fun i hi => numM_i _ _ _ _ i hi
  generalize numM ρ 0 (nI N - 1) (-1) = q1 at hx1 hC1 hv1 hi1 hK
  have c0_σ1 : σ1 55 0 0 = nI N := by rw [g1 55 (by decide)]; exact c0
  have c5_σ1 : σ1 55 0 1 = nI Q := by rw [g1 55 (by decide)]; exact c5
  have c1_σ1 : σ1 54 0 1 = nI P := by rw [g1 54 (by decide)]; exact c1
  have c2_σ1 : σ1 54 0 7 = nI S := by rw [g1 54 (by decide)]; exact c2
  have c3_σ1 : σ1 54 0 13 = nI G := by rw [g1 54 (by decide)]; exact c3
  iterate 5 refine hK _ _ _ _ _ ?_
  refine Or.inr (Or.inl (yD0 (c4_number _ σ1 (sUp q1.2 9 G 0 (q1.1)) n 0 9 (hC1.up 9 G 0 _ (by decide) (by decide)) (by decide)) ?_))
  rintro r σ2 ⟨x2, rfl, hx2, g2, hC2⟩
  show K 0 22 [some (aR 74), some (aR 54), some (aI (x1)), none] [aI (x2)] σ2
  have hv2 := numM_val (sUp q1.2 9 G 0 (q1.1)) 0 9 (-1)
  have hi2 : ∀ i, i ≠ 0 → (numM (sUp q1.2 9 G 0 (q1.1)) 0 9 (-1)).2 i = (sUp q1.2 9 G 0 (q1.1)) i := fun i hi => numM_i _ _ _ _ i hi
  generalize numM (sUp q1.2 9 G 0 (q1.1)) 0 9 (-1) = q2 at hx2 hC2 hv2 hi2 hK
  have gg2 : R74 σ σ2 := g1.tr g2
  have c0_σ2 : σ2 55 0 0 = nI N := by rw [gg2 55 (by decide)]; exact c0
  have c5_σ2 : σ2 55 0 1 = nI Q := by rw [gg2 55 (by decide)]; exact c5
  have c1_σ2 : σ2 54 0 1 = nI P := by rw [gg2 54 (by decide)]; exact c1
  have c2_σ2 : σ2 54 0 7 = nI S := by rw [gg2 54 (by decide)]; exact c2
  have c3_σ2 : σ2 54 0 13 = nI G := by rw [gg2 54 (by decide)]; exact c3
  iterate 3 refine hK _ _ _ _ _ ?_
  refine Or.inl (calD (c4_ends _ σ2 (sUp (sUp q2.2 9 G 1 (q2.1)) 2 0 3 ((sUp q2.2 9 G 1 (q2.1)) 2 0 3 + 1)) n ((hC2.up 9 G 1 _ (by decide) (by decide)).up 2 0 3 _ (by decide) (by decide))) ?_)
  rintro r τ ⟨rfl, gE, hCE⟩
  show K 0 27 [some (aR 74), some (aR 54), some (aI (x1)), some (aI (x2))] [aI (bI (decide (clE (sUp (sUp q2.2 9 G 1 (q2.1)) 2 0 3 ((sUp q2.2 9 G 1 (q2.1)) 2 0 3 + 1)) 0 0 5 = 0)))] τ
  have gT : R74 σ τ := gg2.tr gE
  generalize hrm : (sUp (sUp q2.2 9 G 1 (q2.1)) 2 0 3 ((sUp q2.2 9 G 1 (q2.1)) 2 0 3 + 1)) = ρm at hCE hK ⊢
  have c0_τ : τ 55 0 0 = nI N := by rw [gT 55 (by decide)]; exact c0
  have c5_τ : τ 55 0 1 = nI Q := by rw [gT 55 (by decide)]; exact c5
  have c1_τ : τ 54 0 1 = nI P := by rw [gT 54 (by decide)]; exact c1
  have c2_τ : τ 54 0 7 = nI S := by rw [gT 54 (by decide)]; exact c2
  have c3_τ : τ 54 0 13 = nI G := by rw [gT 54 (by decide)]; exact c3
  refine hK _ _ _ _ _ ?_
  refine And.intro (fun h9 => ?_) (fun h9 => ?_)
  · have hno := of_decide_eq_false (bI_f h9)
    refine hK _ _ _ _ _ ?_
    exact ⟨rfl, fun i h1 _ => gT i h1, hCE, fun q => absurd q hno⟩
  · have hok := of_decide_eq_true (bI_t h9)
    have z0 := clE_ok hok
    rw [← hrm] at z0
    have z2 : q2.2 0 0 5 = 0 := by rw [sUp_off (by decide), sUp_off (by decide)] at z0; exact z0
    obtain ⟨y2, r2, d2⟩ := hv2.1 z2
    have ex2 := hx2 z2
    rw [sUp_off (by decide)] at y2
    have z1 := y2
    obtain ⟨y1, r1, d1⟩ := hv1.1 z1
    have ex1 := hx1 z1
    obtain ⟨a, b1, e1⟩ := inN r1 (by omega)
    rw [e1] at ex1
    subst ex1
    obtain ⟨b, b2, b2', e2⟩ : ∃ k : Nat, 0 ≤ k ∧ k ≤ 9 ∧ q2.1 = nI k := nI_rng (lo := 0) (hi := 9) r2.1 r2.2 (by decide) (by decide)
    rw [e2] at ex2
    subst ex2
    iterate 4 refine hK _ _ _ _ _ ?_
    refine Or.inl (calD (c7_addGuide_54 _ τ G a b c3_τ hGl) ?_)
    rintro r σ' ⟨rfl, rfl⟩
    show K 0 36 [some (aR 74), some (aR 54), some (aI (nI a)), some (aI (nI b))] [] (sUp (sUp (sUp τ 69 0 G (nI a)) 70 0 G (nI b)) 54 0 13 (nI (G + 1)))
    refine hK _ _ _ _ _ ?_
    refine ⟨rfl, fun i h1 h2 => ?_, hCE.cg ?_ ?_, fun _ => ?_⟩
    · rw [sUp_off (by omega), sUp_off (by omega), sUp_off (by omega)]; exact gT i h1
    · rw [sUp_off (by decide), sUp_off (by decide), sUp_off (by decide)]
    · rw [sUp_off (by decide), sUp_off (by decide), sUp_off (by decide)]
    have hrow : ∀ i, i ≠ 0 → clE ρm i = (sUp (sUp (sUp ρ 9 G 0 (nI a)) 9 G 1 (nI b)) 2 0 3 (nI (G + 1))) i := fun i hi => by
      rw [clE_i _ _ hi, ← hrm]
      refine sUp_cgi (sUp_cgi ((hi2 i hi).trans (sUp_cgi (hi1 i hi) e1)) e2) ?_
      rw [sUp_off (by decide), hi2 2 (by decide), sUp_off (by decide), hi1 2 (by decide), t3]
      exact nIs G
    exact ⟨(TWR_guide (a := a) (b := b) (hW.cg (fun i h1 h2 => gT i (by omega)) (fun _ _ => rfl)) t3 (by omega)).cg (fun _ _ _ => rfl) (fun i hi => hrow i (by omega)), N, P, S, G + 1, Q, (RVN_guide hV hGl b1 (by omega)).cg (fun i hi => hrow i (by omega))⟩
theorem c4_readSign_54 (d : Nat) (σ ρ : sMem) (n N P S G Q : Nat) (hC : CSR σ ρ n) (hW : TWR σ ρ 54) (hV : RVN ρ N P S G Q) (hf0 : ρ 0 0 5 = 0) : yMet l D0 b0 ty ad av lay (d + 4) 0 mX4_readSign [aR 74, aR 54] σ (fun r σ' => r = [] ∧ CLP 54 n σ (clE (if (numM (numM ρ 0 (nI N - 1) (-1)).2 0 (nI N - 1) (numM ρ 0 (nI N - 1) (-1)).1).2 0 0 5 = 0 then sUp (numM (numM ρ 0 (nI N - 1) (-1)).2 0 (nI N - 1) (numM ρ 0 (nI N - 1) (-1)).1).2 11 0 (numM ρ 0 (nI N - 1) (-1)).1.toNatClampNeg ((numM (numM ρ 0 (nI N - 1) (-1)).2 0 (nI N - 1) (numM ρ 0 (nI N - 1) (-1)).1).2 11 0 (numM ρ 0 (nI N - 1) (-1)).1.toNatClampNeg ||| (1 <<< ((numM (numM ρ 0 (nI N - 1) (-1)).2 0 (nI N - 1) (numM ρ 0 (nI N - 1) (-1)).1).1 &&& 31))) else (numM (numM ρ 0 (nI N - 1) (-1)).2 0 (nI N - 1) (numM ρ 0 (nI N - 1) (-1)).1).2)) σ') (fun _ _ => False) := by
  refine yMet_intro lay_nd kX4_readSign xX4_ok (yY4_ok _) (by decide +kernel) rfl ?_
  intro K hK
  obtain ⟨hN2, hN12, hP10, hS8, hG4, hQ20⟩ := hV.1
  obtain ⟨t0, t1, t2, t3, t5, -⟩ := hV.2.1
  have c0 := hW.1.1.trans t0
  have c5 := hW.1.2.1.trans t5
  have c1 := hW.1.2.2.1.trans t1
  have c2 := hW.1.2.2.2.1.trans t2
  have c3 := hW.1.2.2.2.2.1.trans t3
  have h12 : 2 ^ N ≤ 2 ^ 12 := Nat.pow_le_pow_right (by decide) hN12
  iterate 5 refine hK _ _ _ _ _ ?_
  show K _ _ _ _ _
  rw [show σ 55 0 0 = nI N from c0]
  iterate 3 refine hK _ _ _ _ _ ?_
  refine Or.inr (Or.inl (yD0 (c4_number _ σ ρ n 0 (nI N - 1) hC (by decide)) ?_))
  rintro r σ1 ⟨x1, rfl, hx1, g1, hC1⟩
  show K 0 14 [some (aR 74), some (aR 54), none, none] [aI (x1)] σ1
  have hv1 := numM_val ρ 0 (nI N - 1) (-1)
  have hi1 : ∀ i, i ≠ 0 → (numM ρ 0 (nI N - 1) (-1)).2 i = ρ i := fun i hi => numM_i _ _ _ _ i hi
  generalize numM ρ 0 (nI N - 1) (-1) = q1 at hx1 hC1 hv1 hi1 hK
  have c0_σ1 : σ1 55 0 0 = nI N := by rw [g1 55 (by decide)]; exact c0
  have c5_σ1 : σ1 55 0 1 = nI Q := by rw [g1 55 (by decide)]; exact c5
  have c1_σ1 : σ1 54 0 1 = nI P := by rw [g1 54 (by decide)]; exact c1
  have c2_σ1 : σ1 54 0 7 = nI S := by rw [g1 54 (by decide)]; exact c2
  have c3_σ1 : σ1 54 0 13 = nI G := by rw [g1 54 (by decide)]; exact c3
  iterate 6 refine hK _ _ _ _ _ ?_
  show K _ _ _ _ _
  rw [show σ1 55 0 0 = nI N from c0_σ1]
  iterate 3 refine hK _ _ _ _ _ ?_
  refine Or.inr (Or.inl (yD0 (c4_other _ σ1 q1.2 n x1 q1.1 (nI N - 1) hC1 (fun q => hx1 q)) ?_))
  rintro r σ2 ⟨x2, rfl, hx2, g2, hC2⟩
  show K 0 29 [some (aR 74), some (aR 54), some (aI (x1)), none] [aI (x2)] σ2
  have hv2 := numM_val q1.2 0 (nI N - 1) q1.1
  have hi2 : ∀ i, i ≠ 0 → (numM q1.2 0 (nI N - 1) q1.1).2 i = q1.2 i := fun i hi => numM_i _ _ _ _ i hi
  generalize numM q1.2 0 (nI N - 1) q1.1 = q2 at hx2 hC2 hv2 hi2 hK
  have gg2 : R74 σ σ2 := g1.tr g2
  have c0_σ2 : σ2 55 0 0 = nI N := by rw [gg2 55 (by decide)]; exact c0
  have c5_σ2 : σ2 55 0 1 = nI Q := by rw [gg2 55 (by decide)]; exact c5
  have c1_σ2 : σ2 54 0 1 = nI P := by rw [gg2 54 (by decide)]; exact c1
  have c2_σ2 : σ2 54 0 7 = nI S := by rw [gg2 54 (by decide)]; exact c2
  have c3_σ2 : σ2 54 0 13 = nI G := by rw [gg2 54 (by decide)]; exact c3
  iterate 3 refine hK _ _ _ _ _ ?_
  refine Or.inl (calD (c4_ends _ σ2 (if q2.2 0 0 5 = 0 then sUp q2.2 11 0 q1.1.toNatClampNeg (q2.2 11 0 q1.1.toNatClampNeg ||| (1 <<< (q2.1 &&& 31))) else q2.2) n (hC2.ite (by decide) (by decide))) ?_)
  rintro r τ ⟨rfl, gE, hCE⟩
  show K 0 34 [some (aR 74), some (aR 54), some (aI (x1)), some (aI (x2))] [aI (bI (decide (clE (if q2.2 0 0 5 = 0 then sUp q2.2 11 0 q1.1.toNatClampNeg (q2.2 11 0 q1.1.toNatClampNeg ||| (1 <<< (q2.1 &&& 31))) else q2.2) 0 0 5 = 0)))] τ
  have gT : R74 σ τ := gg2.tr gE
  generalize hrm : (if q2.2 0 0 5 = 0 then sUp q2.2 11 0 q1.1.toNatClampNeg (q2.2 11 0 q1.1.toNatClampNeg ||| (1 <<< (q2.1 &&& 31))) else q2.2) = ρm at hCE hK ⊢
  have c0_τ : τ 55 0 0 = nI N := by rw [gT 55 (by decide)]; exact c0
  have c5_τ : τ 55 0 1 = nI Q := by rw [gT 55 (by decide)]; exact c5
  have c1_τ : τ 54 0 1 = nI P := by rw [gT 54 (by decide)]; exact c1
  have c2_τ : τ 54 0 7 = nI S := by rw [gT 54 (by decide)]; exact c2
  have c3_τ : τ 54 0 13 = nI G := by rw [gT 54 (by decide)]; exact c3
  refine hK _ _ _ _ _ ?_
  refine And.intro (fun h9 => ?_) (fun h9 => ?_)
  · have hno := of_decide_eq_false (bI_f h9)
    refine hK _ _ _ _ _ ?_
    exact ⟨rfl, fun i h1 _ => gT i h1, hCE, fun q => absurd q hno⟩
  · have hok := of_decide_eq_true (bI_t h9)
    have z0 := clE_ok hok
    rw [← hrm] at z0
    have z2 : q2.2 0 0 5 = 0 := by
      by_cases e : q2.2 0 0 5 = 0
      · exact e
      · rw [if_neg e] at z0; exact z0
    obtain ⟨y2, r2, d2⟩ := hv2.1 z2
    have ex2 := hx2 z2
    have z1 := y2
    obtain ⟨y1, r1, d1⟩ := hv1.1 z1
    have ex1 := hx1 z1
    obtain ⟨a, b1, e1⟩ := inN r1 (by omega)
    rw [e1] at ex1
    subst ex1
    obtain ⟨b, b2, e2⟩ := inN r2 (by omega)
    rw [e2] at ex2
    subst ex2
    obtain ⟨k, ek, hk⟩ := hV.2.2.2.2.2.2 a (by omega)
    have kx : τ 71 0 a = nI k := by rw [gT 71 (by decide), hW.2.2.2.2.2 a (by omega)]; exact ek
    iterate 5 refine hK _ _ _ _ _ ?_
    refine And.intro (vp_in_nI (n := a) (by omega) (by decide)) ?_
    rw [nI_clamp (show a < 2 ^ 31 by omega)]
    rw [show τ 71 0 a = nI k from kx]
    iterate 4 refine hK _ _ _ _ _ ?_
    show K _ _ _ _ _
    rw [show nI k ||| (Int32.ofInt 1 <<< (nI b &&& 31)) = nI (k ||| 2 ^ b) from nI_orp _ _ (by omega)]
    refine hK _ _ _ _ _ ?_
    refine And.intro (vp_in_nI (n := a) (by omega) (by decide)) ?_
    rw [nI_clamp (show a < 2 ^ 31 by omega)]
    refine hK _ _ _ _ _ ?_
    refine ⟨rfl, fun i h1 h2 => ?_, hCE.cg ?_ ?_, fun _ => ?_⟩
    · rw [sUp_off (by omega)]; exact gT i h1
    · rw [sUp_off (by decide)]
    · rw [sUp_off (by decide)]
    have hrow : ∀ i, i ≠ 0 → clE ρm i = (sUp ρ 11 0 a (nI (k ||| 2 ^ b))) i := fun i hi => by
      rw [clE_i _ _ hi, ← hrm]
      rw [if_pos z2, e1, nI_clamp (by omega)]
      refine sUp_cgi ((hi2 i hi).trans (hi1 i hi)) ?_
      rw [hi2 11 (by decide), hi1 11 (by decide), ek, e2]
      exact nI_orp _ _ (by omega)
    exact ⟨(TWR_sign (q0 := a) (z := nI (k ||| 2 ^ b)) (hW.cg (fun i h1 h2 => gT i (by omega)) (fun _ _ => rfl))).cg (fun _ _ _ => rfl) (fun i hi => hrow i (by omega)), N, P, S, G, Q, (RVN_sign (q := a) hV (or_lt hk b2)).cg (fun i hi => hrow i (by omega))⟩
theorem c4_readNot_54 (d : Nat) (σ ρ : sMem) (n N P S G Q : Nat) (hC : CSR σ ρ n) (hW : TWR σ ρ 54) (hV : RVN ρ N P S G Q) (hf0 : ρ 0 0 5 = 0) : yMet l D0 b0 ty ad av lay (d + 4) 0 mX4_readNot [aR 74, aR 54] σ (fun r σ' => r = [] ∧ CLP 54 n σ (clE (if (numM (numM ρ 0 (nI P - 1) (-1)).2 0 (nI N - 1) (-1)).2 0 0 5 = 0 then sUp (numM (numM ρ 0 (nI P - 1) (-1)).2 0 (nI N - 1) (-1)).2 5 (numM ρ 0 (nI P - 1) (-1)).1.toNatClampNeg 4 ((numM (numM ρ 0 (nI P - 1) (-1)).2 0 (nI N - 1) (-1)).2 5 (numM ρ 0 (nI P - 1) (-1)).1.toNatClampNeg 4 &&& ((1 <<< ((numM (numM ρ 0 (nI P - 1) (-1)).2 0 (nI N - 1) (-1)).1 &&& 31)) ^^^ (-1))) else (numM (numM ρ 0 (nI P - 1) (-1)).2 0 (nI N - 1) (-1)).2)) σ') (fun _ _ => False) := by
  refine yMet_intro lay_nd kX4_readNot xX4_ok (yY4_ok _) (by decide +kernel) rfl ?_
  intro K hK
  obtain ⟨hN2, hN12, hP10, hS8, hG4, hQ20⟩ := hV.1
  obtain ⟨t0, t1, t2, t3, t5, -⟩ := hV.2.1
  have c0 := hW.1.1.trans t0
  have c5 := hW.1.2.1.trans t5
  have c1 := hW.1.2.2.1.trans t1
  have c2 := hW.1.2.2.2.1.trans t2
  have c3 := hW.1.2.2.2.2.1.trans t3
  have h12 : 2 ^ N ≤ 2 ^ 12 := Nat.pow_le_pow_right (by decide) hN12
  iterate 4 refine hK _ _ _ _ _ ?_
  show K _ _ _ _ _
  rw [show σ 54 0 1 = nI P from c1]
  iterate 3 refine hK _ _ _ _ _ ?_
  refine Or.inr (Or.inl (yD0 (c4_number _ σ ρ n 0 (nI P - 1) hC (by decide)) ?_))
  rintro r σ1 ⟨x1, rfl, hx1, g1, hC1⟩
  show K 0 11 [some (aR 74), some (aR 54), none, none] [aI (x1)] σ1
  have hv1 := numM_val ρ 0 (nI P - 1) (-1)
  have hi1 : ∀ i, i ≠ 0 → (numM ρ 0 (nI P - 1) (-1)).2 i = ρ i := fun i hi => numM_i _ _ _ _ i hi
  generalize numM ρ 0 (nI P - 1) (-1) = q1 at hx1 hC1 hv1 hi1 hK
  have c0_σ1 : σ1 55 0 0 = nI N := by rw [g1 55 (by decide)]; exact c0
  have c5_σ1 : σ1 55 0 1 = nI Q := by rw [g1 55 (by decide)]; exact c5
  have c1_σ1 : σ1 54 0 1 = nI P := by rw [g1 54 (by decide)]; exact c1
  have c2_σ1 : σ1 54 0 7 = nI S := by rw [g1 54 (by decide)]; exact c2
  have c3_σ1 : σ1 54 0 13 = nI G := by rw [g1 54 (by decide)]; exact c3
  iterate 6 refine hK _ _ _ _ _ ?_
  show K _ _ _ _ _
  rw [show σ1 55 0 0 = nI N from c0_σ1]
  iterate 3 refine hK _ _ _ _ _ ?_
  refine Or.inr (Or.inl (yD0 (c4_number _ σ1 q1.2 n 0 (nI N - 1) hC1 (by decide)) ?_))
  rintro r σ2 ⟨x2, rfl, hx2, g2, hC2⟩
  show K 0 26 [some (aR 74), some (aR 54), some (aI (x1)), none] [aI (x2)] σ2
  have hv2 := numM_val q1.2 0 (nI N - 1) (-1)
  have hi2 : ∀ i, i ≠ 0 → (numM q1.2 0 (nI N - 1) (-1)).2 i = q1.2 i := fun i hi => numM_i _ _ _ _ i hi
  generalize numM q1.2 0 (nI N - 1) (-1) = q2 at hx2 hC2 hv2 hi2 hK
  have gg2 : R74 σ σ2 := g1.tr g2
  have c0_σ2 : σ2 55 0 0 = nI N := by rw [gg2 55 (by decide)]; exact c0
  have c5_σ2 : σ2 55 0 1 = nI Q := by rw [gg2 55 (by decide)]; exact c5
  have c1_σ2 : σ2 54 0 1 = nI P := by rw [gg2 54 (by decide)]; exact c1
  have c2_σ2 : σ2 54 0 7 = nI S := by rw [gg2 54 (by decide)]; exact c2
  have c3_σ2 : σ2 54 0 13 = nI G := by rw [gg2 54 (by decide)]; exact c3
  iterate 3 refine hK _ _ _ _ _ ?_
  refine Or.inl (calD (c4_ends _ σ2 (if q2.2 0 0 5 = 0 then sUp q2.2 5 q1.1.toNatClampNeg 4 (q2.2 5 q1.1.toNatClampNeg 4 &&& ((1 <<< (q2.1 &&& 31)) ^^^ (-1))) else q2.2) n (hC2.ite (by decide) (by decide))) ?_)
  rintro r τ ⟨rfl, gE, hCE⟩
  show K 0 31 [some (aR 74), some (aR 54), some (aI (x1)), some (aI (x2))] [aI (bI (decide (clE (if q2.2 0 0 5 = 0 then sUp q2.2 5 q1.1.toNatClampNeg 4 (q2.2 5 q1.1.toNatClampNeg 4 &&& ((1 <<< (q2.1 &&& 31)) ^^^ (-1))) else q2.2) 0 0 5 = 0)))] τ
  have gT : R74 σ τ := gg2.tr gE
  generalize hrm : (if q2.2 0 0 5 = 0 then sUp q2.2 5 q1.1.toNatClampNeg 4 (q2.2 5 q1.1.toNatClampNeg 4 &&& ((1 <<< (q2.1 &&& 31)) ^^^ (-1))) else q2.2) = ρm at hCE hK ⊢
  have c0_τ : τ 55 0 0 = nI N := by rw [gT 55 (by decide)]; exact c0
  have c5_τ : τ 55 0 1 = nI Q := by rw [gT 55 (by decide)]; exact c5
  have c1_τ : τ 54 0 1 = nI P := by rw [gT 54 (by decide)]; exact c1
  have c2_τ : τ 54 0 7 = nI S := by rw [gT 54 (by decide)]; exact c2
  have c3_τ : τ 54 0 13 = nI G := by rw [gT 54 (by decide)]; exact c3
  refine hK _ _ _ _ _ ?_
  refine And.intro (fun h9 => ?_) (fun h9 => ?_)
  · have hno := of_decide_eq_false (bI_f h9)
    refine hK _ _ _ _ _ ?_
    exact ⟨rfl, fun i h1 _ => gT i h1, hCE, fun q => absurd q hno⟩
  · have hok := of_decide_eq_true (bI_t h9)
    have z0 := clE_ok hok
    rw [← hrm] at z0
    have z2 : q2.2 0 0 5 = 0 := by
      by_cases e : q2.2 0 0 5 = 0
      · exact e
      · rw [if_neg e] at z0; exact z0
    obtain ⟨y2, r2, d2⟩ := hv2.1 z2
    have ex2 := hx2 z2
    have z1 := y2
    obtain ⟨y1, r1, d1⟩ := hv1.1 z1
    have ex1 := hx1 z1
    obtain ⟨a, b1, e1⟩ := inN r1 (by omega)
    rw [e1] at ex1
    subst ex1
    obtain ⟨b, b2, e2⟩ := inN r2 (by omega)
    rw [e2] at ex2
    subst ex2
    have bw : a < P := b1
    obtain ⟨k, ek, hk⟩ : ∃ k : Nat, ρ 5 a 4 = nI k ∧ k < 2 ^ N := by
      obtain ⟨_, _, _, _, k, -, -, -, -, -, h⟩ := hV.2.2.1 a bw
      exact ⟨k, h⟩
    have kx : τ 63 0 a = ρ 5 a 4 := by rw [gT 63 (by decide)]; exact (hW.2.2.1 a (by rw [rc_at t1 (by omega)]; exact bw)).2.2.2.2
    rw [ek] at kx
    iterate 5 refine hK _ _ _ _ _ ?_
    refine And.intro (vp_in_nI (n := a) (by omega) (by decide)) ?_
    rw [nI_clamp (show a < 2 ^ 31 by omega)]
    rw [show τ 63 0 a = nI k from kx]
    iterate 7 refine hK _ _ _ _ _ ?_
    refine And.intro (vp_in_nI (n := a) (by omega) (by decide)) ?_
    rw [nI_clamp (show a < 2 ^ 31 by omega)]
    refine hK _ _ _ _ _ ?_
    have hvv : nI k &&& ((Int32.ofInt 1 <<< (nI b &&& 31)) ^^^ Int32.ofInt (-1)) = nI (k &&& (4095 ^^^ 2 ^ b)) := nI_andn (by omega) (by omega)
    try rw [show nI k &&& ((Int32.ofInt 1 <<< (nI b &&& 31)) ^^^ Int32.ofInt (-1)) = nI (k &&& (4095 ^^^ 2 ^ b)) from hvv]
    refine ⟨rfl, fun i h1 h2 => ?_, hCE.cg ?_ ?_, fun _ => ?_⟩
    · rw [sUp_off (by omega)]; exact gT i h1
    · rw [sUp_off (by decide)]
    · rw [sUp_off (by decide)]
    have hrow : ∀ i, i ≠ 0 → clE ρm i = (sUp ρ 5 a 4 (nI (k &&& (4095 ^^^ 2 ^ b)))) i := fun i hi => by
      rw [clE_i _ _ hi, ← hrm]
      rw [if_pos z2, e1, nI_clamp (by omega)]
      refine sUp_cgi ((hi2 i hi).trans (hi1 i hi)) ?_
      rw [hi2 5 (by decide), hi1 5 (by decide), ek, e2]
      exact hvv
    exact ⟨(TWR_not (q0 := a) (z := nI (k &&& (4095 ^^^ 2 ^ b))) (hW.cg (fun i h1 h2 => gT i (by omega)) (fun _ _ => rfl))).cg (fun _ _ _ => rfl) (fun i hi => hrow i (by omega)), N, P, S, G, Q, (RVN_not (q := a) hV (Nat.lt_of_le_of_lt Nat.and_le_left hk)).cg (fun i hi => hrow i (by omega))⟩
theorem c4_readFinds_54 (d : Nat) (σ ρ : sMem) (n N P S G Q : Nat) (hC : CSR σ ρ n) (hW : TWR σ ρ 54) (hV : RVN ρ N P S G Q) (hf0 : ρ 0 0 5 = 0) : yMet l D0 b0 ty ad av lay (d + 4) 0 mX4_readFinds [aR 74, aR 54] σ (fun r σ' => r = [] ∧ CLP 54 n σ (clE (if (numM (numM ρ 0 (nI S - 1) (-1)).2 0 (nI N - 1) (-1)).2 0 0 5 = 0 then sUp (numM (numM ρ 0 (nI S - 1) (-1)).2 0 (nI N - 1) (-1)).2 7 (numM ρ 0 (nI S - 1) (-1)).1.toNatClampNeg 4 ((numM (numM ρ 0 (nI S - 1) (-1)).2 0 (nI N - 1) (-1)).2 7 (numM ρ 0 (nI S - 1) (-1)).1.toNatClampNeg 4 ||| (1 <<< ((numM (numM ρ 0 (nI S - 1) (-1)).2 0 (nI N - 1) (-1)).1 &&& 31))) else (numM (numM ρ 0 (nI S - 1) (-1)).2 0 (nI N - 1) (-1)).2)) σ') (fun _ _ => False) := by
  refine yMet_intro lay_nd kX4_readFinds xX4_ok (yY4_ok _) (by decide +kernel) rfl ?_
  intro K hK
  obtain ⟨hN2, hN12, hP10, hS8, hG4, hQ20⟩ := hV.1
  obtain ⟨t0, t1, t2, t3, t5, -⟩ := hV.2.1
  have c0 := hW.1.1.trans t0
  have c5 := hW.1.2.1.trans t5
  have c1 := hW.1.2.2.1.trans t1
  have c2 := hW.1.2.2.2.1.trans t2
  have c3 := hW.1.2.2.2.2.1.trans t3
  have h12 : 2 ^ N ≤ 2 ^ 12 := Nat.pow_le_pow_right (by decide) hN12
  iterate 4 refine hK _ _ _ _ _ ?_
  show K _ _ _ _ _
  rw [show σ 54 0 7 = nI S from c2]
  iterate 3 refine hK _ _ _ _ _ ?_
  refine Or.inr (Or.inl (yD0 (c4_number _ σ ρ n 0 (nI S - 1) hC (by decide)) ?_))
  rintro r σ1 ⟨x1, rfl, hx1, g1, hC1⟩
  show K 0 11 [some (aR 74), some (aR 54), none, none] [aI (x1)] σ1
  have hv1 := numM_val ρ 0 (nI S - 1) (-1)
  have hi1 : ∀ i, i ≠ 0 → (numM ρ 0 (nI S - 1) (-1)).2 i = ρ i := fun i hi => numM_i _ _ _ _ i hi
  generalize numM ρ 0 (nI S - 1) (-1) = q1 at hx1 hC1 hv1 hi1 hK
  have c0_σ1 : σ1 55 0 0 = nI N := by rw [g1 55 (by decide)]; exact c0
  have c5_σ1 : σ1 55 0 1 = nI Q := by rw [g1 55 (by decide)]; exact c5
  have c1_σ1 : σ1 54 0 1 = nI P := by rw [g1 54 (by decide)]; exact c1
  have c2_σ1 : σ1 54 0 7 = nI S := by rw [g1 54 (by decide)]; exact c2
  have c3_σ1 : σ1 54 0 13 = nI G := by rw [g1 54 (by decide)]; exact c3
  iterate 6 refine hK _ _ _ _ _ ?_
  show K _ _ _ _ _
  rw [show σ1 55 0 0 = nI N from c0_σ1]
  iterate 3 refine hK _ _ _ _ _ ?_
  refine Or.inr (Or.inl (yD0 (c4_number _ σ1 q1.2 n 0 (nI N - 1) hC1 (by decide)) ?_))
  rintro r σ2 ⟨x2, rfl, hx2, g2, hC2⟩
  show K 0 26 [some (aR 74), some (aR 54), some (aI (x1)), none] [aI (x2)] σ2
  have hv2 := numM_val q1.2 0 (nI N - 1) (-1)
  have hi2 : ∀ i, i ≠ 0 → (numM q1.2 0 (nI N - 1) (-1)).2 i = q1.2 i := fun i hi => numM_i _ _ _ _ i hi
  generalize numM q1.2 0 (nI N - 1) (-1) = q2 at hx2 hC2 hv2 hi2 hK
  have gg2 : R74 σ σ2 := g1.tr g2
  have c0_σ2 : σ2 55 0 0 = nI N := by rw [gg2 55 (by decide)]; exact c0
  have c5_σ2 : σ2 55 0 1 = nI Q := by rw [gg2 55 (by decide)]; exact c5
  have c1_σ2 : σ2 54 0 1 = nI P := by rw [gg2 54 (by decide)]; exact c1
  have c2_σ2 : σ2 54 0 7 = nI S := by rw [gg2 54 (by decide)]; exact c2
  have c3_σ2 : σ2 54 0 13 = nI G := by rw [gg2 54 (by decide)]; exact c3
  iterate 3 refine hK _ _ _ _ _ ?_
  refine Or.inl (calD (c4_ends _ σ2 (if q2.2 0 0 5 = 0 then sUp q2.2 7 q1.1.toNatClampNeg 4 (q2.2 7 q1.1.toNatClampNeg 4 ||| (1 <<< (q2.1 &&& 31))) else q2.2) n (hC2.ite (by decide) (by decide))) ?_)
  rintro r τ ⟨rfl, gE, hCE⟩
  show K 0 31 [some (aR 74), some (aR 54), some (aI (x1)), some (aI (x2))] [aI (bI (decide (clE (if q2.2 0 0 5 = 0 then sUp q2.2 7 q1.1.toNatClampNeg 4 (q2.2 7 q1.1.toNatClampNeg 4 ||| (1 <<< (q2.1 &&& 31))) else q2.2) 0 0 5 = 0)))] τ
  have gT : R74 σ τ := gg2.tr gE
  generalize hrm : (if q2.2 0 0 5 = 0 then sUp q2.2 7 q1.1.toNatClampNeg 4 (q2.2 7 q1.1.toNatClampNeg 4 ||| (1 <<< (q2.1 &&& 31))) else q2.2) = ρm at hCE hK ⊢
  have c0_τ : τ 55 0 0 = nI N := by rw [gT 55 (by decide)]; exact c0
  have c5_τ : τ 55 0 1 = nI Q := by rw [gT 55 (by decide)]; exact c5
  have c1_τ : τ 54 0 1 = nI P := by rw [gT 54 (by decide)]; exact c1
  have c2_τ : τ 54 0 7 = nI S := by rw [gT 54 (by decide)]; exact c2
  have c3_τ : τ 54 0 13 = nI G := by rw [gT 54 (by decide)]; exact c3
  refine hK _ _ _ _ _ ?_
  refine And.intro (fun h9 => ?_) (fun h9 => ?_)
  · have hno := of_decide_eq_false (bI_f h9)
    refine hK _ _ _ _ _ ?_
    exact ⟨rfl, fun i h1 _ => gT i h1, hCE, fun q => absurd q hno⟩
  · have hok := of_decide_eq_true (bI_t h9)
    have z0 := clE_ok hok
    rw [← hrm] at z0
    have z2 : q2.2 0 0 5 = 0 := by
      by_cases e : q2.2 0 0 5 = 0
      · exact e
      · rw [if_neg e] at z0; exact z0
    obtain ⟨y2, r2, d2⟩ := hv2.1 z2
    have ex2 := hx2 z2
    have z1 := y2
    obtain ⟨y1, r1, d1⟩ := hv1.1 z1
    have ex1 := hx1 z1
    obtain ⟨a, b1, e1⟩ := inN r1 (by omega)
    rw [e1] at ex1
    subst ex1
    obtain ⟨b, b2, e2⟩ := inN r2 (by omega)
    rw [e2] at ex2
    subst ex2
    have bw : a < S := b1
    obtain ⟨k, ek, hk⟩ : ∃ k : Nat, ρ 7 a 4 = nI k ∧ k < 2 ^ N := by
      obtain ⟨_, _, _, _, k, -, -, -, -, -, h⟩ := hV.2.2.2.1 a bw
      exact ⟨k, h⟩
    have kx : τ 68 0 a = ρ 7 a 4 := by rw [gT 68 (by decide)]; exact (hW.2.2.2.1 a (by rw [rc_at t2 (by omega)]; exact bw)).2.2.2.2
    rw [ek] at kx
    iterate 5 refine hK _ _ _ _ _ ?_
    refine And.intro (vp_in_nI (n := a) (by omega) (by decide)) ?_
    rw [nI_clamp (show a < 2 ^ 31 by omega)]
    rw [show τ 68 0 a = nI k from kx]
    iterate 4 refine hK _ _ _ _ _ ?_
    show K _ _ _ _ _
    rw [show nI k ||| (Int32.ofInt 1 <<< (nI b &&& 31)) = nI (k ||| 2 ^ b) from nI_orp _ _ (by omega)]
    refine hK _ _ _ _ _ ?_
    refine And.intro (vp_in_nI (n := a) (by omega) (by decide)) ?_
    rw [nI_clamp (show a < 2 ^ 31 by omega)]
    refine hK _ _ _ _ _ ?_
    refine ⟨rfl, fun i h1 h2 => ?_, hCE.cg ?_ ?_, fun _ => ?_⟩
    · rw [sUp_off (by omega)]; exact gT i h1
    · rw [sUp_off (by decide)]
    · rw [sUp_off (by decide)]
    have hrow : ∀ i, i ≠ 0 → clE ρm i = (sUp ρ 7 a 4 (nI (k ||| 2 ^ b))) i := fun i hi => by
      rw [clE_i _ _ hi, ← hrm]
      rw [if_pos z2, e1, nI_clamp (by omega)]
      refine sUp_cgi ((hi2 i hi).trans (hi1 i hi)) ?_
      rw [hi2 7 (by decide), hi1 7 (by decide), ek, e2]
      exact nI_orp _ _ (by omega)
    exact ⟨(TWR_finds (q0 := a) (z := nI (k ||| 2 ^ b)) (hW.cg (fun i h1 h2 => gT i (by omega)) (fun _ _ => rfl))).cg (fun _ _ _ => rfl) (fun i hi => hrow i (by omega)), N, P, S, G, Q, (RVN_finds (q := a) hV (or_lt hk b2)).cg (fun i hi => hrow i (by omega))⟩
theorem c4_readChance_54 (d : Nat) (σ ρ : sMem) (n N P S G Q : Nat) (hC : CSR σ ρ n) (hW : TWR σ ρ 54) (hV : RVN ρ N P S G Q) (hf0 : ρ 0 0 5 = 0) : yMet l D0 b0 ty ad av lay (d + 4) 0 mX4_readChance [aR 74, aR 54] σ (fun r σ' => r = [] ∧ CLP 54 n σ (clE (if (numM (numM ρ 0 (nI S - 1) (-1)).2 1 8 (-1)).2 0 0 5 = 0 then sUp (numM (numM ρ 0 (nI S - 1) (-1)).2 1 8 (-1)).2 7 (numM ρ 0 (nI S - 1) (-1)).1.toNatClampNeg 3 ((numM (numM ρ 0 (nI S - 1) (-1)).2 1 8 (-1)).1) else (numM (numM ρ 0 (nI S - 1) (-1)).2 1 8 (-1)).2)) σ') (fun _ _ => False) := by
  refine yMet_intro lay_nd kX4_readChance xX4_ok (yY4_ok _) (by decide +kernel) rfl ?_
  intro K hK
  obtain ⟨hN2, hN12, hP10, hS8, hG4, hQ20⟩ := hV.1
  obtain ⟨t0, t1, t2, t3, t5, -⟩ := hV.2.1
  have c0 := hW.1.1.trans t0
  have c5 := hW.1.2.1.trans t5
  have c1 := hW.1.2.2.1.trans t1
  have c2 := hW.1.2.2.2.1.trans t2
  have c3 := hW.1.2.2.2.2.1.trans t3
  have h12 : 2 ^ N ≤ 2 ^ 12 := Nat.pow_le_pow_right (by decide) hN12
  iterate 4 refine hK _ _ _ _ _ ?_
  show K _ _ _ _ _
  rw [show σ 54 0 7 = nI S from c2]
  iterate 3 refine hK _ _ _ _ _ ?_
  refine Or.inr (Or.inl (yD0 (c4_number _ σ ρ n 0 (nI S - 1) hC (by decide)) ?_))
  rintro r σ1 ⟨x1, rfl, hx1, g1, hC1⟩
  show K 0 11 [some (aR 74), some (aR 54), none, none] [aI (x1)] σ1
  have hv1 := numM_val ρ 0 (nI S - 1) (-1)
  have hi1 : ∀ i, i ≠ 0 → (numM ρ 0 (nI S - 1) (-1)).2 i = ρ i := fun i hi => numM_i _ _ _ _ i hi
  generalize numM ρ 0 (nI S - 1) (-1) = q1 at hx1 hC1 hv1 hi1 hK
  have c0_σ1 : σ1 55 0 0 = nI N := by rw [g1 55 (by decide)]; exact c0
  have c5_σ1 : σ1 55 0 1 = nI Q := by rw [g1 55 (by decide)]; exact c5
  have c1_σ1 : σ1 54 0 1 = nI P := by rw [g1 54 (by decide)]; exact c1
  have c2_σ1 : σ1 54 0 7 = nI S := by rw [g1 54 (by decide)]; exact c2
  have c3_σ1 : σ1 54 0 13 = nI G := by rw [g1 54 (by decide)]; exact c3
  iterate 5 refine hK _ _ _ _ _ ?_
  refine Or.inr (Or.inl (yD0 (c4_number _ σ1 q1.2 n 1 8 hC1 (by decide)) ?_))
  rintro r σ2 ⟨x2, rfl, hx2, g2, hC2⟩
  show K 0 19 [some (aR 74), some (aR 54), some (aI (x1)), none] [aI (x2)] σ2
  have hv2 := numM_val q1.2 1 8 (-1)
  have hi2 : ∀ i, i ≠ 0 → (numM q1.2 1 8 (-1)).2 i = q1.2 i := fun i hi => numM_i _ _ _ _ i hi
  generalize numM q1.2 1 8 (-1) = q2 at hx2 hC2 hv2 hi2 hK
  have gg2 : R74 σ σ2 := g1.tr g2
  have c0_σ2 : σ2 55 0 0 = nI N := by rw [gg2 55 (by decide)]; exact c0
  have c5_σ2 : σ2 55 0 1 = nI Q := by rw [gg2 55 (by decide)]; exact c5
  have c1_σ2 : σ2 54 0 1 = nI P := by rw [gg2 54 (by decide)]; exact c1
  have c2_σ2 : σ2 54 0 7 = nI S := by rw [gg2 54 (by decide)]; exact c2
  have c3_σ2 : σ2 54 0 13 = nI G := by rw [gg2 54 (by decide)]; exact c3
  iterate 3 refine hK _ _ _ _ _ ?_
  refine Or.inl (calD (c4_ends _ σ2 (if q2.2 0 0 5 = 0 then sUp q2.2 7 q1.1.toNatClampNeg 3 (q2.1) else q2.2) n (hC2.ite (by decide) (by decide))) ?_)
  rintro r τ ⟨rfl, gE, hCE⟩
  show K 0 24 [some (aR 74), some (aR 54), some (aI (x1)), some (aI (x2))] [aI (bI (decide (clE (if q2.2 0 0 5 = 0 then sUp q2.2 7 q1.1.toNatClampNeg 3 (q2.1) else q2.2) 0 0 5 = 0)))] τ
  have gT : R74 σ τ := gg2.tr gE
  generalize hrm : (if q2.2 0 0 5 = 0 then sUp q2.2 7 q1.1.toNatClampNeg 3 (q2.1) else q2.2) = ρm at hCE hK ⊢
  have c0_τ : τ 55 0 0 = nI N := by rw [gT 55 (by decide)]; exact c0
  have c5_τ : τ 55 0 1 = nI Q := by rw [gT 55 (by decide)]; exact c5
  have c1_τ : τ 54 0 1 = nI P := by rw [gT 54 (by decide)]; exact c1
  have c2_τ : τ 54 0 7 = nI S := by rw [gT 54 (by decide)]; exact c2
  have c3_τ : τ 54 0 13 = nI G := by rw [gT 54 (by decide)]; exact c3
  refine hK _ _ _ _ _ ?_
  refine And.intro (fun h9 => ?_) (fun h9 => ?_)
  · have hno := of_decide_eq_false (bI_f h9)
    refine hK _ _ _ _ _ ?_
    exact ⟨rfl, fun i h1 _ => gT i h1, hCE, fun q => absurd q hno⟩
  · have hok := of_decide_eq_true (bI_t h9)
    have z0 := clE_ok hok
    rw [← hrm] at z0
    have z2 : q2.2 0 0 5 = 0 := by
      by_cases e : q2.2 0 0 5 = 0
      · exact e
      · rw [if_neg e] at z0; exact z0
    obtain ⟨y2, r2, d2⟩ := hv2.1 z2
    have ex2 := hx2 z2
    have z1 := y2
    obtain ⟨y1, r1, d1⟩ := hv1.1 z1
    have ex1 := hx1 z1
    obtain ⟨a, b1, e1⟩ := inN r1 (by omega)
    rw [e1] at ex1
    subst ex1
    obtain ⟨b, b2, b2', e2⟩ : ∃ k : Nat, 1 ≤ k ∧ k ≤ 8 ∧ q2.1 = nI k := nI_rng (lo := 1) (hi := 8) r2.1 r2.2 (by decide) (by decide)
    rw [e2] at ex2
    subst ex2
    have bw : a < S := b1
    obtain ⟨k, ek, hk⟩ : ∃ k : Nat, ρ 7 a 4 = nI k ∧ k < 2 ^ N := by
      obtain ⟨_, _, _, _, k, -, -, -, -, -, h⟩ := hV.2.2.2.1 a bw
      exact ⟨k, h⟩
    have kx : τ 67 0 a = ρ 7 a 3 := by rw [gT 67 (by decide)]; exact (hW.2.2.2.1 a (by rw [rc_at t2 (by omega)]; exact bw)).2.2.2.1
    iterate 5 refine hK _ _ _ _ _ ?_
    refine And.intro (vp_in_nI (n := a) (by omega) (by decide)) ?_
    rw [nI_clamp (show a < 2 ^ 31 by omega)]
    refine hK _ _ _ _ _ ?_
    refine ⟨rfl, fun i h1 h2 => ?_, hCE.cg ?_ ?_, fun _ => ?_⟩
    · rw [sUp_off (by omega)]; exact gT i h1
    · rw [sUp_off (by decide)]
    · rw [sUp_off (by decide)]
    have hrow : ∀ i, i ≠ 0 → clE ρm i = (sUp ρ 7 a 3 (nI b)) i := fun i hi => by
      rw [clE_i _ _ hi, ← hrm]
      rw [if_pos z2, e1, nI_clamp (by omega)]
      refine sUp_cgi ((hi2 i hi).trans (hi1 i hi)) ?_
      exact e2
    exact ⟨(TWR_chance (q0 := a) (z := nI b) (hW.cg (fun i h1 h2 => gT i (by omega)) (fun _ _ => rfl))).cg (fun _ _ _ => rfl) (fun i hi => hrow i (by omega)), N, P, S, G, Q, (RVN_chance (q := a) hV (by omega) (by omega)).cg (fun i hi => hrow i (by omega))⟩
end
