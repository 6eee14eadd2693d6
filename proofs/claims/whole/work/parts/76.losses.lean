/-! THE CLASS: Pairing, what one loses by leading another -/
theorem oI_some (k : Nat) : oI (some k) = nI k := rfl
def lcB (t : sMem) (s p : Nat) : Bool := decide (fN t (pP t p) (pQ t p) < 1000000) && (decide (fN t (pP t p) (sX t s) < 1000000) && (hb (t 6 p 4) (nI (sY t s)) && decide (fN t (sX t s) (sY t s) < 1000000) && decide (fN t (sY t s) (pQ t p) < 1000000)))
def lsN (t : sMem) (s p : Nat) : Nat := pV t p * (fN t (pP t p) (sX t s) + fN t (sX t s) (sY t s) + fN t (sY t s) (pQ t p) - fN t (pP t p) (pQ t p))
def lsO (t : sMem) (s p : Nat) : Option Nat := if lcB t s p = true then some (lsN t s p) else none
theorem lcB_1 {t : sMem} {s p : Nat} (h : decide (fN t (pP t p) (pQ t p) < 1000000) = false) : lcB t s p = false := by
  unfold lcB
  rw [h, Bool.false_and]
theorem lcB_2 {t : sMem} {s p : Nat} (h : decide (fN t (pP t p) (sX t s) < 1000000) = false) : lcB t s p = false := by
  unfold lcB
  rw [h, Bool.false_and, Bool.and_false]
theorem lcB_3 {t : sMem} {s p : Nat} (h : (hb (t 6 p 4) (nI (sY t s)) && decide (fN t (sX t s) (sY t s) < 1000000) && decide (fN t (sY t s) (pQ t p) < 1000000)) = false) : lcB t s p = false := by
  unfold lcB
  rw [h, Bool.and_false, Bool.and_false]
theorem lcB_t {t : sMem} {s p : Nat} (h1 : decide (fN t (pP t p) (pQ t p) < 1000000) = true) (h2 : decide (fN t (pP t p) (sX t s) < 1000000) = true) (h : (hb (t 6 p 4) (nI (sY t s)) && decide (fN t (sX t s) (sY t s) < 1000000) && decide (fN t (sY t s) (pQ t p) < 1000000)) = true) : lcB t s p = true := by
  unfold lcB
  rw [h, h1, h2, Bool.and_true, Bool.and_true]
section
variable {l : Launch} {D0 : va_G} {b0 : Nat} {ty : Nat → ClassId} {ad av : Nat → Nat}
theorem c3_lossOf_36 (d : Nat) (σ t : sMem) (N P S G : Nat) (hC : CT σ t 36 N P S G) (hM : MI t N P S G) (s p : Nat) (hs : s < S) (hp : p < P) : yMet l D0 b0 ty ad av lay (d + 2) 0 mX3_lossOf [aR 36, aI (nI s), aI (nI p)] σ (fun r σ' => r = [aI (oI (lsO t s p))] ∧ σ' = σ) (fun _ _ => False) := by
  refine yMet_intro lay_nd kX3_lossOf xX3_ok (yY3_ok _) (by decide +kernel) rfl ?_
  intro K hK
  have hT := TT_of (c := t) hC hM (fun _ _ => rfl)
  have hm := MC_of hM
  have hN := hm.1.1.1
  have hP := hm.2.2.1
  have hS8 := hm.2.2.2.1
  obtain ⟨⟨-, ha⟩, ⟨-, hb9⟩, -, -⟩ := hm.2.2.2.2.1 p hp
  obtain ⟨⟨-, hx⟩, ⟨-, hy⟩, -, -⟩ := hm.2.2.2.2.2 s hs
  obtain ⟨f5, f6, f7, f8, f9⟩ := hT.2.2.2.2.1 p hp
  obtain ⟨g10, g11, g12, g14⟩ := hT.2.2.2.2.2 s hs
  have e1 := (hT.2.2.2.1 (pP t p) (sX t s) ha hx).1
  have e2 := (hT.2.2.2.1 (sX t s) (sY t s) hx hy).1
  have e3 := (hT.2.2.2.1 (sY t s) (pQ t p) hy hb9).1
  have e4 := (hT.2.2.2.1 (pP t p) (pQ t p) ha hb9).1
  have kpq : fN t (t 6 p 0).toNatClampNeg (t 6 p 1).toNatClampNeg = fN t (pP t p) (pQ t p) := rfl
  have kq : (t 6 p 1).toNatClampNeg = pQ t p := rfl
  iterate 4 refine hK _ _ _ _ _ ?_
  refine And.intro (vp_in_nI (n := p) (by omega) (by decide)) ?_
  rw [nI_clamp (show p < 2 ^ 31 by omega)]
  rw [show σ 41 0 p = nI (pP t p) from f5]
  iterate 5 refine hK _ _ _ _ _ ?_
  refine And.intro (vp_in_nI (n := s) (by omega) (by decide)) ?_
  rw [nI_clamp (show s < 2 ^ 31 by omega)]
  rw [show σ 46 0 s = nI (sX t s) from g10]
  iterate 5 refine hK _ _ _ _ _ ?_
  refine And.intro (vp_in_nI (n := s) (by omega) (by decide)) ?_
  rw [nI_clamp (show s < 2 ^ 31 by omega)]
  rw [show σ 47 0 s = nI (sY t s) from g11]
  iterate 4 refine hK _ _ _ _ _ ?_
  have L56 : ∀ (e6 : Option AV), lcB t s p = false → K 0 56 [some (aR 36), some (aI (nI s)), some (aI (nI p)), some (aI (nI (pP t p))), some (aI (nI (sX t s))), some (aI (nI (sY t s))), e6] [] σ := by
    intro e6 hz
    iterate 2 refine hK _ _ _ _ _ ?_
    exact ⟨by unfold lsO; rw [if_neg (by rw [hz]; decide)]; rfl, rfl⟩
  refine Or.inl (calD (t7_goes_36 _ _ t N P S hT hm p hp) ?_)
  rintro r σ' ⟨rfl, hσ⟩
  subst σ'
  show K 0 28 [some (aR 36), some (aI (nI s)), some (aI (nI p)), some (aI (nI (pP t p))), some (aI (nI (sX t s))), some (aI (nI (sY t s))), none] [aI (bI (decide (fN t (pP t p) (pQ t p) < 1000000)))] σ
  refine hK _ _ _ _ _ ?_
  refine And.intro (fun h9 => L56 _ (lcB_1 (bI_f h9))) (fun h9 => ?_)
  have c1 := bI_t h9
  iterate 5 refine hK _ _ _ _ _ ?_
  refine Or.inl (calD (t6_reaches_36 _ _ t N P S hT hm (pP t p) (sX t s) ha hx) ?_)
  rintro r σ' ⟨rfl, hσ⟩
  subst σ'
  show K 0 41 [some (aR 36), some (aI (nI s)), some (aI (nI p)), some (aI (nI (pP t p))), some (aI (nI (sX t s))), some (aI (nI (sY t s))), none] [aI (bI (decide (fN t (pP t p) (sX t s) < 1000000)))] σ
  refine hK _ _ _ _ _ ?_
  refine And.intro (fun h8 => L56 _ (lcB_2 (bI_f h8))) (fun h8 => ?_)
  have c2 := bI_t h8
  iterate 5 refine hK _ _ _ _ _ ?_
  refine Or.inr (Or.inl (yD0 (c7_canLeadTo_36 _ _ t N P S G hC hM p hp (sX t s) (sY t s) hx hy) ?_))
  rintro r σ' ⟨rfl, hσ⟩
  subst σ'
  rw [kq]
  generalize hzz : (hb (t 6 p 4) (nI (sY t s)) && decide (fN t (sX t s) (sY t s) < 1000000) && decide (fN t (sY t s) (pQ t p) < 1000000)) = zz
  refine hK _ _ _ _ _ ?_
  refine And.intro (fun h7 => ?_) (fun h7 => ?_)
  · have c3 : (hb (t 6 p 4) (nI (sY t s)) && decide (fN t (sX t s) (sY t s) < 1000000) && decide (fN t (sY t s) (pQ t p) < 1000000)) = true := hzz.trans (bI_t h7)
    have hlc : lcB t s p = true := lcB_t c1 c2 c3
    have hle : fN t (pP t p) (pQ t p) ≤ fN t (pP t p) (sX t s) + fN t (sX t s) (sY t s) + fN t (sY t s) (pQ t p) := by
      have t1 := hm.1.2.1 (pP t p) (sX t s) (pQ t p) ha hx hb9
      have t2 := hm.1.2.1 (sX t s) (sY t s) (pQ t p) hx hy hb9
      omega
    iterate 5 refine hK _ _ _ _ _ ?_
    refine And.intro (vp_in_nI (n := (pP t p)) (by omega) (by decide)) ?_
    rw [nI_clamp (show (pP t p) < 2 ^ 31 by omega)]
    iterate 2 refine hK _ _ _ _ _ ?_
    refine And.intro (by first | omega | (rw [nI_clamp (by omega)]; omega)) (And.intro (vp_in_nI (n := (sX t s)) (by omega) (by decide)) ?_)
    rw [nI_clamp (show (sX t s) < 2 ^ 31 by omega)]
    rw [show σ 39 (pP t p) (sX t s) = nI (fN t (pP t p) (sX t s)) from e1]
    iterate 5 refine hK _ _ _ _ _ ?_
    refine And.intro (vp_in_nI (n := (sX t s)) (by omega) (by decide)) ?_
    rw [nI_clamp (show (sX t s) < 2 ^ 31 by omega)]
    iterate 2 refine hK _ _ _ _ _ ?_
    refine And.intro (by first | omega | (rw [nI_clamp (by omega)]; omega)) (And.intro (vp_in_nI (n := (sY t s)) (by omega) (by decide)) ?_)
    rw [nI_clamp (show (sY t s) < 2 ^ 31 by omega)]
    rw [show σ 39 (sX t s) (sY t s) = nI (fN t (sX t s) (sY t s)) from e2]
    iterate 6 refine hK _ _ _ _ _ ?_
    refine And.intro (vp_in_nI (n := (sY t s)) (by omega) (by decide)) ?_
    rw [nI_clamp (show (sY t s) < 2 ^ 31 by omega)]
    iterate 4 refine hK _ _ _ _ _ ?_
    refine And.intro (vp_in_nI (n := p) (by omega) (by decide)) ?_
    rw [nI_clamp (show p < 2 ^ 31 by omega)]
    rw [show σ 42 0 p = nI (pQ t p) from f6]
    refine hK _ _ _ _ _ ?_
    refine And.intro (by first | omega | (rw [nI_clamp (by omega)]; omega)) (And.intro (vp_in_nI (n := (pQ t p)) (by omega) (by decide)) ?_)
    rw [nI_clamp (show (pQ t p) < 2 ^ 31 by omega)]
    rw [show σ 39 (sY t s) (pQ t p) = nI (fN t (sY t s) (pQ t p)) from e3]
    iterate 6 refine hK _ _ _ _ _ ?_
    refine And.intro (vp_in_nI (n := p) (by omega) (by decide)) ?_
    rw [nI_clamp (show p < 2 ^ 31 by omega)]
    rw [show σ 44 0 p = nI (pV t p) from f8]
    iterate 6 refine hK _ _ _ _ _ ?_
    refine And.intro (vp_in_nI (n := (pP t p)) (by omega) (by decide)) ?_
    rw [nI_clamp (show (pP t p) < 2 ^ 31 by omega)]
    iterate 4 refine hK _ _ _ _ _ ?_
    refine And.intro (vp_in_nI (n := p) (by omega) (by decide)) ?_
    rw [nI_clamp (show p < 2 ^ 31 by omega)]
    rw [show σ 42 0 p = nI (pQ t p) from f6]
    refine hK _ _ _ _ _ ?_
    refine And.intro (by first | omega | (rw [nI_clamp (by omega)]; omega)) (And.intro (vp_in_nI (n := (pQ t p)) (by omega) (by decide)) ?_)
    rw [nI_clamp (show (pQ t p) < 2 ^ 31 by omega)]
    rw [show σ 39 (pP t p) (pQ t p) = nI (fN t (pP t p) (pQ t p)) from e4]
    iterate 3 refine hK _ _ _ _ _ ?_
    refine ⟨?_, rfl⟩
    unfold lsO
    rw [if_pos hlc, oI_some]
    unfold lsN
    rw [nIa, nIa, nIm hle, nIx]
  · have c3 : (hb (t 6 p 4) (nI (sY t s)) && decide (fN t (sX t s) (sY t s) < 1000000) && decide (fN t (sY t s) (pQ t p) < 1000000)) = false := hzz.trans (bI_f h7)
    exact L56 _ (lcB_3 c3)
theorem c3_findLosses_36 (d : Nat) (σ t : sMem) (N P S G : Nat) (hC : CT σ t 36 N P S G) (hM : MI t N P S G) : yMet l D0 b0 ty ad av lay (d + 3) 0 mX3_findLosses [aR 90, aR 36] σ (fun r σ' => r = [] ∧ (∀ i, i ≠ 92 → σ' i = σ i) ∧ ∀ s p, s < S → p < P → σ' 92 s p = oI (lsO t s p)) (fun _ _ => False) := by
  refine yMet_intro lay_nd kX3_findLosses xX3_ok (yY3_ok _) (by decide +kernel) rfl ?_
  intro K hK
  have hT := TT_of (c := t) hC hM (fun _ _ => rfl)
  have hm := MC_of hM
  have hN := hm.1.1.1
  have hP := hm.2.2.1
  have hS8 := hm.2.2.2.1
  iterate 2 refine hK _ _ _ _ _ ?_
  have L2 : ∀ (f : Nat) (s : Nat) (μ : sMem) (e3 : Option AV), s + f = S → (∀ i, i ≠ 92 → μ i = σ i) → (∀ x y, x < s → y < P → μ 92 x y = oI (lsO t x y)) → K 0 2 [some (aR 90), some (aR 36), some (aI (nI s)), e3] [] μ := by
    intro f
    induction f with
    | zero =>
      intro s μ e3 hs hf hd
      have hC_μ : CT μ t 36 N P S G := hC.cg (fun i h1 h2 => hf i (by omega))
      have s7_μ : μ 36 0 7 = nI S := hC_μ.2.2.1
      have s1_μ : μ 36 0 1 = nI P := hC_μ.2.1
      iterate 3 refine hK _ _ _ _ _ ?_
      show K _ _ _ _ _
      rw [show μ 36 0 7 = nI S from s7_μ]
      refine hK _ _ _ _ _ ?_
      refine And.intro (fun _ => ?_) (fun h9 => absurd ((nI_leI (by omega) (by omega)).mpr (by omega)) h9)
      refine hK _ _ _ _ _ ?_
      exact ⟨rfl, hf, fun x y hx hy => hd x y (by omega) hy⟩
    | succ f ih =>
      intro s μ e3 hs hf hd
      have hC_μ : CT μ t 36 N P S G := hC.cg (fun i h1 h2 => hf i (by omega))
      have s7_μ : μ 36 0 7 = nI S := hC_μ.2.2.1
      have s1_μ : μ 36 0 1 = nI P := hC_μ.2.1
      iterate 3 refine hK _ _ _ _ _ ?_
      show K _ _ _ _ _
      rw [show μ 36 0 7 = nI S from s7_μ]
      refine hK _ _ _ _ _ ?_
      refine And.intro (fun h9 => absurd ((nI_leI (by omega) (by omega)).mp h9) (by omega)) (fun _ => ?_)
      iterate 2 refine hK _ _ _ _ _ ?_
      have L12 : ∀ (f2 : Nat) (p : Nat) (ν : sMem), p + f2 = P → (∀ i, i ≠ 92 → ν i = σ i) → (∀ x y, x < s + 1 → y < P → (x < s ∨ y < p) → ν 92 x y = oI (lsO t x y)) → K 0 12 [some (aR 90), some (aR 36), some (aI (nI s)), some (aI (nI p))] [] ν := by
        intro f2
        induction f2 with
        | zero =>
          intro p ν hp hf2 hd2
          have hC_ν : CT ν t 36 N P S G := hC.cg (fun i h1 h2 => hf2 i (by omega))
          have s7_ν : ν 36 0 7 = nI S := hC_ν.2.2.1
          have s1_ν : ν 36 0 1 = nI P := hC_ν.2.1
          iterate 3 refine hK _ _ _ _ _ ?_
          show K _ _ _ _ _
          rw [show ν 36 0 1 = nI P from s1_ν]
          refine hK _ _ _ _ _ ?_
          refine And.intro (fun _ => ?_) (fun h9 => absurd ((nI_leI (by omega) (by omega)).mpr (by omega)) h9)
          refine hK _ _ _ _ _ ?_
          show K _ _ _ _ _
          rw [show nI s + Int32.ofInt 1 = nI (s + 1) from nIs _]
          refine hK _ _ _ _ _ ?_
          exact ih (s + 1) ν _ (by omega) hf2 (fun x y hx hy => hd2 x y (by omega) hy (by omega))
        | succ f2 ih2 =>
          intro p ν hp hf2 hd2
          have hC_ν : CT ν t 36 N P S G := hC.cg (fun i h1 h2 => hf2 i (by omega))
          have s7_ν : ν 36 0 7 = nI S := hC_ν.2.2.1
          have s1_ν : ν 36 0 1 = nI P := hC_ν.2.1
          iterate 3 refine hK _ _ _ _ _ ?_
          show K _ _ _ _ _
          rw [show ν 36 0 1 = nI P from s1_ν]
          refine hK _ _ _ _ _ ?_
          refine And.intro (fun h9 => absurd ((nI_leI (by omega) (by omega)).mp h9) (by omega)) (fun _ => ?_)
          iterate 4 refine hK _ _ _ _ _ ?_
          refine And.intro (vp_in_nI (n := s) (by omega) (by decide)) ?_
          rw [nI_clamp (show s < 2 ^ 31 by omega)]
          iterate 5 refine hK _ _ _ _ _ ?_
          refine Or.inr (Or.inl (yD0 (c3_lossOf_36 _ _ t N P S G hC_ν hM s p (by omega) (by omega)) ?_))
          rintro r σ' ⟨rfl, hσ⟩
          subst σ'
          refine hK _ _ _ _ _ ?_
          refine And.intro (by first | omega | (rw [nI_clamp (by omega)]; omega)) (And.intro (vp_in_nI (n := p) (by omega) (by decide)) ?_)
          rw [nI_clamp (show p < 2 ^ 31 by omega)]
          refine hK _ _ _ _ _ ?_
          show K _ _ _ _ _
          rw [show nI p + Int32.ofInt 1 = nI (p + 1) from nIs _]
          refine hK _ _ _ _ _ ?_
          refine ih2 (p + 1) _ (by omega) (fun i hi => by rw [sUp_off hi]; exact hf2 i hi) (fun x y hx hy hxy => ?_)
          by_cases e : x = s
          · subst e
            by_cases e2 : y = p
            · subst e2; rw [sUp_at]
            · rw [sUp_k e2]; exact hd2 x y hx hy (by omega)
          · rw [sUp_rowne e]; exact hd2 x y hx hy (by omega)
      exact L12 P 0 μ (by omega) hf (fun x y hx hy hxy => hd x y (by omega) hy)
  exact L2 S 0 σ none (by omega) (fun _ _ => rfl) (fun x y hx _ => absurd hx (Nat.not_lt_zero _))
theorem c3_lossOf_54 (d : Nat) (σ t : sMem) (N P S G : Nat) (hC : CT σ t 54 N P S G) (hM : MI t N P S G) (s p : Nat) (hs : s < S) (hp : p < P) : yMet l D0 b0 ty ad av lay (d + 2) 0 mX3_lossOf [aR 54, aI (nI s), aI (nI p)] σ (fun r σ' => r = [aI (oI (lsO t s p))] ∧ σ' = σ) (fun _ _ => False) := by
  refine yMet_intro lay_nd kX3_lossOf xX3_ok (yY3_ok _) (by decide +kernel) rfl ?_
  intro K hK
  have hT := TT_of (c := t) hC hM (fun _ _ => rfl)
  have hm := MC_of hM
  have hN := hm.1.1.1
  have hP := hm.2.2.1
  have hS8 := hm.2.2.2.1
  obtain ⟨⟨-, ha⟩, ⟨-, hb9⟩, -, -⟩ := hm.2.2.2.2.1 p hp
  obtain ⟨⟨-, hx⟩, ⟨-, hy⟩, -, -⟩ := hm.2.2.2.2.2 s hs
  obtain ⟨f5, f6, f7, f8, f9⟩ := hT.2.2.2.2.1 p hp
  obtain ⟨g10, g11, g12, g14⟩ := hT.2.2.2.2.2 s hs
  have e1 := (hT.2.2.2.1 (pP t p) (sX t s) ha hx).1
  have e2 := (hT.2.2.2.1 (sX t s) (sY t s) hx hy).1
  have e3 := (hT.2.2.2.1 (sY t s) (pQ t p) hy hb9).1
  have e4 := (hT.2.2.2.1 (pP t p) (pQ t p) ha hb9).1
  have kpq : fN t (t 6 p 0).toNatClampNeg (t 6 p 1).toNatClampNeg = fN t (pP t p) (pQ t p) := rfl
  have kq : (t 6 p 1).toNatClampNeg = pQ t p := rfl
  iterate 4 refine hK _ _ _ _ _ ?_
  refine And.intro (vp_in_nI (n := p) (by omega) (by decide)) ?_
  rw [nI_clamp (show p < 2 ^ 31 by omega)]
  rw [show σ 59 0 p = nI (pP t p) from f5]
  iterate 5 refine hK _ _ _ _ _ ?_
  refine And.intro (vp_in_nI (n := s) (by omega) (by decide)) ?_
  rw [nI_clamp (show s < 2 ^ 31 by omega)]
  rw [show σ 64 0 s = nI (sX t s) from g10]
  iterate 5 refine hK _ _ _ _ _ ?_
  refine And.intro (vp_in_nI (n := s) (by omega) (by decide)) ?_
  rw [nI_clamp (show s < 2 ^ 31 by omega)]
  rw [show σ 65 0 s = nI (sY t s) from g11]
  iterate 4 refine hK _ _ _ _ _ ?_
  have L56 : ∀ (e6 : Option AV), lcB t s p = false → K 0 56 [some (aR 54), some (aI (nI s)), some (aI (nI p)), some (aI (nI (pP t p))), some (aI (nI (sX t s))), some (aI (nI (sY t s))), e6] [] σ := by
    intro e6 hz
    iterate 2 refine hK _ _ _ _ _ ?_
    exact ⟨by unfold lsO; rw [if_neg (by rw [hz]; decide)]; rfl, rfl⟩
  refine Or.inl (calD (t7_goes_54 _ _ t N P S hT hm p hp) ?_)
  rintro r σ' ⟨rfl, hσ⟩
  subst σ'
  show K 0 28 [some (aR 54), some (aI (nI s)), some (aI (nI p)), some (aI (nI (pP t p))), some (aI (nI (sX t s))), some (aI (nI (sY t s))), none] [aI (bI (decide (fN t (pP t p) (pQ t p) < 1000000)))] σ
  refine hK _ _ _ _ _ ?_
  refine And.intro (fun h9 => L56 _ (lcB_1 (bI_f h9))) (fun h9 => ?_)
  have c1 := bI_t h9
  iterate 5 refine hK _ _ _ _ _ ?_
  refine Or.inl (calD (t6_reaches_54 _ _ t N P S hT hm (pP t p) (sX t s) ha hx) ?_)
  rintro r σ' ⟨rfl, hσ⟩
  subst σ'
  show K 0 41 [some (aR 54), some (aI (nI s)), some (aI (nI p)), some (aI (nI (pP t p))), some (aI (nI (sX t s))), some (aI (nI (sY t s))), none] [aI (bI (decide (fN t (pP t p) (sX t s) < 1000000)))] σ
  refine hK _ _ _ _ _ ?_
  refine And.intro (fun h8 => L56 _ (lcB_2 (bI_f h8))) (fun h8 => ?_)
  have c2 := bI_t h8
  iterate 5 refine hK _ _ _ _ _ ?_
  refine Or.inr (Or.inl (yD0 (c7_canLeadTo_54 _ _ t N P S G hC hM p hp (sX t s) (sY t s) hx hy) ?_))
  rintro r σ' ⟨rfl, hσ⟩
  subst σ'
  rw [kq]
  generalize hzz : (hb (t 6 p 4) (nI (sY t s)) && decide (fN t (sX t s) (sY t s) < 1000000) && decide (fN t (sY t s) (pQ t p) < 1000000)) = zz
  refine hK _ _ _ _ _ ?_
  refine And.intro (fun h7 => ?_) (fun h7 => ?_)
  · have c3 : (hb (t 6 p 4) (nI (sY t s)) && decide (fN t (sX t s) (sY t s) < 1000000) && decide (fN t (sY t s) (pQ t p) < 1000000)) = true := hzz.trans (bI_t h7)
    have hlc : lcB t s p = true := lcB_t c1 c2 c3
    have hle : fN t (pP t p) (pQ t p) ≤ fN t (pP t p) (sX t s) + fN t (sX t s) (sY t s) + fN t (sY t s) (pQ t p) := by
      have t1 := hm.1.2.1 (pP t p) (sX t s) (pQ t p) ha hx hb9
      have t2 := hm.1.2.1 (sX t s) (sY t s) (pQ t p) hx hy hb9
      omega
    iterate 5 refine hK _ _ _ _ _ ?_
    refine And.intro (vp_in_nI (n := (pP t p)) (by omega) (by decide)) ?_
    rw [nI_clamp (show (pP t p) < 2 ^ 31 by omega)]
    iterate 2 refine hK _ _ _ _ _ ?_
    refine And.intro (by first | omega | (rw [nI_clamp (by omega)]; omega)) (And.intro (vp_in_nI (n := (sX t s)) (by omega) (by decide)) ?_)
    rw [nI_clamp (show (sX t s) < 2 ^ 31 by omega)]
    rw [show σ 57 (pP t p) (sX t s) = nI (fN t (pP t p) (sX t s)) from e1]
    iterate 5 refine hK _ _ _ _ _ ?_
    refine And.intro (vp_in_nI (n := (sX t s)) (by omega) (by decide)) ?_
    rw [nI_clamp (show (sX t s) < 2 ^ 31 by omega)]
    iterate 2 refine hK _ _ _ _ _ ?_
    refine And.intro (by first | omega | (rw [nI_clamp (by omega)]; omega)) (And.intro (vp_in_nI (n := (sY t s)) (by omega) (by decide)) ?_)
    rw [nI_clamp (show (sY t s) < 2 ^ 31 by omega)]
    rw [show σ 57 (sX t s) (sY t s) = nI (fN t (sX t s) (sY t s)) from e2]
    iterate 6 refine hK _ _ _ _ _ ?_
    refine And.intro (vp_in_nI (n := (sY t s)) (by omega) (by decide)) ?_
    rw [nI_clamp (show (sY t s) < 2 ^ 31 by omega)]
    iterate 4 refine hK _ _ _ _ _ ?_
    refine And.intro (vp_in_nI (n := p) (by omega) (by decide)) ?_
    rw [nI_clamp (show p < 2 ^ 31 by omega)]
    rw [show σ 60 0 p = nI (pQ t p) from f6]
    refine hK _ _ _ _ _ ?_
    refine And.intro (by first | omega | (rw [nI_clamp (by omega)]; omega)) (And.intro (vp_in_nI (n := (pQ t p)) (by omega) (by decide)) ?_)
    rw [nI_clamp (show (pQ t p) < 2 ^ 31 by omega)]
    rw [show σ 57 (sY t s) (pQ t p) = nI (fN t (sY t s) (pQ t p)) from e3]
    iterate 6 refine hK _ _ _ _ _ ?_
    refine And.intro (vp_in_nI (n := p) (by omega) (by decide)) ?_
    rw [nI_clamp (show p < 2 ^ 31 by omega)]
    rw [show σ 62 0 p = nI (pV t p) from f8]
    iterate 6 refine hK _ _ _ _ _ ?_
    refine And.intro (vp_in_nI (n := (pP t p)) (by omega) (by decide)) ?_
    rw [nI_clamp (show (pP t p) < 2 ^ 31 by omega)]
    iterate 4 refine hK _ _ _ _ _ ?_
    refine And.intro (vp_in_nI (n := p) (by omega) (by decide)) ?_
    rw [nI_clamp (show p < 2 ^ 31 by omega)]
    rw [show σ 60 0 p = nI (pQ t p) from f6]
    refine hK _ _ _ _ _ ?_
    refine And.intro (by first | omega | (rw [nI_clamp (by omega)]; omega)) (And.intro (vp_in_nI (n := (pQ t p)) (by omega) (by decide)) ?_)
    rw [nI_clamp (show (pQ t p) < 2 ^ 31 by omega)]
    rw [show σ 57 (pP t p) (pQ t p) = nI (fN t (pP t p) (pQ t p)) from e4]
    iterate 3 refine hK _ _ _ _ _ ?_
    refine ⟨?_, rfl⟩
    unfold lsO
    rw [if_pos hlc, oI_some]
    unfold lsN
    rw [nIa, nIa, nIm hle, nIx]
  · have c3 : (hb (t 6 p 4) (nI (sY t s)) && decide (fN t (sX t s) (sY t s) < 1000000) && decide (fN t (sY t s) (pQ t p) < 1000000)) = false := hzz.trans (bI_f h7)
    exact L56 _ (lcB_3 c3)
theorem c3_findLosses_54 (d : Nat) (σ t : sMem) (N P S G : Nat) (hC : CT σ t 54 N P S G) (hM : MI t N P S G) : yMet l D0 b0 ty ad av lay (d + 3) 0 mX3_findLosses [aR 90, aR 54] σ (fun r σ' => r = [] ∧ (∀ i, i ≠ 92 → σ' i = σ i) ∧ ∀ s p, s < S → p < P → σ' 92 s p = oI (lsO t s p)) (fun _ _ => False) := by
  refine yMet_intro lay_nd kX3_findLosses xX3_ok (yY3_ok _) (by decide +kernel) rfl ?_
  intro K hK
  have hT := TT_of (c := t) hC hM (fun _ _ => rfl)
  have hm := MC_of hM
  have hN := hm.1.1.1
  have hP := hm.2.2.1
  have hS8 := hm.2.2.2.1
  iterate 2 refine hK _ _ _ _ _ ?_
  have L2 : ∀ (f : Nat) (s : Nat) (μ : sMem) (e3 : Option AV), s + f = S → (∀ i, i ≠ 92 → μ i = σ i) → (∀ x y, x < s → y < P → μ 92 x y = oI (lsO t x y)) → K 0 2 [some (aR 90), some (aR 54), some (aI (nI s)), e3] [] μ := by
    intro f
    induction f with
    | zero =>
      intro s μ e3 hs hf hd
      have hC_μ : CT μ t 54 N P S G := hC.cg (fun i h1 h2 => hf i (by omega))
      have s7_μ : μ 54 0 7 = nI S := hC_μ.2.2.1
      have s1_μ : μ 54 0 1 = nI P := hC_μ.2.1
      iterate 3 refine hK _ _ _ _ _ ?_
      show K _ _ _ _ _
      rw [show μ 54 0 7 = nI S from s7_μ]
      refine hK _ _ _ _ _ ?_
      refine And.intro (fun _ => ?_) (fun h9 => absurd ((nI_leI (by omega) (by omega)).mpr (by omega)) h9)
      refine hK _ _ _ _ _ ?_
      exact ⟨rfl, hf, fun x y hx hy => hd x y (by omega) hy⟩
    | succ f ih =>
      intro s μ e3 hs hf hd
      have hC_μ : CT μ t 54 N P S G := hC.cg (fun i h1 h2 => hf i (by omega))
      have s7_μ : μ 54 0 7 = nI S := hC_μ.2.2.1
      have s1_μ : μ 54 0 1 = nI P := hC_μ.2.1
      iterate 3 refine hK _ _ _ _ _ ?_
      show K _ _ _ _ _
      rw [show μ 54 0 7 = nI S from s7_μ]
      refine hK _ _ _ _ _ ?_
      refine And.intro (fun h9 => absurd ((nI_leI (by omega) (by omega)).mp h9) (by omega)) (fun _ => ?_)
      iterate 2 refine hK _ _ _ _ _ ?_
      have L12 : ∀ (f2 : Nat) (p : Nat) (ν : sMem), p + f2 = P → (∀ i, i ≠ 92 → ν i = σ i) → (∀ x y, x < s + 1 → y < P → (x < s ∨ y < p) → ν 92 x y = oI (lsO t x y)) → K 0 12 [some (aR 90), some (aR 54), some (aI (nI s)), some (aI (nI p))] [] ν := by
        intro f2
        induction f2 with
        | zero =>
          intro p ν hp hf2 hd2
          have hC_ν : CT ν t 54 N P S G := hC.cg (fun i h1 h2 => hf2 i (by omega))
          have s7_ν : ν 54 0 7 = nI S := hC_ν.2.2.1
          have s1_ν : ν 54 0 1 = nI P := hC_ν.2.1
          iterate 3 refine hK _ _ _ _ _ ?_
          show K _ _ _ _ _
          rw [show ν 54 0 1 = nI P from s1_ν]
          refine hK _ _ _ _ _ ?_
          refine And.intro (fun _ => ?_) (fun h9 => absurd ((nI_leI (by omega) (by omega)).mpr (by omega)) h9)
          refine hK _ _ _ _ _ ?_
          show K _ _ _ _ _
          rw [show nI s + Int32.ofInt 1 = nI (s + 1) from nIs _]
          refine hK _ _ _ _ _ ?_
          exact ih (s + 1) ν _ (by omega) hf2 (fun x y hx hy => hd2 x y (by omega) hy (by omega))
        | succ f2 ih2 =>
          intro p ν hp hf2 hd2
          have hC_ν : CT ν t 54 N P S G := hC.cg (fun i h1 h2 => hf2 i (by omega))
          have s7_ν : ν 54 0 7 = nI S := hC_ν.2.2.1
          have s1_ν : ν 54 0 1 = nI P := hC_ν.2.1
          iterate 3 refine hK _ _ _ _ _ ?_
          show K _ _ _ _ _
          rw [show ν 54 0 1 = nI P from s1_ν]
          refine hK _ _ _ _ _ ?_
          refine And.intro (fun h9 => absurd ((nI_leI (by omega) (by omega)).mp h9) (by omega)) (fun _ => ?_)
          iterate 4 refine hK _ _ _ _ _ ?_
          refine And.intro (vp_in_nI (n := s) (by omega) (by decide)) ?_
          rw [nI_clamp (show s < 2 ^ 31 by omega)]
          iterate 5 refine hK _ _ _ _ _ ?_
          refine Or.inr (Or.inl (yD0 (c3_lossOf_54 _ _ t N P S G hC_ν hM s p (by omega) (by omega)) ?_))
          rintro r σ' ⟨rfl, hσ⟩
          subst σ'
          refine hK _ _ _ _ _ ?_
          refine And.intro (by first | omega | (rw [nI_clamp (by omega)]; omega)) (And.intro (vp_in_nI (n := p) (by omega) (by decide)) ?_)
          rw [nI_clamp (show p < 2 ^ 31 by omega)]
          refine hK _ _ _ _ _ ?_
          show K _ _ _ _ _
          rw [show nI p + Int32.ofInt 1 = nI (p + 1) from nIs _]
          refine hK _ _ _ _ _ ?_
          refine ih2 (p + 1) _ (by omega) (fun i hi => by rw [sUp_off hi]; exact hf2 i hi) (fun x y hx hy hxy => ?_)
          by_cases e : x = s
          · subst e
            by_cases e2 : y = p
            · subst e2; rw [sUp_at]
            · rw [sUp_k e2]; exact hd2 x y hx hy (by omega)
          · rw [sUp_rowne e]; exact hd2 x y hx hy (by omega)
      exact L12 P 0 μ (by omega) hf (fun x y hx hy hxy => hd x y (by omega) hy)
  exact L2 S 0 σ none (by omega) (fun _ _ => rfl) (fun x y hx _ => absurd hx (Nat.not_lt_zero _))
end
