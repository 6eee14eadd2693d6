/-! THE REFERENCE, leading -/
def canM (σ : sMem) (p s : Nat) (m : Int32) : Bool :=
  isAtM σ p (σ 25 0 s) m && decide ((σ 6 p 4 >>> (σ 8 s 1 &&& 31)) &&& 1 = 1) && decide (σ 14 (σ 25 0 s).toNatClampNeg (σ 8 s 1).toNatClampNeg < 1000000) && decide (σ 14 (σ 8 s 1).toNatClampNeg (σ 6 p 1).toNatClampNeg < 1000000)
def losM (σ : sMem) (p s : Nat) (m : Int32) : Int32 :=
  let x := (σ 25 0 s).toNatClampNeg
  let z := ledM σ x (σ 8 s 1).toNatClampNeg
  σ 6 p 3 * (m + σ 14 x z + σ 14 z (σ 6 p 1).toNatClampNeg - σ 23 0 p)
def gtM (σ : sMem) (s : Nat) (z m : Int32) : sMem :=
  let t := sUp (sUp σ 25 0 s z) 26 0 s m
  if z = σ 8 s 1 then sUp t 27 0 s m else t
def lbM (σ : sMem) (s : Nat) (w : Int32) : sMem :=
  let t := if σ 28 0 s < 40 then sUp σ 29 s (σ 28 0 s).toNatClampNeg w else σ
  let u := sUp t 28 0 s (t 28 0 s + 1)
  sUp u 0 0 46 (u 0 0 46 + 1)
def tldM (σ : sMem) (s : Nat) : Bool := decide (σ 0 0 29 = σ 25 0 s) || decide ((σ 12 0 (σ 25 0 s).toNatClampNeg >>> (σ 8 s 1 &&& 31)) &&& 1 = 1)
section
variable {l : Launch} {D : va_G} {b0 : Nat} {ty : Nat → ClassId}
theorem c9_canLead (d : Nat) (σ : sMem) (N P S : Nat) (hT : TD σ N P S) (p s g x : Nat) (m : Int32) (hp : p < P) (hs : s < S) (hg : σ 20 0 p = nI g) (hg13 : g ≤ 13) (ex : σ 25 0 s = nI x) (hx : x < N) : sMet l D b0 ty lay (d + 1) mX9_canLead [aR 0, aI (nI p), aI (nI s), aI m] σ (fun r σ' => r = [aI (bI (canM σ p s m))] ∧ σ' = σ) := by
  refine sMet_intro lay_nd kX9_canLead xX9_ok (by decide +kernel) rfl ?_
  intro K hK
  obtain ⟨hW, hN2, -, ⟨-, hP⟩, ⟨-, hS⟩, hpe, hst⟩ := hT
  have hN := hW.1
  obtain ⟨a, b, -, -, -, ⟨eb, hb⟩, -⟩ := hpe p hp
  obtain ⟨-, y, -, -, -, ⟨ey, hy⟩, -⟩ := hst s hs
  have cp := nI_clamp (show p < 2 ^ 31 by omega)
  have cs := nI_clamp (show s < 2 ^ 31 by omega)
  have cx := nI_clamp (show x < 2 ^ 31 by omega)
  have cy := nI_clamp (show y < 2 ^ 31 by omega)
  have cb := nI_clamp (show b < 2 ^ 31 by omega)
  have hC : canM σ p s m = (isAtM σ p (nI x) m && decide ((σ 6 p 4 >>> (nI y &&& 31)) &&& 1 = 1) && decide (σ 14 x y < 1000000) && decide (σ 14 y b < 1000000)) := by
    unfold canM
    rw [ex, ey, eb, cx, cy, cb]
  have no : canM σ p s m = false → ∀ E, K 78 E [] σ := by
    intro hq E
    iterate 2 refine hK _ _ _ _ ?_
    exact ⟨Or.inl rfl, by rw [hq]; rfl, rfl⟩
  iterate 4 refine hK _ _ _ _ ?_
  refine And.intro (vp_in_nI (by omega) (by decide)) ?_
  rw [cs, ex]
  iterate 5 refine hK _ _ _ _ ?_
  refine And.intro (vp_in_nI (by omega) (by decide)) ?_
  iterate 2 refine hK _ _ _ _ ?_
  refine And.intro (by first | omega | (rw [nI_clamp (by omega)]; omega)) (And.intro (vp_in_nI (n := 1) (by decide) (by decide)) ?_)
  rw [cs]
  have ey' : σ 8 s (Int32.ofInt 1).toNatClampNeg = nI y := ey
  rw [ey']
  iterate 6 refine hK _ _ _ _ ?_
  refine calD (c9_isAt d σ p g (nI x) m (by omega) hg hg13) ?_
  rintro r σ' ⟨rfl, hσ⟩
  subst σ'
  refine hK _ _ _ _ ?_
  refine And.intro (fun h => no (by rw [hC, bI_f h]; rfl) _) (fun h => ?_)
  have q1 := bI_t h
  iterate 4 refine hK _ _ _ _ ?_
  refine And.intro (vp_in_nI (by omega) (by decide)) ?_
  iterate 2 refine hK _ _ _ _ ?_
  refine And.intro (by first | omega | (rw [nI_clamp (by omega)]; omega)) (And.intro (vp_in_nI (n := 4) (by decide) (by decide)) ?_)
  rw [cp]
  iterate 6 refine hK _ _ _ _ ?_
  refine And.intro (fun h => no (by rw [hC, decide_eq_false (show ¬ (σ 6 p 4 >>> (nI y &&& 31)) &&& 1 = 1 from h)]; simp) _) (fun h => ?_)
  have q2 : (σ 6 p 4 >>> (nI y &&& 31)) &&& 1 = 1 := h
  iterate 4 refine hK _ _ _ _ ?_
  refine calD (c9_isWay _ _ x y (by omega) (by omega)) ?_
  rintro r σ' ⟨rfl, hσ⟩
  subst σ'
  refine hK _ _ _ _ ?_
  refine And.intro (fun h => no (by rw [hC, decide_eq_false (ite_eq h)]; simp) _) (fun h => ?_)
  have q3 := ite_ne h
  iterate 6 refine hK _ _ _ _ ?_
  refine And.intro (vp_in_nI (by omega) (by decide)) ?_
  iterate 2 refine hK _ _ _ _ ?_
  refine And.intro (by first | omega | (rw [nI_clamp (by omega)]; omega)) (And.intro (vp_in_nI (n := 1) (by decide) (by decide)) ?_)
  rw [cp]
  have eb' : σ 6 p (Int32.ofInt 1).toNatClampNeg = nI b := eb
  rw [eb']
  refine hK _ _ _ _ ?_
  refine calD (c9_isWay _ _ y b (by omega) (by omega)) ?_
  rintro r σ' ⟨rfl, hσ⟩
  subst σ'
  refine hK _ _ _ _ ?_
  refine And.intro (fun h => no (by rw [hC, decide_eq_false (ite_eq h)]; simp) _) (fun h => ?_)
  have q4 := ite_ne h
  iterate 3 refine hK _ _ _ _ ?_
  refine ⟨Or.inr rfl, ?_, rfl⟩
  rw [hC, q1, decide_eq_true q2, decide_eq_true q3, decide_eq_true q4]; rfl
theorem c9_loses (d : Nat) (σ : sMem) (N P S : Nat) (hT : TD σ N P S) (p s x y : Nat) (m : Int32) (hp : p < P) (hs : s < S) (ex : σ 25 0 s = nI x) (hx : x < N) (ey : σ 8 s 1 = nI y) (hy0 : y < N) (hf : fN σ x y < 1000000) : sMet l D b0 ty lay (d + 1) mX9_loses [aR 0, aI (nI p), aI (nI s), aI m] σ (fun r σ' => r = [aI (losM σ p s m)] ∧ σ' = σ) := by
  refine sMet_intro lay_nd kX9_loses xX9_ok (by decide +kernel) rfl ?_
  intro K hK
  obtain ⟨hW, hN2, -, ⟨-, hP⟩, ⟨-, hS⟩, hpe, hst⟩ := hT
  have hN := hW.1
  obtain ⟨a, b, -, -, -, ⟨eb, hb⟩, -⟩ := hpe p hp
  have hy : y < N := hy0
  have cp := nI_clamp (show p < 2 ^ 31 by omega)
  have cs := nI_clamp (show s < 2 ^ 31 by omega)
  have cx := nI_clamp (show x < 2 ^ 31 by omega)
  have cy := nI_clamp (show y < 2 ^ 31 by omega)
  have cb := nI_clamp (show b < 2 ^ 31 by omega)
  have hz := (ledM_lt hW hy (σ 0 0 27) 12 x 0 hx hf).1
  have hC : losM σ p s m = σ 6 p 3 * (m + σ 14 x (ledM σ x y) + σ 14 (ledM σ x y) b - σ 23 0 p) := by
    unfold losM
    rw [ex, ey, eb, cx, cy, cb]
  rw [hC] at hK
  have hz' : ledM σ x y < N := hz
  iterate 4 refine hK _ _ _ _ ?_
  refine And.intro (vp_in_nI (by omega) (by decide)) ?_
  rw [cs, ex]
  iterate 7 refine hK _ _ _ _ ?_
  refine And.intro (vp_in_nI (by omega) (by decide)) ?_
  iterate 2 refine hK _ _ _ _ ?_
  refine And.intro (by first | omega | (rw [nI_clamp (by omega)]; omega)) (And.intro (vp_in_nI (n := 1) (by decide) (by decide)) ?_)
  rw [cs]
  have ey' : σ 8 s (Int32.ofInt 1).toNatClampNeg = nI y := ey
  rw [ey']
  refine hK _ _ _ _ ?_
  refine calD (c9_ledTo _ σ N x y hW hx hy hf) ?_
  rintro r σ' ⟨rfl, hσ⟩
  subst σ'
  generalize ledM σ x y = z at hz' hK ⊢
  have cz := nI_clamp (show z < 2 ^ 31 by omega)
  iterate 5 refine hK _ _ _ _ ?_
  refine And.intro (vp_in_nI (by omega) (by decide)) ?_
  iterate 2 refine hK _ _ _ _ ?_
  refine And.intro (by first | omega | (rw [nI_clamp (by omega)]; omega)) (And.intro (vp_in_nI (n := 3) (by decide) (by decide)) ?_)
  iterate 5 refine hK _ _ _ _ ?_
  refine And.intro (vp_in_nI (by omega) (by decide)) ?_
  iterate 2 refine hK _ _ _ _ ?_
  refine And.intro (by first | omega | (rw [nI_clamp (by omega)]; omega)) (And.intro (vp_in_nI (by omega) (by decide)) ?_)
  iterate 5 refine hK _ _ _ _ ?_
  refine And.intro (vp_in_nI (by omega) (by decide)) ?_
  iterate 4 refine hK _ _ _ _ ?_
  refine And.intro (vp_in_nI (by omega) (by decide)) ?_
  iterate 2 refine hK _ _ _ _ ?_
  refine And.intro (by first | omega | (rw [nI_clamp (by omega)]; omega)) (And.intro (vp_in_nI (n := 1) (by decide) (by decide)) ?_)
  rw [cp]
  have eb' : σ 6 p (Int32.ofInt 1).toNatClampNeg = nI b := eb
  rw [eb']
  iterate 1 refine hK _ _ _ _ ?_
  refine And.intro (by first | omega | (rw [nI_clamp (by omega)]; omega)) (And.intro (vp_in_nI (by omega) (by decide)) ?_)
  iterate 5 refine hK _ _ _ _ ?_
  refine And.intro (vp_in_nI (by omega) (by decide)) ?_
  rw [cp, cx, cz, cb]
  iterate 3 refine hK _ _ _ _ ?_
  exact ⟨rfl, rfl⟩
theorem c9_goesTo (d : Nat) (σ : sMem) (s : Nat) (z m : Int32) (hs : s < 8) : sMet l D b0 ty lay d mX9_goesTo [aR 0, aI (nI s), aI z, aI m] σ (fun r σ' => r = [] ∧ σ' = gtM σ s z m) := by
  refine sMet_intro lay_nd kX9_goesTo xX9_ok (by decide +kernel) rfl ?_
  intro K hK
  have cs := nI_clamp (show s < 2 ^ 31 by omega)
  unfold gtM at hK
  iterate 5 refine hK _ _ _ _ ?_
  refine And.intro (vp_in_nI (by omega) (by decide)) ?_
  iterate 5 refine hK _ _ _ _ ?_
  refine And.intro (vp_in_nI (by omega) (by decide)) ?_
  iterate 5 refine hK _ _ _ _ ?_
  refine And.intro (vp_in_nI (by omega) (by decide)) ?_
  iterate 2 refine hK _ _ _ _ ?_
  refine And.intro (by first | omega | (rw [nI_clamp (by omega)]; omega)) (And.intro (vp_in_nI (n := 1) (by decide) (by decide)) ?_)
  rw [cs]
  have e8 : sUp (sUp σ 25 0 s z) 26 0 s m 8 = σ 8 := by rw [sUp_off (by decide), sUp_off (by decide)]
  refine hK _ _ _ _ ?_
  rw [e8]
  refine And.intro (fun h => ?_) (fun h => ?_)
  · have hq : ¬ z = σ 8 s 1 := h
    rw [if_neg hq] at hK
    refine hK _ _ _ _ ?_
    exact ⟨rfl, rfl⟩
  · have hq : z = σ 8 s 1 := h
    simp only [if_pos hq] at hK
    iterate 5 refine hK _ _ _ _ ?_
    refine And.intro (vp_in_nI (by omega) (by decide)) ?_
    rw [cs]
    refine hK _ _ _ _ ?_
    exact ⟨rfl, rfl⟩
theorem c9_ledBy (d : Nat) (σ : sMem) (s k : Nat) (w : Int32) (hs : s < 8) (ek : σ 28 0 s = nI k) (hk : k < 2 ^ 30) : sMet l D b0 ty lay d mX9_ledBy [aR 0, aI (nI s), aI w] σ (fun r σ' => r = [] ∧ σ' = lbM σ s w) := by
  refine sMet_intro lay_nd kX9_ledBy xX9_ok (by decide +kernel) rfl ?_
  intro K hK
  have cs := nI_clamp (show s < 2 ^ 31 by omega)
  have ck := nI_clamp (show k < 2 ^ 31 by omega)
  have e40 : (40 : Int32) = nI 40 := rfl
  unfold lbM at hK
  rw [ek] at hK
  have tail : ∀ t : sMem, t = (if nI k < 40 then sUp σ 29 s (nI k).toNatClampNeg w else σ) → K 25 [some (aR 0), some (aI (nI s)), some (aI w)] [] t := by
    intro t ht
    rw [← ht] at hK
    iterate 5 refine hK _ _ _ _ ?_
    refine And.intro (vp_in_nI (by omega) (by decide)) ?_
    iterate 3 refine hK _ _ _ _ ?_
    refine And.intro (vp_in_nI (by omega) (by decide)) ?_
    rw [cs]
    iterate 7 refine hK _ _ _ _ ?_
    exact ⟨rfl, rfl⟩
  iterate 4 refine hK _ _ _ _ ?_
  refine And.intro (vp_in_nI (by omega) (by decide)) ?_
  rw [cs, ek]
  iterate 2 refine hK _ _ _ _ ?_
  refine And.intro (fun h => ?_) (fun h => ?_)
  · have hq : ¬ nI k < 40 := Int32.not_lt.mpr h
    exact tail σ (by rw [if_neg hq])
  · have hq : nI k < 40 := Int32.not_le.mp h
    have hk40 : k < 40 := by
      rw [e40] at hq
      exact (nI_ltI (by omega) (by decide)).mp hq
    iterate 4 refine hK _ _ _ _ ?_
    refine And.intro (vp_in_nI (by omega) (by decide)) ?_
    iterate 4 refine hK _ _ _ _ ?_
    refine And.intro (vp_in_nI (by omega) (by decide)) ?_
    rw [cs, ek]
    iterate 2 refine hK _ _ _ _ ?_
    refine And.intro (by first | omega | (rw [nI_clamp (by omega)]; omega)) (And.intro (vp_in_nI (by omega) (by decide)) ?_)
    refine tail _ ?_
    rw [if_pos hq]
theorem c9_lostBy (d : Nat) (σ : sMem) (p : Nat) (hp : p < 10) : sMet l D b0 ty lay d mX9_lostBy [aR 0, aI (nI p)] σ (fun r σ' => r = [aI (σ 6 p 3 * (σ 23 0 p - σ 22 0 p))] ∧ σ' = σ) := by
  refine sMet_intro lay_nd kX9_lostBy xX9_ok (by decide +kernel) rfl ?_
  intro K hK
  have cp := nI_clamp (show p < 2 ^ 31 by omega)
  iterate 4 refine hK _ _ _ _ ?_
  refine And.intro (vp_in_nI (by omega) (by decide)) ?_
  iterate 2 refine hK _ _ _ _ ?_
  refine And.intro (by first | omega | (rw [nI_clamp (by omega)]; omega)) (And.intro (vp_in_nI (n := 3) (by decide) (by decide)) ?_)
  iterate 4 refine hK _ _ _ _ ?_
  refine And.intro (vp_in_nI (by omega) (by decide)) ?_
  iterate 4 refine hK _ _ _ _ ?_
  refine And.intro (vp_in_nI (by omega) (by decide)) ?_
  rw [cp]
  iterate 3 refine hK _ _ _ _ ?_
  exact ⟨rfl, rfl⟩
end
