/-! THE CLASS'S COURSE: whom a stranger finds -/
theorem ltM_0 {c : sMem} {N : Nat} (h : WY c N) {y : Nat} (hy : y < N) : ∀ f z k, z < N → fN c z y < 1000000 → pl c y z ≤ f → ltM c y 0 f z k = y
  | 0, z, k, hz, hf, hp => by
    by_cases e : z = y
    · exact e
    · have := pl_s h hy hz hf e
      omega
  | f + 1, z, k, hz, hf, hp => by
    unfold ltM
    by_cases e : z = y
    · rw [if_pos e]; exact e
    · obtain ⟨n1, n2, -, n4, -, n6⟩ := nx_at h hz hy hf e
      have := pl_s h hy hz hf e
      have h12 := h.1.1
      rw [if_neg e, if_pos (Or.inl rfl), n2, nI_clamp (by omega)]
      exact ltM_0 h hy f _ (k + 1) n1 (by omega) (by omega)
theorem nx_lt {c : sMem} {N a q : Nat} (h : WY c N) (ha : a < N) (hq : q < N) : nxN c a q < N := by
  by_cases e : a = q
  · subst e; rw [nx_self h hq]; exact hq
  · by_cases hf : fN c a q < 1000000
    · exact (nx_at h ha hq hf e).1
    · unfold nxN
      rw [if_pos (h.2.2.2 a q ha hq (Or.inr hf))]
      exact ha
section
variable {c : sMem} {D : DA} {s m f p : Nat} {ch : Bool}
theorem pfA_n {b : Option Nat} (h : caA c D p s m = false) : pfA c D s m ch (f + 1) p b = pfA c D s m ch f (p + 1) b := by
  show pfA c D s m ch f (p + 1) (if caA c D p s m = true then _ else b) = _
  rw [if_neg (by rw [h]; decide)]
theorem pfA_0 (h : caA c D p s m = true) : pfA c D s m ch (f + 1) p none = pfA c D s m ch f (p + 1) (some p) := by
  show pfA c D s m ch f (p + 1) (if caA c D p s m = true then _ else none) = _
  rw [if_pos h]
theorem pfA_t {q : Nat} (h : caA c D p s m = true) (hl : ch = true ∧ losA c p (D.2.1 s).1 (ledM c (D.2.1 s).1 (sY c s)) < losA c q (D.2.1 s).1 (ledM c (D.2.1 s).1 (sY c s))) : pfA c D s m ch (f + 1) p (some q) = pfA c D s m ch f (p + 1) (some p) := by
  show pfA c D s m ch f (p + 1) (if caA c D p s m = true then (if ch = true ∧ losA c p (D.2.1 s).1 (ledM c (D.2.1 s).1 (sY c s)) < losA c q (D.2.1 s).1 (ledM c (D.2.1 s).1 (sY c s)) then some p else some q) else some q) = _
  rw [if_pos h, if_pos hl]
theorem pfA_f {q : Nat} (h : caA c D p s m = true) (hl : ¬ (ch = true ∧ losA c p (D.2.1 s).1 (ledM c (D.2.1 s).1 (sY c s)) < losA c q (D.2.1 s).1 (ledM c (D.2.1 s).1 (sY c s)))) : pfA c D s m ch (f + 1) p (some q) = pfA c D s m ch f (p + 1) (some q) := by
  show pfA c D s m ch f (p + 1) (if caA c D p s m = true then (if ch = true ∧ losA c p (D.2.1 s).1 (ledM c (D.2.1 s).1 (sY c s)) < losA c q (D.2.1 s).1 (ledM c (D.2.1 s).1 (sY c s)) then some p else some q) else some q) = _
  rw [if_pos h, if_neg hl]
end
/-- the leader's number: a person, 100 and the guide, nobody -/
def ldC (c : sMem) (D : DA) (P G s kd m : Nat) : Int32 := match asGA c D G s kd m, asPA c D P s kd m with
  | some g, some p => if kd = 2 then nI (100 + g) else nI p
  | some g, none => nI (100 + g)
  | none, some p => nI p
  | none, none => -1
section
variable {l : Launch} {D0 : va_G} {b0 : Nat} {ty : Nat → ClassId}
theorem t6_reaches_36 (d : Nat) (σ c : sMem) (N P S : Nat) (hT : TT σ c 36 N P S) (hM : MC c N P S) (a b : Nat) (ha : a < N) (hb : b < N) : sMet l D0 b0 ty lay d mX6_reaches [aR 37, aI (nI a), aI (nI b)] σ (fun r σ' => r = [aI (bI (decide (fN c a b < 1000000)))] ∧ σ' = σ) := by
  refine sMet_intro lay_nd kX6_reaches xX6_ok (by decide +kernel) rfl ?_
  intro K hK
  have hN := hM.1.1.1
  have hf := (hM.1.1.2.1 a b ha hb).2.1
  have em := (hT.2.2.2.1 a b ha hb).1
  iterate 4 refine hK _ _ _ _ ?_
  refine And.intro (vp_in_nI (n := a) (by omega) (by decide)) ?_
  rw [nI_clamp (show a < 2 ^ 31 by omega)]
  iterate 2 refine hK _ _ _ _ ?_
  refine And.intro (by first | omega | (rw [nI_clamp (by omega)]; omega)) (And.intro (vp_in_nI (n := b) (by omega) (by decide)) ?_)
  rw [nI_clamp (show b < 2 ^ 31 by omega)]
  rw [show σ 39 a b = nI (fN c a b) from em]
  iterate 2 refine hK _ _ _ _ ?_
  refine And.intro (fun h => ?_) (fun h => ?_)
  · iterate 2 refine hK _ _ _ _ ?_
    exact ⟨Or.inl rfl, by rw [decide_eq_false (fun z => absurd ((nI_lt1 hf).mpr z) (Int32.not_lt.mpr h))]; rfl, rfl⟩
  · iterate 3 refine hK _ _ _ _ ?_
    exact ⟨Or.inr rfl, by rw [decide_eq_true ((nI_lt1 hf).mp (Int32.not_le.mp h))]; rfl, rfl⟩
theorem t7_goes_36 (d : Nat) (σ c : sMem) (N P S : Nat) (hT : TT σ c 36 N P S) (hM : MC c N P S) (p : Nat) (hp : p < P) : sMet l D0 b0 ty lay (d + 1) mX7_goes [aR 36, aI (nI p)] σ (fun r σ' => r = [aI (bI (decide (fN c (pP c p) (pQ c p) < 1000000)))] ∧ σ' = σ) := by
  refine sMet_intro lay_nd kX7_goes xX7_ok (by decide +kernel) rfl ?_
  intro K hK
  have hN := hM.1.1.1
  have hP := hM.2.2.1
  obtain ⟨⟨ea, ha⟩, ⟨eb, hb9⟩, ⟨et, htt⟩, ew, hw1, hw2⟩ := hM.2.2.2.2.1 p hp
  have f5 := (hT.2.2.2.2.1 p hp).1
  have f6 := (hT.2.2.2.2.1 p hp).2.1
  have f7 := (hT.2.2.2.2.1 p hp).2.2.1
  have f8 := (hT.2.2.2.2.1 p hp).2.2.2.1
  have f9 := (hT.2.2.2.2.1 p hp).2.2.2.2
  iterate 6 refine hK _ _ _ _ ?_
  refine And.intro (vp_in_nI (n := p) (by omega) (by decide)) ?_
  rw [nI_clamp (show p < 2 ^ 31 by omega)]
  rw [show σ 41 0 p = nI (pP c p) from f5]
  iterate 4 refine hK _ _ _ _ ?_
  refine And.intro (vp_in_nI (n := p) (by omega) (by decide)) ?_
  rw [nI_clamp (show p < 2 ^ 31 by omega)]
  rw [show σ 42 0 p = nI (pQ c p) from f6]
  refine hK _ _ _ _ ?_
  refine calD (t6_reaches_36 _ _ c N P S hT hM _ _ ha hb9) ?_
  rintro r σ' ⟨rfl, hσ⟩
  subst σ'
  refine hK _ _ _ _ ?_
  exact ⟨bI_01 _, rfl, rfl⟩
theorem t7_arrival_36 (d : Nat) (σ c : sMem) (N P S : Nat) (hT : TT σ c 36 N P S) (hM : MC c N P S) (p : Nat) (hp : p < P) : sMet l D0 b0 ty lay d mX7_arrival [aR 36, aI (nI p)] σ (fun r σ' => r = [aI (nI (pT c p + fN c (pP c p) (pQ c p)))] ∧ σ' = σ) := by
  refine sMet_intro lay_nd kX7_arrival xX7_ok (by decide +kernel) rfl ?_
  intro K hK
  have hN := hM.1.1.1
  have hP := hM.2.2.1
  obtain ⟨⟨ea, ha⟩, ⟨eb, hb9⟩, ⟨et, htt⟩, ew, hw1, hw2⟩ := hM.2.2.2.2.1 p hp
  have f5 := (hT.2.2.2.2.1 p hp).1
  have f6 := (hT.2.2.2.2.1 p hp).2.1
  have f7 := (hT.2.2.2.2.1 p hp).2.2.1
  have f8 := (hT.2.2.2.2.1 p hp).2.2.2.1
  have f9 := (hT.2.2.2.2.1 p hp).2.2.2.2
  have fm := (hT.2.2.2.1 _ _ ha hb9).1
  iterate 4 refine hK _ _ _ _ ?_
  refine And.intro (vp_in_nI (n := p) (by omega) (by decide)) ?_
  rw [nI_clamp (show p < 2 ^ 31 by omega)]
  rw [show σ 43 0 p = nI (pT c p) from f7]
  iterate 7 refine hK _ _ _ _ ?_
  refine And.intro (vp_in_nI (n := p) (by omega) (by decide)) ?_
  rw [nI_clamp (show p < 2 ^ 31 by omega)]
  rw [show σ 41 0 p = nI (pP c p) from f5]
  refine hK _ _ _ _ ?_
  refine And.intro (vp_in_nI (n := (pP c p)) (by omega) (by decide)) ?_
  rw [nI_clamp (show (pP c p) < 2 ^ 31 by omega)]
  iterate 4 refine hK _ _ _ _ ?_
  refine And.intro (vp_in_nI (n := p) (by omega) (by decide)) ?_
  rw [nI_clamp (show p < 2 ^ 31 by omega)]
  rw [show σ 42 0 p = nI (pQ c p) from f6]
  refine hK _ _ _ _ ?_
  refine And.intro (by first | omega | (rw [nI_clamp (by omega)]; omega)) (And.intro (vp_in_nI (n := (pQ c p)) (by omega) (by decide)) ?_)
  rw [nI_clamp (show (pQ c p) < 2 ^ 31 by omega)]
  rw [show σ 39 (pP c p) (pQ c p) = nI (fN c (pP c p) (pQ c p)) from fm]
  iterate 2 refine hK _ _ _ _ ?_
  exact ⟨by rw [nIa], rfl⟩
theorem t7_lossBy_36 (d : Nat) (σ c : sMem) (N P S : Nat) (hT : TT σ c 36 N P S) (hM : MC c N P S) (p : Nat) (hp : p < P) (x y : Nat) (hx : x < N) (hy : y < N) : sMet l D0 b0 ty lay d mX7_lossBy [aR 36, aI (nI p), aI (nI x), aI (nI y)] σ (fun r σ' => r = [aI (nI (losA c p x y))] ∧ σ' = σ) := by
  refine sMet_intro lay_nd kX7_lossBy xX7_ok (by decide +kernel) rfl ?_
  intro K hK
  have hN := hM.1.1.1
  have hP := hM.2.2.1
  obtain ⟨⟨ea, ha⟩, ⟨eb, hb9⟩, ⟨et, htt⟩, ew, hw1, hw2⟩ := hM.2.2.2.2.1 p hp
  have f5 := (hT.2.2.2.2.1 p hp).1
  have f6 := (hT.2.2.2.2.1 p hp).2.1
  have f7 := (hT.2.2.2.2.1 p hp).2.2.1
  have f8 := (hT.2.2.2.2.1 p hp).2.2.2.1
  have f9 := (hT.2.2.2.2.1 p hp).2.2.2.2
  have g1 := (hT.2.2.2.1 x y hx hy).1
  have g2 := (hT.2.2.2.1 y _ hy hb9).1
  have g3 := (hT.2.2.2.1 x _ hx hb9).1
  have tri := hM.1.2.1 x y (pQ c p) hx hy hb9
  iterate 5 refine hK _ _ _ _ ?_
  refine And.intro (vp_in_nI (n := x) (by omega) (by decide)) ?_
  rw [nI_clamp (show x < 2 ^ 31 by omega)]
  iterate 2 refine hK _ _ _ _ ?_
  refine And.intro (by first | omega | (rw [nI_clamp (by omega)]; omega)) (And.intro (vp_in_nI (n := y) (by omega) (by decide)) ?_)
  rw [nI_clamp (show y < 2 ^ 31 by omega)]
  rw [show σ 39 x y = nI (fN c x y) from g1]
  iterate 5 refine hK _ _ _ _ ?_
  refine And.intro (vp_in_nI (n := y) (by omega) (by decide)) ?_
  rw [nI_clamp (show y < 2 ^ 31 by omega)]
  iterate 4 refine hK _ _ _ _ ?_
  refine And.intro (vp_in_nI (n := p) (by omega) (by decide)) ?_
  rw [nI_clamp (show p < 2 ^ 31 by omega)]
  rw [show σ 42 0 p = nI (pQ c p) from f6]
  refine hK _ _ _ _ ?_
  refine And.intro (by first | omega | (rw [nI_clamp (by omega)]; omega)) (And.intro (vp_in_nI (n := (pQ c p)) (by omega) (by decide)) ?_)
  rw [nI_clamp (show (pQ c p) < 2 ^ 31 by omega)]
  rw [show σ 39 y (pQ c p) = nI (fN c y (pQ c p)) from g2]
  iterate 6 refine hK _ _ _ _ ?_
  refine And.intro (vp_in_nI (n := x) (by omega) (by decide)) ?_
  rw [nI_clamp (show x < 2 ^ 31 by omega)]
  iterate 4 refine hK _ _ _ _ ?_
  refine And.intro (vp_in_nI (n := p) (by omega) (by decide)) ?_
  rw [nI_clamp (show p < 2 ^ 31 by omega)]
  rw [show σ 42 0 p = nI (pQ c p) from f6]
  refine hK _ _ _ _ ?_
  refine And.intro (by first | omega | (rw [nI_clamp (by omega)]; omega)) (And.intro (vp_in_nI (n := (pQ c p)) (by omega) (by decide)) ?_)
  rw [nI_clamp (show (pQ c p) < 2 ^ 31 by omega)]
  rw [show σ 39 x (pQ c p) = nI (fN c x (pQ c p)) from g3]
  iterate 6 refine hK _ _ _ _ ?_
  refine And.intro (vp_in_nI (n := p) (by omega) (by decide)) ?_
  rw [nI_clamp (show p < 2 ^ 31 by omega)]
  rw [show σ 44 0 p = nI (pV c p) from f8]
  iterate 3 refine hK _ _ _ _ ?_
  exact ⟨by unfold losA; rw [nIa, nIm (by omega), nIx], rfl⟩
theorem c0_leavingPlace_36 (d : Nat) (σ c : sMem) (N P S : Nat) (hT : TT σ c 36 N P S) (hM : MC c N P S) (kd : Nat) (hO : CO σ 36 kd) (eL : σ 76 0 0 = nI (lw c)) (hL : c 0 0 27 = nI (lw c) ∧ lw c ≤ 9) (x y : Nat) (hx : x < N) (hy : y < N) (hf : fN c x y < 1000000) : sMet l D0 b0 ty lay d mX0_leavingPlace [aR 81, aI (nI x), aI (nI y)] σ (fun r σ' => r = [aI (nI (ledM c x y))] ∧ σ' = σ) := by
  refine sMet_intro lay_nd kX0_leavingPlace xX0_ok (by decide +kernel) rfl ?_
  intro K hK
  have hN := hM.1.1.1
  iterate 2 refine hK _ _ _ _ ?_
  show K _ _ _ _
  rw [show σ 81 0 1 = nI 76 from hO.2.1]
  show K _ _ _ _
  rw [show (nI 76).toNatClampNeg = 76 from rfl]
  refine hK _ _ _ _ ?_
  show K _ _ _ _
  rw [show σ 76 0 0 = nI (lw c) from eL]
  refine hK _ _ _ _ ?_
  refine And.intro (fun h => ?_) (fun h => ?_)
  · have hl0 : ¬ lw c = 0 := fun e => h (by rw [e]; rfl)
    iterate 4 refine hK _ _ _ _ ?_
    have L17 : ∀ (f : Nat) (z k : Nat), f + k = 12 → z < N → fN c z y < 1000000 → ledM c x y = ltM c y (c 0 0 27) f z k → K 17 [some (aR 81), some (aI (nI x)), some (aI (nI y)), some (aI (nI z)), some (aI (nI k))] [] σ := by
      intro f
      induction f with
      | zero =>
        intro z k hfk hz hzf hlt
        iterate 3 refine hK _ _ _ _ ?_
        show K _ _ _ _
        rw [show σ 81 0 1 = nI 76 from hO.2.1]
        show K _ _ _ _
        rw [show (nI 76).toNatClampNeg = 76 from rfl]
        refine hK _ _ _ _ ?_
        show K _ _ _ _
        rw [show σ 76 0 0 = nI (lw c) from eL]
        refine hK _ _ _ _ ?_
        refine And.intro (fun h => ?_) (fun h => absurd ((nI_leI (by omega) (by omega)).mpr (by omega)) h)
        iterate 2 refine hK _ _ _ _ ?_
        exact ⟨by rw [hlt]; rfl, rfl⟩
      | succ f ih =>
        intro z k hfk hz hzf hlt
        have gs := (hT.2.2.2.1 z y hz hy).2
        iterate 3 refine hK _ _ _ _ ?_
        show K _ _ _ _
        rw [show σ 81 0 1 = nI 76 from hO.2.1]
        show K _ _ _ _
        rw [show (nI 76).toNatClampNeg = 76 from rfl]
        refine hK _ _ _ _ ?_
        show K _ _ _ _
        rw [show σ 76 0 0 = nI (lw c) from eL]
        refine hK _ _ _ _ ?_
        refine And.intro (fun h => ?_) (fun h => ?_)
        · have hk : lw c ≤ k := (nI_leI (by omega) (by omega)).mp h
          iterate 2 refine hK _ _ _ _ ?_
          exact ⟨by rw [hlt, ltM]; split; rfl; rw [if_neg]; rw [hL.1]; rintro (q | q); exact hl0 ((nI_eq (b := 0) (by omega) (by decide)).mp q); have := (nI_ltI (by omega) (by omega)).mp q; omega, rfl⟩
        · have hk : k < lw c := Nat.lt_of_not_le (fun q => h ((nI_leI (by omega) (by omega)).mpr q))
          iterate 3 refine hK _ _ _ _ ?_
          refine And.intro (fun h2 => ?_) (fun h2 => ?_)
          · have hzy : z = y := (nI_eq (by omega) (by omega)).mp h2
            iterate 2 refine hK _ _ _ _ ?_
            exact ⟨by rw [hlt, ltM, if_pos hzy], rfl⟩
          · have hzy : ¬ z = y := fun e => h2 (by rw [e])
            iterate 2 refine hK _ _ _ _ ?_
            show K _ _ _ _
            rw [show σ 81 0 0 = nI 36 from hO.1]
            show K _ _ _ _
            rw [show (nI 36).toNatClampNeg = 36 from rfl]
            iterate 4 refine hK _ _ _ _ ?_
            refine And.intro (vp_in_nI (n := z) (by omega) (by decide)) ?_
            rw [nI_clamp (show z < 2 ^ 31 by omega)]
            iterate 2 refine hK _ _ _ _ ?_
            refine And.intro (by first | omega | (rw [nI_clamp (by omega)]; omega)) (And.intro (vp_in_nI (n := y) (by omega) (by decide)) ?_)
            rw [nI_clamp (show y < 2 ^ 31 by omega)]
            rw [show σ 40 z y = nI (nxN c z y) from gs]
            iterate 2 refine hK _ _ _ _ ?_
            show K _ _ _ _
            rw [show nI k + Int32.ofInt 1 = nI (k + 1) from nIs _]
            refine hK _ _ _ _ ?_
            obtain ⟨n1, n2, -, n4, -, n6⟩ := nx_at hM.1 hz hy hzf hzy
            exact ih (nxN c z y) (k + 1) (by omega) n1 (by omega) (by rw [hlt, ltM, if_neg hzy, if_pos (Or.inr (by rw [hL.1]; exact (nI_ltI (by omega) (by omega)).mpr hk)), n2, nI_clamp (by omega)])
    exact L17 12 x 0 rfl hx hf rfl
  · have hl0 : lw c = 0 := (nI_eq (b := 0) (by omega) (by decide)).mp h
    iterate 2 refine hK _ _ _ _ ?_
    exact ⟨by unfold ledM; rw [hL.1, hl0, show nI 0 = (0 : Int32) from rfl, ltM_0 hM.1 hy 12 x 0 hx hf (by have := pl_le hM.1 hy hx hf; omega)], rfl⟩
theorem c0_cheapestPerson_36 (d : Nat) (σ c : sMem) (cm : Nat → Bool) (kd N P S G : Nat) (D : DA) (m j B : Nat) (h : CE σ c cm 36 kd N P S G D m j true B) (hm : m ≤ 999) (s : Nat) (hs : s < S) (hf : fN c (D.2.1 s).1 (sY c s) < 1000000) : sMet l D0 b0 ty lay (d + 1) mX0_cheapestPerson [aR 81, aI (nI s), aI (nI m)] σ (fun r σ' => r = [aI (oI (pfA c D s m true P 0 none))] ∧ σ' = σ) := by
  refine sMet_intro lay_nd kX0_cheapestPerson xX0_ok (by decide +kernel) rfl ?_
  intro K hK
  have h0 := h
  obtain ⟨hT, hM, hS, hSC, ⟨hO, hA, hC, hW⟩, hV⟩ := h
  have hN := hM.1.1.1
  have hP := hM.2.2.1
  have hS8 := hM.2.2.2.1
  obtain ⟨x1, x2, x3, x4, x5, x6, x7⟩ := hV.2.1 s hs
  obtain ⟨⟨ex, hx⟩, ⟨ey, hy⟩, ⟨et, ht⟩, hxy⟩ := hM.2.2.2.2.2 s hs
  have g84 : σ 84 0 s = nI (D.2.1 s).1 := (hC.1 s hs).1
  have g11 : σ 47 0 s = nI (sY c s) := (hT.2.2.2.2.2 s hs).2.1
  obtain ⟨l1, l2, l3, -, -⟩ := led_at hM.1 hSC.1 x1 hy hf
  iterate 5 refine hK _ _ _ _ ?_
  refine And.intro (vp_in_nI (n := s) (by omega) (by decide)) ?_
  rw [nI_clamp (show s < 2 ^ 31 by omega)]
  rw [show σ 84 0 s = nI (D.2.1 s).1 from g84]
  iterate 2 refine hK _ _ _ _ ?_
  show K _ _ _ _
  rw [show σ 81 0 0 = nI 36 from hO.1]
  show K _ _ _ _
  rw [show (nI 36).toNatClampNeg = 36 from rfl]
  iterate 3 refine hK _ _ _ _ ?_
  refine And.intro (vp_in_nI (n := s) (by omega) (by decide)) ?_
  rw [nI_clamp (show s < 2 ^ 31 by omega)]
  rw [show σ 47 0 s = nI (sY c s) from g11]
  refine hK _ _ _ _ ?_
  refine calD (c0_leavingPlace_36 _ _ c N P S hT hM kd hO hS.1 hSC.1 (D.2.1 s).1 (sY c s) x1 hy hf) ?_
  rintro r σ' ⟨rfl, hσ⟩
  subst σ'
  iterate 7 refine hK _ _ _ _ ?_
  have L29 : ∀ (f : Nat) (p : Nat) (b : Option Nat) (x : Int32) (e7 : Option AV), p + f = P → (∀ q, b = some q → q < P ∧ losA c q (D.2.1 s).1 (ledM c (D.2.1 s).1 (sY c s)) < 2 ^ 31) → (∀ q, b = some q → x = nI (losA c q (D.2.1 s).1 (ledM c (D.2.1 s).1 (sY c s)))) → pfA c D s m true P 0 none = pfA c D s m true f p b → K 29 [some (aR 81), some (aI (nI s)), some (aI (nI m)), some (aI (nI (ledM c (D.2.1 s).1 (sY c s)))), some (aI (oI b)), some (aI (x)), some (aI (nI p)), e7] [] σ := by
    intro f
    induction f with
    | zero =>
      intro p b x e7 hpP hb1 hb2 hpf
      iterate 3 refine hK _ _ _ _ ?_
      show K _ _ _ _
      rw [show σ 81 0 0 = nI 36 from hO.1]
      show K _ _ _ _
      rw [show (nI 36).toNatClampNeg = 36 from rfl]
      refine hK _ _ _ _ ?_
      show K _ _ _ _
      rw [show σ 36 0 1 = nI P from hT.2.1]
      refine hK _ _ _ _ ?_
      refine And.intro (fun _ => ?_) (fun h => absurd ((nI_leI (by omega) (by omega)).mpr (by omega)) h)
      iterate 2 refine hK _ _ _ _ ?_
      exact ⟨by rw [hpf]; rfl, rfl⟩
    | succ f ih =>
      intro p b x e7 hpP hb1 hb2 hpf
      iterate 3 refine hK _ _ _ _ ?_
      show K _ _ _ _
      rw [show σ 81 0 0 = nI 36 from hO.1]
      show K _ _ _ _
      rw [show (nI 36).toNatClampNeg = 36 from rfl]
      refine hK _ _ _ _ ?_
      show K _ _ _ _
      rw [show σ 36 0 1 = nI P from hT.2.1]
      refine hK _ _ _ _ ?_
      refine And.intro (fun h => absurd ((nI_leI (by omega) (by omega)).mp h) (by omega)) (fun _ => ?_)
      iterate 5 refine hK _ _ _ _ ?_
      refine calD (c0_canLead_36 _ _ c cm kd N P S G D m j B h0 hm p s (by omega) hs hf) ?_
      rintro r σ' ⟨rfl, hσ⟩
      subst σ'
      refine hK _ _ _ _ ?_
      refine And.intro (fun h => ?_) (fun h => ?_)
      · have hc := bI_t h
        iterate 2 refine hK _ _ _ _ ?_
        show K _ _ _ _
        rw [show σ 81 0 0 = nI 36 from hO.1]
        show K _ _ _ _
        rw [show (nI 36).toNatClampNeg = 36 from rfl]
        iterate 5 refine hK _ _ _ _ ?_
        refine And.intro (vp_in_nI (n := s) (by omega) (by decide)) ?_
        rw [nI_clamp (show s < 2 ^ 31 by omega)]
        rw [show σ 84 0 s = nI (D.2.1 s).1 from g84]
        iterate 2 refine hK _ _ _ _ ?_
        refine calD (t7_lossBy_36 _ _ c N P S hT hM p (by omega) (D.2.1 s).1 (ledM c (D.2.1 s).1 (sY c s)) x1 l1) ?_
        rintro r σ' ⟨rfl, hσ⟩
        subst σ'
        have hpl : losA c p (D.2.1 s).1 (ledM c (D.2.1 s).1 (sY c s)) < 2 ^ 31 := by
          obtain ⟨c1, c2, -, c4, c5⟩ := caA_of hc
          obtain ⟨-, ⟨eq, hq⟩, -, -, v1, v2⟩ := hM.2.2.2.2.1 p (by omega)
          have f1 := fN_660 hM.1 hy x1 c4
          have f2 := fN_660 hM.1 hq hy c5
          have f3 := hM.1.2.1 (ledM c (D.2.1 s).1 (sY c s)) (sY c s) (pQ c p) l1 hy hq
          have : losA c p (D.2.1 s).1 (ledM c (D.2.1 s).1 (sY c s)) ≤ 99 * 2000 := Nat.mul_le_mul v2 (by omega)
          omega
        have take : (∀ q, b = some q → losA c p (D.2.1 s).1 (ledM c (D.2.1 s).1 (sY c s)) < losA c q (D.2.1 s).1 (ledM c (D.2.1 s).1 (sY c s))) → K 29 [some (aR 81), some (aI (nI s)), some (aI (nI m)), some (aI (nI (ledM c (D.2.1 s).1 (sY c s)))), some (aI (oI (some p))), some (aI (nI (losA c p (D.2.1 s).1 (ledM c (D.2.1 s).1 (sY c s))))), some (aI (nI (p + 1))), some (aI (nI (losA c p (D.2.1 s).1 (ledM c (D.2.1 s).1 (sY c s)))))] [] σ := by
          intro hq
          refine ih (p + 1) (some p) _ _ (by omega) (fun q hq' => by cases hq'; exact ⟨by omega, hpl⟩) (fun q hq' => by cases hq'; rfl) ?_
          rw [hpf]
          cases b with
          | none => exact pfA_0 hc
          | some q => exact pfA_t hc ⟨rfl, hq q rfl⟩
        iterate 4 refine hK _ _ _ _ ?_
        refine And.intro (fun h1 => ?_) (fun h1 => ?_)
        · have hbn : b = none := (oI_inj (fun q hq => by have := (hb1 q hq).1; omega)).mp h1
          iterate 5 refine hK _ _ _ _ ?_
          show K _ _ _ _
          rw [show nI p + Int32.ofInt 1 = nI (p + 1) from nIs _]
          refine hK _ _ _ _ ?_
          exact take (fun q hq => by rw [hbn] at hq; cases hq)
        · obtain ⟨q, rfl⟩ : ∃ q, b = some q := by
            cases b with
            | none => exact absurd rfl h1
            | some q => exact ⟨q, rfl⟩
          have hx9 := hb2 q rfl
          subst hx9
          iterate 3 refine hK _ _ _ _ ?_
          refine And.intro (fun h2 => ?_) (fun h2 => ?_)
          · refine hK _ _ _ _ ?_
            show K _ _ _ _
            rw [show nI p + Int32.ofInt 1 = nI (p + 1) from nIs _]
            refine hK _ _ _ _ ?_
            refine ih (p + 1) (some q) _ _ (by omega) hb1 hb2 ?_
            rw [hpf, pfA_f hc (fun z => absurd z.2 (Nat.not_lt.mpr ((nI_leI (hb1 q rfl).2 hpl).mp h2)))]
          · iterate 5 refine hK _ _ _ _ ?_
            show K _ _ _ _
            rw [show nI p + Int32.ofInt 1 = nI (p + 1) from nIs _]
            refine hK _ _ _ _ ?_
            exact take (fun q9 e9 => by cases e9; exact (nI_ltI hpl (hb1 q rfl).2).mp (Int32.not_le.mp h2))
      · have hc := bI_f h
        iterate 2 refine hK _ _ _ _ ?_
        show K _ _ _ _
        rw [show nI p + Int32.ofInt 1 = nI (p + 1) from nIs _]
        refine hK _ _ _ _ ?_
        exact ih (p + 1) b x e7 (by omega) hb1 hb2 (by rw [hpf, pfA_n hc])
  exact L29 P 0 none 0 none (by omega) (fun q hq => by cases hq) (fun q hq => by cases hq) rfl
theorem t6_reaches_54 (d : Nat) (σ c : sMem) (N P S : Nat) (hT : TT σ c 54 N P S) (hM : MC c N P S) (a b : Nat) (ha : a < N) (hb : b < N) : sMet l D0 b0 ty lay d mX6_reaches [aR 55, aI (nI a), aI (nI b)] σ (fun r σ' => r = [aI (bI (decide (fN c a b < 1000000)))] ∧ σ' = σ) := by
  refine sMet_intro lay_nd kX6_reaches xX6_ok (by decide +kernel) rfl ?_
  intro K hK
  have hN := hM.1.1.1
  have hf := (hM.1.1.2.1 a b ha hb).2.1
  have em := (hT.2.2.2.1 a b ha hb).1
  iterate 4 refine hK _ _ _ _ ?_
  refine And.intro (vp_in_nI (n := a) (by omega) (by decide)) ?_
  rw [nI_clamp (show a < 2 ^ 31 by omega)]
  iterate 2 refine hK _ _ _ _ ?_
  refine And.intro (by first | omega | (rw [nI_clamp (by omega)]; omega)) (And.intro (vp_in_nI (n := b) (by omega) (by decide)) ?_)
  rw [nI_clamp (show b < 2 ^ 31 by omega)]
  rw [show σ 57 a b = nI (fN c a b) from em]
  iterate 2 refine hK _ _ _ _ ?_
  refine And.intro (fun h => ?_) (fun h => ?_)
  · iterate 2 refine hK _ _ _ _ ?_
    exact ⟨Or.inl rfl, by rw [decide_eq_false (fun z => absurd ((nI_lt1 hf).mpr z) (Int32.not_lt.mpr h))]; rfl, rfl⟩
  · iterate 3 refine hK _ _ _ _ ?_
    exact ⟨Or.inr rfl, by rw [decide_eq_true ((nI_lt1 hf).mp (Int32.not_le.mp h))]; rfl, rfl⟩
theorem t7_goes_54 (d : Nat) (σ c : sMem) (N P S : Nat) (hT : TT σ c 54 N P S) (hM : MC c N P S) (p : Nat) (hp : p < P) : sMet l D0 b0 ty lay (d + 1) mX7_goes [aR 54, aI (nI p)] σ (fun r σ' => r = [aI (bI (decide (fN c (pP c p) (pQ c p) < 1000000)))] ∧ σ' = σ) := by
  refine sMet_intro lay_nd kX7_goes xX7_ok (by decide +kernel) rfl ?_
  intro K hK
  have hN := hM.1.1.1
  have hP := hM.2.2.1
  obtain ⟨⟨ea, ha⟩, ⟨eb, hb9⟩, ⟨et, htt⟩, ew, hw1, hw2⟩ := hM.2.2.2.2.1 p hp
  have f5 := (hT.2.2.2.2.1 p hp).1
  have f6 := (hT.2.2.2.2.1 p hp).2.1
  have f7 := (hT.2.2.2.2.1 p hp).2.2.1
  have f8 := (hT.2.2.2.2.1 p hp).2.2.2.1
  have f9 := (hT.2.2.2.2.1 p hp).2.2.2.2
  iterate 6 refine hK _ _ _ _ ?_
  refine And.intro (vp_in_nI (n := p) (by omega) (by decide)) ?_
  rw [nI_clamp (show p < 2 ^ 31 by omega)]
  rw [show σ 59 0 p = nI (pP c p) from f5]
  iterate 4 refine hK _ _ _ _ ?_
  refine And.intro (vp_in_nI (n := p) (by omega) (by decide)) ?_
  rw [nI_clamp (show p < 2 ^ 31 by omega)]
  rw [show σ 60 0 p = nI (pQ c p) from f6]
  refine hK _ _ _ _ ?_
  refine calD (t6_reaches_54 _ _ c N P S hT hM _ _ ha hb9) ?_
  rintro r σ' ⟨rfl, hσ⟩
  subst σ'
  refine hK _ _ _ _ ?_
  exact ⟨bI_01 _, rfl, rfl⟩
theorem t7_arrival_54 (d : Nat) (σ c : sMem) (N P S : Nat) (hT : TT σ c 54 N P S) (hM : MC c N P S) (p : Nat) (hp : p < P) : sMet l D0 b0 ty lay d mX7_arrival [aR 54, aI (nI p)] σ (fun r σ' => r = [aI (nI (pT c p + fN c (pP c p) (pQ c p)))] ∧ σ' = σ) := by
  refine sMet_intro lay_nd kX7_arrival xX7_ok (by decide +kernel) rfl ?_
  intro K hK
  have hN := hM.1.1.1
  have hP := hM.2.2.1
  obtain ⟨⟨ea, ha⟩, ⟨eb, hb9⟩, ⟨et, htt⟩, ew, hw1, hw2⟩ := hM.2.2.2.2.1 p hp
  have f5 := (hT.2.2.2.2.1 p hp).1
  have f6 := (hT.2.2.2.2.1 p hp).2.1
  have f7 := (hT.2.2.2.2.1 p hp).2.2.1
  have f8 := (hT.2.2.2.2.1 p hp).2.2.2.1
  have f9 := (hT.2.2.2.2.1 p hp).2.2.2.2
  have fm := (hT.2.2.2.1 _ _ ha hb9).1
  iterate 4 refine hK _ _ _ _ ?_
  refine And.intro (vp_in_nI (n := p) (by omega) (by decide)) ?_
  rw [nI_clamp (show p < 2 ^ 31 by omega)]
  rw [show σ 61 0 p = nI (pT c p) from f7]
  iterate 7 refine hK _ _ _ _ ?_
  refine And.intro (vp_in_nI (n := p) (by omega) (by decide)) ?_
  rw [nI_clamp (show p < 2 ^ 31 by omega)]
  rw [show σ 59 0 p = nI (pP c p) from f5]
  refine hK _ _ _ _ ?_
  refine And.intro (vp_in_nI (n := (pP c p)) (by omega) (by decide)) ?_
  rw [nI_clamp (show (pP c p) < 2 ^ 31 by omega)]
  iterate 4 refine hK _ _ _ _ ?_
  refine And.intro (vp_in_nI (n := p) (by omega) (by decide)) ?_
  rw [nI_clamp (show p < 2 ^ 31 by omega)]
  rw [show σ 60 0 p = nI (pQ c p) from f6]
  refine hK _ _ _ _ ?_
  refine And.intro (by first | omega | (rw [nI_clamp (by omega)]; omega)) (And.intro (vp_in_nI (n := (pQ c p)) (by omega) (by decide)) ?_)
  rw [nI_clamp (show (pQ c p) < 2 ^ 31 by omega)]
  rw [show σ 57 (pP c p) (pQ c p) = nI (fN c (pP c p) (pQ c p)) from fm]
  iterate 2 refine hK _ _ _ _ ?_
  exact ⟨by rw [nIa], rfl⟩
theorem t7_lossBy_54 (d : Nat) (σ c : sMem) (N P S : Nat) (hT : TT σ c 54 N P S) (hM : MC c N P S) (p : Nat) (hp : p < P) (x y : Nat) (hx : x < N) (hy : y < N) : sMet l D0 b0 ty lay d mX7_lossBy [aR 54, aI (nI p), aI (nI x), aI (nI y)] σ (fun r σ' => r = [aI (nI (losA c p x y))] ∧ σ' = σ) := by
  refine sMet_intro lay_nd kX7_lossBy xX7_ok (by decide +kernel) rfl ?_
  intro K hK
  have hN := hM.1.1.1
  have hP := hM.2.2.1
  obtain ⟨⟨ea, ha⟩, ⟨eb, hb9⟩, ⟨et, htt⟩, ew, hw1, hw2⟩ := hM.2.2.2.2.1 p hp
  have f5 := (hT.2.2.2.2.1 p hp).1
  have f6 := (hT.2.2.2.2.1 p hp).2.1
  have f7 := (hT.2.2.2.2.1 p hp).2.2.1
  have f8 := (hT.2.2.2.2.1 p hp).2.2.2.1
  have f9 := (hT.2.2.2.2.1 p hp).2.2.2.2
  have g1 := (hT.2.2.2.1 x y hx hy).1
  have g2 := (hT.2.2.2.1 y _ hy hb9).1
  have g3 := (hT.2.2.2.1 x _ hx hb9).1
  have tri := hM.1.2.1 x y (pQ c p) hx hy hb9
  iterate 5 refine hK _ _ _ _ ?_
  refine And.intro (vp_in_nI (n := x) (by omega) (by decide)) ?_
  rw [nI_clamp (show x < 2 ^ 31 by omega)]
  iterate 2 refine hK _ _ _ _ ?_
  refine And.intro (by first | omega | (rw [nI_clamp (by omega)]; omega)) (And.intro (vp_in_nI (n := y) (by omega) (by decide)) ?_)
  rw [nI_clamp (show y < 2 ^ 31 by omega)]
  rw [show σ 57 x y = nI (fN c x y) from g1]
  iterate 5 refine hK _ _ _ _ ?_
  refine And.intro (vp_in_nI (n := y) (by omega) (by decide)) ?_
  rw [nI_clamp (show y < 2 ^ 31 by omega)]
  iterate 4 refine hK _ _ _ _ ?_
  refine And.intro (vp_in_nI (n := p) (by omega) (by decide)) ?_
  rw [nI_clamp (show p < 2 ^ 31 by omega)]
  rw [show σ 60 0 p = nI (pQ c p) from f6]
  refine hK _ _ _ _ ?_
  refine And.intro (by first | omega | (rw [nI_clamp (by omega)]; omega)) (And.intro (vp_in_nI (n := (pQ c p)) (by omega) (by decide)) ?_)
  rw [nI_clamp (show (pQ c p) < 2 ^ 31 by omega)]
  rw [show σ 57 y (pQ c p) = nI (fN c y (pQ c p)) from g2]
  iterate 6 refine hK _ _ _ _ ?_
  refine And.intro (vp_in_nI (n := x) (by omega) (by decide)) ?_
  rw [nI_clamp (show x < 2 ^ 31 by omega)]
  iterate 4 refine hK _ _ _ _ ?_
  refine And.intro (vp_in_nI (n := p) (by omega) (by decide)) ?_
  rw [nI_clamp (show p < 2 ^ 31 by omega)]
  rw [show σ 60 0 p = nI (pQ c p) from f6]
  refine hK _ _ _ _ ?_
  refine And.intro (by first | omega | (rw [nI_clamp (by omega)]; omega)) (And.intro (vp_in_nI (n := (pQ c p)) (by omega) (by decide)) ?_)
  rw [nI_clamp (show (pQ c p) < 2 ^ 31 by omega)]
  rw [show σ 57 x (pQ c p) = nI (fN c x (pQ c p)) from g3]
  iterate 6 refine hK _ _ _ _ ?_
  refine And.intro (vp_in_nI (n := p) (by omega) (by decide)) ?_
  rw [nI_clamp (show p < 2 ^ 31 by omega)]
  rw [show σ 62 0 p = nI (pV c p) from f8]
  iterate 3 refine hK _ _ _ _ ?_
  exact ⟨by unfold losA; rw [nIa, nIm (by omega), nIx], rfl⟩
theorem c0_leavingPlace_54 (d : Nat) (σ c : sMem) (N P S : Nat) (hT : TT σ c 54 N P S) (hM : MC c N P S) (kd : Nat) (hO : CO σ 54 kd) (eL : σ 76 0 0 = nI (lw c)) (hL : c 0 0 27 = nI (lw c) ∧ lw c ≤ 9) (x y : Nat) (hx : x < N) (hy : y < N) (hf : fN c x y < 1000000) : sMet l D0 b0 ty lay d mX0_leavingPlace [aR 81, aI (nI x), aI (nI y)] σ (fun r σ' => r = [aI (nI (ledM c x y))] ∧ σ' = σ) := by
  refine sMet_intro lay_nd kX0_leavingPlace xX0_ok (by decide +kernel) rfl ?_
  intro K hK
  have hN := hM.1.1.1
  iterate 2 refine hK _ _ _ _ ?_
  show K _ _ _ _
  rw [show σ 81 0 1 = nI 76 from hO.2.1]
  show K _ _ _ _
  rw [show (nI 76).toNatClampNeg = 76 from rfl]
  refine hK _ _ _ _ ?_
  show K _ _ _ _
  rw [show σ 76 0 0 = nI (lw c) from eL]
  refine hK _ _ _ _ ?_
  refine And.intro (fun h => ?_) (fun h => ?_)
  · have hl0 : ¬ lw c = 0 := fun e => h (by rw [e]; rfl)
    iterate 4 refine hK _ _ _ _ ?_
    have L17 : ∀ (f : Nat) (z k : Nat), f + k = 12 → z < N → fN c z y < 1000000 → ledM c x y = ltM c y (c 0 0 27) f z k → K 17 [some (aR 81), some (aI (nI x)), some (aI (nI y)), some (aI (nI z)), some (aI (nI k))] [] σ := by
      intro f
      induction f with
      | zero =>
        intro z k hfk hz hzf hlt
        iterate 3 refine hK _ _ _ _ ?_
        show K _ _ _ _
        rw [show σ 81 0 1 = nI 76 from hO.2.1]
        show K _ _ _ _
        rw [show (nI 76).toNatClampNeg = 76 from rfl]
        refine hK _ _ _ _ ?_
        show K _ _ _ _
        rw [show σ 76 0 0 = nI (lw c) from eL]
        refine hK _ _ _ _ ?_
        refine And.intro (fun h => ?_) (fun h => absurd ((nI_leI (by omega) (by omega)).mpr (by omega)) h)
        iterate 2 refine hK _ _ _ _ ?_
        exact ⟨by rw [hlt]; rfl, rfl⟩
      | succ f ih =>
        intro z k hfk hz hzf hlt
        have gs := (hT.2.2.2.1 z y hz hy).2
        iterate 3 refine hK _ _ _ _ ?_
        show K _ _ _ _
        rw [show σ 81 0 1 = nI 76 from hO.2.1]
        show K _ _ _ _
        rw [show (nI 76).toNatClampNeg = 76 from rfl]
        refine hK _ _ _ _ ?_
        show K _ _ _ _
        rw [show σ 76 0 0 = nI (lw c) from eL]
        refine hK _ _ _ _ ?_
        refine And.intro (fun h => ?_) (fun h => ?_)
        · have hk : lw c ≤ k := (nI_leI (by omega) (by omega)).mp h
          iterate 2 refine hK _ _ _ _ ?_
          exact ⟨by rw [hlt, ltM]; split; rfl; rw [if_neg]; rw [hL.1]; rintro (q | q); exact hl0 ((nI_eq (b := 0) (by omega) (by decide)).mp q); have := (nI_ltI (by omega) (by omega)).mp q; omega, rfl⟩
        · have hk : k < lw c := Nat.lt_of_not_le (fun q => h ((nI_leI (by omega) (by omega)).mpr q))
          iterate 3 refine hK _ _ _ _ ?_
          refine And.intro (fun h2 => ?_) (fun h2 => ?_)
          · have hzy : z = y := (nI_eq (by omega) (by omega)).mp h2
            iterate 2 refine hK _ _ _ _ ?_
            exact ⟨by rw [hlt, ltM, if_pos hzy], rfl⟩
          · have hzy : ¬ z = y := fun e => h2 (by rw [e])
            iterate 2 refine hK _ _ _ _ ?_
            show K _ _ _ _
            rw [show σ 81 0 0 = nI 54 from hO.1]
            show K _ _ _ _
            rw [show (nI 54).toNatClampNeg = 54 from rfl]
            iterate 4 refine hK _ _ _ _ ?_
            refine And.intro (vp_in_nI (n := z) (by omega) (by decide)) ?_
            rw [nI_clamp (show z < 2 ^ 31 by omega)]
            iterate 2 refine hK _ _ _ _ ?_
            refine And.intro (by first | omega | (rw [nI_clamp (by omega)]; omega)) (And.intro (vp_in_nI (n := y) (by omega) (by decide)) ?_)
            rw [nI_clamp (show y < 2 ^ 31 by omega)]
            rw [show σ 58 z y = nI (nxN c z y) from gs]
            iterate 2 refine hK _ _ _ _ ?_
            show K _ _ _ _
            rw [show nI k + Int32.ofInt 1 = nI (k + 1) from nIs _]
            refine hK _ _ _ _ ?_
            obtain ⟨n1, n2, -, n4, -, n6⟩ := nx_at hM.1 hz hy hzf hzy
            exact ih (nxN c z y) (k + 1) (by omega) n1 (by omega) (by rw [hlt, ltM, if_neg hzy, if_pos (Or.inr (by rw [hL.1]; exact (nI_ltI (by omega) (by omega)).mpr hk)), n2, nI_clamp (by omega)])
    exact L17 12 x 0 rfl hx hf rfl
  · have hl0 : lw c = 0 := (nI_eq (b := 0) (by omega) (by decide)).mp h
    iterate 2 refine hK _ _ _ _ ?_
    exact ⟨by unfold ledM; rw [hL.1, hl0, show nI 0 = (0 : Int32) from rfl, ltM_0 hM.1 hy 12 x 0 hx hf (by have := pl_le hM.1 hy hx hf; omega)], rfl⟩
theorem c0_cheapestPerson_54 (d : Nat) (σ c : sMem) (cm : Nat → Bool) (kd N P S G : Nat) (D : DA) (m j B : Nat) (h : CE σ c cm 54 kd N P S G D m j true B) (hm : m ≤ 999) (s : Nat) (hs : s < S) (hf : fN c (D.2.1 s).1 (sY c s) < 1000000) : sMet l D0 b0 ty lay (d + 1) mX0_cheapestPerson [aR 81, aI (nI s), aI (nI m)] σ (fun r σ' => r = [aI (oI (pfA c D s m true P 0 none))] ∧ σ' = σ) := by
  refine sMet_intro lay_nd kX0_cheapestPerson xX0_ok (by decide +kernel) rfl ?_
  intro K hK
  have h0 := h
  obtain ⟨hT, hM, hS, hSC, ⟨hO, hA, hC, hW⟩, hV⟩ := h
  have hN := hM.1.1.1
  have hP := hM.2.2.1
  have hS8 := hM.2.2.2.1
  obtain ⟨x1, x2, x3, x4, x5, x6, x7⟩ := hV.2.1 s hs
  obtain ⟨⟨ex, hx⟩, ⟨ey, hy⟩, ⟨et, ht⟩, hxy⟩ := hM.2.2.2.2.2 s hs
  have g84 : σ 84 0 s = nI (D.2.1 s).1 := (hC.1 s hs).1
  have g11 : σ 65 0 s = nI (sY c s) := (hT.2.2.2.2.2 s hs).2.1
  obtain ⟨l1, l2, l3, -, -⟩ := led_at hM.1 hSC.1 x1 hy hf
  iterate 5 refine hK _ _ _ _ ?_
  refine And.intro (vp_in_nI (n := s) (by omega) (by decide)) ?_
  rw [nI_clamp (show s < 2 ^ 31 by omega)]
  rw [show σ 84 0 s = nI (D.2.1 s).1 from g84]
  iterate 2 refine hK _ _ _ _ ?_
  show K _ _ _ _
  rw [show σ 81 0 0 = nI 54 from hO.1]
  show K _ _ _ _
  rw [show (nI 54).toNatClampNeg = 54 from rfl]
  iterate 3 refine hK _ _ _ _ ?_
  refine And.intro (vp_in_nI (n := s) (by omega) (by decide)) ?_
  rw [nI_clamp (show s < 2 ^ 31 by omega)]
  rw [show σ 65 0 s = nI (sY c s) from g11]
  refine hK _ _ _ _ ?_
  refine calD (c0_leavingPlace_54 _ _ c N P S hT hM kd hO hS.1 hSC.1 (D.2.1 s).1 (sY c s) x1 hy hf) ?_
  rintro r σ' ⟨rfl, hσ⟩
  subst σ'
  iterate 7 refine hK _ _ _ _ ?_
  have L29 : ∀ (f : Nat) (p : Nat) (b : Option Nat) (x : Int32) (e7 : Option AV), p + f = P → (∀ q, b = some q → q < P ∧ losA c q (D.2.1 s).1 (ledM c (D.2.1 s).1 (sY c s)) < 2 ^ 31) → (∀ q, b = some q → x = nI (losA c q (D.2.1 s).1 (ledM c (D.2.1 s).1 (sY c s)))) → pfA c D s m true P 0 none = pfA c D s m true f p b → K 29 [some (aR 81), some (aI (nI s)), some (aI (nI m)), some (aI (nI (ledM c (D.2.1 s).1 (sY c s)))), some (aI (oI b)), some (aI (x)), some (aI (nI p)), e7] [] σ := by
    intro f
    induction f with
    | zero =>
      intro p b x e7 hpP hb1 hb2 hpf
      iterate 3 refine hK _ _ _ _ ?_
      show K _ _ _ _
      rw [show σ 81 0 0 = nI 54 from hO.1]
      show K _ _ _ _
      rw [show (nI 54).toNatClampNeg = 54 from rfl]
      refine hK _ _ _ _ ?_
      show K _ _ _ _
      rw [show σ 54 0 1 = nI P from hT.2.1]
      refine hK _ _ _ _ ?_
      refine And.intro (fun _ => ?_) (fun h => absurd ((nI_leI (by omega) (by omega)).mpr (by omega)) h)
      iterate 2 refine hK _ _ _ _ ?_
      exact ⟨by rw [hpf]; rfl, rfl⟩
    | succ f ih =>
      intro p b x e7 hpP hb1 hb2 hpf
      iterate 3 refine hK _ _ _ _ ?_
      show K _ _ _ _
      rw [show σ 81 0 0 = nI 54 from hO.1]
      show K _ _ _ _
      rw [show (nI 54).toNatClampNeg = 54 from rfl]
      refine hK _ _ _ _ ?_
      show K _ _ _ _
      rw [show σ 54 0 1 = nI P from hT.2.1]
      refine hK _ _ _ _ ?_
      refine And.intro (fun h => absurd ((nI_leI (by omega) (by omega)).mp h) (by omega)) (fun _ => ?_)
      iterate 5 refine hK _ _ _ _ ?_
      refine calD (c0_canLead_54 _ _ c cm kd N P S G D m j B h0 hm p s (by omega) hs hf) ?_
      rintro r σ' ⟨rfl, hσ⟩
      subst σ'
      refine hK _ _ _ _ ?_
      refine And.intro (fun h => ?_) (fun h => ?_)
      · have hc := bI_t h
        iterate 2 refine hK _ _ _ _ ?_
        show K _ _ _ _
        rw [show σ 81 0 0 = nI 54 from hO.1]
        show K _ _ _ _
        rw [show (nI 54).toNatClampNeg = 54 from rfl]
        iterate 5 refine hK _ _ _ _ ?_
        refine And.intro (vp_in_nI (n := s) (by omega) (by decide)) ?_
        rw [nI_clamp (show s < 2 ^ 31 by omega)]
        rw [show σ 84 0 s = nI (D.2.1 s).1 from g84]
        iterate 2 refine hK _ _ _ _ ?_
        refine calD (t7_lossBy_54 _ _ c N P S hT hM p (by omega) (D.2.1 s).1 (ledM c (D.2.1 s).1 (sY c s)) x1 l1) ?_
        rintro r σ' ⟨rfl, hσ⟩
        subst σ'
        have hpl : losA c p (D.2.1 s).1 (ledM c (D.2.1 s).1 (sY c s)) < 2 ^ 31 := by
          obtain ⟨c1, c2, -, c4, c5⟩ := caA_of hc
          obtain ⟨-, ⟨eq, hq⟩, -, -, v1, v2⟩ := hM.2.2.2.2.1 p (by omega)
          have f1 := fN_660 hM.1 hy x1 c4
          have f2 := fN_660 hM.1 hq hy c5
          have f3 := hM.1.2.1 (ledM c (D.2.1 s).1 (sY c s)) (sY c s) (pQ c p) l1 hy hq
          have : losA c p (D.2.1 s).1 (ledM c (D.2.1 s).1 (sY c s)) ≤ 99 * 2000 := Nat.mul_le_mul v2 (by omega)
          omega
        have take : (∀ q, b = some q → losA c p (D.2.1 s).1 (ledM c (D.2.1 s).1 (sY c s)) < losA c q (D.2.1 s).1 (ledM c (D.2.1 s).1 (sY c s))) → K 29 [some (aR 81), some (aI (nI s)), some (aI (nI m)), some (aI (nI (ledM c (D.2.1 s).1 (sY c s)))), some (aI (oI (some p))), some (aI (nI (losA c p (D.2.1 s).1 (ledM c (D.2.1 s).1 (sY c s))))), some (aI (nI (p + 1))), some (aI (nI (losA c p (D.2.1 s).1 (ledM c (D.2.1 s).1 (sY c s)))))] [] σ := by
          intro hq
          refine ih (p + 1) (some p) _ _ (by omega) (fun q hq' => by cases hq'; exact ⟨by omega, hpl⟩) (fun q hq' => by cases hq'; rfl) ?_
          rw [hpf]
          cases b with
          | none => exact pfA_0 hc
          | some q => exact pfA_t hc ⟨rfl, hq q rfl⟩
        iterate 4 refine hK _ _ _ _ ?_
        refine And.intro (fun h1 => ?_) (fun h1 => ?_)
        · have hbn : b = none := (oI_inj (fun q hq => by have := (hb1 q hq).1; omega)).mp h1
          iterate 5 refine hK _ _ _ _ ?_
          show K _ _ _ _
          rw [show nI p + Int32.ofInt 1 = nI (p + 1) from nIs _]
          refine hK _ _ _ _ ?_
          exact take (fun q hq => by rw [hbn] at hq; cases hq)
        · obtain ⟨q, rfl⟩ : ∃ q, b = some q := by
            cases b with
            | none => exact absurd rfl h1
            | some q => exact ⟨q, rfl⟩
          have hx9 := hb2 q rfl
          subst hx9
          iterate 3 refine hK _ _ _ _ ?_
          refine And.intro (fun h2 => ?_) (fun h2 => ?_)
          · refine hK _ _ _ _ ?_
            show K _ _ _ _
            rw [show nI p + Int32.ofInt 1 = nI (p + 1) from nIs _]
            refine hK _ _ _ _ ?_
            refine ih (p + 1) (some q) _ _ (by omega) hb1 hb2 ?_
            rw [hpf, pfA_f hc (fun z => absurd z.2 (Nat.not_lt.mpr ((nI_leI (hb1 q rfl).2 hpl).mp h2)))]
          · iterate 5 refine hK _ _ _ _ ?_
            show K _ _ _ _
            rw [show nI p + Int32.ofInt 1 = nI (p + 1) from nIs _]
            refine hK _ _ _ _ ?_
            exact take (fun q9 e9 => by cases e9; exact (nI_ltI hpl (hb1 q rfl).2).mp (Int32.not_le.mp h2))
      · have hc := bI_f h
        iterate 2 refine hK _ _ _ _ ?_
        show K _ _ _ _
        rw [show nI p + Int32.ofInt 1 = nI (p + 1) from nIs _]
        refine hK _ _ _ _ ?_
        exact ih (p + 1) b x e7 (by omega) hb1 hb2 (by rw [hpf, pfA_n hc])
  exact L29 P 0 none 0 none (by omega) (fun q hq => by cases hq) (fun q hq => by cases hq) rfl
end
