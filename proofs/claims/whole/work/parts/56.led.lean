/-! THE CLASS'S COURSE: he is led; he goes on -/
theorem lbC_off {σ : sMem} {s k w n a : Nat} (h : a ≠ 81 ∧ a ≠ 88 ∧ a ≠ 89) : lbC σ s k w n a = σ a := by
  unfold lbC
  rw [sUp_off (by omega), sUp_off (by omega), sUp_off (by omega)]
section
variable {l : Launch} {D0 : va_G} {b0 : Nat} {ty : Nat → ClassId}
set_option maxHeartbeats 2000000 in
theorem c0_isLedP_36 (d : Nat) (σ c : sMem) (cm : Nat → Bool) (kd N P S G : Nat) (D : DA) (m B : Nat) (s : Nat) (hs : s < S) (h : CE σ c cm 36 kd N P S G D m s true B) (hm : m ≤ 999) (hn : (D.2.1 s).2.2.1 = none) (hF : (D.2.1 s).2.1 ≤ m) (p : Nat) (hp : p < P) (hc : caA c D p s m = true) : sMet l D0 b0 ty lay (d + 1) mX0_isLed [aR 81, aI (nI s), aI (nI p), aI (nI m)] σ (fun r σ' => r = [] ∧ CR σ' c 36 kd N P S G (byPA c D p s m) m (s + 1) true ∧ ∀ i, i < 81 ∨ 89 < i → σ' i = σ i) := by
  refine sMet_intro lay_nd kX0_isLed xX0_ok (by decide +kernel) rfl ?_
  intro K hK
  obtain ⟨hT, hM, hS, hSC, hCR, hV⟩ := h
  have hN := hM.1.1.1
  have hP := hM.2.2.1
  have hS8 := hM.2.2.2.1
  have hCR0 := hCR
  obtain ⟨hO, hA, hC, wc, hw1, hw2⟩ := hCR0
  obtain ⟨x1, x2, x3, x4, x5, x6, x7⟩ := hV.2.1 s hs
  obtain ⟨⟨ex, hx⟩, ⟨ey, hy⟩, ⟨et, ht⟩, hxy⟩ := hM.2.2.2.2.2 s hs
  have g84 : σ 84 0 s = nI (D.2.1 s).1 := (hC.1 s hs).1
  have g11 : σ 47 0 s = nI (sY c s) := (hT.2.2.2.2.2 s hs).2.1
  obtain ⟨c1, c2, -, hf, c5⟩ := caA_of hc
  have hpl1 := pl_s hM.1 hy x1 hf (x4 hn)
  have hlen : (D.2.1 s).2.2.2.length ≤ 10 := by have := x5 hf; omega
  have g89 : σ 89 0 s = nI (D.2.1 s).2.2.2.length := (hC.1 s hs).2.2.2.1
  have g11' : σ 81 0 11 = nI D.2.2.2.2.1 := hC.2.2.2
  have hled := hV.2.2.2.2.1
  have e12 : Int32.ofNat 12 = nI 12 := rfl
  iterate 3 refine hK _ _ _ _ ?_
  show K _ _ _ _
  rw [show σ 81 0 11 = nI D.2.2.2.2.1 from g11']
  iterate 2 refine hK _ _ _ _ ?_
  show K _ _ _ _
  rw [show nI D.2.2.2.2.1 + Int32.ofInt 1 = nI (D.2.2.2.2.1 + 1) from nIs _]
  iterate 5 refine hK _ _ _ _ ?_
  refine And.intro (vp_in_nI (n := s) (by omega) (by decide)) ?_
  rw [nI_clamp (show s < 2 ^ 31 by omega)]
  rw [sUp_off (by decide), show σ 89 0 s = nI (D.2.1 s).2.2.2.length from g89]
  iterate 4 refine hK _ _ _ _ ?_
  refine And.intro (vp_in_nI (n := s) (by omega) (by decide)) ?_
  rw [nI_clamp (show s < 2 ^ 31 by omega)]
  refine hK _ _ _ _ ?_
  refine And.intro (by first | omega | (rw [nI_clamp (by omega)]; omega)) ?_
  refine hK _ _ _ _ ?_
  refine And.intro (fun h9 => absurd ((nI_leI (a := 12) (by decide) (by omega)).mp h9) (by omega)) (fun _ => ?_)
  iterate 4 refine hK _ _ _ _ ?_
  refine And.intro (vp_in_nI (n := s) (by omega) (by decide)) ?_
  rw [nI_clamp (show s < 2 ^ 31 by omega)]
  iterate 4 refine hK _ _ _ _ ?_
  refine And.intro (vp_in_nI (n := s) (by omega) (by decide)) ?_
  rw [nI_clamp (show s < 2 ^ 31 by omega)]
  rw [sUp_off (by decide), show σ 89 0 s = nI (D.2.1 s).2.2.2.length from g89]
  iterate 2 refine hK _ _ _ _ ?_
  refine And.intro (by first | omega | (rw [nI_clamp (by omega)]; omega)) (And.intro (vp_in_nI (n := ((D.2.1 s).2.2.2.length)) (by omega) (by decide)) ?_)
  rw [nI_clamp (show ((D.2.1 s).2.2.2.length) < 2 ^ 31 by omega)]
  iterate 5 refine hK _ _ _ _ ?_
  refine And.intro (vp_in_nI (n := s) (by omega) (by decide)) ?_
  rw [nI_clamp (show s < 2 ^ 31 by omega)]
  rw [sUp_off (by decide), sUp_off (by decide), show σ 89 0 s = nI (D.2.1 s).2.2.2.length from g89]
  iterate 2 refine hK _ _ _ _ ?_
  show K _ _ _ _
  rw [show nI (D.2.1 s).2.2.2.length + Int32.ofInt 1 = nI ((D.2.1 s).2.2.2.length + 1) from nIs _]
  refine hK _ _ _ _ ?_
  refine And.intro (vp_in_nI (n := s) (by omega) (by decide)) ?_
  rw [nI_clamp (show s < 2 ^ 31 by omega)]
  show K _ _ _ (lbC σ s (D.2.1 s).2.2.2.length p D.2.2.2.2.1)
  have hQ := lb_CR (w := p) hs hCR
  obtain ⟨hR1, hw3, hpe⟩ := hQ
  have hT1 : TT (lbC σ s (D.2.1 s).2.2.2.length p D.2.2.2.2.1) c 36 N P S := hT.cg (fun i h1 h2 => lbC_off (by omega))
  have hfr : ∀ i, i < 81 ∨ 89 < i → (lbC σ s (D.2.1 s).2.2.2.length p D.2.2.2.2.1) i = σ i := fun i hi => lbC_off (by omega)
  have hS1 : SS (lbC σ s (D.2.1 s).2.2.2.length p D.2.2.2.2.1) c cm N S G := hS.cg (fun i h1 h2 => lbC_off (by omega))
  generalize (lbC σ s (D.2.1 s).2.2.2.length p D.2.2.2.2.1) = τ at hR1 hw3 hpe hT1 hfr hS1 ⊢
  have hR0 := hR1
  obtain ⟨hO1, hA1, hC1, -⟩ := hR0
  have eL : (ldA D s p).2.1 s = ((D.2.1 s).1, (D.2.1 s).2.1, (D.2.1 s).2.2.1, (D.2.1 s).2.2.2 ++ [p]) := fu_at _ _ _
  have k84 : τ 84 0 s = nI (D.2.1 s).1 := by have := (hC1.1 s hs).1; rw [eL] at this; exact this
  have k85 : τ 85 0 s = nI (D.2.1 s).2.1 := by have := (hC1.1 s hs).2.1; rw [eL] at this; exact this
  have k11 : τ 47 0 s = nI (sY c s) := (hT1.2.2.2.2.2 s hs).2.1
  have kw : τ 81 0 12 = nI wc := hw3.trans hw1
  iterate 3 refine hK _ _ _ _ ?_
  refine And.intro (fun _ => ?_) (fun h9 => absurd ((nI_ltI (by omega) (b := 100) (by decide)).mpr (by omega)) h9)
  iterate 7 refine hK _ _ _ _ ?_
  refine And.intro (vp_in_nI (n := s) (by omega) (by decide)) ?_
  rw [nI_clamp (show s < 2 ^ 31 by omega)]
  rw [show τ 84 0 s = nI (D.2.1 s).1 from k84]
  iterate 2 refine hK _ _ _ _ ?_
  show K _ _ _ _
  rw [show τ 81 0 0 = nI 36 from hO1.1]
  show K _ _ _ _
  rw [show (nI 36).toNatClampNeg = 36 from rfl]
  iterate 3 refine hK _ _ _ _ ?_
  refine And.intro (vp_in_nI (n := s) (by omega) (by decide)) ?_
  rw [nI_clamp (show s < 2 ^ 31 by omega)]
  rw [show τ 47 0 s = nI (sY c s) from k11]
  refine hK _ _ _ _ ?_
  obtain ⟨l1, l2, l3, -, -⟩ := led_at hM.1 hSC.1 x1 hy hf
  have f6 := fN_660 hM.1 hy x1 hf
  refine calD (c0_leavingPlace_36 _ _ c N P S hT1 hM kd hO1 hS1.1 hSC.1 (D.2.1 s).1 (sY c s) x1 hy hf) ?_
  rintro r σ' ⟨rfl, hσ⟩
  subst σ'
  iterate 2 refine hK _ _ _ _ ?_
  refine calD (c0_move_36 _ _ c N P S hT1 hM kd hO1 s hs (D.2.1 s).1 (ledM c (D.2.1 s).1 (sY c s)) (D.2.1 s).2.1 m wc x1 l1 k84 k85 hF (by omega) kw) ?_
  rintro r σ' ⟨rfl, rfl⟩
  have hz1 : 1 ≤ fN c (D.2.1 s).1 (ledM c (D.2.1 s).1 (sY c s)) := by
    rcases Nat.eq_zero_or_pos (fN c (D.2.1 s).1 (ledM c (D.2.1 s).1 (sY c s))) with h0 | h0
    · have e0 := (hM.1.1.2.1 (D.2.1 s).1 (ledM c (D.2.1 s).1 (sY c s)) x1 l1).2.2.mpr h0
      have := (led_at hM.1 hSC.1 x1 hy hf).2.2.2.2 (x4 hn)
      rw [← e0] at this
      exact absurd this (Nat.lt_irrefl _)
    · exact h0
  have hQ2 := mv_CR (z := (ledM c (D.2.1 s).1 (sY c s))) (w0 := wc) (B := 0) (D := ldA D s p) hs hR1 ⟨kw, by rw [hpe]; exact hw2⟩ (by rw [eL]; exact hn) (by rw [eL]; exact hF) (by rw [eL]; exact hz1)
  rw [eL] at hQ2
  dsimp only at hQ2
  obtain ⟨q1, q2, -, -⟩ := mvC_s (σ := τ) (w := wc + (m - (D.2.1 s).2.1)) (s := s) (z := (ledM c (D.2.1 s).1 (sY c s))) (y := (sY c s)) (n := m + fN c (D.2.1 s).1 (ledM c (D.2.1 s).1 (sY c s)))
  have hfr2 : ∀ i, i < 81 ∨ 89 < i → (mvC τ (wc + (m - (D.2.1 s).2.1)) s (ledM c (D.2.1 s).1 (sY c s)) (sY c s) (m + fN c (D.2.1 s).1 (ledM c (D.2.1 s).1 (sY c s)))) i = σ i := fun i hi => (mvC_off (by omega)).trans (hfr i hi)
  generalize (mvC τ (wc + (m - (D.2.1 s).2.1)) s (ledM c (D.2.1 s).1 (sY c s)) (sY c s) (m + fN c (D.2.1 s).1 (ledM c (D.2.1 s).1 (sY c s)))) = μ at hQ2 q1 q2 hfr2 ⊢
  iterate 7 refine hK _ _ _ _ ?_
  refine And.intro (vp_in_nI (n := s) (by omega) (by decide)) ?_
  rw [nI_clamp (show s < 2 ^ 31 by omega)]
  rw [show μ 84 0 s = nI (ledM c (D.2.1 s).1 (sY c s)) from q1]
  refine hK _ _ _ _ ?_
  refine And.intro (vp_in_nI (n := p) (by omega) (by decide)) ?_
  rw [nI_clamp (show p < 2 ^ 31 by omega)]
  iterate 7 refine hK _ _ _ _ ?_
  refine And.intro (vp_in_nI (n := s) (by omega) (by decide)) ?_
  rw [nI_clamp (show s < 2 ^ 31 by omega)]
  rw [sUp_off (by decide), show μ 85 0 s = nI (m + fN c (D.2.1 s).1 (ledM c (D.2.1 s).1 (sY c s))) from q2]
  refine hK _ _ _ _ ?_
  refine And.intro (vp_in_nI (n := p) (by omega) (by decide)) ?_
  rw [nI_clamp (show p < 2 ^ 31 by omega)]
  refine hK _ _ _ _ ?_
  exact ⟨rfl, per_CR (p := p) hQ2 c1 (by omega), fun i hi => by rw [sUp_off (by omega), sUp_off (by omega)]; exact hfr2 i hi⟩
set_option maxHeartbeats 2000000 in
theorem c0_isLedG_36 (d : Nat) (σ c : sMem) (cm : Nat → Bool) (kd N P S G : Nat) (D : DA) (m B : Nat) (s : Nat) (hs : s < S) (h : CE σ c cm 36 kd N P S G D m s true B) (hm : m ≤ 999) (hn : (D.2.1 s).2.2.1 = none) (hF : (D.2.1 s).2.1 ≤ m) (g : Nat) (hg : g < G) (hf : fN c (D.2.1 s).1 (sY c s) < 1000000) : sMet l D0 b0 ty lay (d + 1) mX0_isLed [aR 81, aI (nI s), aI (nI (100 + g)), aI (nI m)] σ (fun r σ' => r = [] ∧ CR σ' c 36 kd N P S G (byGA c D g s m) m (s + 1) true ∧ ∀ i, i < 81 ∨ 89 < i → σ' i = σ i) := by
  refine sMet_intro lay_nd kX0_isLed xX0_ok (by decide +kernel) rfl ?_
  intro K hK
  obtain ⟨hT, hM, hS, hSC, hCR, hV⟩ := h
  have hN := hM.1.1.1
  have hP := hM.2.2.1
  have hS8 := hM.2.2.2.1
  have hCR0 := hCR
  obtain ⟨hO, hA, hC, wc, hw1, hw2⟩ := hCR0
  obtain ⟨x1, x2, x3, x4, x5, x6, x7⟩ := hV.2.1 s hs
  obtain ⟨⟨ex, hx⟩, ⟨ey, hy⟩, ⟨et, ht⟩, hxy⟩ := hM.2.2.2.2.2 s hs
  have g84 : σ 84 0 s = nI (D.2.1 s).1 := (hC.1 s hs).1
  have g11 : σ 47 0 s = nI (sY c s) := (hT.2.2.2.2.2 s hs).2.1
  have hpl1 := pl_s hM.1 hy x1 hf (x4 hn)
  have hlen : (D.2.1 s).2.2.2.length ≤ 10 := by have := x5 hf; omega
  have g89 : σ 89 0 s = nI (D.2.1 s).2.2.2.length := (hC.1 s hs).2.2.2.1
  have g11' : σ 81 0 11 = nI D.2.2.2.2.1 := hC.2.2.2
  have hled := hV.2.2.2.2.1
  have e12 : Int32.ofNat 12 = nI 12 := rfl
  iterate 3 refine hK _ _ _ _ ?_
  show K _ _ _ _
  rw [show σ 81 0 11 = nI D.2.2.2.2.1 from g11']
  iterate 2 refine hK _ _ _ _ ?_
  show K _ _ _ _
  rw [show nI D.2.2.2.2.1 + Int32.ofInt 1 = nI (D.2.2.2.2.1 + 1) from nIs _]
  iterate 5 refine hK _ _ _ _ ?_
  refine And.intro (vp_in_nI (n := s) (by omega) (by decide)) ?_
  rw [nI_clamp (show s < 2 ^ 31 by omega)]
  rw [sUp_off (by decide), show σ 89 0 s = nI (D.2.1 s).2.2.2.length from g89]
  iterate 4 refine hK _ _ _ _ ?_
  refine And.intro (vp_in_nI (n := s) (by omega) (by decide)) ?_
  rw [nI_clamp (show s < 2 ^ 31 by omega)]
  refine hK _ _ _ _ ?_
  refine And.intro (by first | omega | (rw [nI_clamp (by omega)]; omega)) ?_
  refine hK _ _ _ _ ?_
  refine And.intro (fun h9 => absurd ((nI_leI (a := 12) (by decide) (by omega)).mp h9) (by omega)) (fun _ => ?_)
  iterate 4 refine hK _ _ _ _ ?_
  refine And.intro (vp_in_nI (n := s) (by omega) (by decide)) ?_
  rw [nI_clamp (show s < 2 ^ 31 by omega)]
  iterate 4 refine hK _ _ _ _ ?_
  refine And.intro (vp_in_nI (n := s) (by omega) (by decide)) ?_
  rw [nI_clamp (show s < 2 ^ 31 by omega)]
  rw [sUp_off (by decide), show σ 89 0 s = nI (D.2.1 s).2.2.2.length from g89]
  iterate 2 refine hK _ _ _ _ ?_
  refine And.intro (by first | omega | (rw [nI_clamp (by omega)]; omega)) (And.intro (vp_in_nI (n := ((D.2.1 s).2.2.2.length)) (by omega) (by decide)) ?_)
  rw [nI_clamp (show ((D.2.1 s).2.2.2.length) < 2 ^ 31 by omega)]
  iterate 5 refine hK _ _ _ _ ?_
  refine And.intro (vp_in_nI (n := s) (by omega) (by decide)) ?_
  rw [nI_clamp (show s < 2 ^ 31 by omega)]
  rw [sUp_off (by decide), sUp_off (by decide), show σ 89 0 s = nI (D.2.1 s).2.2.2.length from g89]
  iterate 2 refine hK _ _ _ _ ?_
  show K _ _ _ _
  rw [show nI (D.2.1 s).2.2.2.length + Int32.ofInt 1 = nI ((D.2.1 s).2.2.2.length + 1) from nIs _]
  refine hK _ _ _ _ ?_
  refine And.intro (vp_in_nI (n := s) (by omega) (by decide)) ?_
  rw [nI_clamp (show s < 2 ^ 31 by omega)]
  show K _ _ _ (lbC σ s (D.2.1 s).2.2.2.length (100 + g) D.2.2.2.2.1)
  have hQ := lb_CR (w := (100 + g)) hs hCR
  obtain ⟨hR1, hw3, hpe⟩ := hQ
  have hT1 : TT (lbC σ s (D.2.1 s).2.2.2.length (100 + g) D.2.2.2.2.1) c 36 N P S := hT.cg (fun i h1 h2 => lbC_off (by omega))
  have hfr : ∀ i, i < 81 ∨ 89 < i → (lbC σ s (D.2.1 s).2.2.2.length (100 + g) D.2.2.2.2.1) i = σ i := fun i hi => lbC_off (by omega)
  have hS1 : SS (lbC σ s (D.2.1 s).2.2.2.length (100 + g) D.2.2.2.2.1) c cm N S G := hS.cg (fun i h1 h2 => lbC_off (by omega))
  generalize (lbC σ s (D.2.1 s).2.2.2.length (100 + g) D.2.2.2.2.1) = τ at hR1 hw3 hpe hT1 hfr hS1 ⊢
  have hR0 := hR1
  obtain ⟨hO1, hA1, hC1, -⟩ := hR0
  have eL : (ldA D s (100 + g)).2.1 s = ((D.2.1 s).1, (D.2.1 s).2.1, (D.2.1 s).2.2.1, (D.2.1 s).2.2.2 ++ [(100 + g)]) := fu_at _ _ _
  have k84 : τ 84 0 s = nI (D.2.1 s).1 := by have := (hC1.1 s hs).1; rw [eL] at this; exact this
  have k85 : τ 85 0 s = nI (D.2.1 s).2.1 := by have := (hC1.1 s hs).2.1; rw [eL] at this; exact this
  have k11 : τ 47 0 s = nI (sY c s) := (hT1.2.2.2.2.2 s hs).2.1
  have kw : τ 81 0 12 = nI wc := hw3.trans hw1
  have hG6 := hSC.2.1
  have f6 := fN_660 hM.1 hy x1 hf
  have hle := (hM.1.1.2.1 (D.2.1 s).1 (sY c s) x1 hy).2.1
  have km : τ 39 (D.2.1 s).1 (sY c s) = nI (fN c (D.2.1 s).1 (sY c s)) := (hT1.2.2.2.1 _ _ x1 hy).1
  have kf : τ 78 0 g = nI (gF c g) := (hS1.2.2.1 g hg).2
  have kp : τ 81 0 13 = nI D.2.2.2.1 := hC1.2.2.1
  iterate 3 refine hK _ _ _ _ ?_
  refine And.intro (fun h9 => absurd ((nI_ltI (by omega) (b := 100) (by decide)).mp h9) (by omega)) (fun _ => ?_)
  iterate 3 refine hK _ _ _ _ ?_
  show K _ _ _ _
  rw [show nI (100 + g) - (Int8.ofInt 100).toInt32 = nI g by rw [show (Int8.ofInt 100).toInt32 = nI 100 from rfl, nIm (by omega)]; congr 1; omega]
  iterate 4 refine hK _ _ _ _ ?_
  show K _ _ _ _
  rw [show τ 81 0 0 = nI 36 from hO1.1]
  show K _ _ _ _
  rw [show (nI 36).toNatClampNeg = 36 from rfl]
  iterate 6 refine hK _ _ _ _ ?_
  refine And.intro (vp_in_nI (n := s) (by omega) (by decide)) ?_
  rw [nI_clamp (show s < 2 ^ 31 by omega)]
  rw [show τ 84 0 s = nI (D.2.1 s).1 from k84]
  refine hK _ _ _ _ ?_
  refine And.intro (vp_in_nI (n := ((D.2.1 s).1)) (by omega) (by decide)) ?_
  rw [nI_clamp (show ((D.2.1 s).1) < 2 ^ 31 by omega)]
  iterate 2 refine hK _ _ _ _ ?_
  show K _ _ _ _
  rw [show τ 81 0 0 = nI 36 from hO1.1]
  show K _ _ _ _
  rw [show (nI 36).toNatClampNeg = 36 from rfl]
  iterate 3 refine hK _ _ _ _ ?_
  refine And.intro (vp_in_nI (n := s) (by omega) (by decide)) ?_
  rw [nI_clamp (show s < 2 ^ 31 by omega)]
  rw [show τ 47 0 s = nI (sY c s) from k11]
  refine hK _ _ _ _ ?_
  refine And.intro (by first | omega | (rw [nI_clamp (by omega)]; omega)) (And.intro (vp_in_nI (n := (sY c s)) (by omega) (by decide)) ?_)
  rw [nI_clamp (show (sY c s) < 2 ^ 31 by omega)]
  rw [show τ 39 ((D.2.1 s).1) (sY c s) = nI (fN c (D.2.1 s).1 (sY c s)) from km]
  refine hK _ _ _ _ ?_
  show K _ _ _ _
  rw [show Int32.ofInt 2 * nI (fN c (D.2.1 s).1 (sY c s)) = nI (2 * fN c (D.2.1 s).1 (sY c s)) from nIx 2 _]
  iterate 7 refine hK _ _ _ _ ?_
  show K _ _ _ _
  rw [nIa]
  refine hK _ _ _ _ ?_
  refine And.intro (vp_in_nI (n := g) (by omega) (by decide)) ?_
  rw [nI_clamp (show g < 2 ^ 31 by omega)]
  iterate 3 refine hK _ _ _ _ ?_
  show K _ _ _ _
  rw [sUp_off (by decide), show τ 81 0 13 = nI D.2.2.2.1 from kp]
  iterate 2 refine hK _ _ _ _ ?_
  show K _ _ _ _
  rw [sUp_off (by decide), show τ 81 0 1 = nI 76 from hO1.2.1]
  show K _ _ _ _
  rw [show (nI 76).toNatClampNeg = 76 from rfl]
  iterate 3 refine hK _ _ _ _ ?_
  refine And.intro (vp_in_nI (n := g) (by omega) (by decide)) ?_
  rw [nI_clamp (show g < 2 ^ 31 by omega)]
  rw [sUp_off (by decide), show τ 78 0 g = nI (gF c g) from kf]
  iterate 3 refine hK _ _ _ _ ?_
  show K _ _ _ _
  rw [nIx, nIa]
  refine hK _ _ _ _ ?_
  show K _ _ _ (sUp (sUp τ 86 0 g (nI (m + 2 * fN c (D.2.1 s).1 (sY c s)))) 81 0 13 (nI (D.2.2.2.1 + gF c g * (2 * fN c (D.2.1 s).1 (sY c s)))))
  have hQ1 := gui_CR (g := g) (f := m + 2 * fN c (D.2.1 s).1 (sY c s)) (x := D.2.2.2.1 + gF c g * (2 * fN c (D.2.1 s).1 (sY c s))) hR1
  have hT2 : TT (sUp (sUp τ 86 0 g (nI (m + 2 * fN c (D.2.1 s).1 (sY c s)))) 81 0 13 (nI (D.2.2.2.1 + gF c g * (2 * fN c (D.2.1 s).1 (sY c s))))) c 36 N P S := hT1.cg (fun i h1 h2 => by rw [sUp_off (by omega), sUp_off (by omega)])
  have hfr1 : ∀ i, i < 81 ∨ 89 < i → (sUp (sUp τ 86 0 g (nI (m + 2 * fN c (D.2.1 s).1 (sY c s)))) 81 0 13 (nI (D.2.2.2.1 + gF c g * (2 * fN c (D.2.1 s).1 (sY c s))))) i = σ i := fun i hi => by rw [sUp_off (by omega), sUp_off (by omega)]; exact hfr i hi
  have kw2 : (sUp (sUp τ 86 0 g (nI (m + 2 * fN c (D.2.1 s).1 (sY c s)))) 81 0 13 (nI (D.2.2.2.1 + gF c g * (2 * fN c (D.2.1 s).1 (sY c s))))) 81 0 12 = nI wc := by rw [sUp_k (by decide), sUp_off (by decide)]; exact kw
  generalize (sUp (sUp τ 86 0 g (nI (m + 2 * fN c (D.2.1 s).1 (sY c s)))) 81 0 13 (nI (D.2.2.2.1 + gF c g * (2 * fN c (D.2.1 s).1 (sY c s))))) = υ at hQ1 hT2 hfr1 kw2 ⊢
  have hR2 := hQ1
  obtain ⟨hO2, hA2, hC2, -⟩ := hR2
  have j84 : υ 84 0 s = nI (D.2.1 s).1 := by have := (hC2.1 s hs).1; dsimp only at this; rw [eL] at this; exact this
  have j85 : υ 85 0 s = nI (D.2.1 s).2.1 := by have := (hC2.1 s hs).2.1; dsimp only at this; rw [eL] at this; exact this
  have j11 : υ 47 0 s = nI (sY c s) := (hT2.2.2.2.2.2 s hs).2.1
  iterate 4 refine hK _ _ _ _ ?_
  show K _ _ _ _
  rw [show υ 81 0 0 = nI 36 from hO2.1]
  show K _ _ _ _
  rw [show (nI 36).toNatClampNeg = 36 from rfl]
  iterate 3 refine hK _ _ _ _ ?_
  refine And.intro (vp_in_nI (n := s) (by omega) (by decide)) ?_
  rw [nI_clamp (show s < 2 ^ 31 by omega)]
  rw [show υ 47 0 s = nI (sY c s) from j11]
  iterate 2 refine hK _ _ _ _ ?_
  refine calD (c0_move_36 _ _ c N P S hT2 hM kd hO2 s hs (D.2.1 s).1 (sY c s) (D.2.1 s).2.1 m wc x1 hy j84 j85 hF (by omega) kw2) ?_
  rintro r σ' ⟨rfl, rfl⟩
  have hz1 : 1 ≤ fN c (D.2.1 s).1 (sY c s) := by
    rcases Nat.eq_zero_or_pos (fN c (D.2.1 s).1 (sY c s)) with h0 | h0
    · exact absurd ((hM.1.1.2.1 (D.2.1 s).1 (sY c s) x1 hy).2.2.mpr h0) (x4 hn)
    · exact h0
  have hpe2 : peS ((ldA D s (100 + g)).1, (ldA D s (100 + g)).2.1, fu (ldA D s (100 + g)).2.2.1 g (m + 2 * fN c (D.2.1 s).1 (sY c s)), D.2.2.2.1 + gF c g * (2 * fN c (D.2.1 s).1 (sY c s)), (ldA D s (100 + g)).2.2.2.2) m s S = peS D m s S := by
    rw [← hpe]
    apply peS_eq
    rfl
  have hQ2 := mv_CR (z := (sY c s)) (w0 := wc) (B := 0) (D := ((ldA D s (100 + g)).1, (ldA D s (100 + g)).2.1, fu (ldA D s (100 + g)).2.2.1 g (m + 2 * fN c (D.2.1 s).1 (sY c s)), D.2.2.2.1 + gF c g * (2 * fN c (D.2.1 s).1 (sY c s)), (ldA D s (100 + g)).2.2.2.2)) hs hQ1 ⟨kw2, by rw [hpe2]; exact hw2⟩ (by dsimp only; rw [eL]; exact hn) (by dsimp only; rw [eL]; exact hF) (by dsimp only; rw [eL]; exact hz1)
  dsimp only at hQ2
  rw [eL] at hQ2
  dsimp only at hQ2
  refine hK _ _ _ _ ?_
  exact ⟨rfl, by unfold byGA; dsimp only; rw [show gF c g * 2 * fN c (D.2.1 s).1 (sY c s) = gF c g * (2 * fN c (D.2.1 s).1 (sY c s)) from Nat.mul_assoc _ _ _]; exact hQ2, fun i hi => (mvC_off (by omega)).trans (hfr1 i hi)⟩
set_option maxHeartbeats 2000000 in
theorem c0_isLedP_54 (d : Nat) (σ c : sMem) (cm : Nat → Bool) (kd N P S G : Nat) (D : DA) (m B : Nat) (s : Nat) (hs : s < S) (h : CE σ c cm 54 kd N P S G D m s true B) (hm : m ≤ 999) (hn : (D.2.1 s).2.2.1 = none) (hF : (D.2.1 s).2.1 ≤ m) (p : Nat) (hp : p < P) (hc : caA c D p s m = true) : sMet l D0 b0 ty lay (d + 1) mX0_isLed [aR 81, aI (nI s), aI (nI p), aI (nI m)] σ (fun r σ' => r = [] ∧ CR σ' c 54 kd N P S G (byPA c D p s m) m (s + 1) true ∧ ∀ i, i < 81 ∨ 89 < i → σ' i = σ i) := by
  refine sMet_intro lay_nd kX0_isLed xX0_ok (by decide +kernel) rfl ?_
  intro K hK
  obtain ⟨hT, hM, hS, hSC, hCR, hV⟩ := h
  have hN := hM.1.1.1
  have hP := hM.2.2.1
  have hS8 := hM.2.2.2.1
  have hCR0 := hCR
  obtain ⟨hO, hA, hC, wc, hw1, hw2⟩ := hCR0
  obtain ⟨x1, x2, x3, x4, x5, x6, x7⟩ := hV.2.1 s hs
  obtain ⟨⟨ex, hx⟩, ⟨ey, hy⟩, ⟨et, ht⟩, hxy⟩ := hM.2.2.2.2.2 s hs
  have g84 : σ 84 0 s = nI (D.2.1 s).1 := (hC.1 s hs).1
  have g11 : σ 65 0 s = nI (sY c s) := (hT.2.2.2.2.2 s hs).2.1
  obtain ⟨c1, c2, -, hf, c5⟩ := caA_of hc
  have hpl1 := pl_s hM.1 hy x1 hf (x4 hn)
  have hlen : (D.2.1 s).2.2.2.length ≤ 10 := by have := x5 hf; omega
  have g89 : σ 89 0 s = nI (D.2.1 s).2.2.2.length := (hC.1 s hs).2.2.2.1
  have g11' : σ 81 0 11 = nI D.2.2.2.2.1 := hC.2.2.2
  have hled := hV.2.2.2.2.1
  have e12 : Int32.ofNat 12 = nI 12 := rfl
  iterate 3 refine hK _ _ _ _ ?_
  show K _ _ _ _
  rw [show σ 81 0 11 = nI D.2.2.2.2.1 from g11']
  iterate 2 refine hK _ _ _ _ ?_
  show K _ _ _ _
  rw [show nI D.2.2.2.2.1 + Int32.ofInt 1 = nI (D.2.2.2.2.1 + 1) from nIs _]
  iterate 5 refine hK _ _ _ _ ?_
  refine And.intro (vp_in_nI (n := s) (by omega) (by decide)) ?_
  rw [nI_clamp (show s < 2 ^ 31 by omega)]
  rw [sUp_off (by decide), show σ 89 0 s = nI (D.2.1 s).2.2.2.length from g89]
  iterate 4 refine hK _ _ _ _ ?_
  refine And.intro (vp_in_nI (n := s) (by omega) (by decide)) ?_
  rw [nI_clamp (show s < 2 ^ 31 by omega)]
  refine hK _ _ _ _ ?_
  refine And.intro (by first | omega | (rw [nI_clamp (by omega)]; omega)) ?_
  refine hK _ _ _ _ ?_
  refine And.intro (fun h9 => absurd ((nI_leI (a := 12) (by decide) (by omega)).mp h9) (by omega)) (fun _ => ?_)
  iterate 4 refine hK _ _ _ _ ?_
  refine And.intro (vp_in_nI (n := s) (by omega) (by decide)) ?_
  rw [nI_clamp (show s < 2 ^ 31 by omega)]
  iterate 4 refine hK _ _ _ _ ?_
  refine And.intro (vp_in_nI (n := s) (by omega) (by decide)) ?_
  rw [nI_clamp (show s < 2 ^ 31 by omega)]
  rw [sUp_off (by decide), show σ 89 0 s = nI (D.2.1 s).2.2.2.length from g89]
  iterate 2 refine hK _ _ _ _ ?_
  refine And.intro (by first | omega | (rw [nI_clamp (by omega)]; omega)) (And.intro (vp_in_nI (n := ((D.2.1 s).2.2.2.length)) (by omega) (by decide)) ?_)
  rw [nI_clamp (show ((D.2.1 s).2.2.2.length) < 2 ^ 31 by omega)]
  iterate 5 refine hK _ _ _ _ ?_
  refine And.intro (vp_in_nI (n := s) (by omega) (by decide)) ?_
  rw [nI_clamp (show s < 2 ^ 31 by omega)]
  rw [sUp_off (by decide), sUp_off (by decide), show σ 89 0 s = nI (D.2.1 s).2.2.2.length from g89]
  iterate 2 refine hK _ _ _ _ ?_
  show K _ _ _ _
  rw [show nI (D.2.1 s).2.2.2.length + Int32.ofInt 1 = nI ((D.2.1 s).2.2.2.length + 1) from nIs _]
  refine hK _ _ _ _ ?_
  refine And.intro (vp_in_nI (n := s) (by omega) (by decide)) ?_
  rw [nI_clamp (show s < 2 ^ 31 by omega)]
  show K _ _ _ (lbC σ s (D.2.1 s).2.2.2.length p D.2.2.2.2.1)
  have hQ := lb_CR (w := p) hs hCR
  obtain ⟨hR1, hw3, hpe⟩ := hQ
  have hT1 : TT (lbC σ s (D.2.1 s).2.2.2.length p D.2.2.2.2.1) c 54 N P S := hT.cg (fun i h1 h2 => lbC_off (by omega))
  have hfr : ∀ i, i < 81 ∨ 89 < i → (lbC σ s (D.2.1 s).2.2.2.length p D.2.2.2.2.1) i = σ i := fun i hi => lbC_off (by omega)
  have hS1 : SS (lbC σ s (D.2.1 s).2.2.2.length p D.2.2.2.2.1) c cm N S G := hS.cg (fun i h1 h2 => lbC_off (by omega))
  generalize (lbC σ s (D.2.1 s).2.2.2.length p D.2.2.2.2.1) = τ at hR1 hw3 hpe hT1 hfr hS1 ⊢
  have hR0 := hR1
  obtain ⟨hO1, hA1, hC1, -⟩ := hR0
  have eL : (ldA D s p).2.1 s = ((D.2.1 s).1, (D.2.1 s).2.1, (D.2.1 s).2.2.1, (D.2.1 s).2.2.2 ++ [p]) := fu_at _ _ _
  have k84 : τ 84 0 s = nI (D.2.1 s).1 := by have := (hC1.1 s hs).1; rw [eL] at this; exact this
  have k85 : τ 85 0 s = nI (D.2.1 s).2.1 := by have := (hC1.1 s hs).2.1; rw [eL] at this; exact this
  have k11 : τ 65 0 s = nI (sY c s) := (hT1.2.2.2.2.2 s hs).2.1
  have kw : τ 81 0 12 = nI wc := hw3.trans hw1
  iterate 3 refine hK _ _ _ _ ?_
  refine And.intro (fun _ => ?_) (fun h9 => absurd ((nI_ltI (by omega) (b := 100) (by decide)).mpr (by omega)) h9)
  iterate 7 refine hK _ _ _ _ ?_
  refine And.intro (vp_in_nI (n := s) (by omega) (by decide)) ?_
  rw [nI_clamp (show s < 2 ^ 31 by omega)]
  rw [show τ 84 0 s = nI (D.2.1 s).1 from k84]
  iterate 2 refine hK _ _ _ _ ?_
  show K _ _ _ _
  rw [show τ 81 0 0 = nI 54 from hO1.1]
  show K _ _ _ _
  rw [show (nI 54).toNatClampNeg = 54 from rfl]
  iterate 3 refine hK _ _ _ _ ?_
  refine And.intro (vp_in_nI (n := s) (by omega) (by decide)) ?_
  rw [nI_clamp (show s < 2 ^ 31 by omega)]
  rw [show τ 65 0 s = nI (sY c s) from k11]
  refine hK _ _ _ _ ?_
  obtain ⟨l1, l2, l3, -, -⟩ := led_at hM.1 hSC.1 x1 hy hf
  have f6 := fN_660 hM.1 hy x1 hf
  refine calD (c0_leavingPlace_54 _ _ c N P S hT1 hM kd hO1 hS1.1 hSC.1 (D.2.1 s).1 (sY c s) x1 hy hf) ?_
  rintro r σ' ⟨rfl, hσ⟩
  subst σ'
  iterate 2 refine hK _ _ _ _ ?_
  refine calD (c0_move_54 _ _ c N P S hT1 hM kd hO1 s hs (D.2.1 s).1 (ledM c (D.2.1 s).1 (sY c s)) (D.2.1 s).2.1 m wc x1 l1 k84 k85 hF (by omega) kw) ?_
  rintro r σ' ⟨rfl, rfl⟩
  have hz1 : 1 ≤ fN c (D.2.1 s).1 (ledM c (D.2.1 s).1 (sY c s)) := by
    rcases Nat.eq_zero_or_pos (fN c (D.2.1 s).1 (ledM c (D.2.1 s).1 (sY c s))) with h0 | h0
    · have e0 := (hM.1.1.2.1 (D.2.1 s).1 (ledM c (D.2.1 s).1 (sY c s)) x1 l1).2.2.mpr h0
      have := (led_at hM.1 hSC.1 x1 hy hf).2.2.2.2 (x4 hn)
      rw [← e0] at this
      exact absurd this (Nat.lt_irrefl _)
    · exact h0
  have hQ2 := mv_CR (z := (ledM c (D.2.1 s).1 (sY c s))) (w0 := wc) (B := 0) (D := ldA D s p) hs hR1 ⟨kw, by rw [hpe]; exact hw2⟩ (by rw [eL]; exact hn) (by rw [eL]; exact hF) (by rw [eL]; exact hz1)
  rw [eL] at hQ2
  dsimp only at hQ2
  obtain ⟨q1, q2, -, -⟩ := mvC_s (σ := τ) (w := wc + (m - (D.2.1 s).2.1)) (s := s) (z := (ledM c (D.2.1 s).1 (sY c s))) (y := (sY c s)) (n := m + fN c (D.2.1 s).1 (ledM c (D.2.1 s).1 (sY c s)))
  have hfr2 : ∀ i, i < 81 ∨ 89 < i → (mvC τ (wc + (m - (D.2.1 s).2.1)) s (ledM c (D.2.1 s).1 (sY c s)) (sY c s) (m + fN c (D.2.1 s).1 (ledM c (D.2.1 s).1 (sY c s)))) i = σ i := fun i hi => (mvC_off (by omega)).trans (hfr i hi)
  generalize (mvC τ (wc + (m - (D.2.1 s).2.1)) s (ledM c (D.2.1 s).1 (sY c s)) (sY c s) (m + fN c (D.2.1 s).1 (ledM c (D.2.1 s).1 (sY c s)))) = μ at hQ2 q1 q2 hfr2 ⊢
  iterate 7 refine hK _ _ _ _ ?_
  refine And.intro (vp_in_nI (n := s) (by omega) (by decide)) ?_
  rw [nI_clamp (show s < 2 ^ 31 by omega)]
  rw [show μ 84 0 s = nI (ledM c (D.2.1 s).1 (sY c s)) from q1]
  refine hK _ _ _ _ ?_
  refine And.intro (vp_in_nI (n := p) (by omega) (by decide)) ?_
  rw [nI_clamp (show p < 2 ^ 31 by omega)]
  iterate 7 refine hK _ _ _ _ ?_
  refine And.intro (vp_in_nI (n := s) (by omega) (by decide)) ?_
  rw [nI_clamp (show s < 2 ^ 31 by omega)]
  rw [sUp_off (by decide), show μ 85 0 s = nI (m + fN c (D.2.1 s).1 (ledM c (D.2.1 s).1 (sY c s))) from q2]
  refine hK _ _ _ _ ?_
  refine And.intro (vp_in_nI (n := p) (by omega) (by decide)) ?_
  rw [nI_clamp (show p < 2 ^ 31 by omega)]
  refine hK _ _ _ _ ?_
  exact ⟨rfl, per_CR (p := p) hQ2 c1 (by omega), fun i hi => by rw [sUp_off (by omega), sUp_off (by omega)]; exact hfr2 i hi⟩
set_option maxHeartbeats 2000000 in
theorem c0_isLedG_54 (d : Nat) (σ c : sMem) (cm : Nat → Bool) (kd N P S G : Nat) (D : DA) (m B : Nat) (s : Nat) (hs : s < S) (h : CE σ c cm 54 kd N P S G D m s true B) (hm : m ≤ 999) (hn : (D.2.1 s).2.2.1 = none) (hF : (D.2.1 s).2.1 ≤ m) (g : Nat) (hg : g < G) (hf : fN c (D.2.1 s).1 (sY c s) < 1000000) : sMet l D0 b0 ty lay (d + 1) mX0_isLed [aR 81, aI (nI s), aI (nI (100 + g)), aI (nI m)] σ (fun r σ' => r = [] ∧ CR σ' c 54 kd N P S G (byGA c D g s m) m (s + 1) true ∧ ∀ i, i < 81 ∨ 89 < i → σ' i = σ i) := by
  refine sMet_intro lay_nd kX0_isLed xX0_ok (by decide +kernel) rfl ?_
  intro K hK
  obtain ⟨hT, hM, hS, hSC, hCR, hV⟩ := h
  have hN := hM.1.1.1
  have hP := hM.2.2.1
  have hS8 := hM.2.2.2.1
  have hCR0 := hCR
  obtain ⟨hO, hA, hC, wc, hw1, hw2⟩ := hCR0
  obtain ⟨x1, x2, x3, x4, x5, x6, x7⟩ := hV.2.1 s hs
  obtain ⟨⟨ex, hx⟩, ⟨ey, hy⟩, ⟨et, ht⟩, hxy⟩ := hM.2.2.2.2.2 s hs
  have g84 : σ 84 0 s = nI (D.2.1 s).1 := (hC.1 s hs).1
  have g11 : σ 65 0 s = nI (sY c s) := (hT.2.2.2.2.2 s hs).2.1
  have hpl1 := pl_s hM.1 hy x1 hf (x4 hn)
  have hlen : (D.2.1 s).2.2.2.length ≤ 10 := by have := x5 hf; omega
  have g89 : σ 89 0 s = nI (D.2.1 s).2.2.2.length := (hC.1 s hs).2.2.2.1
  have g11' : σ 81 0 11 = nI D.2.2.2.2.1 := hC.2.2.2
  have hled := hV.2.2.2.2.1
  have e12 : Int32.ofNat 12 = nI 12 := rfl
  iterate 3 refine hK _ _ _ _ ?_
  show K _ _ _ _
  rw [show σ 81 0 11 = nI D.2.2.2.2.1 from g11']
  iterate 2 refine hK _ _ _ _ ?_
  show K _ _ _ _
  rw [show nI D.2.2.2.2.1 + Int32.ofInt 1 = nI (D.2.2.2.2.1 + 1) from nIs _]
  iterate 5 refine hK _ _ _ _ ?_
  refine And.intro (vp_in_nI (n := s) (by omega) (by decide)) ?_
  rw [nI_clamp (show s < 2 ^ 31 by omega)]
  rw [sUp_off (by decide), show σ 89 0 s = nI (D.2.1 s).2.2.2.length from g89]
  iterate 4 refine hK _ _ _ _ ?_
  refine And.intro (vp_in_nI (n := s) (by omega) (by decide)) ?_
  rw [nI_clamp (show s < 2 ^ 31 by omega)]
  refine hK _ _ _ _ ?_
  refine And.intro (by first | omega | (rw [nI_clamp (by omega)]; omega)) ?_
  refine hK _ _ _ _ ?_
  refine And.intro (fun h9 => absurd ((nI_leI (a := 12) (by decide) (by omega)).mp h9) (by omega)) (fun _ => ?_)
  iterate 4 refine hK _ _ _ _ ?_
  refine And.intro (vp_in_nI (n := s) (by omega) (by decide)) ?_
  rw [nI_clamp (show s < 2 ^ 31 by omega)]
  iterate 4 refine hK _ _ _ _ ?_
  refine And.intro (vp_in_nI (n := s) (by omega) (by decide)) ?_
  rw [nI_clamp (show s < 2 ^ 31 by omega)]
  rw [sUp_off (by decide), show σ 89 0 s = nI (D.2.1 s).2.2.2.length from g89]
  iterate 2 refine hK _ _ _ _ ?_
  refine And.intro (by first | omega | (rw [nI_clamp (by omega)]; omega)) (And.intro (vp_in_nI (n := ((D.2.1 s).2.2.2.length)) (by omega) (by decide)) ?_)
  rw [nI_clamp (show ((D.2.1 s).2.2.2.length) < 2 ^ 31 by omega)]
  iterate 5 refine hK _ _ _ _ ?_
  refine And.intro (vp_in_nI (n := s) (by omega) (by decide)) ?_
  rw [nI_clamp (show s < 2 ^ 31 by omega)]
  rw [sUp_off (by decide), sUp_off (by decide), show σ 89 0 s = nI (D.2.1 s).2.2.2.length from g89]
  iterate 2 refine hK _ _ _ _ ?_
  show K _ _ _ _
  rw [show nI (D.2.1 s).2.2.2.length + Int32.ofInt 1 = nI ((D.2.1 s).2.2.2.length + 1) from nIs _]
  refine hK _ _ _ _ ?_
  refine And.intro (vp_in_nI (n := s) (by omega) (by decide)) ?_
  rw [nI_clamp (show s < 2 ^ 31 by omega)]
  show K _ _ _ (lbC σ s (D.2.1 s).2.2.2.length (100 + g) D.2.2.2.2.1)
  have hQ := lb_CR (w := (100 + g)) hs hCR
  obtain ⟨hR1, hw3, hpe⟩ := hQ
  have hT1 : TT (lbC σ s (D.2.1 s).2.2.2.length (100 + g) D.2.2.2.2.1) c 54 N P S := hT.cg (fun i h1 h2 => lbC_off (by omega))
  have hfr : ∀ i, i < 81 ∨ 89 < i → (lbC σ s (D.2.1 s).2.2.2.length (100 + g) D.2.2.2.2.1) i = σ i := fun i hi => lbC_off (by omega)
  have hS1 : SS (lbC σ s (D.2.1 s).2.2.2.length (100 + g) D.2.2.2.2.1) c cm N S G := hS.cg (fun i h1 h2 => lbC_off (by omega))
  generalize (lbC σ s (D.2.1 s).2.2.2.length (100 + g) D.2.2.2.2.1) = τ at hR1 hw3 hpe hT1 hfr hS1 ⊢
  have hR0 := hR1
  obtain ⟨hO1, hA1, hC1, -⟩ := hR0
  have eL : (ldA D s (100 + g)).2.1 s = ((D.2.1 s).1, (D.2.1 s).2.1, (D.2.1 s).2.2.1, (D.2.1 s).2.2.2 ++ [(100 + g)]) := fu_at _ _ _
  have k84 : τ 84 0 s = nI (D.2.1 s).1 := by have := (hC1.1 s hs).1; rw [eL] at this; exact this
  have k85 : τ 85 0 s = nI (D.2.1 s).2.1 := by have := (hC1.1 s hs).2.1; rw [eL] at this; exact this
  have k11 : τ 65 0 s = nI (sY c s) := (hT1.2.2.2.2.2 s hs).2.1
  have kw : τ 81 0 12 = nI wc := hw3.trans hw1
  have hG6 := hSC.2.1
  have f6 := fN_660 hM.1 hy x1 hf
  have hle := (hM.1.1.2.1 (D.2.1 s).1 (sY c s) x1 hy).2.1
  have km : τ 57 (D.2.1 s).1 (sY c s) = nI (fN c (D.2.1 s).1 (sY c s)) := (hT1.2.2.2.1 _ _ x1 hy).1
  have kf : τ 78 0 g = nI (gF c g) := (hS1.2.2.1 g hg).2
  have kp : τ 81 0 13 = nI D.2.2.2.1 := hC1.2.2.1
  iterate 3 refine hK _ _ _ _ ?_
  refine And.intro (fun h9 => absurd ((nI_ltI (by omega) (b := 100) (by decide)).mp h9) (by omega)) (fun _ => ?_)
  iterate 3 refine hK _ _ _ _ ?_
  show K _ _ _ _
  rw [show nI (100 + g) - (Int8.ofInt 100).toInt32 = nI g by rw [show (Int8.ofInt 100).toInt32 = nI 100 from rfl, nIm (by omega)]; congr 1; omega]
  iterate 4 refine hK _ _ _ _ ?_
  show K _ _ _ _
  rw [show τ 81 0 0 = nI 54 from hO1.1]
  show K _ _ _ _
  rw [show (nI 54).toNatClampNeg = 54 from rfl]
  iterate 6 refine hK _ _ _ _ ?_
  refine And.intro (vp_in_nI (n := s) (by omega) (by decide)) ?_
  rw [nI_clamp (show s < 2 ^ 31 by omega)]
  rw [show τ 84 0 s = nI (D.2.1 s).1 from k84]
  refine hK _ _ _ _ ?_
  refine And.intro (vp_in_nI (n := ((D.2.1 s).1)) (by omega) (by decide)) ?_
  rw [nI_clamp (show ((D.2.1 s).1) < 2 ^ 31 by omega)]
  iterate 2 refine hK _ _ _ _ ?_
  show K _ _ _ _
  rw [show τ 81 0 0 = nI 54 from hO1.1]
  show K _ _ _ _
  rw [show (nI 54).toNatClampNeg = 54 from rfl]
  iterate 3 refine hK _ _ _ _ ?_
  refine And.intro (vp_in_nI (n := s) (by omega) (by decide)) ?_
  rw [nI_clamp (show s < 2 ^ 31 by omega)]
  rw [show τ 65 0 s = nI (sY c s) from k11]
  refine hK _ _ _ _ ?_
  refine And.intro (by first | omega | (rw [nI_clamp (by omega)]; omega)) (And.intro (vp_in_nI (n := (sY c s)) (by omega) (by decide)) ?_)
  rw [nI_clamp (show (sY c s) < 2 ^ 31 by omega)]
  rw [show τ 57 ((D.2.1 s).1) (sY c s) = nI (fN c (D.2.1 s).1 (sY c s)) from km]
  refine hK _ _ _ _ ?_
  show K _ _ _ _
  rw [show Int32.ofInt 2 * nI (fN c (D.2.1 s).1 (sY c s)) = nI (2 * fN c (D.2.1 s).1 (sY c s)) from nIx 2 _]
  iterate 7 refine hK _ _ _ _ ?_
  show K _ _ _ _
  rw [nIa]
  refine hK _ _ _ _ ?_
  refine And.intro (vp_in_nI (n := g) (by omega) (by decide)) ?_
  rw [nI_clamp (show g < 2 ^ 31 by omega)]
  iterate 3 refine hK _ _ _ _ ?_
  show K _ _ _ _
  rw [sUp_off (by decide), show τ 81 0 13 = nI D.2.2.2.1 from kp]
  iterate 2 refine hK _ _ _ _ ?_
  show K _ _ _ _
  rw [sUp_off (by decide), show τ 81 0 1 = nI 76 from hO1.2.1]
  show K _ _ _ _
  rw [show (nI 76).toNatClampNeg = 76 from rfl]
  iterate 3 refine hK _ _ _ _ ?_
  refine And.intro (vp_in_nI (n := g) (by omega) (by decide)) ?_
  rw [nI_clamp (show g < 2 ^ 31 by omega)]
  rw [sUp_off (by decide), show τ 78 0 g = nI (gF c g) from kf]
  iterate 3 refine hK _ _ _ _ ?_
  show K _ _ _ _
  rw [nIx, nIa]
  refine hK _ _ _ _ ?_
  show K _ _ _ (sUp (sUp τ 86 0 g (nI (m + 2 * fN c (D.2.1 s).1 (sY c s)))) 81 0 13 (nI (D.2.2.2.1 + gF c g * (2 * fN c (D.2.1 s).1 (sY c s)))))
  have hQ1 := gui_CR (g := g) (f := m + 2 * fN c (D.2.1 s).1 (sY c s)) (x := D.2.2.2.1 + gF c g * (2 * fN c (D.2.1 s).1 (sY c s))) hR1
  have hT2 : TT (sUp (sUp τ 86 0 g (nI (m + 2 * fN c (D.2.1 s).1 (sY c s)))) 81 0 13 (nI (D.2.2.2.1 + gF c g * (2 * fN c (D.2.1 s).1 (sY c s))))) c 54 N P S := hT1.cg (fun i h1 h2 => by rw [sUp_off (by omega), sUp_off (by omega)])
  have hfr1 : ∀ i, i < 81 ∨ 89 < i → (sUp (sUp τ 86 0 g (nI (m + 2 * fN c (D.2.1 s).1 (sY c s)))) 81 0 13 (nI (D.2.2.2.1 + gF c g * (2 * fN c (D.2.1 s).1 (sY c s))))) i = σ i := fun i hi => by rw [sUp_off (by omega), sUp_off (by omega)]; exact hfr i hi
  have kw2 : (sUp (sUp τ 86 0 g (nI (m + 2 * fN c (D.2.1 s).1 (sY c s)))) 81 0 13 (nI (D.2.2.2.1 + gF c g * (2 * fN c (D.2.1 s).1 (sY c s))))) 81 0 12 = nI wc := by rw [sUp_k (by decide), sUp_off (by decide)]; exact kw
  generalize (sUp (sUp τ 86 0 g (nI (m + 2 * fN c (D.2.1 s).1 (sY c s)))) 81 0 13 (nI (D.2.2.2.1 + gF c g * (2 * fN c (D.2.1 s).1 (sY c s))))) = υ at hQ1 hT2 hfr1 kw2 ⊢
  have hR2 := hQ1
  obtain ⟨hO2, hA2, hC2, -⟩ := hR2
  have j84 : υ 84 0 s = nI (D.2.1 s).1 := by have := (hC2.1 s hs).1; dsimp only at this; rw [eL] at this; exact this
  have j85 : υ 85 0 s = nI (D.2.1 s).2.1 := by have := (hC2.1 s hs).2.1; dsimp only at this; rw [eL] at this; exact this
  have j11 : υ 65 0 s = nI (sY c s) := (hT2.2.2.2.2.2 s hs).2.1
  iterate 4 refine hK _ _ _ _ ?_
  show K _ _ _ _
  rw [show υ 81 0 0 = nI 54 from hO2.1]
  show K _ _ _ _
  rw [show (nI 54).toNatClampNeg = 54 from rfl]
  iterate 3 refine hK _ _ _ _ ?_
  refine And.intro (vp_in_nI (n := s) (by omega) (by decide)) ?_
  rw [nI_clamp (show s < 2 ^ 31 by omega)]
  rw [show υ 65 0 s = nI (sY c s) from j11]
  iterate 2 refine hK _ _ _ _ ?_
  refine calD (c0_move_54 _ _ c N P S hT2 hM kd hO2 s hs (D.2.1 s).1 (sY c s) (D.2.1 s).2.1 m wc x1 hy j84 j85 hF (by omega) kw2) ?_
  rintro r σ' ⟨rfl, rfl⟩
  have hz1 : 1 ≤ fN c (D.2.1 s).1 (sY c s) := by
    rcases Nat.eq_zero_or_pos (fN c (D.2.1 s).1 (sY c s)) with h0 | h0
    · exact absurd ((hM.1.1.2.1 (D.2.1 s).1 (sY c s) x1 hy).2.2.mpr h0) (x4 hn)
    · exact h0
  have hpe2 : peS ((ldA D s (100 + g)).1, (ldA D s (100 + g)).2.1, fu (ldA D s (100 + g)).2.2.1 g (m + 2 * fN c (D.2.1 s).1 (sY c s)), D.2.2.2.1 + gF c g * (2 * fN c (D.2.1 s).1 (sY c s)), (ldA D s (100 + g)).2.2.2.2) m s S = peS D m s S := by
    rw [← hpe]
    apply peS_eq
    rfl
  have hQ2 := mv_CR (z := (sY c s)) (w0 := wc) (B := 0) (D := ((ldA D s (100 + g)).1, (ldA D s (100 + g)).2.1, fu (ldA D s (100 + g)).2.2.1 g (m + 2 * fN c (D.2.1 s).1 (sY c s)), D.2.2.2.1 + gF c g * (2 * fN c (D.2.1 s).1 (sY c s)), (ldA D s (100 + g)).2.2.2.2)) hs hQ1 ⟨kw2, by rw [hpe2]; exact hw2⟩ (by dsimp only; rw [eL]; exact hn) (by dsimp only; rw [eL]; exact hF) (by dsimp only; rw [eL]; exact hz1)
  dsimp only at hQ2
  rw [eL] at hQ2
  dsimp only at hQ2
  refine hK _ _ _ _ ?_
  exact ⟨rfl, by unfold byGA; dsimp only; rw [show gF c g * 2 * fN c (D.2.1 s).1 (sY c s) = gF c g * (2 * fN c (D.2.1 s).1 (sY c s)) from Nat.mul_assoc _ _ _]; exact hQ2, fun i hi => (mvC_off (by omega)).trans (hfr1 i hi)⟩
end
