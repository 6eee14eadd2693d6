/-! THE REFERENCE: a day begins -/
def icC (σ : sMem) (s : Nat) : Bool := decide (σ 0 0 31 = 0 ∨ σ 8 s 3 = 8) || decide (((σ 0 0 30 * 1103515245 + 12345) >>> (16 &&& 31)) &&& 7 < σ 8 s 3)
def icS (σ : sMem) (s : Nat) : sMem := if σ 0 0 31 = 0 ∨ σ 8 s 3 = 8 then σ else sUp σ 0 0 30 (σ 0 0 30 * 1103515245 + 12345)
theorem icS_off {σ : sMem} {s a : Nat} (h : a ≠ 0) : icS σ s a = σ a := by
  unfold icS
  split
  · rfl
  · exact sUp_off h
theorem icS_0 {σ : sMem} {s k : Nat} (h : k ≠ 30) : icS σ s 0 0 k = σ 0 0 k := by
  unfold icS
  split
  · rfl
  · exact sUp_k h
def bgP (p : Nat) (t : sMem) : sMem :=
  if nI p = t 0 0 28 ∨ ¬ t 14 (t 6 p 0).toNatClampNeg (t 6 p 1).toNatClampNeg < 1000000 then sUp (sUp (sUp (sUp t 20 0 p 0) 21 0 p 0) 23 0 p 0) 22 0 p 0
  else sUp (stM (sUp (sUp (sUp (sUp t 20 0 p 0) 21 0 p 0) 23 0 p 0) 22 0 p 0) p (t 6 p 0).toNatClampNeg (t 6 p 2)) 22 0 p (stM (sUp (sUp (sUp (sUp t 20 0 p 0) 21 0 p 0) 23 0 p 0) 22 0 p 0) p (t 6 p 0).toNatClampNeg (t 6 p 2) 23 0 p)
theorem bgP_off {p : Nat} {t : sMem} {a : Nat} (h : a < 18 ∨ 24 ≤ a) : bgP p t a = t a := by
  unfold bgP
  split
  · rw [sUp_off (by omega), sUp_off (by omega), sUp_off (by omega), sUp_off (by omega)]
  · rw [sUp_off (by omega), stM_off (by omega), sUp_off (by omega), sUp_off (by omega), sUp_off (by omega), sUp_off (by omega)]
theorem bgP_20 (p : Nat) (t : sMem) : (∃ n' : Nat, n' ≤ 13 ∧ bgP p t 20 0 p = nI n') ∧ ∀ q, q ≠ p → bgP p t 20 0 q = t 20 0 q := by
  unfold bgP
  split
  · refine ⟨⟨0, by omega, ?_⟩, fun q hq => ?_⟩
    · rw [sUp_off (by omega), sUp_off (by omega), sUp_off (by omega), sUp_at]; rfl
    · rw [sUp_off (by omega), sUp_off (by omega), sUp_off (by omega), sUp_k hq]
  · obtain ⟨⟨n', h1, h2⟩, h3⟩ := stM_20 (sUp (sUp (sUp (sUp t 20 0 p 0) 21 0 p 0) 23 0 p 0) 22 0 p 0) p (t 6 p 0).toNatClampNeg (t 6 p 2)
    refine ⟨⟨n', h1, ?_⟩, fun q hq => ?_⟩
    · rw [sUp_off (by omega)]; exact h2
    · rw [sUp_off (by omega), h3 q hq, sUp_off (by omega), sUp_off (by omega), sUp_off (by omega), sUp_k hq]
def bgF (g : Nat) (t : sMem) : sMem := sUp t 24 0 g 0
def bgS (s : Nat) (t : sMem) : sMem :=
  let u := icS (sUp t 25 0 s (t 8 s 0)) s
  let v := sUp u 26 0 s (if icC t s then t 8 s 2 else 1000000)
  sUp (sUp (sUp v 0 0 47 (t 0 0 47 + if v 26 0 s < 1000000 then 1 else 0)) 27 0 s (-1)) 28 0 s 0
theorem bgS_off {s : Nat} {t : sMem} {a : Nat} (h : a ≠ 0 ∧ a ≠ 25 ∧ a ≠ 26 ∧ a ≠ 27 ∧ a ≠ 28) : bgS s t a = t a := by
  unfold bgS
  try dsimp only
  rw [sUp_off (by omega), sUp_off (by omega), sUp_off (by omega), sUp_off (by omega), icS_off (by omega), sUp_off (by omega)]
def beM (σ : sMem) (P G S : Nat) : sMem := forM bgS (forM bgF (forM bgP (sUp (sUp (sUp (sUp σ 0 0 44 0) 0 0 45 0) 0 0 46 0) 0 0 47 0) P) G) S
theorem forM_off {f : Nat → sMem → sMem} {a : Nat} (h : ∀ k t, f k t a = t a) (σ : sMem) : ∀ n, forM f σ n a = σ a
  | 0 => rfl
  | n + 1 => (h n _).trans (forM_off h σ n)
theorem bgF_off {g : Nat} {t : sMem} {a : Nat} (h : a ≠ 24) : bgF g t a = t a := sUp_off h
theorem TD.bgP {t : sMem} {N P S : Nat} (h : TD t N P S) (p : Nat) : TD (bgP p t) N P S := h.cg (fun _ ha => bgP_off (by omega))
theorem TD.bgS {t : sMem} {N P S : Nat} (h : TD t N P S) (s : Nat) : TD (bgS s t) N P S := h.cg (fun _ ha => bgS_off (by omega))
theorem TD.bgF {t : sMem} {N P S : Nat} (h : TD t N P S) (g : Nat) : TD (bgF g t) N P S := h.cg (fun _ ha => bgF_off (by omega))
theorem TD.z0 {t : sMem} {N P S : Nat} (h : TD t N P S) (k : Nat) (v : Int32) : TD (sUp t 0 0 k v) N P S := h.cg (fun _ ha => sUp_off (by omega))
section
variable {l : Launch} {D : va_G} {b0 : Nat} {ty : Nat → ClassId}
theorem c9_isComing (d : Nat) (σ : sMem) (s : Nat) (hs : s < 8) : sMet l D b0 ty lay d mX9_isComing [aR 0, aI (nI s)] σ (fun r σ' => r = [aI (bI (icC σ s))] ∧ σ' = icS σ s) := by
  refine sMet_intro lay_nd kX9_isComing xX9_ok (by decide +kernel) rfl ?_
  intro K hK
  have yes : (σ 0 0 31 = 0 ∨ σ 8 s 3 = 8) → K 20 [some (aR 0), some (aI (nI s))] [] σ := by
    intro h
    iterate 2 refine hK _ _ _ _ ?_
    refine ⟨Or.inr rfl, ?_, ?_⟩
    · unfold icC
      rw [decide_eq_true h]; rfl
    · unfold icS
      rw [if_pos h]
  iterate 2 refine hK _ _ _ _ ?_
  refine hK _ _ _ _ ?_
  refine And.intro (fun h => yes (Or.inl h)) (fun h => ?_)
  iterate 4 refine hK _ _ _ _ ?_
  refine And.intro (vp_in_nI (n := s) (by omega) (by decide)) ?_
  rw [nI_clamp (show s < 2 ^ 31 by omega)]
  iterate 2 refine hK _ _ _ _ ?_
  refine And.intro (by first | omega | (rw [nI_clamp (by omega)]; omega)) (And.intro (vp_in_nI (n := 3) (by decide) (by decide)) ?_)
  rw [show (Int32.ofInt 3).toNatClampNeg = 3 from rfl]
  iterate 2 refine hK _ _ _ _ ?_
  refine And.intro (fun h2 => ?_) (fun h2 => yes (Or.inr h2))
  have hn : ¬ (σ 0 0 31 = 0 ∨ σ 8 s 3 = 8) := fun t => t.elim h h2
  unfold icC icS at hK
  rw [decide_eq_false hn, if_neg hn] at hK
  iterate 3 refine hK _ _ _ _ ?_
  iterate 7 refine hK _ _ _ _ ?_
  show K _ _ _ _
  rw [sUp_at]
  iterate 8 refine hK _ _ _ _ ?_
  refine And.intro (vp_in_nI (n := s) (by omega) (by decide)) ?_
  rw [nI_clamp (show s < 2 ^ 31 by omega)]
  iterate 2 refine hK _ _ _ _ ?_
  refine And.intro (by first | omega | (rw [nI_clamp (by omega)]; omega)) (And.intro (vp_in_nI (n := 3) (by decide) (by decide)) ?_)
  rw [show (Int32.ofInt 3).toNatClampNeg = 3 from rfl]
  rw [sUp_off (by decide)]
  refine hK _ _ _ _ ?_
  refine And.intro (fun h3 => ?_) (fun h3 => ?_)
  · iterate 2 refine hK _ _ _ _ ?_
    refine ⟨Or.inl rfl, ?_, rfl⟩
    rw [decide_eq_false (show ¬ ((σ 0 0 30 * 1103515245 + 12345) >>> (16 &&& 31)) &&& 7 < σ 8 s 3 from fun t => Int32.not_lt.mpr h3 t)]; rfl
  · iterate 3 refine hK _ _ _ _ ?_
    refine ⟨Or.inr rfl, ?_, rfl⟩
    rw [decide_eq_true (show ((σ 0 0 30 * 1103515245 + 12345) >>> (16 &&& 31)) &&& 7 < σ 8 s 3 from Int32.not_le.mp h3)]; rfl
set_option maxHeartbeats 4000000 in
theorem c9_begins (d : Nat) (σ : sMem) (N P S G : Nat) (hT : TD σ N P S) (eG : σ 0 0 26 = nI G) (hG6 : G ≤ 6) : sMet l D b0 ty lay (d + 1) mX9_begins [aR 0] σ (fun r σ' => r = [] ∧ σ' = beM σ P G S) := by
  refine sMet_intro lay_nd kX9_begins xX9_ok (by decide +kernel) rfl ?_
  intro K hK
  have hN := hT.1.1
  have hP := hT.2.2.2.1.2
  have hS := hT.2.2.2.2.1.2
  generalize hZ : beM σ P G S = Z at hK
  unfold beM at hZ
  iterate 14 refine hK _ _ _ _ ?_
  have hT1 := (((hT.z0 44 0).z0 45 0).z0 46 0).z0 47 0
  have e26 : (sUp (sUp (sUp (sUp σ 0 0 44 0) 0 0 45 0) 0 0 46 0) 0 0 47 0) 0 0 26 = nI G := by
    rw [sUp_k (by decide), sUp_k (by decide), sUp_k (by decide), sUp_k (by decide)]; exact eG
  show K _ _ _ (sUp (sUp (sUp (sUp σ 0 0 44 0) 0 0 45 0) 0 0 46 0) 0 0 47 0)
  generalize sUp (sUp (sUp (sUp σ 0 0 44 0) 0 0 45 0) 0 0 46 0) 0 0 47 0 = a at hZ hT1 e26 ⊢
  clear hT eG σ
  have L22 : ∀ p, p ≤ P → K 22 [some (aR 0), some (aI (nI p))] [] (forM bgP a p) := by
    refine kDown (P := fun p => K 22 [some (aR 0), some (aI (nI p))] [] (forM bgP a p)) ?_ ?_
    · have hT2 : TD (forM bgP a P) N P S := forM_P (P := fun t => TD t N P S) hT1 P (fun k s _ h => h.bgP k)
      have e262 : (forM bgP a P) 0 0 26 = nI G := by rw [forM_off (fun k t => bgP_off (by omega))]; exact e26
      generalize forM bgP a P = a2 at hZ hT2 e262 ⊢
      iterate 5 refine hK _ _ _ _ ?_
      refine And.intro (vp_in_nI (n := 1) (by decide) (by decide)) ?_
      rw [show (Int32.ofInt 1).toNatClampNeg = 1 from rfl]
      rw [show a2 3 0 1 = nI P from hT2.2.2.2.1.1]
      refine hK _ _ _ _ ?_
      refine And.intro (fun _ => ?_) (fun h => absurd (Int32.le_refl _) h)
      iterate 2 refine hK _ _ _ _ ?_
      have L135 : ∀ g, g ≤ G → K 135 [some (aR 0), some (aI (nI g))] [] (forM bgF a2 g) := by
        refine kDown (P := fun g => K 135 [some (aR 0), some (aI (nI g))] [] (forM bgF a2 g)) ?_ ?_
        · have hT3 : TD (forM bgF a2 G) N P S := forM_P (P := fun t => TD t N P S) hT2 G (fun k s _ h => h.bgF k)
          have e263 : (forM bgF a2 G) 0 0 26 = nI G := by rw [forM_off (fun k t => bgF_off (by decide))]; exact e262
          generalize forM bgF a2 G = a3 at hZ hT3 e263 ⊢
          iterate 3 refine hK _ _ _ _ ?_
          show K _ _ _ _
          rw [show a3 0 0 26 = nI G from e263]
          refine hK _ _ _ _ ?_
          refine And.intro (fun _ => ?_) (fun h => absurd (Int32.le_refl _) h)
          iterate 2 refine hK _ _ _ _ ?_
          have L158 : ∀ s, s ≤ S → K 158 [some (aR 0), some (aI (nI s))] [] (forM bgS a3 s) := by
            refine kDown (P := fun s => K 158 [some (aR 0), some (aI (nI s))] [] (forM bgS a3 s)) ?_ ?_
            · have hT4 : TD (forM bgS a3 S) N P S := forM_P (P := fun t => TD t N P S) hT3 S (fun k s _ h => h.bgS k)
              rw [hZ] at hT4 ⊢
              iterate 5 refine hK _ _ _ _ ?_
              refine And.intro (vp_in_nI (n := 2) (by decide) (by decide)) ?_
              rw [show (Int32.ofInt 2).toNatClampNeg = 2 from rfl]
              rw [show Z 3 0 2 = nI S from hT4.2.2.2.2.1.1]
              refine hK _ _ _ _ ?_
              refine And.intro (fun _ => ?_) (fun h => absurd (Int32.le_refl _) h)
              refine hK _ _ _ _ ?_
              exact ⟨rfl, rfl⟩
            · intro s hs ih
              have ih' : K 158 [some (aR 0), some (aI (nI (s + 1)))] [] (bgS s (forM bgS a3 s)) := ih
              clear ih
              have hI : TD (forM bgS a3 s) N P S := forM_P (P := fun t => TD t N P S) hT3 s (fun k s _ h => h.bgS k)
              generalize forM bgS a3 s = t at ih' hI ⊢
              iterate 5 refine hK _ _ _ _ ?_
              refine And.intro (vp_in_nI (n := 2) (by decide) (by decide)) ?_
              rw [show (Int32.ofInt 2).toNatClampNeg = 2 from rfl]
              rw [show t 3 0 2 = nI S from hI.2.2.2.2.1.1]
              refine hK _ _ _ _ ?_
              refine And.intro (fun h => absurd h (nI_ge hs (by omega))) (fun _ => ?_)
              iterate 7 refine hK _ _ _ _ ?_
              refine And.intro (vp_in_nI (n := s) (by omega) (by decide)) ?_
              rw [nI_clamp (show s < 2 ^ 31 by omega)]
              iterate 2 refine hK _ _ _ _ ?_
              refine And.intro (by first | omega | (rw [nI_clamp (by omega)]; omega)) (And.intro (vp_in_nI (n := 0) (by decide) (by decide)) ?_)
              rw [show (Int32.ofInt 0).toNatClampNeg = 0 from rfl]
              refine hK _ _ _ _ ?_
              refine And.intro (vp_in_nI (n := s) (by omega) (by decide)) ?_
              rw [nI_clamp (show s < 2 ^ 31 by omega)]
              iterate 6 refine hK _ _ _ _ ?_
              refine calD (c9_isComing d _ s (by omega)) ?_
              rintro r σ' ⟨rfl, rfl⟩
              have hc : icC (sUp t 25 0 s (t 8 s 0)) s = icC t s := by
                unfold icC
                rw [sUp_off (by decide), sUp_off (by decide)]
              rw [hc]
              unfold bgS at ih'
              try dsimp only at ih'
              have u8 : icS (sUp t 25 0 s (t 8 s 0)) s 8 = t 8 := by rw [icS_off (by decide), sUp_off (by decide)]
              have u47 : icS (sUp t 25 0 s (t 8 s 0)) s 0 0 47 = t 0 0 47 := by rw [icS_0 (by decide), sUp_off (by decide)]
              generalize icS (sUp t 25 0 s (t 8 s 0)) s = u at ih' u8 u47 ⊢
              have l208 : ∀ (v : Int32), (if icC t s then t 8 s 2 else 1000000) = v → K 208 [some (aR 0), some (aI (nI s))] [aI (v), aI (nI s), aR 26] u := by
                intro v hv
                rw [hv] at ih'
                rw [show (sUp u 26 0 s v) 26 0 s = v from sUp_at _ _ _ _ _] at ih'
                have l230 : ∀ (c : Int32), (if v < 1000000 then 1 else 0) = c → K 230 [some (aR 0), some (aI (nI s))] [aI (c), aI (t 0 0 47), aR 0] (sUp u 26 0 s v) := by
                  intro c hc2
                  rw [hc2] at ih'
                  iterate 7 refine hK _ _ _ _ ?_
                  refine And.intro (vp_in_nI (n := s) (by omega) (by decide)) ?_
                  rw [nI_clamp (show s < 2 ^ 31 by omega)]
                  iterate 5 refine hK _ _ _ _ ?_
                  refine And.intro (vp_in_nI (n := s) (by omega) (by decide)) ?_
                  rw [nI_clamp (show s < 2 ^ 31 by omega)]
                  refine hK _ _ _ _ ?_
                  show K _ _ _ _
                  rw [show nI s + Int32.ofInt 1 = nI (s + 1) from nIs _]
                  refine hK _ _ _ _ ?_
                  exact ih'
                refine hK _ _ _ _ ?_
                refine And.intro (vp_in_nI (n := s) (by omega) (by decide)) ?_
                rw [nI_clamp (show s < 2 ^ 31 by omega)]
                iterate 3 refine hK _ _ _ _ ?_
                show K _ _ _ _
                rw [sUp_off (by decide), show u 0 0 47 = t 0 0 47 from u47]
                iterate 4 refine hK _ _ _ _ ?_
                refine And.intro (vp_in_nI (n := s) (by omega) (by decide)) ?_
                rw [nI_clamp (show s < 2 ^ 31 by omega)]
                rw [sUp_at]
                iterate 2 refine hK _ _ _ _ ?_
                refine And.intro (fun h => ?_) (fun h => ?_)
                · refine hK _ _ _ _ ?_
                  exact l230 _ (if_neg (Int32.not_lt.mpr h))
                · iterate 2 refine hK _ _ _ _ ?_
                  exact l230 _ (if_pos (Int32.not_le.mp h))
              refine hK _ _ _ _ ?_
              refine And.intro (fun h => ?_) (fun h => ?_)
              · refine hK _ _ _ _ ?_
                exact l208 _ (by rw [bI_f h]; rfl)
              · iterate 4 refine hK _ _ _ _ ?_
                refine And.intro (vp_in_nI (n := s) (by omega) (by decide)) ?_
                rw [nI_clamp (show s < 2 ^ 31 by omega)]
                iterate 2 refine hK _ _ _ _ ?_
                refine And.intro (by first | omega | (rw [nI_clamp (by omega)]; omega)) (And.intro (vp_in_nI (n := 2) (by decide) (by decide)) ?_)
                rw [show (Int32.ofInt 2).toNatClampNeg = 2 from rfl]
                rw [show u 8 s 2 = t 8 s 2 from (by rw [u8])]
                refine hK _ _ _ _ ?_
                exact l208 _ (by rw [bI_t h]; rfl)
          exact L158 0 (Nat.zero_le _)
        · intro g hg ih
          have ih' : K 135 [some (aR 0), some (aI (nI (g + 1)))] [] (bgF g (forM bgF a2 g)) := ih
          clear ih
          have hI : ((forM bgF a2 g) 0 0 26 = nI G) := (by rw [forM_off (fun k t => bgF_off (by decide))]; exact e262)
          generalize forM bgF a2 g = t at ih' hI ⊢
          iterate 3 refine hK _ _ _ _ ?_
          show K _ _ _ _
          rw [show t 0 0 26 = nI G from hI]
          refine hK _ _ _ _ ?_
          refine And.intro (fun h => absurd h (nI_ge hg (by omega))) (fun _ => ?_)
          iterate 5 refine hK _ _ _ _ ?_
          refine And.intro (vp_in_nI (n := g) (by omega) (by decide)) ?_
          rw [nI_clamp (show g < 2 ^ 31 by omega)]
          refine hK _ _ _ _ ?_
          show K _ _ _ _
          rw [show nI g + Int32.ofInt 1 = nI (g + 1) from nIs _]
          refine hK _ _ _ _ ?_
          exact ih'
      exact L135 0 (Nat.zero_le _)
    · intro p hp ih
      have ih' : K 22 [some (aR 0), some (aI (nI (p + 1)))] [] (bgP p (forM bgP a p)) := ih
      clear ih
      have hI : TD (forM bgP a p) N P S := forM_P (P := fun t => TD t N P S) hT1 p (fun k s _ h => h.bgP k)
      generalize forM bgP a p = t at ih' hI ⊢
      obtain ⟨x, y, z, v, ⟨ex, hx⟩, ⟨ey, hy⟩, ⟨ez, hz⟩, -⟩ := hI.2.2.2.2.2.1 p hp
      have cx := nI_clamp (show x < 2 ^ 31 by omega)
      have cy := nI_clamp (show y < 2 ^ 31 by omega)
      have l127 : K 127 [some (aR 0), some (aI (nI p))] [] (bgP p t) := by
        refine hK _ _ _ _ ?_
        show K _ _ _ _
        rw [show nI p + Int32.ofInt 1 = nI (p + 1) from nIs _]
        refine hK _ _ _ _ ?_
        exact ih'
      iterate 5 refine hK _ _ _ _ ?_
      refine And.intro (vp_in_nI (n := 1) (by decide) (by decide)) ?_
      rw [show (Int32.ofInt 1).toNatClampNeg = 1 from rfl]
      rw [show t 3 0 1 = nI P from hI.2.2.2.1.1]
      refine hK _ _ _ _ ?_
      refine And.intro (fun h => absurd h (nI_ge hp (by omega))) (fun _ => ?_)
      iterate 5 refine hK _ _ _ _ ?_
      refine And.intro (vp_in_nI (n := p) (by omega) (by decide)) ?_
      rw [nI_clamp (show p < 2 ^ 31 by omega)]
      iterate 5 refine hK _ _ _ _ ?_
      refine And.intro (vp_in_nI (n := p) (by omega) (by decide)) ?_
      rw [nI_clamp (show p < 2 ^ 31 by omega)]
      iterate 5 refine hK _ _ _ _ ?_
      refine And.intro (vp_in_nI (n := p) (by omega) (by decide)) ?_
      rw [nI_clamp (show p < 2 ^ 31 by omega)]
      iterate 5 refine hK _ _ _ _ ?_
      refine And.intro (vp_in_nI (n := p) (by omega) (by decide)) ?_
      rw [nI_clamp (show p < 2 ^ 31 by omega)]
      iterate 3 refine hK _ _ _ _ ?_
      show K _ _ _ _
      rw [sUp_off (by decide), sUp_off (by decide), sUp_off (by decide), sUp_off (by decide)]
      refine hK _ _ _ _ ?_
      refine And.intro (fun h => ?_) (fun h => ?_)
      · rw [show bgP p t = sUp (sUp (sUp (sUp t 20 0 p 0) 21 0 p 0) 23 0 p 0) 22 0 p 0 from by unfold bgP; rw [if_pos (Or.inl h)]] at l127
        exact l127
      · iterate 5 refine hK _ _ _ _ ?_
        refine And.intro (vp_in_nI (n := p) (by omega) (by decide)) ?_
        rw [nI_clamp (show p < 2 ^ 31 by omega)]
        iterate 2 refine hK _ _ _ _ ?_
        refine And.intro (by first | omega | (rw [nI_clamp (by omega)]; omega)) (And.intro (vp_in_nI (n := 0) (by decide) (by decide)) ?_)
        rw [show (Int32.ofInt 0).toNatClampNeg = 0 from rfl]
        rw [sUp_off (by decide), sUp_off (by decide), sUp_off (by decide), sUp_off (by decide), show t 6 p 0 = nI x from ex]
        iterate 4 refine hK _ _ _ _ ?_
        refine And.intro (vp_in_nI (n := p) (by omega) (by decide)) ?_
        rw [nI_clamp (show p < 2 ^ 31 by omega)]
        iterate 2 refine hK _ _ _ _ ?_
        refine And.intro (by first | omega | (rw [nI_clamp (by omega)]; omega)) (And.intro (vp_in_nI (n := 1) (by decide) (by decide)) ?_)
        rw [show (Int32.ofInt 1).toNatClampNeg = 1 from rfl]
        rw [sUp_off (by decide), sUp_off (by decide), sUp_off (by decide), sUp_off (by decide), show t 6 p 1 = nI y from ey]
        refine hK _ _ _ _ ?_
        refine calD (c9_isWay _ _ x y (by omega) (by omega)) ?_
        rintro r σ' ⟨rfl, rfl⟩
        rw [sUp_off (by decide), sUp_off (by decide), sUp_off (by decide), sUp_off (by decide)]
        refine hK _ _ _ _ ?_
        refine And.intro (fun h2 => ?_) (fun h2 => ?_)
        · rw [show bgP p t = sUp (stM (sUp (sUp (sUp (sUp t 20 0 p 0) 21 0 p 0) 23 0 p 0) 22 0 p 0) p x (nI z)) 22 0 p (stM (sUp (sUp (sUp (sUp t 20 0 p 0) 21 0 p 0) 23 0 p 0) 22 0 p 0) p x (nI z) 23 0 p) from by
            unfold bgP
            rw [ex, ey, ez, cx, cy, if_neg (fun q => q.elim h (fun q => q (ite_ne h2)))]] at l127
          iterate 6 refine hK _ _ _ _ ?_
          refine And.intro (vp_in_nI (n := p) (by omega) (by decide)) ?_
          rw [nI_clamp (show p < 2 ^ 31 by omega)]
          iterate 2 refine hK _ _ _ _ ?_
          refine And.intro (by first | omega | (rw [nI_clamp (by omega)]; omega)) (And.intro (vp_in_nI (n := 0) (by decide) (by decide)) ?_)
          rw [show (Int32.ofInt 0).toNatClampNeg = 0 from rfl]
          rw [sUp_off (by decide), sUp_off (by decide), sUp_off (by decide), sUp_off (by decide), show t 6 p 0 = nI x from ex]
          iterate 4 refine hK _ _ _ _ ?_
          refine And.intro (vp_in_nI (n := p) (by omega) (by decide)) ?_
          rw [nI_clamp (show p < 2 ^ 31 by omega)]
          iterate 2 refine hK _ _ _ _ ?_
          refine And.intro (by first | omega | (rw [nI_clamp (by omega)]; omega)) (And.intro (vp_in_nI (n := 2) (by decide) (by decide)) ?_)
          rw [show (Int32.ofInt 2).toNatClampNeg = 2 from rfl]
          rw [sUp_off (by decide), sUp_off (by decide), sUp_off (by decide), sUp_off (by decide), show t 6 p 2 = nI z from ez]
          refine hK _ _ _ _ ?_
          refine calD (c9_sets d (sUp (sUp (sUp (sUp t 20 0 p 0) 21 0 p 0) 23 0 p 0) 22 0 p 0) N (((((hI.1).up _ _ _ _ (by decide) (by decide) (by decide)).up _ _ _ _ (by decide) (by decide) (by decide)).up _ _ _ _ (by decide) (by decide) (by decide)).up _ _ _ _ (by decide) (by decide) (by decide)) p x y (nI z) (by omega) hx hy (by rw [sUp_off (by decide), sUp_off (by decide), sUp_off (by decide), sUp_off (by decide)]; exact ey) (by unfold fN; rw [sUp_off (by decide), sUp_off (by decide), sUp_off (by decide), sUp_off (by decide)]; exact (hI.1.lt hx hy).mp (ite_ne h2))) ?_
          rintro r σ' ⟨rfl, rfl⟩
          generalize stM (sUp (sUp (sUp (sUp t 20 0 p 0) 21 0 p 0) 23 0 p 0) 22 0 p 0) p x (nI z) = V at l127 ⊢
          iterate 7 refine hK _ _ _ _ ?_
          refine And.intro (vp_in_nI (n := p) (by omega) (by decide)) ?_
          rw [nI_clamp (show p < 2 ^ 31 by omega)]
          refine hK _ _ _ _ ?_
          refine And.intro (vp_in_nI (n := p) (by omega) (by decide)) ?_
          rw [nI_clamp (show p < 2 ^ 31 by omega)]
          exact l127
        · refine hK _ _ _ _ ?_
          rw [show bgP p t = sUp (sUp (sUp (sUp t 20 0 p 0) 21 0 p 0) 23 0 p 0) 22 0 p 0 from by unfold bgP; rw [ex, ey, cx, cy, if_pos (Or.inr (ite_eq h2))]] at l127
          exact l127
  exact L22 0 (Nat.zero_le _)
end
