/-! THE CLASS: Reader, a clause -/
section
variable {l : Launch} {D0 : va_G} {b0 : Nat} {ty : Nat → ClassId} {ad av : Nat → Nat}
set_option maxHeartbeats 1000000 in
theorem c4_readClause_36 (d : Nat) (hJ : JST l ad av) (σ ρ : sMem) (n b cl N P S G Q : Nat) (hC : CSR σ ρ n) (hW : TWR σ ρ 36) (hV : RVN ρ N P S G Q) (hf0 : ρ 0 0 5 = 0) (hat : ρ 0 0 4 = nI b) (hbn : b ≤ n) (hbl : blk (ρ 1 0) n b = b) (hcl : ρ 0 0 7 = nI cl) (hcl6 : cl ≤ 60) (h0 : cl = 0 → RVN ρ N 0 0 0 0 ∧ ∀ x, x < 12 → ρ 11 0 x = 0) : yMet l D0 b0 ty ad av lay (d + 7) 0 mX4_readClause [aR 74, aR 36, aI (nI cl)] σ (fun r σ' => r = [] ∧ CLP 36 n σ (clM ρ) σ') (fun _ _ => False) := by
  refine yMet_intro lay_nd kX4_readClause xX4_ok (yY4_ok _) (by decide +kernel) rfl ?_
  intro K hK
  obtain ⟨hN2, hN12, hP10, hS8, hG4, hQ20⟩ := hV.1
  obtain ⟨t0, t1, t2, t3, t5, -⟩ := hV.2.1
  have c5 := hW.1.2.1.trans t5
  have c1 := hW.1.2.2.1.trans t1
  have c2 := hW.1.2.2.2.1.trans t2
  have c3 := hW.1.2.2.2.2.1.trans t3
  have hn := hC.1.2.2.1
  have hz := hC.sz
  have ha : atN ρ = b := by unfold atN; rw [hat, nI_clamp (by omega)]
  obtain ⟨a0, e4, ha0, hat0⟩ := hC.2.2.2.2.2
  have e4' : σ 74 0 4 = nI b := by rw [e4, ← hat0 hf0]; exact hat
  have hσ : σ = cS σ b 0 (ρ 0 0 6) := by
    have := cS_of σ b e4'
    rw [hC.2.2.1, hC.2.2.2.1, hf0] at this
    exact this
  have hle := ltS_le (ρ 1 0) n (n - b) b (by omega)
  have hTB := hC.1.b
  have hcm : clM ρ = if cfM ρ (kindM (wordS (ρ 1 0) n b)) = 0 then cgM ρ b (kindM (wordS (ρ 1 0) n b)) else pS ρ b (cfM ρ (kindM (wordS (ρ 1 0) n b))) (nI b) := by
    unfold clM
    dsimp only
    rw [hz, ha, hbl]
  have hcg : ∀ k, cgM ρ b k = clE (cuM (swM (sUp (pS ρ (ltS (ρ 1 0) n (n - b) b) 0 (ρ 0 0 6)) 0 0 7 (nI (cl + 1))) k (sUp (pS ρ (ltS (ρ 1 0) n (n - b) b) 0 (ρ 0 0 6)) 0 0 7 (nI (cl + 1)) 2 0 0 - 1)) k) := fun k => by
    have e7 : pS ρ (ltS (ρ 1 0) n (n - b) b) 0 (ρ 0 0 6) 0 0 7 + 1 = nI (cl + 1) := by
      rw [pS_0 _ _ _ _ _ (by decide) (by decide) (by decide), hcl]
      exact nIs cl
    unfold cgM
    dsimp only
    rw [hz, e7]
  generalize hE : ltS (ρ 1 0) n (n - b) b = E at hle hcg
  iterate 2 refine hK _ _ _ _ _ ?_
  show K _ _ _ _ _
  rw [show σ 74 0 4 = nI b from e4']
  iterate 3 refine hK _ _ _ _ _ ?_
  have hrw := c4_readWord (l := l) (D0 := D0) (b0 := b0) (ty := ty) (ad := ad) (av := av) d hJ σ (ρ 1 0) n b 0 (ρ 0 0 6) hC.1 hbn
  rw [← hσ] at hrw
  refine Or.inr (Or.inl (yD0 (hrw) ?_))
  rintro r σ' ⟨rfl, hs9⟩
  rw [hE] at hs9
  subst σ'
  show K 0 9 [some (aR 74), some (aR 36), some (aI (nI cl)), some (aI (nI b)), none] [aI (wdF (ρ 1 0) n b 10 0)] (cS σ E 0 (ρ 0 0 6))
  have hR74 := cS_R74 σ E 0 (ρ 0 0 6)
  have hfr : ∀ i, i ≠ 74 → (cS σ E 0 (ρ 0 0 6)) i = σ i := hR74
  have d5 : (cS σ E 0 (ρ 0 0 6)) 37 0 1 = nI Q := by rw [hfr 37 (by decide)]; exact c5
  have d1 : (cS σ E 0 (ρ 0 0 6)) 36 0 1 = nI P := by rw [hfr 36 (by decide)]; exact c1
  have d2 : (cS σ E 0 (ρ 0 0 6)) 36 0 7 = nI S := by rw [hfr 36 (by decide)]; exact c2
  have d3 : (cS σ E 0 (ρ 0 0 6)) 36 0 13 = nI G := by rw [hfr 36 (by decide)]; exact c3
  have hC4 : CSR (cS σ E 0 (ρ 0 0 6)) (sUp (pS ρ E 0 (ρ 0 0 6)) 0 0 7 (nI (cl + 1))) n := (hC.to 0 (ρ 0 0 6) hle.2).u7 _
  have hr4 : ∀ i, i ≠ 0 → (sUp (pS ρ E 0 (ρ 0 0 6)) 0 0 7 (nI (cl + 1))) i = ρ i := fun i hi => by rw [sUp_off hi, pS_i _ _ _ _ _ hi]
  have hW4 : TWR (cS σ E 0 (ρ 0 0 6)) (sUp (pS ρ E 0 (ρ 0 0 6)) 0 0 7 (nI (cl + 1))) 36 := hW.cg (fun i h1 h2 => hfr i (by omega)) (fun i hi => hr4 i (by omega))
  have hV4 : RVN (sUp (pS ρ E 0 (ρ 0 0 6)) 0 0 7 (nI (cl + 1))) N P S G Q := hV.cg (fun i hi => hr4 i (by omega))
  have hf4 : (sUp (pS ρ E 0 (ρ 0 0 6)) 0 0 7 (nI (cl + 1))) 0 0 5 = 0 := by rw [sUp_k (by decide), pS_5]
  have x0 : (sUp (pS ρ E 0 (ρ 0 0 6)) 0 0 7 (nI (cl + 1))) 2 0 0 = nI N := by rw [hr4 2 (by decide)]; exact t0
  have x1 : (sUp (pS ρ E 0 (ρ 0 0 6)) 0 0 7 (nI (cl + 1))) 2 0 1 = nI P := by rw [hr4 2 (by decide)]; exact t1
  have x2 : (sUp (pS ρ E 0 (ρ 0 0 6)) 0 0 7 (nI (cl + 1))) 2 0 2 = nI S := by rw [hr4 2 (by decide)]; exact t2
  have x3 : (sUp (pS ρ E 0 (ρ 0 0 6)) 0 0 7 (nI (cl + 1))) 2 0 3 = nI G := by rw [hr4 2 (by decide)]; exact t3
  have x5 : (sUp (pS ρ E 0 (ρ 0 0 6)) 0 0 7 (nI (cl + 1))) 2 0 5 = nI Q := by rw [hr4 2 (by decide)]; exact t5
  have hbad : ∀ (x : Int32), ¬ x = 0 → cfM ρ (kindM (wordS (ρ 1 0) n b)) = x → CLP 36 n σ (clM ρ) (cS σ E x (nI b)) := fun x hx hc => by
    rw [hcm, hc, if_neg hx]
    refine ⟨fun i h1 _ => cS_R74 σ E x (nI b) i h1, hC.ft hx hle.2 hbn, fun q => ?_⟩
    rw [pS_5] at q
    exact absurd q hx
  rcases wdF_at (tx := ρ 1 0) (n := n) (b := b) 10 0 (by omega) with ⟨j, hj, hw, hwd⟩ | ⟨hw, hno⟩
  · rcases (show j = 0 ∨ j = 1 ∨ j = 2 ∨ j = 3 ∨ j = 4 ∨ j = 5 ∨ j = 6 ∨ j = 7 ∨ j = 8 ∨ j = 9 by omega) with rfl | rfl | rfl | rfl | rfl | rfl | rfl | rfl | rfl | rfl
    · have hk : kindM (wordS (ρ 1 0) n b) = kmap 0 := kind_j hTB hbn (by decide) hwd
      rw [hw]
      iterate 4 refine hK _ _ _ _ _ ?_
      refine And.intro (fun _ => ?_) (fun h9 => absurd h9 (by decide))
      have L41 : (ρ 0 0 7 = 60 ∨ (cnt (kmap 0) = true ∧ ρ 2 0 (kmap 0).toNatClampNeg = mostS (kmap 0))) → K 0 41 [some (aR 74), some (aR 36), some (aI (nI cl)), some (aI (nI b)), some (aI (nI 0))] [] (cS σ E 0 (ρ 0 0 6)) := by
        intro hq
        iterate 4 refine hK _ _ _ _ _ ?_
        refine Or.inl (calD (c4_fail _ σ E 0 (ρ 0 0 6) 3 b) ?_)
        rintro r σ' ⟨rfl, hs9⟩
        rw [wr0] at hs9
        subst σ'
        show K 0 47 [some (aR 74), some (aR 36), some (aI (nI cl)), some (aI (nI b)), some (aI (nI 0))] [] (cS σ E 3 (nI b))
        iterate 3 refine hK _ _ _ _ _ ?_
        show K _ _ _ _ _
        rw [show (cS σ E 3 (nI b)) 74 0 0 = 3 from cS_0 σ E 3 (nI b)]
        refine hK _ _ _ _ _ ?_
        refine And.intro (fun h9 => absurd h9 (by decide)) (fun _ => ?_)
        refine hK _ _ _ _ _ ?_
        exact ⟨rfl, hbad 3 (by decide) (by rw [hk]; unfold cfM; rw [if_neg (by decide), if_pos hq])⟩
      iterate 3 refine hK _ _ _ _ _ ?_
      refine And.intro (fun h8 => L41 (Or.inl (by rw [hcl, show cl = 60 by have := (nI_leI (a := 60) (by decide) (by omega)).mp h8; omega]; rfl))) (fun h8 => ?_)
      have g8 : cl < 60 := Decidable.byContradiction fun q => h8 ((nI_leI (a := 60) (by decide) (by omega)).mpr (by omega))
      have hn60 : ¬ ρ 0 0 7 = 60 := fun q => by rw [hcl] at q; have := (nI_eq (b := 60) (by omega) (by decide)).mp q; omega
      iterate 3 refine hK _ _ _ _ _ ?_
      refine Or.inl (calD (c4_isFull_36 _ (cS σ E 0 (ρ 0 0 6)) P S G Q 0 (by decide) hP10 hS8 hG4 hQ20 d5 d1 d2 d3) ?_)
      rintro r σ' ⟨rfl, rfl⟩
      show K 0 38 [some (aR 74), some (aR 36), some (aI (nI cl)), some (aI (nI b)), some (aI (nI 0))] [aI (bI (flB P S G Q 0))] (cS σ E 0 (ρ 0 0 6))
      refine hK _ _ _ _ _ ?_
      refine And.intro (fun h7 => ?_) (fun h7 => ?_)
      · have hnf : flB P S G Q 0 = false := bI_f h7
        have hn3 : ¬ (ρ 0 0 7 = 60 ∨ (cnt (kmap 0) = true ∧ ρ 2 0 (kmap 0).toNatClampNeg = mostS (kmap 0))) := fun q => q.elim hn60 (fun q => absurd q.1 (by decide))
        iterate 2 refine hK _ _ _ _ _ ?_
        refine And.intro (fun h6 => absurd rfl h6) (fun _ => ?_)
        iterate 2 refine hK _ _ _ _ _ ?_
        refine And.intro (fun h4 => ?_) (fun h4 => ?_)
        · have hc0 : cl = 0 := Nat.eq_zero_of_le_zero ((nI_leI (b := 0) (by omega) (by decide)).mp h4)
          have hcf : cfM ρ (kmap 0) = 0 := by
            unfold cfM
            rw [if_neg (by decide), if_neg hn3, if_neg (fun q => by have q2 := q.2; rw [hcl, hc0] at q2; exact absurd q2 (by decide))]
          iterate 2 refine hK _ _ _ _ _ ?_
          show K _ _ _ _ _
          rw [show (cS σ E 0 (ρ 0 0 6)) 74 0 0 = 0 from cS_0 σ E 0 (ρ 0 0 6)]
          refine hK _ _ _ _ _ ?_
          refine And.intro (fun _ => ?_) (fun h5 => absurd rfl h5)
          iterate 2 refine hK _ _ _ _ _ ?_
          refine ⟨fun hsw => ?_, fun hsw => ?_, fun hsw => ?_, fun hsw => ?_, fun hsw => ?_, fun hsw => ?_, fun hsw => ?_, fun hsw => ?_, fun hsw => ?_, fun hsw => ?_, trivial⟩
          · exact absurd hsw (by decide)
          · iterate 3 refine hK _ _ _ _ _ ?_
            refine Or.inr (Or.inl (yD0 (c4_readPlaces_36 _ (cS σ E 0 (ρ 0 0 6)) (sUp (pS ρ E 0 (ρ 0 0 6)) 0 0 7 (nI (cl + 1))) n N P S G Q hC4 hW4 hV4 hf4 ((h0 hc0).1.cg (fun i hi => hr4 i (by omega))) (fun x hx => by rw [hr4 11 (by decide)]; exact (h0 hc0).2 x hx)) ?_))
            rintro r ω ⟨rfl, hq⟩
            show K 0 129 [some (aR 74), some (aR 36), some (aI (nI cl)), some (aI (nI b)), some (aI (nI 0))] [] ω
            iterate 2 refine hK _ _ _ _ _ ?_
            refine ⟨rfl, ?_⟩
            rw [hcm, hk, if_pos hcf, hcg, ex_readPlaces x0 x1 x2 x3 x5 hP10 hS8 hG4 hQ20]
            exact ⟨fun i h1 h2 => (hq.1 i h1 h2).trans (hfr i h1), hq.2⟩
          · exact absurd hsw (by decide)
          · exact absurd hsw (by decide)
          · exact absurd hsw (by decide)
          · exact absurd hsw (by decide)
          · exact absurd hsw (by decide)
          · exact absurd hsw (by decide)
          · exact absurd hsw (by decide)
          · exact absurd hsw (by decide)
        · iterate 4 refine hK _ _ _ _ _ ?_
          refine Or.inl (calD (c4_fail _ σ E 0 (ρ 0 0 6) 4 b) ?_)
          rintro r σ' ⟨rfl, hs9⟩
          rw [wr0] at hs9
          subst σ'
          show K 0 65 [some (aR 74), some (aR 36), some (aI (nI cl)), some (aI (nI b)), some (aI (nI 0))] [] (cS σ E 4 (nI b))
          iterate 2 refine hK _ _ _ _ _ ?_
          show K _ _ _ _ _
          rw [show (cS σ E 4 (nI b)) 74 0 0 = 4 from cS_0 σ E 4 (nI b)]
          refine hK _ _ _ _ _ ?_
          refine And.intro (fun h9 => absurd h9 (by decide)) (fun _ => ?_)
          refine hK _ _ _ _ _ ?_
          exact ⟨rfl, hbad 4 (by decide) (by rw [hk]; unfold cfM; rw [if_neg (by decide), if_neg hn3, if_pos ⟨rfl, by rw [hcl]; exact Int32.not_le.mp h4⟩])⟩
      · exact absurd (show false = true from bI_t h7) (by decide)
    · have hk : kindM (wordS (ρ 1 0) n b) = kmap 1 := kind_j hTB hbn (by decide) hwd
      rw [hw]
      iterate 4 refine hK _ _ _ _ _ ?_
      refine And.intro (fun _ => ?_) (fun h9 => absurd h9 (by decide))
      have L41 : (ρ 0 0 7 = 60 ∨ (cnt (kmap 1) = true ∧ ρ 2 0 (kmap 1).toNatClampNeg = mostS (kmap 1))) → K 0 41 [some (aR 74), some (aR 36), some (aI (nI cl)), some (aI (nI b)), some (aI (nI 1))] [] (cS σ E 0 (ρ 0 0 6)) := by
        intro hq
        iterate 4 refine hK _ _ _ _ _ ?_
        refine Or.inl (calD (c4_fail _ σ E 0 (ρ 0 0 6) 3 b) ?_)
        rintro r σ' ⟨rfl, hs9⟩
        rw [wr0] at hs9
        subst σ'
        show K 0 47 [some (aR 74), some (aR 36), some (aI (nI cl)), some (aI (nI b)), some (aI (nI 1))] [] (cS σ E 3 (nI b))
        iterate 3 refine hK _ _ _ _ _ ?_
        show K _ _ _ _ _
        rw [show (cS σ E 3 (nI b)) 74 0 0 = 3 from cS_0 σ E 3 (nI b)]
        refine hK _ _ _ _ _ ?_
        refine And.intro (fun h9 => absurd h9 (by decide)) (fun _ => ?_)
        refine hK _ _ _ _ _ ?_
        exact ⟨rfl, hbad 3 (by decide) (by rw [hk]; unfold cfM; rw [if_neg (by decide), if_pos hq])⟩
      iterate 3 refine hK _ _ _ _ _ ?_
      refine And.intro (fun h8 => L41 (Or.inl (by rw [hcl, show cl = 60 by have := (nI_leI (a := 60) (by decide) (by omega)).mp h8; omega]; rfl))) (fun h8 => ?_)
      have g8 : cl < 60 := Decidable.byContradiction fun q => h8 ((nI_leI (a := 60) (by decide) (by omega)).mpr (by omega))
      have hn60 : ¬ ρ 0 0 7 = 60 := fun q => by rw [hcl] at q; have := (nI_eq (b := 60) (by omega) (by decide)).mp q; omega
      iterate 3 refine hK _ _ _ _ _ ?_
      refine Or.inl (calD (c4_isFull_36 _ (cS σ E 0 (ρ 0 0 6)) P S G Q 1 (by decide) hP10 hS8 hG4 hQ20 d5 d1 d2 d3) ?_)
      rintro r σ' ⟨rfl, rfl⟩
      show K 0 38 [some (aR 74), some (aR 36), some (aI (nI cl)), some (aI (nI b)), some (aI (nI 1))] [aI (bI (flB P S G Q 1))] (cS σ E 0 (ρ 0 0 6))
      refine hK _ _ _ _ _ ?_
      refine And.intro (fun h7 => ?_) (fun h7 => ?_)
      · have hnf : flB P S G Q 1 = false := bI_f h7
        have hnf2 : ¬ 20 ≤ Q := of_decide_eq_false hnf
        have hn3 : ¬ (ρ 0 0 7 = 60 ∨ (cnt (kmap 1) = true ∧ ρ 2 0 (kmap 1).toNatClampNeg = mostS (kmap 1))) := fun q => q.elim hn60 (fun q => by
          have q2 : ρ 2 0 5 = 20 := q.2
          rw [t5] at q2
          have := (nI_eq (b := 20) (by omega) (by decide)).mp q2
          omega)
        iterate 2 refine hK _ _ _ _ _ ?_
        refine And.intro (fun _ => ?_) (fun h6 => absurd h6 (by decide))
        have hcf : cfM ρ (kmap 1) = 0 := by
          unfold cfM
          rw [if_neg (by decide), if_neg hn3, if_neg (fun q => absurd q.1 (by decide))]
        iterate 2 refine hK _ _ _ _ _ ?_
        show K _ _ _ _ _
        rw [show (cS σ E 0 (ρ 0 0 6)) 74 0 0 = 0 from cS_0 σ E 0 (ρ 0 0 6)]
        refine hK _ _ _ _ _ ?_
        refine And.intro (fun _ => ?_) (fun h5 => absurd rfl h5)
        iterate 2 refine hK _ _ _ _ _ ?_
        refine ⟨fun hsw => ?_, fun hsw => ?_, fun hsw => ?_, fun hsw => ?_, fun hsw => ?_, fun hsw => ?_, fun hsw => ?_, fun hsw => ?_, fun hsw => ?_, fun hsw => ?_, trivial⟩
        · exact absurd hsw (by decide)
        · exact absurd hsw (by decide)
        · iterate 3 refine hK _ _ _ _ _ ?_
          refine Or.inr (Or.inl (yD0 (c4_readStreet_36 _ (cS σ E 0 (ρ 0 0 6)) (sUp (pS ρ E 0 (ρ 0 0 6)) 0 0 7 (nI (cl + 1))) n N P S G Q hC4 hW4 hV4 hf4 (by omega)) ?_))
          rintro r ω ⟨rfl, hq⟩
          show K 0 137 [some (aR 74), some (aR 36), some (aI (nI cl)), some (aI (nI b)), some (aI (nI 1))] [] ω
          iterate 2 refine hK _ _ _ _ _ ?_
          refine ⟨rfl, ?_⟩
          rw [hcm, hk, if_pos hcf, hcg, ex_readStreet x0 x1 x2 x3 x5 hP10 hS8 hG4 hQ20]
          exact ⟨fun i h1 h2 => (hq.1 i h1 h2).trans (hfr i h1), hq.2⟩
        · exact absurd hsw (by decide)
        · exact absurd hsw (by decide)
        · exact absurd hsw (by decide)
        · exact absurd hsw (by decide)
        · exact absurd hsw (by decide)
        · exact absurd hsw (by decide)
        · exact absurd hsw (by decide)
      · have hfl : 20 ≤ Q := of_decide_eq_true (bI_t h7)
        exact L41 (Or.inr ⟨rfl, by show ρ 2 0 5 = 20; rw [t5, show Q = 20 by omega]; rfl⟩)
    · have hk : kindM (wordS (ρ 1 0) n b) = kmap 2 := kind_j hTB hbn (by decide) hwd
      rw [hw]
      iterate 4 refine hK _ _ _ _ _ ?_
      refine And.intro (fun _ => ?_) (fun h9 => absurd h9 (by decide))
      have L41 : (ρ 0 0 7 = 60 ∨ (cnt (kmap 2) = true ∧ ρ 2 0 (kmap 2).toNatClampNeg = mostS (kmap 2))) → K 0 41 [some (aR 74), some (aR 36), some (aI (nI cl)), some (aI (nI b)), some (aI (nI 2))] [] (cS σ E 0 (ρ 0 0 6)) := by
        intro hq
        iterate 4 refine hK _ _ _ _ _ ?_
        refine Or.inl (calD (c4_fail _ σ E 0 (ρ 0 0 6) 3 b) ?_)
        rintro r σ' ⟨rfl, hs9⟩
        rw [wr0] at hs9
        subst σ'
        show K 0 47 [some (aR 74), some (aR 36), some (aI (nI cl)), some (aI (nI b)), some (aI (nI 2))] [] (cS σ E 3 (nI b))
        iterate 3 refine hK _ _ _ _ _ ?_
        show K _ _ _ _ _
        rw [show (cS σ E 3 (nI b)) 74 0 0 = 3 from cS_0 σ E 3 (nI b)]
        refine hK _ _ _ _ _ ?_
        refine And.intro (fun h9 => absurd h9 (by decide)) (fun _ => ?_)
        refine hK _ _ _ _ _ ?_
        exact ⟨rfl, hbad 3 (by decide) (by rw [hk]; unfold cfM; rw [if_neg (by decide), if_pos hq])⟩
      iterate 3 refine hK _ _ _ _ _ ?_
      refine And.intro (fun h8 => L41 (Or.inl (by rw [hcl, show cl = 60 by have := (nI_leI (a := 60) (by decide) (by omega)).mp h8; omega]; rfl))) (fun h8 => ?_)
      have g8 : cl < 60 := Decidable.byContradiction fun q => h8 ((nI_leI (a := 60) (by decide) (by omega)).mpr (by omega))
      have hn60 : ¬ ρ 0 0 7 = 60 := fun q => by rw [hcl] at q; have := (nI_eq (b := 60) (by omega) (by decide)).mp q; omega
      iterate 3 refine hK _ _ _ _ _ ?_
      refine Or.inl (calD (c4_isFull_36 _ (cS σ E 0 (ρ 0 0 6)) P S G Q 2 (by decide) hP10 hS8 hG4 hQ20 d5 d1 d2 d3) ?_)
      rintro r σ' ⟨rfl, rfl⟩
      show K 0 38 [some (aR 74), some (aR 36), some (aI (nI cl)), some (aI (nI b)), some (aI (nI 2))] [aI (bI (flB P S G Q 2))] (cS σ E 0 (ρ 0 0 6))
      refine hK _ _ _ _ _ ?_
      refine And.intro (fun h7 => ?_) (fun h7 => ?_)
      · have hnf : flB P S G Q 2 = false := bI_f h7
        have hnf2 : ¬ 10 ≤ P := of_decide_eq_false hnf
        have hn3 : ¬ (ρ 0 0 7 = 60 ∨ (cnt (kmap 2) = true ∧ ρ 2 0 (kmap 2).toNatClampNeg = mostS (kmap 2))) := fun q => q.elim hn60 (fun q => by
          have q2 : ρ 2 0 1 = 10 := q.2
          rw [t1] at q2
          have := (nI_eq (b := 10) (by omega) (by decide)).mp q2
          omega)
        iterate 2 refine hK _ _ _ _ _ ?_
        refine And.intro (fun _ => ?_) (fun h6 => absurd h6 (by decide))
        have hcf : cfM ρ (kmap 2) = 0 := by
          unfold cfM
          rw [if_neg (by decide), if_neg hn3, if_neg (fun q => absurd q.1 (by decide))]
        iterate 2 refine hK _ _ _ _ _ ?_
        show K _ _ _ _ _
        rw [show (cS σ E 0 (ρ 0 0 6)) 74 0 0 = 0 from cS_0 σ E 0 (ρ 0 0 6)]
        refine hK _ _ _ _ _ ?_
        refine And.intro (fun _ => ?_) (fun h5 => absurd rfl h5)
        iterate 2 refine hK _ _ _ _ _ ?_
        refine ⟨fun hsw => ?_, fun hsw => ?_, fun hsw => ?_, fun hsw => ?_, fun hsw => ?_, fun hsw => ?_, fun hsw => ?_, fun hsw => ?_, fun hsw => ?_, fun hsw => ?_, trivial⟩
        · exact absurd hsw (by decide)
        · exact absurd hsw (by decide)
        · exact absurd hsw (by decide)
        · iterate 3 refine hK _ _ _ _ _ ?_
          refine Or.inr (Or.inl (yD0 (c4_readPerson_36 _ (cS σ E 0 (ρ 0 0 6)) (sUp (pS ρ E 0 (ρ 0 0 6)) 0 0 7 (nI (cl + 1))) n N P S G Q hC4 hW4 hV4 hf4 (by omega)) ?_))
          rintro r ω ⟨rfl, hq⟩
          show K 0 145 [some (aR 74), some (aR 36), some (aI (nI cl)), some (aI (nI b)), some (aI (nI 2))] [] ω
          iterate 2 refine hK _ _ _ _ _ ?_
          refine ⟨rfl, ?_⟩
          rw [hcm, hk, if_pos hcf, hcg, ex_readPerson x0 x1 x2 x3 x5 hP10 hS8 hG4 hQ20]
          exact ⟨fun i h1 h2 => (hq.1 i h1 h2).trans (hfr i h1), hq.2⟩
        · exact absurd hsw (by decide)
        · exact absurd hsw (by decide)
        · exact absurd hsw (by decide)
        · exact absurd hsw (by decide)
        · exact absurd hsw (by decide)
        · exact absurd hsw (by decide)
      · have hfl : 10 ≤ P := of_decide_eq_true (bI_t h7)
        exact L41 (Or.inr ⟨rfl, by show ρ 2 0 1 = 10; rw [t1, show P = 10 by omega]; rfl⟩)
    · have hk : kindM (wordS (ρ 1 0) n b) = kmap 3 := kind_j hTB hbn (by decide) hwd
      rw [hw]
      iterate 4 refine hK _ _ _ _ _ ?_
      refine And.intro (fun _ => ?_) (fun h9 => absurd h9 (by decide))
      have L41 : (ρ 0 0 7 = 60 ∨ (cnt (kmap 3) = true ∧ ρ 2 0 (kmap 3).toNatClampNeg = mostS (kmap 3))) → K 0 41 [some (aR 74), some (aR 36), some (aI (nI cl)), some (aI (nI b)), some (aI (nI 3))] [] (cS σ E 0 (ρ 0 0 6)) := by
        intro hq
        iterate 4 refine hK _ _ _ _ _ ?_
        refine Or.inl (calD (c4_fail _ σ E 0 (ρ 0 0 6) 3 b) ?_)
        rintro r σ' ⟨rfl, hs9⟩
        rw [wr0] at hs9
        subst σ'
        show K 0 47 [some (aR 74), some (aR 36), some (aI (nI cl)), some (aI (nI b)), some (aI (nI 3))] [] (cS σ E 3 (nI b))
        iterate 3 refine hK _ _ _ _ _ ?_
        show K _ _ _ _ _
        rw [show (cS σ E 3 (nI b)) 74 0 0 = 3 from cS_0 σ E 3 (nI b)]
        refine hK _ _ _ _ _ ?_
        refine And.intro (fun h9 => absurd h9 (by decide)) (fun _ => ?_)
        refine hK _ _ _ _ _ ?_
        exact ⟨rfl, hbad 3 (by decide) (by rw [hk]; unfold cfM; rw [if_neg (by decide), if_pos hq])⟩
      iterate 3 refine hK _ _ _ _ _ ?_
      refine And.intro (fun h8 => L41 (Or.inl (by rw [hcl, show cl = 60 by have := (nI_leI (a := 60) (by decide) (by omega)).mp h8; omega]; rfl))) (fun h8 => ?_)
      have g8 : cl < 60 := Decidable.byContradiction fun q => h8 ((nI_leI (a := 60) (by decide) (by omega)).mpr (by omega))
      have hn60 : ¬ ρ 0 0 7 = 60 := fun q => by rw [hcl] at q; have := (nI_eq (b := 60) (by omega) (by decide)).mp q; omega
      iterate 3 refine hK _ _ _ _ _ ?_
      refine Or.inl (calD (c4_isFull_36 _ (cS σ E 0 (ρ 0 0 6)) P S G Q 3 (by decide) hP10 hS8 hG4 hQ20 d5 d1 d2 d3) ?_)
      rintro r σ' ⟨rfl, rfl⟩
      show K 0 38 [some (aR 74), some (aR 36), some (aI (nI cl)), some (aI (nI b)), some (aI (nI 3))] [aI (bI (flB P S G Q 3))] (cS σ E 0 (ρ 0 0 6))
      refine hK _ _ _ _ _ ?_
      refine And.intro (fun h7 => ?_) (fun h7 => ?_)
      · have hnf : flB P S G Q 3 = false := bI_f h7
        have hn3 : ¬ (ρ 0 0 7 = 60 ∨ (cnt (kmap 3) = true ∧ ρ 2 0 (kmap 3).toNatClampNeg = mostS (kmap 3))) := fun q => q.elim hn60 (fun q => absurd q.1 (by decide))
        iterate 2 refine hK _ _ _ _ _ ?_
        refine And.intro (fun _ => ?_) (fun h6 => absurd h6 (by decide))
        have hcf : cfM ρ (kmap 3) = 0 := by
          unfold cfM
          rw [if_neg (by decide), if_neg hn3, if_neg (fun q => absurd q.1 (by decide))]
        iterate 2 refine hK _ _ _ _ _ ?_
        show K _ _ _ _ _
        rw [show (cS σ E 0 (ρ 0 0 6)) 74 0 0 = 0 from cS_0 σ E 0 (ρ 0 0 6)]
        refine hK _ _ _ _ _ ?_
        refine And.intro (fun _ => ?_) (fun h5 => absurd rfl h5)
        iterate 2 refine hK _ _ _ _ _ ?_
        refine ⟨fun hsw => ?_, fun hsw => ?_, fun hsw => ?_, fun hsw => ?_, fun hsw => ?_, fun hsw => ?_, fun hsw => ?_, fun hsw => ?_, fun hsw => ?_, fun hsw => ?_, trivial⟩
        · exact absurd hsw (by decide)
        · exact absurd hsw (by decide)
        · exact absurd hsw (by decide)
        · exact absurd hsw (by decide)
        · iterate 3 refine hK _ _ _ _ _ ?_
          refine Or.inr (Or.inl (yD0 (c4_readNot_36 _ (cS σ E 0 (ρ 0 0 6)) (sUp (pS ρ E 0 (ρ 0 0 6)) 0 0 7 (nI (cl + 1))) n N P S G Q hC4 hW4 hV4 hf4) ?_))
          rintro r ω ⟨rfl, hq⟩
          show K 0 153 [some (aR 74), some (aR 36), some (aI (nI cl)), some (aI (nI b)), some (aI (nI 3))] [] ω
          iterate 2 refine hK _ _ _ _ _ ?_
          refine ⟨rfl, ?_⟩
          rw [hcm, hk, if_pos hcf, hcg, ex_readNot x0 x1 x2 x3 x5 hP10 hS8 hG4 hQ20]
          exact ⟨fun i h1 h2 => (hq.1 i h1 h2).trans (hfr i h1), hq.2⟩
        · exact absurd hsw (by decide)
        · exact absurd hsw (by decide)
        · exact absurd hsw (by decide)
        · exact absurd hsw (by decide)
        · exact absurd hsw (by decide)
      · exact absurd (show false = true from bI_t h7) (by decide)
    · have hk : kindM (wordS (ρ 1 0) n b) = kmap 4 := kind_j hTB hbn (by decide) hwd
      rw [hw]
      iterate 4 refine hK _ _ _ _ _ ?_
      refine And.intro (fun _ => ?_) (fun h9 => absurd h9 (by decide))
      have L41 : (ρ 0 0 7 = 60 ∨ (cnt (kmap 4) = true ∧ ρ 2 0 (kmap 4).toNatClampNeg = mostS (kmap 4))) → K 0 41 [some (aR 74), some (aR 36), some (aI (nI cl)), some (aI (nI b)), some (aI (nI 4))] [] (cS σ E 0 (ρ 0 0 6)) := by
        intro hq
        iterate 4 refine hK _ _ _ _ _ ?_
        refine Or.inl (calD (c4_fail _ σ E 0 (ρ 0 0 6) 3 b) ?_)
        rintro r σ' ⟨rfl, hs9⟩
        rw [wr0] at hs9
        subst σ'
        show K 0 47 [some (aR 74), some (aR 36), some (aI (nI cl)), some (aI (nI b)), some (aI (nI 4))] [] (cS σ E 3 (nI b))
        iterate 3 refine hK _ _ _ _ _ ?_
        show K _ _ _ _ _
        rw [show (cS σ E 3 (nI b)) 74 0 0 = 3 from cS_0 σ E 3 (nI b)]
        refine hK _ _ _ _ _ ?_
        refine And.intro (fun h9 => absurd h9 (by decide)) (fun _ => ?_)
        refine hK _ _ _ _ _ ?_
        exact ⟨rfl, hbad 3 (by decide) (by rw [hk]; unfold cfM; rw [if_neg (by decide), if_pos hq])⟩
      iterate 3 refine hK _ _ _ _ _ ?_
      refine And.intro (fun h8 => L41 (Or.inl (by rw [hcl, show cl = 60 by have := (nI_leI (a := 60) (by decide) (by omega)).mp h8; omega]; rfl))) (fun h8 => ?_)
      have g8 : cl < 60 := Decidable.byContradiction fun q => h8 ((nI_leI (a := 60) (by decide) (by omega)).mpr (by omega))
      have hn60 : ¬ ρ 0 0 7 = 60 := fun q => by rw [hcl] at q; have := (nI_eq (b := 60) (by omega) (by decide)).mp q; omega
      iterate 3 refine hK _ _ _ _ _ ?_
      refine Or.inl (calD (c4_isFull_36 _ (cS σ E 0 (ρ 0 0 6)) P S G Q 4 (by decide) hP10 hS8 hG4 hQ20 d5 d1 d2 d3) ?_)
      rintro r σ' ⟨rfl, rfl⟩
      show K 0 38 [some (aR 74), some (aR 36), some (aI (nI cl)), some (aI (nI b)), some (aI (nI 4))] [aI (bI (flB P S G Q 4))] (cS σ E 0 (ρ 0 0 6))
      refine hK _ _ _ _ _ ?_
      refine And.intro (fun h7 => ?_) (fun h7 => ?_)
      · have hnf : flB P S G Q 4 = false := bI_f h7
        have hnf2 : ¬ 8 ≤ S := of_decide_eq_false hnf
        have hn3 : ¬ (ρ 0 0 7 = 60 ∨ (cnt (kmap 4) = true ∧ ρ 2 0 (kmap 4).toNatClampNeg = mostS (kmap 4))) := fun q => q.elim hn60 (fun q => by
          have q2 : ρ 2 0 2 = 8 := q.2
          rw [t2] at q2
          have := (nI_eq (b := 8) (by omega) (by decide)).mp q2
          omega)
        iterate 2 refine hK _ _ _ _ _ ?_
        refine And.intro (fun _ => ?_) (fun h6 => absurd h6 (by decide))
        have hcf : cfM ρ (kmap 4) = 0 := by
          unfold cfM
          rw [if_neg (by decide), if_neg hn3, if_neg (fun q => absurd q.1 (by decide))]
        iterate 2 refine hK _ _ _ _ _ ?_
        show K _ _ _ _ _
        rw [show (cS σ E 0 (ρ 0 0 6)) 74 0 0 = 0 from cS_0 σ E 0 (ρ 0 0 6)]
        refine hK _ _ _ _ _ ?_
        refine And.intro (fun _ => ?_) (fun h5 => absurd rfl h5)
        iterate 2 refine hK _ _ _ _ _ ?_
        refine ⟨fun hsw => ?_, fun hsw => ?_, fun hsw => ?_, fun hsw => ?_, fun hsw => ?_, fun hsw => ?_, fun hsw => ?_, fun hsw => ?_, fun hsw => ?_, fun hsw => ?_, trivial⟩
        · exact absurd hsw (by decide)
        · exact absurd hsw (by decide)
        · exact absurd hsw (by decide)
        · exact absurd hsw (by decide)
        · exact absurd hsw (by decide)
        · iterate 3 refine hK _ _ _ _ _ ?_
          refine Or.inr (Or.inl (yD0 (c4_readStranger_36 _ (cS σ E 0 (ρ 0 0 6)) (sUp (pS ρ E 0 (ρ 0 0 6)) 0 0 7 (nI (cl + 1))) n N P S G Q hC4 hW4 hV4 hf4 (by omega)) ?_))
          rintro r ω ⟨rfl, hq⟩
          show K 0 161 [some (aR 74), some (aR 36), some (aI (nI cl)), some (aI (nI b)), some (aI (nI 4))] [] ω
          iterate 2 refine hK _ _ _ _ _ ?_
          refine ⟨rfl, ?_⟩
          rw [hcm, hk, if_pos hcf, hcg, ex_readStranger x0 x1 x2 x3 x5 hP10 hS8 hG4 hQ20]
          exact ⟨fun i h1 h2 => (hq.1 i h1 h2).trans (hfr i h1), hq.2⟩
        · exact absurd hsw (by decide)
        · exact absurd hsw (by decide)
        · exact absurd hsw (by decide)
        · exact absurd hsw (by decide)
      · have hfl : 8 ≤ S := of_decide_eq_true (bI_t h7)
        exact L41 (Or.inr ⟨rfl, by show ρ 2 0 2 = 8; rw [t2, show S = 8 by omega]; rfl⟩)
    · have hk : kindM (wordS (ρ 1 0) n b) = kmap 5 := kind_j hTB hbn (by decide) hwd
      rw [hw]
      iterate 4 refine hK _ _ _ _ _ ?_
      refine And.intro (fun _ => ?_) (fun h9 => absurd h9 (by decide))
      have L41 : (ρ 0 0 7 = 60 ∨ (cnt (kmap 5) = true ∧ ρ 2 0 (kmap 5).toNatClampNeg = mostS (kmap 5))) → K 0 41 [some (aR 74), some (aR 36), some (aI (nI cl)), some (aI (nI b)), some (aI (nI 5))] [] (cS σ E 0 (ρ 0 0 6)) := by
        intro hq
        iterate 4 refine hK _ _ _ _ _ ?_
        refine Or.inl (calD (c4_fail _ σ E 0 (ρ 0 0 6) 3 b) ?_)
        rintro r σ' ⟨rfl, hs9⟩
        rw [wr0] at hs9
        subst σ'
        show K 0 47 [some (aR 74), some (aR 36), some (aI (nI cl)), some (aI (nI b)), some (aI (nI 5))] [] (cS σ E 3 (nI b))
        iterate 3 refine hK _ _ _ _ _ ?_
        show K _ _ _ _ _
        rw [show (cS σ E 3 (nI b)) 74 0 0 = 3 from cS_0 σ E 3 (nI b)]
        refine hK _ _ _ _ _ ?_
        refine And.intro (fun h9 => absurd h9 (by decide)) (fun _ => ?_)
        refine hK _ _ _ _ _ ?_
        exact ⟨rfl, hbad 3 (by decide) (by rw [hk]; unfold cfM; rw [if_neg (by decide), if_pos hq])⟩
      iterate 3 refine hK _ _ _ _ _ ?_
      refine And.intro (fun h8 => L41 (Or.inl (by rw [hcl, show cl = 60 by have := (nI_leI (a := 60) (by decide) (by omega)).mp h8; omega]; rfl))) (fun h8 => ?_)
      have g8 : cl < 60 := Decidable.byContradiction fun q => h8 ((nI_leI (a := 60) (by decide) (by omega)).mpr (by omega))
      have hn60 : ¬ ρ 0 0 7 = 60 := fun q => by rw [hcl] at q; have := (nI_eq (b := 60) (by omega) (by decide)).mp q; omega
      iterate 3 refine hK _ _ _ _ _ ?_
      refine Or.inl (calD (c4_isFull_36 _ (cS σ E 0 (ρ 0 0 6)) P S G Q 5 (by decide) hP10 hS8 hG4 hQ20 d5 d1 d2 d3) ?_)
      rintro r σ' ⟨rfl, rfl⟩
      show K 0 38 [some (aR 74), some (aR 36), some (aI (nI cl)), some (aI (nI b)), some (aI (nI 5))] [aI (bI (flB P S G Q 5))] (cS σ E 0 (ρ 0 0 6))
      refine hK _ _ _ _ _ ?_
      refine And.intro (fun h7 => ?_) (fun h7 => ?_)
      · have hnf : flB P S G Q 5 = false := bI_f h7
        have hn3 : ¬ (ρ 0 0 7 = 60 ∨ (cnt (kmap 5) = true ∧ ρ 2 0 (kmap 5).toNatClampNeg = mostS (kmap 5))) := fun q => q.elim hn60 (fun q => absurd q.1 (by decide))
        iterate 2 refine hK _ _ _ _ _ ?_
        refine And.intro (fun _ => ?_) (fun h6 => absurd h6 (by decide))
        have hcf : cfM ρ (kmap 5) = 0 := by
          unfold cfM
          rw [if_neg (by decide), if_neg hn3, if_neg (fun q => absurd q.1 (by decide))]
        iterate 2 refine hK _ _ _ _ _ ?_
        show K _ _ _ _ _
        rw [show (cS σ E 0 (ρ 0 0 6)) 74 0 0 = 0 from cS_0 σ E 0 (ρ 0 0 6)]
        refine hK _ _ _ _ _ ?_
        refine And.intro (fun _ => ?_) (fun h5 => absurd rfl h5)
        iterate 2 refine hK _ _ _ _ _ ?_
        refine ⟨fun hsw => ?_, fun hsw => ?_, fun hsw => ?_, fun hsw => ?_, fun hsw => ?_, fun hsw => ?_, fun hsw => ?_, fun hsw => ?_, fun hsw => ?_, fun hsw => ?_, trivial⟩
        · exact absurd hsw (by decide)
        · exact absurd hsw (by decide)
        · exact absurd hsw (by decide)
        · exact absurd hsw (by decide)
        · exact absurd hsw (by decide)
        · exact absurd hsw (by decide)
        · iterate 3 refine hK _ _ _ _ _ ?_
          refine Or.inr (Or.inl (yD0 (c4_readFinds_36 _ (cS σ E 0 (ρ 0 0 6)) (sUp (pS ρ E 0 (ρ 0 0 6)) 0 0 7 (nI (cl + 1))) n N P S G Q hC4 hW4 hV4 hf4) ?_))
          rintro r ω ⟨rfl, hq⟩
          show K 0 169 [some (aR 74), some (aR 36), some (aI (nI cl)), some (aI (nI b)), some (aI (nI 5))] [] ω
          iterate 2 refine hK _ _ _ _ _ ?_
          refine ⟨rfl, ?_⟩
          rw [hcm, hk, if_pos hcf, hcg, ex_readFinds x0 x1 x2 x3 x5 hP10 hS8 hG4 hQ20]
          exact ⟨fun i h1 h2 => (hq.1 i h1 h2).trans (hfr i h1), hq.2⟩
        · exact absurd hsw (by decide)
        · exact absurd hsw (by decide)
        · exact absurd hsw (by decide)
      · exact absurd (show false = true from bI_t h7) (by decide)
    · have hk : kindM (wordS (ρ 1 0) n b) = kmap 6 := kind_j hTB hbn (by decide) hwd
      rw [hw]
      iterate 4 refine hK _ _ _ _ _ ?_
      refine And.intro (fun _ => ?_) (fun h9 => absurd h9 (by decide))
      have L41 : (ρ 0 0 7 = 60 ∨ (cnt (kmap 6) = true ∧ ρ 2 0 (kmap 6).toNatClampNeg = mostS (kmap 6))) → K 0 41 [some (aR 74), some (aR 36), some (aI (nI cl)), some (aI (nI b)), some (aI (nI 6))] [] (cS σ E 0 (ρ 0 0 6)) := by
        intro hq
        iterate 4 refine hK _ _ _ _ _ ?_
        refine Or.inl (calD (c4_fail _ σ E 0 (ρ 0 0 6) 3 b) ?_)
        rintro r σ' ⟨rfl, hs9⟩
        rw [wr0] at hs9
        subst σ'
        show K 0 47 [some (aR 74), some (aR 36), some (aI (nI cl)), some (aI (nI b)), some (aI (nI 6))] [] (cS σ E 3 (nI b))
        iterate 3 refine hK _ _ _ _ _ ?_
        show K _ _ _ _ _
        rw [show (cS σ E 3 (nI b)) 74 0 0 = 3 from cS_0 σ E 3 (nI b)]
        refine hK _ _ _ _ _ ?_
        refine And.intro (fun h9 => absurd h9 (by decide)) (fun _ => ?_)
        refine hK _ _ _ _ _ ?_
        exact ⟨rfl, hbad 3 (by decide) (by rw [hk]; unfold cfM; rw [if_neg (by decide), if_pos hq])⟩
      iterate 3 refine hK _ _ _ _ _ ?_
      refine And.intro (fun h8 => L41 (Or.inl (by rw [hcl, show cl = 60 by have := (nI_leI (a := 60) (by decide) (by omega)).mp h8; omega]; rfl))) (fun h8 => ?_)
      have g8 : cl < 60 := Decidable.byContradiction fun q => h8 ((nI_leI (a := 60) (by decide) (by omega)).mpr (by omega))
      have hn60 : ¬ ρ 0 0 7 = 60 := fun q => by rw [hcl] at q; have := (nI_eq (b := 60) (by omega) (by decide)).mp q; omega
      iterate 3 refine hK _ _ _ _ _ ?_
      refine Or.inl (calD (c4_isFull_36 _ (cS σ E 0 (ρ 0 0 6)) P S G Q 6 (by decide) hP10 hS8 hG4 hQ20 d5 d1 d2 d3) ?_)
      rintro r σ' ⟨rfl, rfl⟩
      show K 0 38 [some (aR 74), some (aR 36), some (aI (nI cl)), some (aI (nI b)), some (aI (nI 6))] [aI (bI (flB P S G Q 6))] (cS σ E 0 (ρ 0 0 6))
      refine hK _ _ _ _ _ ?_
      refine And.intro (fun h7 => ?_) (fun h7 => ?_)
      · have hnf : flB P S G Q 6 = false := bI_f h7
        have hn3 : ¬ (ρ 0 0 7 = 60 ∨ (cnt (kmap 6) = true ∧ ρ 2 0 (kmap 6).toNatClampNeg = mostS (kmap 6))) := fun q => q.elim hn60 (fun q => absurd q.1 (by decide))
        iterate 2 refine hK _ _ _ _ _ ?_
        refine And.intro (fun _ => ?_) (fun h6 => absurd h6 (by decide))
        have hcf : cfM ρ (kmap 6) = 0 := by
          unfold cfM
          rw [if_neg (by decide), if_neg hn3, if_neg (fun q => absurd q.1 (by decide))]
        iterate 2 refine hK _ _ _ _ _ ?_
        show K _ _ _ _ _
        rw [show (cS σ E 0 (ρ 0 0 6)) 74 0 0 = 0 from cS_0 σ E 0 (ρ 0 0 6)]
        refine hK _ _ _ _ _ ?_
        refine And.intro (fun _ => ?_) (fun h5 => absurd rfl h5)
        iterate 2 refine hK _ _ _ _ _ ?_
        refine ⟨fun hsw => ?_, fun hsw => ?_, fun hsw => ?_, fun hsw => ?_, fun hsw => ?_, fun hsw => ?_, fun hsw => ?_, fun hsw => ?_, fun hsw => ?_, fun hsw => ?_, trivial⟩
        · exact absurd hsw (by decide)
        · exact absurd hsw (by decide)
        · exact absurd hsw (by decide)
        · exact absurd hsw (by decide)
        · exact absurd hsw (by decide)
        · exact absurd hsw (by decide)
        · exact absurd hsw (by decide)
        · iterate 3 refine hK _ _ _ _ _ ?_
          refine Or.inr (Or.inl (yD0 (c4_readChance_36 _ (cS σ E 0 (ρ 0 0 6)) (sUp (pS ρ E 0 (ρ 0 0 6)) 0 0 7 (nI (cl + 1))) n N P S G Q hC4 hW4 hV4 hf4) ?_))
          rintro r ω ⟨rfl, hq⟩
          show K 0 177 [some (aR 74), some (aR 36), some (aI (nI cl)), some (aI (nI b)), some (aI (nI 6))] [] ω
          iterate 2 refine hK _ _ _ _ _ ?_
          refine ⟨rfl, ?_⟩
          rw [hcm, hk, if_pos hcf, hcg, ex_readChance x0 x1 x2 x3 x5 hP10 hS8 hG4 hQ20]
          exact ⟨fun i h1 h2 => (hq.1 i h1 h2).trans (hfr i h1), hq.2⟩
        · exact absurd hsw (by decide)
        · exact absurd hsw (by decide)
      · exact absurd (show false = true from bI_t h7) (by decide)
    · have hk : kindM (wordS (ρ 1 0) n b) = kmap 7 := kind_j hTB hbn (by decide) hwd
      rw [hw]
      iterate 4 refine hK _ _ _ _ _ ?_
      refine And.intro (fun _ => ?_) (fun h9 => absurd h9 (by decide))
      have L41 : (ρ 0 0 7 = 60 ∨ (cnt (kmap 7) = true ∧ ρ 2 0 (kmap 7).toNatClampNeg = mostS (kmap 7))) → K 0 41 [some (aR 74), some (aR 36), some (aI (nI cl)), some (aI (nI b)), some (aI (nI 7))] [] (cS σ E 0 (ρ 0 0 6)) := by
        intro hq
        iterate 4 refine hK _ _ _ _ _ ?_
        refine Or.inl (calD (c4_fail _ σ E 0 (ρ 0 0 6) 3 b) ?_)
        rintro r σ' ⟨rfl, hs9⟩
        rw [wr0] at hs9
        subst σ'
        show K 0 47 [some (aR 74), some (aR 36), some (aI (nI cl)), some (aI (nI b)), some (aI (nI 7))] [] (cS σ E 3 (nI b))
        iterate 3 refine hK _ _ _ _ _ ?_
        show K _ _ _ _ _
        rw [show (cS σ E 3 (nI b)) 74 0 0 = 3 from cS_0 σ E 3 (nI b)]
        refine hK _ _ _ _ _ ?_
        refine And.intro (fun h9 => absurd h9 (by decide)) (fun _ => ?_)
        refine hK _ _ _ _ _ ?_
        exact ⟨rfl, hbad 3 (by decide) (by rw [hk]; unfold cfM; rw [if_neg (by decide), if_pos hq])⟩
      iterate 3 refine hK _ _ _ _ _ ?_
      refine And.intro (fun h8 => L41 (Or.inl (by rw [hcl, show cl = 60 by have := (nI_leI (a := 60) (by decide) (by omega)).mp h8; omega]; rfl))) (fun h8 => ?_)
      have g8 : cl < 60 := Decidable.byContradiction fun q => h8 ((nI_leI (a := 60) (by decide) (by omega)).mpr (by omega))
      have hn60 : ¬ ρ 0 0 7 = 60 := fun q => by rw [hcl] at q; have := (nI_eq (b := 60) (by omega) (by decide)).mp q; omega
      iterate 3 refine hK _ _ _ _ _ ?_
      refine Or.inl (calD (c4_isFull_36 _ (cS σ E 0 (ρ 0 0 6)) P S G Q 7 (by decide) hP10 hS8 hG4 hQ20 d5 d1 d2 d3) ?_)
      rintro r σ' ⟨rfl, rfl⟩
      show K 0 38 [some (aR 74), some (aR 36), some (aI (nI cl)), some (aI (nI b)), some (aI (nI 7))] [aI (bI (flB P S G Q 7))] (cS σ E 0 (ρ 0 0 6))
      refine hK _ _ _ _ _ ?_
      refine And.intro (fun h7 => ?_) (fun h7 => ?_)
      · have hnf : flB P S G Q 7 = false := bI_f h7
        have hn3 : ¬ (ρ 0 0 7 = 60 ∨ (cnt (kmap 7) = true ∧ ρ 2 0 (kmap 7).toNatClampNeg = mostS (kmap 7))) := fun q => q.elim hn60 (fun q => absurd q.1 (by decide))
        iterate 2 refine hK _ _ _ _ _ ?_
        refine And.intro (fun _ => ?_) (fun h6 => absurd h6 (by decide))
        have hcf : cfM ρ (kmap 7) = 0 := by
          unfold cfM
          rw [if_neg (by decide), if_neg hn3, if_neg (fun q => absurd q.1 (by decide))]
        iterate 2 refine hK _ _ _ _ _ ?_
        show K _ _ _ _ _
        rw [show (cS σ E 0 (ρ 0 0 6)) 74 0 0 = 0 from cS_0 σ E 0 (ρ 0 0 6)]
        refine hK _ _ _ _ _ ?_
        refine And.intro (fun _ => ?_) (fun h5 => absurd rfl h5)
        iterate 2 refine hK _ _ _ _ _ ?_
        refine ⟨fun hsw => ?_, fun hsw => ?_, fun hsw => ?_, fun hsw => ?_, fun hsw => ?_, fun hsw => ?_, fun hsw => ?_, fun hsw => ?_, fun hsw => ?_, fun hsw => ?_, trivial⟩
        · exact absurd hsw (by decide)
        · exact absurd hsw (by decide)
        · exact absurd hsw (by decide)
        · exact absurd hsw (by decide)
        · exact absurd hsw (by decide)
        · exact absurd hsw (by decide)
        · exact absurd hsw (by decide)
        · exact absurd hsw (by decide)
        · iterate 3 refine hK _ _ _ _ _ ?_
          refine Or.inr (Or.inl (yD0 (c4_readSign_36 _ (cS σ E 0 (ρ 0 0 6)) (sUp (pS ρ E 0 (ρ 0 0 6)) 0 0 7 (nI (cl + 1))) n N P S G Q hC4 hW4 hV4 hf4) ?_))
          rintro r ω ⟨rfl, hq⟩
          show K 0 185 [some (aR 74), some (aR 36), some (aI (nI cl)), some (aI (nI b)), some (aI (nI 7))] [] ω
          iterate 2 refine hK _ _ _ _ _ ?_
          refine ⟨rfl, ?_⟩
          rw [hcm, hk, if_pos hcf, hcg, ex_readSign x0 x1 x2 x3 x5 hP10 hS8 hG4 hQ20]
          exact ⟨fun i h1 h2 => (hq.1 i h1 h2).trans (hfr i h1), hq.2⟩
        · exact absurd hsw (by decide)
      · exact absurd (show false = true from bI_t h7) (by decide)
    · have hk : kindM (wordS (ρ 1 0) n b) = kmap 8 := kind_j hTB hbn (by decide) hwd
      rw [hw]
      iterate 4 refine hK _ _ _ _ _ ?_
      refine And.intro (fun _ => ?_) (fun h9 => absurd h9 (by decide))
      have L41 : (ρ 0 0 7 = 60 ∨ (cnt (kmap 8) = true ∧ ρ 2 0 (kmap 8).toNatClampNeg = mostS (kmap 8))) → K 0 41 [some (aR 74), some (aR 36), some (aI (nI cl)), some (aI (nI b)), some (aI (nI 8))] [] (cS σ E 0 (ρ 0 0 6)) := by
        intro hq
        iterate 4 refine hK _ _ _ _ _ ?_
        refine Or.inl (calD (c4_fail _ σ E 0 (ρ 0 0 6) 3 b) ?_)
        rintro r σ' ⟨rfl, hs9⟩
        rw [wr0] at hs9
        subst σ'
        show K 0 47 [some (aR 74), some (aR 36), some (aI (nI cl)), some (aI (nI b)), some (aI (nI 8))] [] (cS σ E 3 (nI b))
        iterate 3 refine hK _ _ _ _ _ ?_
        show K _ _ _ _ _
        rw [show (cS σ E 3 (nI b)) 74 0 0 = 3 from cS_0 σ E 3 (nI b)]
        refine hK _ _ _ _ _ ?_
        refine And.intro (fun h9 => absurd h9 (by decide)) (fun _ => ?_)
        refine hK _ _ _ _ _ ?_
        exact ⟨rfl, hbad 3 (by decide) (by rw [hk]; unfold cfM; rw [if_neg (by decide), if_pos hq])⟩
      iterate 3 refine hK _ _ _ _ _ ?_
      refine And.intro (fun h8 => L41 (Or.inl (by rw [hcl, show cl = 60 by have := (nI_leI (a := 60) (by decide) (by omega)).mp h8; omega]; rfl))) (fun h8 => ?_)
      have g8 : cl < 60 := Decidable.byContradiction fun q => h8 ((nI_leI (a := 60) (by decide) (by omega)).mpr (by omega))
      have hn60 : ¬ ρ 0 0 7 = 60 := fun q => by rw [hcl] at q; have := (nI_eq (b := 60) (by omega) (by decide)).mp q; omega
      iterate 3 refine hK _ _ _ _ _ ?_
      refine Or.inl (calD (c4_isFull_36 _ (cS σ E 0 (ρ 0 0 6)) P S G Q 8 (by decide) hP10 hS8 hG4 hQ20 d5 d1 d2 d3) ?_)
      rintro r σ' ⟨rfl, rfl⟩
      show K 0 38 [some (aR 74), some (aR 36), some (aI (nI cl)), some (aI (nI b)), some (aI (nI 8))] [aI (bI (flB P S G Q 8))] (cS σ E 0 (ρ 0 0 6))
      refine hK _ _ _ _ _ ?_
      refine And.intro (fun h7 => ?_) (fun h7 => ?_)
      · have hnf : flB P S G Q 8 = false := bI_f h7
        have hnf2 : ¬ 4 ≤ G := of_decide_eq_false hnf
        have hn3 : ¬ (ρ 0 0 7 = 60 ∨ (cnt (kmap 8) = true ∧ ρ 2 0 (kmap 8).toNatClampNeg = mostS (kmap 8))) := fun q => q.elim hn60 (fun q => by
          have q2 : ρ 2 0 3 = 4 := q.2
          rw [t3] at q2
          have := (nI_eq (b := 4) (by omega) (by decide)).mp q2
          omega)
        iterate 2 refine hK _ _ _ _ _ ?_
        refine And.intro (fun _ => ?_) (fun h6 => absurd h6 (by decide))
        have hcf : cfM ρ (kmap 8) = 0 := by
          unfold cfM
          rw [if_neg (by decide), if_neg hn3, if_neg (fun q => absurd q.1 (by decide))]
        iterate 2 refine hK _ _ _ _ _ ?_
        show K _ _ _ _ _
        rw [show (cS σ E 0 (ρ 0 0 6)) 74 0 0 = 0 from cS_0 σ E 0 (ρ 0 0 6)]
        refine hK _ _ _ _ _ ?_
        refine And.intro (fun _ => ?_) (fun h5 => absurd rfl h5)
        iterate 2 refine hK _ _ _ _ _ ?_
        refine ⟨fun hsw => ?_, fun hsw => ?_, fun hsw => ?_, fun hsw => ?_, fun hsw => ?_, fun hsw => ?_, fun hsw => ?_, fun hsw => ?_, fun hsw => ?_, fun hsw => ?_, trivial⟩
        · exact absurd hsw (by decide)
        · exact absurd hsw (by decide)
        · exact absurd hsw (by decide)
        · exact absurd hsw (by decide)
        · exact absurd hsw (by decide)
        · exact absurd hsw (by decide)
        · exact absurd hsw (by decide)
        · exact absurd hsw (by decide)
        · exact absurd hsw (by decide)
        · iterate 3 refine hK _ _ _ _ _ ?_
          refine Or.inr (Or.inl (yD0 (c4_readGuide_36 _ (cS σ E 0 (ρ 0 0 6)) (sUp (pS ρ E 0 (ρ 0 0 6)) 0 0 7 (nI (cl + 1))) n N P S G Q hC4 hW4 hV4 hf4 (by omega)) ?_))
          rintro r ω ⟨rfl, hq⟩
          show K 0 193 [some (aR 74), some (aR 36), some (aI (nI cl)), some (aI (nI b)), some (aI (nI 8))] [] ω
          iterate 2 refine hK _ _ _ _ _ ?_
          refine ⟨rfl, ?_⟩
          rw [hcm, hk, if_pos hcf, hcg, ex_readGuide x0 x1 x2 x3 x5 hP10 hS8 hG4 hQ20]
          exact ⟨fun i h1 h2 => (hq.1 i h1 h2).trans (hfr i h1), hq.2⟩
      · have hfl : 4 ≤ G := of_decide_eq_true (bI_t h7)
        exact L41 (Or.inr ⟨rfl, by show ρ 2 0 3 = 4; rw [t3, show G = 4 by omega]; rfl⟩)
    · have hk : kindM (wordS (ρ 1 0) n b) = kmap 9 := kind_j hTB hbn (by decide) hwd
      rw [hw]
      iterate 4 refine hK _ _ _ _ _ ?_
      refine And.intro (fun _ => ?_) (fun h9 => absurd h9 (by decide))
      have L41 : (ρ 0 0 7 = 60 ∨ (cnt (kmap 9) = true ∧ ρ 2 0 (kmap 9).toNatClampNeg = mostS (kmap 9))) → K 0 41 [some (aR 74), some (aR 36), some (aI (nI cl)), some (aI (nI b)), some (aI (nI 9))] [] (cS σ E 0 (ρ 0 0 6)) := by
        intro hq
        iterate 4 refine hK _ _ _ _ _ ?_
        refine Or.inl (calD (c4_fail _ σ E 0 (ρ 0 0 6) 3 b) ?_)
        rintro r σ' ⟨rfl, hs9⟩
        rw [wr0] at hs9
        subst σ'
        show K 0 47 [some (aR 74), some (aR 36), some (aI (nI cl)), some (aI (nI b)), some (aI (nI 9))] [] (cS σ E 3 (nI b))
        iterate 3 refine hK _ _ _ _ _ ?_
        show K _ _ _ _ _
        rw [show (cS σ E 3 (nI b)) 74 0 0 = 3 from cS_0 σ E 3 (nI b)]
        refine hK _ _ _ _ _ ?_
        refine And.intro (fun h9 => absurd h9 (by decide)) (fun _ => ?_)
        refine hK _ _ _ _ _ ?_
        exact ⟨rfl, hbad 3 (by decide) (by rw [hk]; unfold cfM; rw [if_neg (by decide), if_pos hq])⟩
      iterate 3 refine hK _ _ _ _ _ ?_
      refine And.intro (fun h8 => L41 (Or.inl (by rw [hcl, show cl = 60 by have := (nI_leI (a := 60) (by decide) (by omega)).mp h8; omega]; rfl))) (fun h8 => ?_)
      have g8 : cl < 60 := Decidable.byContradiction fun q => h8 ((nI_leI (a := 60) (by decide) (by omega)).mpr (by omega))
      have hn60 : ¬ ρ 0 0 7 = 60 := fun q => by rw [hcl] at q; have := (nI_eq (b := 60) (by omega) (by decide)).mp q; omega
      iterate 3 refine hK _ _ _ _ _ ?_
      refine Or.inl (calD (c4_isFull_36 _ (cS σ E 0 (ρ 0 0 6)) P S G Q 9 (by decide) hP10 hS8 hG4 hQ20 d5 d1 d2 d3) ?_)
      rintro r σ' ⟨rfl, rfl⟩
      show K 0 38 [some (aR 74), some (aR 36), some (aI (nI cl)), some (aI (nI b)), some (aI (nI 9))] [aI (bI (flB P S G Q 9))] (cS σ E 0 (ρ 0 0 6))
      refine hK _ _ _ _ _ ?_
      refine And.intro (fun h7 => ?_) (fun h7 => ?_)
      · have hnf : flB P S G Q 9 = false := bI_f h7
        have hn3 : ¬ (ρ 0 0 7 = 60 ∨ (cnt (kmap 9) = true ∧ ρ 2 0 (kmap 9).toNatClampNeg = mostS (kmap 9))) := fun q => q.elim hn60 (fun q => absurd q.1 (by decide))
        iterate 2 refine hK _ _ _ _ _ ?_
        refine And.intro (fun _ => ?_) (fun h6 => absurd h6 (by decide))
        have hcf : cfM ρ (kmap 9) = 0 := by
          unfold cfM
          rw [if_neg (by decide), if_neg hn3, if_neg (fun q => absurd q.1 (by decide))]
        iterate 2 refine hK _ _ _ _ _ ?_
        show K _ _ _ _ _
        rw [show (cS σ E 0 (ρ 0 0 6)) 74 0 0 = 0 from cS_0 σ E 0 (ρ 0 0 6)]
        refine hK _ _ _ _ _ ?_
        refine And.intro (fun _ => ?_) (fun h5 => absurd rfl h5)
        iterate 2 refine hK _ _ _ _ _ ?_
        refine ⟨fun hsw => ?_, fun hsw => ?_, fun hsw => ?_, fun hsw => ?_, fun hsw => ?_, fun hsw => ?_, fun hsw => ?_, fun hsw => ?_, fun hsw => ?_, fun hsw => ?_, trivial⟩
        · iterate 3 refine hK _ _ _ _ _ ?_
          refine Or.inr (Or.inl (yD0 (c4_readLaw_36 _ (cS σ E 0 (ρ 0 0 6)) (sUp (pS ρ E 0 (ρ 0 0 6)) 0 0 7 (nI (cl + 1))) n N P S G Q hC4 hW4 hV4 hf4) ?_))
          rintro r ω ⟨rfl, hq⟩
          show K 0 201 [some (aR 74), some (aR 36), some (aI (nI cl)), some (aI (nI b)), some (aI (nI 9))] [] ω
          refine hK _ _ _ _ _ ?_
          refine ⟨rfl, ?_⟩
          rw [hcm, hk, if_pos hcf, hcg, ex_readLaw x0 x1 x2 x3 x5 hP10 hS8 hG4 hQ20]
          exact ⟨fun i h1 h2 => (hq.1 i h1 h2).trans (hfr i h1), hq.2⟩
        · exact absurd hsw (by decide)
        · exact absurd hsw (by decide)
        · exact absurd hsw (by decide)
        · exact absurd hsw (by decide)
        · exact absurd hsw (by decide)
        · exact absurd hsw (by decide)
        · exact absurd hsw (by decide)
        · exact absurd hsw (by decide)
        · exact absurd hsw (by decide)
      · exact absurd (show false = true from bI_t h7) (by decide)
  · have hk : kindM (wordS (ρ 1 0) n b) = -1 := kind_no hTB hbn (fun k hk => hno k (Nat.zero_le _) hk)
    rw [hw]
    iterate 4 refine hK _ _ _ _ _ ?_
    refine And.intro (fun h9 => absurd rfl h9) (fun _ => ?_)
    iterate 4 refine hK _ _ _ _ _ ?_
    refine Or.inl (calD (c4_fail _ σ E 0 (ρ 0 0 6) 1 b) ?_)
    rintro r σ' ⟨rfl, hs9⟩
    rw [wr0] at hs9
    subst σ'
    show K 0 23 [some (aR 74), some (aR 36), some (aI (nI cl)), some (aI (nI b)), some (aI (-1))] [] (cS σ E 1 (nI b))
    iterate 3 refine hK _ _ _ _ _ ?_
    show K _ _ _ _ _
    rw [show (cS σ E 1 (nI b)) 74 0 0 = 1 from cS_0 σ E 1 (nI b)]
    refine hK _ _ _ _ _ ?_
    refine And.intro (fun h9 => absurd h9 (by decide)) (fun _ => ?_)
    refine hK _ _ _ _ _ ?_
    exact ⟨rfl, hbad 1 (by decide) (by rw [hk]; rfl)⟩
end
