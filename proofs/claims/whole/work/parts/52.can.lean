/-! THE CLASS'S COURSE: who can lead -/
/-- all that a method of a course rests on -/
def CE (σ c : sMem) (cm : Nat → Bool) (v kd N P S G : Nat) (D : DA) (m j : Nat) (mv : Bool) (B : Nat) : Prop := TT σ c v N P S ∧ MC c N P S ∧ SS σ c cm N S G ∧ SC c N P S G ∧ CR σ c v kd N P S G D m j mv ∧ DV c N P S B D
theorem CP_at {σ c : sMem} {N P S B m p : Nat} {D : DA} (hM : MC c N P S) (hV : DV c N P S B D) (hp : p < P) (hm : m ≤ 999) (h : CP σ c N D m true p) : ∃ a w : Nat, a < N ∧ w ≤ 1000000 ∧ σ 82 0 p = nI a ∧ σ 83 0 p = nI w ∧ ∀ x, (ouP c p && atP c (pQ c p) x m 12 (D.1 p)) = decide (a = x ∧ w = m) := by
  have hq := (hM.2.2.2.2.1 p hp).2.1.2
  cases ho : ouP c p with
  | true =>
    obtain ⟨k, hk, hj, hmv, e1, e2⟩ := h.1 ho
    obtain ⟨b1, b2, b3⟩ := hV.1 p hp ho
    have hi := fun x => at_iff (x := x) hM.1 hq b1 b2 hk hj (hmv rfl)
    have f6 := fN_660 hM.1 hq b1 b2
    have hpt := pth_at hM.1 hq k (D.1 p).1 (D.1 p).2 b1 b2 hk
    refine ⟨_, _, hpt.1, ?_, e1, e2, fun x => ?_⟩
    · have h3 := hpt.2.2.1
      have : (pth c (pQ c p) k (D.1 p)).2 ≤ 2319 := by
        show (pth c (pQ c p) k ((D.1 p).1, (D.1 p).2)).2 ≤ 2319
        omega
      omega
    · rw [Bool.true_and]
      have h5 := hi x
      generalize pth c (pQ c p) k (D.1 p) = z at h5 ⊢
      obtain ⟨z1, z2⟩ := z
      cases ha : atP c (pQ c p) x m 12 (D.1 p) with
      | true =>
        have := h5.mp ha
        rw [Prod.mk.injEq] at this
        exact (decide_eq_true this).symm
      | false =>
        refine (decide_eq_false fun q => ?_).symm
        have : atP c (pQ c p) x m 12 (D.1 p) = true := h5.mpr (by rw [Prod.mk.injEq]; exact q)
        rw [ha] at this; cases this
  | false =>
    obtain ⟨e2, a, ha, e1⟩ := h.2 ho
    exact ⟨a, 1000000, ha, Nat.le_refl _, e1, e2, fun x => by rw [Bool.false_and]; exact (decide_eq_false (fun z => by omega)).symm⟩
def gC (o : Option Nat) : Int32 := match o with
  | none => -1
  | some g => nI (100 + g)
section
variable {l : Launch} {D0 : va_G} {b0 : Nat} {ty : Nat → ClassId}
theorem c0_canLead_36 (d : Nat) (σ c : sMem) (cm : Nat → Bool) (kd N P S G : Nat) (D : DA) (m j B : Nat) (h : CE σ c cm 36 kd N P S G D m j true B) (hm : m ≤ 999) (p s : Nat) (hp : p < P) (hs : s < S) (hf : fN c (D.2.1 s).1 (sY c s) < 1000000) : sMet l D0 b0 ty lay d mX0_canLead [aR 81, aI (nI p), aI (nI s), aI (nI m)] σ (fun r σ' => r = [aI (bI (caA c D p s m))] ∧ σ' = σ) := by
  refine sMet_intro lay_nd kX0_canLead xX0_ok (by decide +kernel) rfl ?_
  intro K hK
  obtain ⟨hT, hM, hS, hSC, ⟨hO, hA, hC, hW⟩, hV⟩ := h
  have hN := hM.1.1.1
  have hP := hM.2.2.1
  have hS8 := hM.2.2.2.1
  obtain ⟨x1, x2, x3, x4, x5, x6, x7⟩ := hV.2.1 s hs
  obtain ⟨⟨ex, hx⟩, ⟨ey, hy⟩, ⟨et, ht⟩, hxy⟩ := hM.2.2.2.2.2 s hs
  have g84 : σ 84 0 s = nI (D.2.1 s).1 := (hC.1 s hs).1
  have g11 : σ 47 0 s = nI (sY c s) := (hT.2.2.2.2.2 s hs).2.1
  obtain ⟨a, w, ha, hw, e82, e83, hat⟩ := CP_at hM hV hp hm (hA p hp)
  obtain ⟨⟨ea, hpa⟩, ⟨eq, hq⟩, -⟩ := hM.2.2.2.2.1 p hp
  have g6 : σ 42 0 p = nI (pQ c p) := (hT.2.2.2.2.1 p hp).2.1
  have g9 : σ 45 0 p = c 6 p 4 := (hT.2.2.2.2.1 p hp).2.2.2.2
  have gm : σ 39 (sY c s) (pQ c p) = nI (fN c (sY c s) (pQ c p)) := (hT.2.2.2.1 _ _ hy hq).1
  have hle := (hM.1.1.2.1 (sY c s) (pQ c p) hy hq).2.1
  have hno : ∀ b : Bool, b = false → bI b = 0 := fun b e => by rw [e]; rfl
  iterate 2 refine hK _ _ _ _ ?_
  show K _ _ _ _
  rw [show σ 81 0 0 = nI 36 from hO.1]
  show K _ _ _ _
  rw [show (nI 36).toNatClampNeg = 36 from rfl]
  iterate 3 refine hK _ _ _ _ ?_
  refine And.intro (vp_in_nI (n := s) (by omega) (by decide)) ?_
  rw [nI_clamp (show s < 2 ^ 31 by omega)]
  rw [show σ 47 0 s = nI (sY c s) from g11]
  iterate 5 refine hK _ _ _ _ ?_
  refine And.intro (vp_in_nI (n := p) (by omega) (by decide)) ?_
  rw [nI_clamp (show p < 2 ^ 31 by omega)]
  rw [show σ 83 0 p = nI w from e83]
  iterate 2 refine hK _ _ _ _ ?_
  refine And.intro (fun h1 => ?_) (fun h1 => ?_)
  · iterate 2 refine hK _ _ _ _ ?_
    exact ⟨Or.inl rfl, by rw [hno _ (by unfold caA; rw [hat, decide_eq_false (fun q => h1 (by rw [q.2]))]; try simp)]; rfl, rfl⟩
  · have hwm : w = m := (nI_eq (by omega) (by omega)).mp h1
    iterate 4 refine hK _ _ _ _ ?_
    refine And.intro (vp_in_nI (n := p) (by omega) (by decide)) ?_
    rw [nI_clamp (show p < 2 ^ 31 by omega)]
    rw [show σ 82 0 p = nI a from e82]
    iterate 4 refine hK _ _ _ _ ?_
    refine And.intro (vp_in_nI (n := s) (by omega) (by decide)) ?_
    rw [nI_clamp (show s < 2 ^ 31 by omega)]
    rw [show σ 84 0 s = nI (D.2.1 s).1 from g84]
    refine hK _ _ _ _ ?_
    refine And.intro (fun h2 => ?_) (fun h2 => ?_)
    · iterate 2 refine hK _ _ _ _ ?_
      exact ⟨Or.inl rfl, by rw [hno _ (by unfold caA; rw [hat, decide_eq_false (fun q => h2 (by rw [q.1]))]; try simp)]; rfl, rfl⟩
    · have hax : a = (D.2.1 s).1 := (nI_eq (by omega) (by omega)).mp h2
      iterate 2 refine hK _ _ _ _ ?_
      show K _ _ _ _
      rw [show σ 81 0 0 = nI 36 from hO.1]
      show K _ _ _ _
      rw [show (nI 36).toNatClampNeg = 36 from rfl]
      iterate 3 refine hK _ _ _ _ ?_
      refine And.intro (vp_in_nI (n := p) (by omega) (by decide)) ?_
      rw [nI_clamp (show p < 2 ^ 31 by omega)]
      rw [show σ 45 0 p = c 6 p 4 from g9]
      iterate 5 refine hK _ _ _ _ ?_
      refine And.intro (fun h3 => ?_) (fun h3 => ?_)
      · have hk0 : bt (c 6 p 4) (sY c s) = false := by rw [← hb_bt _ _ (by omega)]; unfold hb; rw [show decide (ushI (c 6 p 4) (nI (sY c s)) &&& 1 = 0) = true from decide_eq_true h3]; rfl
        iterate 2 refine hK _ _ _ _ ?_
        exact ⟨Or.inl rfl, by rw [hno _ (by unfold caA; rw [hk0]; try simp)]; rfl, rfl⟩
      · have hk1 : bt (c 6 p 4) (sY c s) = true := by rw [← hb_bt _ _ (by omega)]; unfold hb; rw [show decide (ushI (c 6 p 4) (nI (sY c s)) &&& 1 = 0) = false from decide_eq_false h3]; rfl
        iterate 2 refine hK _ _ _ _ ?_
        show K _ _ _ _
        rw [show σ 81 0 0 = nI 36 from hO.1]
        show K _ _ _ _
        rw [show (nI 36).toNatClampNeg = 36 from rfl]
        iterate 4 refine hK _ _ _ _ ?_
        refine And.intro (vp_in_nI (n := (sY c s)) (by omega) (by decide)) ?_
        rw [nI_clamp (show (sY c s) < 2 ^ 31 by omega)]
        iterate 2 refine hK _ _ _ _ ?_
        show K _ _ _ _
        rw [show σ 81 0 0 = nI 36 from hO.1]
        show K _ _ _ _
        rw [show (nI 36).toNatClampNeg = 36 from rfl]
        iterate 3 refine hK _ _ _ _ ?_
        refine And.intro (vp_in_nI (n := p) (by omega) (by decide)) ?_
        rw [nI_clamp (show p < 2 ^ 31 by omega)]
        rw [show σ 42 0 p = nI (pQ c p) from g6]
        refine hK _ _ _ _ ?_
        refine And.intro (by first | omega | (rw [nI_clamp (by omega)]; omega)) (And.intro (vp_in_nI (n := (pQ c p)) (by omega) (by decide)) ?_)
        rw [nI_clamp (show (pQ c p) < 2 ^ 31 by omega)]
        rw [show σ 39 (sY c s) (pQ c p) = nI (fN c (sY c s) (pQ c p)) from gm]
        iterate 2 refine hK _ _ _ _ ?_
        refine And.intro (fun h4 => ?_) (fun h4 => ?_)
        · iterate 2 refine hK _ _ _ _ ?_
          exact ⟨Or.inl rfl, by rw [hno _ (by unfold caA; rw [decide_eq_false (fun q => absurd ((nI_lt1 hle).mpr q) (Int32.not_lt.mpr h4)), Bool.and_false]; try simp)]; rfl, rfl⟩
        · iterate 3 refine hK _ _ _ _ ?_
          exact ⟨Or.inr rfl, by rw [show caA c D p s m = true by unfold caA; rw [hat, decide_eq_true ⟨hax, hwm⟩, hk1, decide_eq_true hf, decide_eq_true ((nI_lt1 hle).mp (Int32.not_le.mp h4))]; rfl]; rfl, rfl⟩
theorem c0_firstPerson_36 (d : Nat) (σ c : sMem) (cm : Nat → Bool) (kd N P S G : Nat) (D : DA) (m j B : Nat) (h : CE σ c cm 36 kd N P S G D m j true B) (hm : m ≤ 999) (s : Nat) (hs : s < S) (hf : fN c (D.2.1 s).1 (sY c s) < 1000000) : sMet l D0 b0 ty lay (d + 1) mX0_firstPerson [aR 81, aI (nI s), aI (nI m)] σ (fun r σ' => r = [aI (oI (pfA c D s m false P 0 none))] ∧ σ' = σ) := by
  refine sMet_intro lay_nd kX0_firstPerson xX0_ok (by decide +kernel) rfl ?_
  intro K hK
  have h0 := h
  obtain ⟨hT, hM, hS, hSC, ⟨hO, hA, hC, hW⟩, hV⟩ := h
  have hN := hM.1.1.1
  have hP := hM.2.2.1
  have hS8 := hM.2.2.2.1
  iterate 2 refine hK _ _ _ _ ?_
  have L2 : ∀ (f : Nat) (p : Nat), p + f = P → pfA c D s m false P 0 none = pfA c D s m false f p none → K 2 [some (aR 81), some (aI (nI s)), some (aI (nI m)), some (aI (nI p))] [] σ := by
    intro f
    induction f with
    | zero =>
      intro p hpP hpf
      iterate 3 refine hK _ _ _ _ ?_
      show K _ _ _ _
      rw [show σ 81 0 0 = nI 36 from hO.1]
      show K _ _ _ _
      rw [show (nI 36).toNatClampNeg = 36 from rfl]
      refine hK _ _ _ _ ?_
      show K _ _ _ _
      rw [show σ 36 0 1 = nI P from hT.2.1]
      refine hK _ _ _ _ ?_
      refine And.intro (fun _ => ?_) (fun h => absurd ((nI_leI (by omega) (by omega)).mpr (by omega)) h)
      iterate 2 refine hK _ _ _ _ ?_
      exact ⟨by rw [hpf]; rfl, rfl⟩
    | succ f ih =>
      intro p hpP hpf
      iterate 3 refine hK _ _ _ _ ?_
      show K _ _ _ _
      rw [show σ 81 0 0 = nI 36 from hO.1]
      show K _ _ _ _
      rw [show (nI 36).toNatClampNeg = 36 from rfl]
      refine hK _ _ _ _ ?_
      show K _ _ _ _
      rw [show σ 36 0 1 = nI P from hT.2.1]
      refine hK _ _ _ _ ?_
      refine And.intro (fun h => absurd ((nI_leI (by omega) (by omega)).mp h) (by omega)) (fun _ => ?_)
      iterate 5 refine hK _ _ _ _ ?_
      refine calD (c0_canLead_36 _ _ c cm kd N P S G D m j B h0 hm p s (by omega) hs hf) ?_
      rintro r σ' ⟨rfl, hσ⟩
      subst σ'
      refine hK _ _ _ _ ?_
      refine And.intro (fun h => ?_) (fun h => ?_)
      · have hc := bI_f h
        refine hK _ _ _ _ ?_
        show K _ _ _ _
        rw [show nI p + Int32.ofInt 1 = nI (p + 1) from nIs _]
        refine hK _ _ _ _ ?_
        refine ih (p + 1) (by omega) ?_
        rw [hpf, pfA, if_neg (by rw [hc]; decide)]
      · have hc := bI_t h
        iterate 2 refine hK _ _ _ _ ?_
        exact ⟨by rw [hpf, pfA, if_pos hc]; exact (congrArg (fun z => [aI (oI z)]) (pf_first _ _ _)).symm, rfl⟩
  exact L2 P 0 (by omega) rfl
theorem c0_firstGuide_36 (d : Nat) (σ c : sMem) (cm : Nat → Bool) (kd N P S G : Nat) (D : DA) (m j B : Nat) (h : CE σ c cm 36 kd N P S G D m j true B) (hm : m ≤ 999) (s : Nat) (hs : s < S) (hf : fN c (D.2.1 s).1 (sY c s) < 1000000) : sMet l D0 b0 ty lay d mX0_firstGuide [aR 81, aI (nI s), aI (nI m)] σ (fun r σ' => r = [aI (gC (gfA c D s m G 0))] ∧ σ' = σ) := by
  refine sMet_intro lay_nd kX0_firstGuide xX0_ok (by decide +kernel) rfl ?_
  intro K hK
  obtain ⟨hT, hM, hS, hSC, ⟨hO, hA, hC, hW⟩, hV⟩ := h
  have hN := hM.1.1.1
  have hP := hM.2.2.1
  have hS8 := hM.2.2.2.1
  obtain ⟨x1, x2, x3, x4, x5, x6, x7⟩ := hV.2.1 s hs
  obtain ⟨⟨ex, hx⟩, ⟨ey, hy⟩, ⟨et, ht⟩, hxy⟩ := hM.2.2.2.2.2 s hs
  have g84 : σ 84 0 s = nI (D.2.1 s).1 := (hC.1 s hs).1
  have g11 : σ 47 0 s = nI (sY c s) := (hT.2.2.2.2.2 s hs).2.1
  have hG6 := hSC.2.1
  iterate 2 refine hK _ _ _ _ ?_
  have L2 : ∀ (f : Nat) (g : Nat), g + f = G → gfA c D s m G 0 = gfA c D s m f g → K 2 [some (aR 81), some (aI (nI s)), some (aI (nI m)), some (aI (nI g))] [] σ := by
    intro f
    induction f with
    | zero =>
      intro g hpP hpf
      iterate 3 refine hK _ _ _ _ ?_
      show K _ _ _ _
      rw [show σ 81 0 1 = nI 76 from hO.2.1]
      show K _ _ _ _
      rw [show (nI 76).toNatClampNeg = 76 from rfl]
      refine hK _ _ _ _ ?_
      show K _ _ _ _
      rw [show σ 76 0 1 = nI G from hS.2.1]
      refine hK _ _ _ _ ?_
      refine And.intro (fun _ => ?_) (fun h => absurd ((nI_leI (by omega) (by omega)).mpr (by omega)) h)
      iterate 2 refine hK _ _ _ _ ?_
      exact ⟨by rw [hpf]; rfl, rfl⟩
    | succ f ih =>
      intro g hpP hpf
      have eg := (hS.2.2.1 g (by omega)).1
      have ef : σ 86 0 g = nI (D.2.2.1 g) := hC.2.1 g (by omega)
      have hga := (hSC.2.2.1 g (by omega)).1.2
      have hfr := hV.2.2.1 g
      iterate 3 refine hK _ _ _ _ ?_
      show K _ _ _ _
      rw [show σ 81 0 1 = nI 76 from hO.2.1]
      show K _ _ _ _
      rw [show (nI 76).toNatClampNeg = 76 from rfl]
      refine hK _ _ _ _ ?_
      show K _ _ _ _
      rw [show σ 76 0 1 = nI G from hS.2.1]
      refine hK _ _ _ _ ?_
      refine And.intro (fun h => absurd ((nI_leI (by omega) (by omega)).mp h) (by omega)) (fun _ => ?_)
      iterate 2 refine hK _ _ _ _ ?_
      show K _ _ _ _
      rw [show σ 81 0 1 = nI 76 from hO.2.1]
      show K _ _ _ _
      rw [show (nI 76).toNatClampNeg = 76 from rfl]
      iterate 3 refine hK _ _ _ _ ?_
      refine And.intro (vp_in_nI (n := g) (by omega) (by decide)) ?_
      rw [nI_clamp (show g < 2 ^ 31 by omega)]
      rw [show σ 77 0 g = nI (gA c g) from eg]
      iterate 4 refine hK _ _ _ _ ?_
      refine And.intro (vp_in_nI (n := s) (by omega) (by decide)) ?_
      rw [nI_clamp (show s < 2 ^ 31 by omega)]
      rw [show σ 84 0 s = nI (D.2.1 s).1 from g84]
      refine hK _ _ _ _ ?_
      have nx : ¬ (gA c g = (D.2.1 s).1 ∧ D.2.2.1 g ≤ m ∧ fN c (D.2.1 s).1 (sY c s) < 1000000) → K 2 [some (aR 81), some (aI (nI s)), some (aI (nI m)), some (aI (nI (g + 1)))] [] σ := fun hn => ih (g + 1) (by omega) (by rw [hpf, gfA, if_neg hn])
      refine And.intro (fun h1 => ?_) (fun h1 => ?_)
      · refine hK _ _ _ _ ?_
        show K _ _ _ _
        rw [show nI g + Int32.ofInt 1 = nI (g + 1) from nIs _]
        refine hK _ _ _ _ ?_
        exact nx (fun q => h1 (by rw [q.1]))
      · have hg1 := (nI_eq (by omega) (by omega)).mp h1
        iterate 4 refine hK _ _ _ _ ?_
        refine And.intro (vp_in_nI (n := g) (by omega) (by decide)) ?_
        rw [nI_clamp (show g < 2 ^ 31 by omega)]
        rw [show σ 86 0 g = nI (D.2.2.1 g) from ef]
        iterate 2 refine hK _ _ _ _ ?_
        refine And.intro (fun h2 => ?_) (fun h2 => ?_)
        · refine hK _ _ _ _ ?_
          show K _ _ _ _
          rw [show nI g + Int32.ofInt 1 = nI (g + 1) from nIs _]
          refine hK _ _ _ _ ?_
          exact nx (fun q => absurd ((nI_ltI (by omega) (by omega)).mp h2) (by omega))
        · have hg2 := (nI_leI (by omega) (by omega)).mp (Int32.not_lt.mp h2)
          iterate 4 refine hK _ _ _ _ ?_
          exact ⟨by rw [hpf, gfA, if_pos ⟨hg1, hg2, hf⟩]; exact congrArg (fun z => [aI z]) (nIa 100 g), rfl⟩
  exact L2 G 0 (by omega) rfl
theorem c0_canLead_54 (d : Nat) (σ c : sMem) (cm : Nat → Bool) (kd N P S G : Nat) (D : DA) (m j B : Nat) (h : CE σ c cm 54 kd N P S G D m j true B) (hm : m ≤ 999) (p s : Nat) (hp : p < P) (hs : s < S) (hf : fN c (D.2.1 s).1 (sY c s) < 1000000) : sMet l D0 b0 ty lay d mX0_canLead [aR 81, aI (nI p), aI (nI s), aI (nI m)] σ (fun r σ' => r = [aI (bI (caA c D p s m))] ∧ σ' = σ) := by
  refine sMet_intro lay_nd kX0_canLead xX0_ok (by decide +kernel) rfl ?_
  intro K hK
  obtain ⟨hT, hM, hS, hSC, ⟨hO, hA, hC, hW⟩, hV⟩ := h
  have hN := hM.1.1.1
  have hP := hM.2.2.1
  have hS8 := hM.2.2.2.1
  obtain ⟨x1, x2, x3, x4, x5, x6, x7⟩ := hV.2.1 s hs
  obtain ⟨⟨ex, hx⟩, ⟨ey, hy⟩, ⟨et, ht⟩, hxy⟩ := hM.2.2.2.2.2 s hs
  have g84 : σ 84 0 s = nI (D.2.1 s).1 := (hC.1 s hs).1
  have g11 : σ 65 0 s = nI (sY c s) := (hT.2.2.2.2.2 s hs).2.1
  obtain ⟨a, w, ha, hw, e82, e83, hat⟩ := CP_at hM hV hp hm (hA p hp)
  obtain ⟨⟨ea, hpa⟩, ⟨eq, hq⟩, -⟩ := hM.2.2.2.2.1 p hp
  have g6 : σ 60 0 p = nI (pQ c p) := (hT.2.2.2.2.1 p hp).2.1
  have g9 : σ 63 0 p = c 6 p 4 := (hT.2.2.2.2.1 p hp).2.2.2.2
  have gm : σ 57 (sY c s) (pQ c p) = nI (fN c (sY c s) (pQ c p)) := (hT.2.2.2.1 _ _ hy hq).1
  have hle := (hM.1.1.2.1 (sY c s) (pQ c p) hy hq).2.1
  have hno : ∀ b : Bool, b = false → bI b = 0 := fun b e => by rw [e]; rfl
  iterate 2 refine hK _ _ _ _ ?_
  show K _ _ _ _
  rw [show σ 81 0 0 = nI 54 from hO.1]
  show K _ _ _ _
  rw [show (nI 54).toNatClampNeg = 54 from rfl]
  iterate 3 refine hK _ _ _ _ ?_
  refine And.intro (vp_in_nI (n := s) (by omega) (by decide)) ?_
  rw [nI_clamp (show s < 2 ^ 31 by omega)]
  rw [show σ 65 0 s = nI (sY c s) from g11]
  iterate 5 refine hK _ _ _ _ ?_
  refine And.intro (vp_in_nI (n := p) (by omega) (by decide)) ?_
  rw [nI_clamp (show p < 2 ^ 31 by omega)]
  rw [show σ 83 0 p = nI w from e83]
  iterate 2 refine hK _ _ _ _ ?_
  refine And.intro (fun h1 => ?_) (fun h1 => ?_)
  · iterate 2 refine hK _ _ _ _ ?_
    exact ⟨Or.inl rfl, by rw [hno _ (by unfold caA; rw [hat, decide_eq_false (fun q => h1 (by rw [q.2]))]; try simp)]; rfl, rfl⟩
  · have hwm : w = m := (nI_eq (by omega) (by omega)).mp h1
    iterate 4 refine hK _ _ _ _ ?_
    refine And.intro (vp_in_nI (n := p) (by omega) (by decide)) ?_
    rw [nI_clamp (show p < 2 ^ 31 by omega)]
    rw [show σ 82 0 p = nI a from e82]
    iterate 4 refine hK _ _ _ _ ?_
    refine And.intro (vp_in_nI (n := s) (by omega) (by decide)) ?_
    rw [nI_clamp (show s < 2 ^ 31 by omega)]
    rw [show σ 84 0 s = nI (D.2.1 s).1 from g84]
    refine hK _ _ _ _ ?_
    refine And.intro (fun h2 => ?_) (fun h2 => ?_)
    · iterate 2 refine hK _ _ _ _ ?_
      exact ⟨Or.inl rfl, by rw [hno _ (by unfold caA; rw [hat, decide_eq_false (fun q => h2 (by rw [q.1]))]; try simp)]; rfl, rfl⟩
    · have hax : a = (D.2.1 s).1 := (nI_eq (by omega) (by omega)).mp h2
      iterate 2 refine hK _ _ _ _ ?_
      show K _ _ _ _
      rw [show σ 81 0 0 = nI 54 from hO.1]
      show K _ _ _ _
      rw [show (nI 54).toNatClampNeg = 54 from rfl]
      iterate 3 refine hK _ _ _ _ ?_
      refine And.intro (vp_in_nI (n := p) (by omega) (by decide)) ?_
      rw [nI_clamp (show p < 2 ^ 31 by omega)]
      rw [show σ 63 0 p = c 6 p 4 from g9]
      iterate 5 refine hK _ _ _ _ ?_
      refine And.intro (fun h3 => ?_) (fun h3 => ?_)
      · have hk0 : bt (c 6 p 4) (sY c s) = false := by rw [← hb_bt _ _ (by omega)]; unfold hb; rw [show decide (ushI (c 6 p 4) (nI (sY c s)) &&& 1 = 0) = true from decide_eq_true h3]; rfl
        iterate 2 refine hK _ _ _ _ ?_
        exact ⟨Or.inl rfl, by rw [hno _ (by unfold caA; rw [hk0]; try simp)]; rfl, rfl⟩
      · have hk1 : bt (c 6 p 4) (sY c s) = true := by rw [← hb_bt _ _ (by omega)]; unfold hb; rw [show decide (ushI (c 6 p 4) (nI (sY c s)) &&& 1 = 0) = false from decide_eq_false h3]; rfl
        iterate 2 refine hK _ _ _ _ ?_
        show K _ _ _ _
        rw [show σ 81 0 0 = nI 54 from hO.1]
        show K _ _ _ _
        rw [show (nI 54).toNatClampNeg = 54 from rfl]
        iterate 4 refine hK _ _ _ _ ?_
        refine And.intro (vp_in_nI (n := (sY c s)) (by omega) (by decide)) ?_
        rw [nI_clamp (show (sY c s) < 2 ^ 31 by omega)]
        iterate 2 refine hK _ _ _ _ ?_
        show K _ _ _ _
        rw [show σ 81 0 0 = nI 54 from hO.1]
        show K _ _ _ _
        rw [show (nI 54).toNatClampNeg = 54 from rfl]
        iterate 3 refine hK _ _ _ _ ?_
        refine And.intro (vp_in_nI (n := p) (by omega) (by decide)) ?_
        rw [nI_clamp (show p < 2 ^ 31 by omega)]
        rw [show σ 60 0 p = nI (pQ c p) from g6]
        refine hK _ _ _ _ ?_
        refine And.intro (by first | omega | (rw [nI_clamp (by omega)]; omega)) (And.intro (vp_in_nI (n := (pQ c p)) (by omega) (by decide)) ?_)
        rw [nI_clamp (show (pQ c p) < 2 ^ 31 by omega)]
        rw [show σ 57 (sY c s) (pQ c p) = nI (fN c (sY c s) (pQ c p)) from gm]
        iterate 2 refine hK _ _ _ _ ?_
        refine And.intro (fun h4 => ?_) (fun h4 => ?_)
        · iterate 2 refine hK _ _ _ _ ?_
          exact ⟨Or.inl rfl, by rw [hno _ (by unfold caA; rw [decide_eq_false (fun q => absurd ((nI_lt1 hle).mpr q) (Int32.not_lt.mpr h4)), Bool.and_false]; try simp)]; rfl, rfl⟩
        · iterate 3 refine hK _ _ _ _ ?_
          exact ⟨Or.inr rfl, by rw [show caA c D p s m = true by unfold caA; rw [hat, decide_eq_true ⟨hax, hwm⟩, hk1, decide_eq_true hf, decide_eq_true ((nI_lt1 hle).mp (Int32.not_le.mp h4))]; rfl]; rfl, rfl⟩
theorem c0_firstPerson_54 (d : Nat) (σ c : sMem) (cm : Nat → Bool) (kd N P S G : Nat) (D : DA) (m j B : Nat) (h : CE σ c cm 54 kd N P S G D m j true B) (hm : m ≤ 999) (s : Nat) (hs : s < S) (hf : fN c (D.2.1 s).1 (sY c s) < 1000000) : sMet l D0 b0 ty lay (d + 1) mX0_firstPerson [aR 81, aI (nI s), aI (nI m)] σ (fun r σ' => r = [aI (oI (pfA c D s m false P 0 none))] ∧ σ' = σ) := by
  refine sMet_intro lay_nd kX0_firstPerson xX0_ok (by decide +kernel) rfl ?_
  intro K hK
  have h0 := h
  obtain ⟨hT, hM, hS, hSC, ⟨hO, hA, hC, hW⟩, hV⟩ := h
  have hN := hM.1.1.1
  have hP := hM.2.2.1
  have hS8 := hM.2.2.2.1
  iterate 2 refine hK _ _ _ _ ?_
  have L2 : ∀ (f : Nat) (p : Nat), p + f = P → pfA c D s m false P 0 none = pfA c D s m false f p none → K 2 [some (aR 81), some (aI (nI s)), some (aI (nI m)), some (aI (nI p))] [] σ := by
    intro f
    induction f with
    | zero =>
      intro p hpP hpf
      iterate 3 refine hK _ _ _ _ ?_
      show K _ _ _ _
      rw [show σ 81 0 0 = nI 54 from hO.1]
      show K _ _ _ _
      rw [show (nI 54).toNatClampNeg = 54 from rfl]
      refine hK _ _ _ _ ?_
      show K _ _ _ _
      rw [show σ 54 0 1 = nI P from hT.2.1]
      refine hK _ _ _ _ ?_
      refine And.intro (fun _ => ?_) (fun h => absurd ((nI_leI (by omega) (by omega)).mpr (by omega)) h)
      iterate 2 refine hK _ _ _ _ ?_
      exact ⟨by rw [hpf]; rfl, rfl⟩
    | succ f ih =>
      intro p hpP hpf
      iterate 3 refine hK _ _ _ _ ?_
      show K _ _ _ _
      rw [show σ 81 0 0 = nI 54 from hO.1]
      show K _ _ _ _
      rw [show (nI 54).toNatClampNeg = 54 from rfl]
      refine hK _ _ _ _ ?_
      show K _ _ _ _
      rw [show σ 54 0 1 = nI P from hT.2.1]
      refine hK _ _ _ _ ?_
      refine And.intro (fun h => absurd ((nI_leI (by omega) (by omega)).mp h) (by omega)) (fun _ => ?_)
      iterate 5 refine hK _ _ _ _ ?_
      refine calD (c0_canLead_54 _ _ c cm kd N P S G D m j B h0 hm p s (by omega) hs hf) ?_
      rintro r σ' ⟨rfl, hσ⟩
      subst σ'
      refine hK _ _ _ _ ?_
      refine And.intro (fun h => ?_) (fun h => ?_)
      · have hc := bI_f h
        refine hK _ _ _ _ ?_
        show K _ _ _ _
        rw [show nI p + Int32.ofInt 1 = nI (p + 1) from nIs _]
        refine hK _ _ _ _ ?_
        refine ih (p + 1) (by omega) ?_
        rw [hpf, pfA, if_neg (by rw [hc]; decide)]
      · have hc := bI_t h
        iterate 2 refine hK _ _ _ _ ?_
        exact ⟨by rw [hpf, pfA, if_pos hc]; exact (congrArg (fun z => [aI (oI z)]) (pf_first _ _ _)).symm, rfl⟩
  exact L2 P 0 (by omega) rfl
theorem c0_firstGuide_54 (d : Nat) (σ c : sMem) (cm : Nat → Bool) (kd N P S G : Nat) (D : DA) (m j B : Nat) (h : CE σ c cm 54 kd N P S G D m j true B) (hm : m ≤ 999) (s : Nat) (hs : s < S) (hf : fN c (D.2.1 s).1 (sY c s) < 1000000) : sMet l D0 b0 ty lay d mX0_firstGuide [aR 81, aI (nI s), aI (nI m)] σ (fun r σ' => r = [aI (gC (gfA c D s m G 0))] ∧ σ' = σ) := by
  refine sMet_intro lay_nd kX0_firstGuide xX0_ok (by decide +kernel) rfl ?_
  intro K hK
  obtain ⟨hT, hM, hS, hSC, ⟨hO, hA, hC, hW⟩, hV⟩ := h
  have hN := hM.1.1.1
  have hP := hM.2.2.1
  have hS8 := hM.2.2.2.1
  obtain ⟨x1, x2, x3, x4, x5, x6, x7⟩ := hV.2.1 s hs
  obtain ⟨⟨ex, hx⟩, ⟨ey, hy⟩, ⟨et, ht⟩, hxy⟩ := hM.2.2.2.2.2 s hs
  have g84 : σ 84 0 s = nI (D.2.1 s).1 := (hC.1 s hs).1
  have g11 : σ 65 0 s = nI (sY c s) := (hT.2.2.2.2.2 s hs).2.1
  have hG6 := hSC.2.1
  iterate 2 refine hK _ _ _ _ ?_
  have L2 : ∀ (f : Nat) (g : Nat), g + f = G → gfA c D s m G 0 = gfA c D s m f g → K 2 [some (aR 81), some (aI (nI s)), some (aI (nI m)), some (aI (nI g))] [] σ := by
    intro f
    induction f with
    | zero =>
      intro g hpP hpf
      iterate 3 refine hK _ _ _ _ ?_
      show K _ _ _ _
      rw [show σ 81 0 1 = nI 76 from hO.2.1]
      show K _ _ _ _
      rw [show (nI 76).toNatClampNeg = 76 from rfl]
      refine hK _ _ _ _ ?_
      show K _ _ _ _
      rw [show σ 76 0 1 = nI G from hS.2.1]
      refine hK _ _ _ _ ?_
      refine And.intro (fun _ => ?_) (fun h => absurd ((nI_leI (by omega) (by omega)).mpr (by omega)) h)
      iterate 2 refine hK _ _ _ _ ?_
      exact ⟨by rw [hpf]; rfl, rfl⟩
    | succ f ih =>
      intro g hpP hpf
      have eg := (hS.2.2.1 g (by omega)).1
      have ef : σ 86 0 g = nI (D.2.2.1 g) := hC.2.1 g (by omega)
      have hga := (hSC.2.2.1 g (by omega)).1.2
      have hfr := hV.2.2.1 g
      iterate 3 refine hK _ _ _ _ ?_
      show K _ _ _ _
      rw [show σ 81 0 1 = nI 76 from hO.2.1]
      show K _ _ _ _
      rw [show (nI 76).toNatClampNeg = 76 from rfl]
      refine hK _ _ _ _ ?_
      show K _ _ _ _
      rw [show σ 76 0 1 = nI G from hS.2.1]
      refine hK _ _ _ _ ?_
      refine And.intro (fun h => absurd ((nI_leI (by omega) (by omega)).mp h) (by omega)) (fun _ => ?_)
      iterate 2 refine hK _ _ _ _ ?_
      show K _ _ _ _
      rw [show σ 81 0 1 = nI 76 from hO.2.1]
      show K _ _ _ _
      rw [show (nI 76).toNatClampNeg = 76 from rfl]
      iterate 3 refine hK _ _ _ _ ?_
      refine And.intro (vp_in_nI (n := g) (by omega) (by decide)) ?_
      rw [nI_clamp (show g < 2 ^ 31 by omega)]
      rw [show σ 77 0 g = nI (gA c g) from eg]
      iterate 4 refine hK _ _ _ _ ?_
      refine And.intro (vp_in_nI (n := s) (by omega) (by decide)) ?_
      rw [nI_clamp (show s < 2 ^ 31 by omega)]
      rw [show σ 84 0 s = nI (D.2.1 s).1 from g84]
      refine hK _ _ _ _ ?_
      have nx : ¬ (gA c g = (D.2.1 s).1 ∧ D.2.2.1 g ≤ m ∧ fN c (D.2.1 s).1 (sY c s) < 1000000) → K 2 [some (aR 81), some (aI (nI s)), some (aI (nI m)), some (aI (nI (g + 1)))] [] σ := fun hn => ih (g + 1) (by omega) (by rw [hpf, gfA, if_neg hn])
      refine And.intro (fun h1 => ?_) (fun h1 => ?_)
      · refine hK _ _ _ _ ?_
        show K _ _ _ _
        rw [show nI g + Int32.ofInt 1 = nI (g + 1) from nIs _]
        refine hK _ _ _ _ ?_
        exact nx (fun q => h1 (by rw [q.1]))
      · have hg1 := (nI_eq (by omega) (by omega)).mp h1
        iterate 4 refine hK _ _ _ _ ?_
        refine And.intro (vp_in_nI (n := g) (by omega) (by decide)) ?_
        rw [nI_clamp (show g < 2 ^ 31 by omega)]
        rw [show σ 86 0 g = nI (D.2.2.1 g) from ef]
        iterate 2 refine hK _ _ _ _ ?_
        refine And.intro (fun h2 => ?_) (fun h2 => ?_)
        · refine hK _ _ _ _ ?_
          show K _ _ _ _
          rw [show nI g + Int32.ofInt 1 = nI (g + 1) from nIs _]
          refine hK _ _ _ _ ?_
          exact nx (fun q => absurd ((nI_ltI (by omega) (by omega)).mp h2) (by omega))
        · have hg2 := (nI_leI (by omega) (by omega)).mp (Int32.not_lt.mp h2)
          iterate 4 refine hK _ _ _ _ ?_
          exact ⟨by rw [hpf, gfA, if_pos ⟨hg1, hg2, hf⟩]; exact congrArg (fun z => [aI z]) (nIa 100 g), rfl⟩
  exact L2 G 0 (by omega) rfl
end
