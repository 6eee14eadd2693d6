/-! THE CLASS'S COURSE: from minute to minute, and all of a day -/
theorem mn_nI {a b : Nat} (ha : a < 2 ^ 31) (hb : b < 2 ^ 31) : mnI (nI a) (nI b) = nI (min a b) := by
  unfold mnI
  by_cases h : b < a
  · rw [if_pos ((nI_ltI hb ha).mpr h)]; congr 1; omega
  · rw [if_neg (fun q => h ((nI_ltI hb ha).mp q))]; congr 1; omega
theorem mx_nI {a b : Nat} (ha : a < 2 ^ 31) (hb : b < 2 ^ 31) : mxI (nI a) (nI b) = nI (max a b) := by
  unfold mxI
  by_cases h : a < b
  · rw [if_pos ((nI_ltI ha hb).mpr h)]; congr 1; omega
  · rw [if_neg (fun q => h ((nI_ltI ha hb).mp q))]; congr 1; omega
/-- a day that is over -/
def CF (σ c : sMem) (v kd N P S G : Nat) (D : DA) : Prop := CO σ v kd ∧ (∀ p, p < P → CP σ c N D 1000 false p) ∧ CS σ S G D ∧ σ 81 0 12 = nI D.2.2.2.2.2
section
variable {l : Launch} {D0 : va_G} {b0 : Nat} {ty : Nat → ClassId} {ad av : Nat → Nat}
theorem c0_nextMinuteOf_36 (d : Nat) (σ c : sMem) (cm : Nat → Bool) (kd N P S G : Nat) (D : DA) (m B : Nat) (h : CE σ c cm 36 kd N P S G D m S true B) (hm : m ≤ 999) (p : Nat) (hp : p < P) : sMet l D0 b0 ty lay d mX0_nextMinuteOf [aR 81, aI (nI p), aI (nI m)] σ (fun r σ' => ∃ R : Nat, r = [aI (nI R)] ∧ R ≤ 1000000 ∧ (ouP c p = true → ∀ k, k ≤ pl c (pQ c p) (D.1 p).1 → m < (pth c (pQ c p) k (D.1 p)).2 → R ≤ (pth c (pQ c p) k (D.1 p)).2) ∧ σ' = σ) := by
  refine sMet_intro lay_nd kX0_nextMinuteOf xX0_ok (by decide +kernel) rfl ?_
  intro K hK
  obtain ⟨hT, hM, hS, hSC, ⟨hO, hA, hC, hW⟩, hV⟩ := h
  have hN := hM.1.1.1
  have hP := hM.2.2.1
  have hS8 := hM.2.2.2.1
  obtain ⟨⟨ea, hpa⟩, ⟨eq, hq⟩, -⟩ := hM.2.2.2.2.1 p hp
  have k6 : σ 42 0 p = nI (pQ c p) := (hT.2.2.2.2.1 p hp).2.1
  cases ho : ouP c p
  · obtain ⟨y83, a, ha, y82⟩ := (hA p hp).2 ho
    iterate 4 refine hK _ _ _ _ ?_
    refine And.intro (vp_in_nI (n := p) (by omega) (by decide)) ?_
    rw [nI_clamp (show p < 2 ^ 31 by omega)]
    rw [show σ 83 0 p = nI 1000000 from y83]
    iterate 2 refine hK _ _ _ _ ?_
    refine And.intro (fun h9 => absurd ((nI_leI (a := 1000000) (b := m) (by decide) (by omega)).mp h9) (by omega)) (fun _ => ?_)
    iterate 4 refine hK _ _ _ _ ?_
    refine And.intro (vp_in_nI (n := p) (by omega) (by decide)) ?_
    rw [nI_clamp (show p < 2 ^ 31 by omega)]
    rw [show σ 83 0 p = nI 1000000 from y83]
    refine hK _ _ _ _ ?_
    exact ⟨1000000, rfl, Nat.le_refl _, fun h2 => (by rw [ho] at h2; cases h2), rfl⟩
  · obtain ⟨k, k2, k3, hmv, y82', y83'⟩ := (hA p hp).1 ho
    obtain ⟨b1, b2, b3⟩ := hV.1 p hp ho
    have hpt := pth_at hM.1 hq k (D.1 p).1 (D.1 p).2 b1 b2 k2
    have f6 := fN_660 hM.1 hq b1 b2
    obtain ⟨⟨a, w⟩, k4⟩ : ∃ aw, pth c (pQ c p) k (D.1 p) = aw := ⟨_, rfl⟩
    have k5 : pth c (pQ c p) k ((D.1 p).1, (D.1 p).2) = (a, w) := k4
    rw [k5] at hpt
    dsimp only at hpt
    rw [k4] at y82' y83' hmv
    have hw : w ≤ 2319 := by omega
    have ha := hpt.1
    have nl := nx_lt hM.1 ha hq
    have y82 : σ 82 0 p = nI a := y82'
    have y83 : σ 83 0 p = nI w := y83'
    have ks : σ 40 a (pQ c p) = nI (nxN c a (pQ c p)) := (hT.2.2.2.1 a _ ha hq).2
    have km : σ 39 a (nxN c a (pQ c p)) = nI (fN c a (nxN c a (pQ c p))) := (hT.2.2.2.1 a _ ha nl).1
    have mono : ∀ k1 k', k1 ≤ k' → k' ≤ pl c (pQ c p) (D.1 p).1 → (pth c (pQ c p) k1 (D.1 p)).2 ≤ (pth c (pQ c p) k' (D.1 p)).2 := fun k1 k' g1 g2 => by
      have := pth_mono (w := (D.1 p).2) hM.1 hq b1 b2 (k' - k1) k1 (by omega)
      rw [show k1 + (k' - k1) = k' by omega] at this
      have h9 : (pth c (pQ c p) k1 (D.1 p)).2 + (k' - k1) ≤ (pth c (pQ c p) k' (D.1 p)).2 := this
      omega
    iterate 4 refine hK _ _ _ _ ?_
    refine And.intro (vp_in_nI (n := p) (by omega) (by decide)) ?_
    rw [nI_clamp (show p < 2 ^ 31 by omega)]
    rw [show σ 83 0 p = nI w from y83]
    iterate 2 refine hK _ _ _ _ ?_
    refine And.intro (fun h9 => ?_) (fun h9 => ?_)
    · have hwm : w ≤ m := (nI_leI (by omega) (by omega)).mp h9
      iterate 2 refine hK _ _ _ _ ?_
      show K _ _ _ _
      rw [show σ 81 0 0 = nI 36 from hO.1]
      show K _ _ _ _
      rw [show (nI 36).toNatClampNeg = 36 from rfl]
      iterate 3 refine hK _ _ _ _ ?_
      refine And.intro (vp_in_nI (n := p) (by omega) (by decide)) ?_
      rw [nI_clamp (show p < 2 ^ 31 by omega)]
      rw [show σ 42 0 p = nI (pQ c p) from k6]
      iterate 5 refine hK _ _ _ _ ?_
      refine And.intro (vp_in_nI (n := p) (by omega) (by decide)) ?_
      rw [nI_clamp (show p < 2 ^ 31 by omega)]
      rw [show σ 82 0 p = nI a from y82]
      iterate 2 refine hK _ _ _ _ ?_
      refine And.intro (fun h8 => ?_) (fun h8 => ?_)
      · have haq : ¬ a = pQ c p := fun e => h8 (by rw [e])
        have hkl : k ≠ pl c (pQ c p) (D.1 p).1 := fun e => haq (by
          have := (pth_q (k := k) (w := (D.1 p).2) hM.1 hq b1 b2 k2).mpr e
          rw [k5] at this
          exact this)
        obtain ⟨n1, n2, n3, n4, n5, n6⟩ := nx_at hM.1 ha hq hpt.2.1 haq
        iterate 4 refine hK _ _ _ _ ?_
        refine And.intro (vp_in_nI (n := p) (by omega) (by decide)) ?_
        rw [nI_clamp (show p < 2 ^ 31 by omega)]
        rw [show σ 83 0 p = nI w from y83]
        iterate 2 refine hK _ _ _ _ ?_
        show K _ _ _ _
        rw [show σ 81 0 0 = nI 36 from hO.1]
        show K _ _ _ _
        rw [show (nI 36).toNatClampNeg = 36 from rfl]
        iterate 6 refine hK _ _ _ _ ?_
        refine And.intro (vp_in_nI (n := p) (by omega) (by decide)) ?_
        rw [nI_clamp (show p < 2 ^ 31 by omega)]
        rw [show σ 82 0 p = nI a from y82]
        refine hK _ _ _ _ ?_
        refine And.intro (vp_in_nI (n := a) (by omega) (by decide)) ?_
        rw [nI_clamp (show a < 2 ^ 31 by omega)]
        iterate 2 refine hK _ _ _ _ ?_
        show K _ _ _ _
        rw [show σ 81 0 0 = nI 36 from hO.1]
        show K _ _ _ _
        rw [show (nI 36).toNatClampNeg = 36 from rfl]
        iterate 6 refine hK _ _ _ _ ?_
        refine And.intro (vp_in_nI (n := p) (by omega) (by decide)) ?_
        rw [nI_clamp (show p < 2 ^ 31 by omega)]
        rw [show σ 82 0 p = nI a from y82]
        refine hK _ _ _ _ ?_
        refine And.intro (vp_in_nI (n := a) (by omega) (by decide)) ?_
        rw [nI_clamp (show a < 2 ^ 31 by omega)]
        iterate 2 refine hK _ _ _ _ ?_
        refine And.intro (by first | omega | (rw [nI_clamp (by omega)]; omega)) (And.intro (vp_in_nI (n := (pQ c p)) (by omega) (by decide)) ?_)
        rw [nI_clamp (show (pQ c p) < 2 ^ 31 by omega)]
        rw [show σ 40 a (pQ c p) = nI (nxN c a (pQ c p)) from ks]
        refine hK _ _ _ _ ?_
        refine And.intro (by first | omega | (rw [nI_clamp (by omega)]; omega)) (And.intro (vp_in_nI (n := (nxN c a (pQ c p))) (by omega) (by decide)) ?_)
        rw [nI_clamp (show (nxN c a (pQ c p)) < 2 ^ 31 by omega)]
        rw [show σ 39 a (nxN c a (pQ c p)) = nI (fN c a (nxN c a (pQ c p))) from km]
        iterate 2 refine hK _ _ _ _ ?_
        have ep : pth c (pQ c p) (k + 1) (D.1 p) = (nxN c a (pQ c p), w + fN c a (nxN c a (pQ c p))) := by rw [pth_s, k4]; rfl
        refine ⟨w + fN c a (nxN c a (pQ c p)), by rw [nIa], by omega, fun _ k' h1 h2 => ?_, rfl⟩
        rcases Nat.lt_trichotomy k' k with g | g | g
        · have := k3 k' g; omega
        · subst g; rw [k4] at h2; dsimp only at h2; omega
        · have := mono (k + 1) k' (by omega) h1
          rw [ep] at this
          exact this
      · have haq : a = pQ c p := (nI_eq (by omega) (by omega)).mp h8
        iterate 2 refine hK _ _ _ _ ?_
        refine ⟨1000000, rfl, Nat.le_refl _, fun _ k' h1 h2 => ?_, rfl⟩
        have hkl := (pth_q (k := k) (w := (D.1 p).2) hM.1 hq b1 b2 k2).mp (by rw [k5]; exact haq)
        rcases Nat.lt_trichotomy k' k with g | g | g
        · have := k3 k' g; omega
        · subst g; rw [k4] at h2; dsimp only at h2; omega
        · omega
    · have hwm : m < w := Nat.lt_of_not_le (fun q => h9 ((nI_leI (by omega) (by omega)).mpr q))
      iterate 4 refine hK _ _ _ _ ?_
      refine And.intro (vp_in_nI (n := p) (by omega) (by decide)) ?_
      rw [nI_clamp (show p < 2 ^ 31 by omega)]
      rw [show σ 83 0 p = nI w from y83]
      refine hK _ _ _ _ ?_
      refine ⟨w, rfl, by omega, fun _ k' h1 h2 => ?_, rfl⟩
      rcases Nat.lt_or_ge k' k with g | g
      · have := k3 k' g; omega
      · have := mono k k' g h1
        rw [k4] at this
        exact this
set_option maxHeartbeats 2000000 in
theorem c0_nextMinute_36 (d : Nat) (σ c : sMem) (cm : Nat → Bool) (kd N P S G : Nat) (D : DA) (m B : Nat) (h : CE σ c cm 36 kd N P S G D m S true B) (hm : m ≤ 999) : yMet l D0 b0 ty ad av lay (d + 1) 0 mX0_nextMinute [aR 81, aI (nI m)] σ (fun r σ' => ∃ R : Nat, r = [aI (nI R)] ∧ R ≤ 1000000 ∧ NM c P S G D m R ∧ σ' = σ) (fun _ _ => False) := by
  refine yMet_intro lay_nd kX0_nextMinute xX0_ok (yY0_ok _) (by decide +kernel) rfl ?_
  intro K hK
  have h0 := h
  obtain ⟨hT, hM, hS, hSC, ⟨hO, hA, hC, hW⟩, hV⟩ := h
  have hN := hM.1.1.1
  have hP := hM.2.2.1
  have hS8 := hM.2.2.2.1
  have hG6 := hSC.2.1
  iterate 6 refine hK _ _ _ _ _ ?_
  have L8 : ∀ (f : Nat) (s R : Nat) (b : Bool), s + f = S → R ≤ 1000000 → (∀ u, u < s → (D.2.1 u).2.2.1 = none → m < (D.2.1 u).2.1 → R ≤ (D.2.1 u).2.1) → (∀ u, u < s → (D.2.1 u).2.2.1 = none → (D.2.1 u).2.1 ≤ m → b = true) → K 0 8 [some (aR 81), some (aI (nI m)), some (aI (nI R)), some (aI (bI b)), some (aI (nI s))] [] σ := by
    intro f
    induction f with
    | zero =>
      intro s R b hsS hR h1 h2
      iterate 3 refine hK _ _ _ _ _ ?_
      show K _ _ _ _ _
      rw [show σ 81 0 0 = nI 36 from hO.1]
      show K _ _ _ _ _
      rw [show (nI 36).toNatClampNeg = 36 from rfl]
      refine hK _ _ _ _ _ ?_
      show K _ _ _ _ _
      rw [show σ 36 0 7 = nI S from hT.2.2.1]
      refine hK _ _ _ _ _ ?_
      refine And.intro (fun _ => ?_) (fun h => absurd ((nI_leI (by omega) (by omega)).mpr (by omega)) h)
      iterate 2 refine hK _ _ _ _ _ ?_
      refine And.intro (fun h8 => ?_) (fun h8 => ?_)
      · iterate 2 refine hK _ _ _ _ _ ?_
        have L85 : ∀ (f2 : Nat) (p R2 : Nat), p + f2 = P → R2 ≤ 1000000 → R2 ≤ R → (∀ p', p' < p → ouP c p' = true → ∀ k, k ≤ pl c (pQ c p') (D.1 p').1 → m < (pth c (pQ c p') k (D.1 p')).2 → R2 ≤ (pth c (pQ c p') k (D.1 p')).2) → K 0 85 [some (aR 81), some (aI (nI m)), some (aI (nI R2)), some (aI (bI b)), some (aI (nI p))] [] σ := by
          intro f2
          induction f2 with
          | zero =>
            intro p R2 hpP hR21 hR2 h3
            iterate 3 refine hK _ _ _ _ _ ?_
            show K _ _ _ _ _
            rw [show σ 81 0 0 = nI 36 from hO.1]
            show K _ _ _ _ _
            rw [show (nI 36).toNatClampNeg = 36 from rfl]
            refine hK _ _ _ _ _ ?_
            show K _ _ _ _ _
            rw [show σ 36 0 1 = nI P from hT.2.1]
            refine hK _ _ _ _ _ ?_
            refine And.intro (fun _ => ?_) (fun h => absurd ((nI_leI (by omega) (by omega)).mpr (by omega)) h)
            iterate 2 refine hK _ _ _ _ _ ?_
            have L118 : ∀ (f3 : Nat) (g R3 : Nat), g + f3 = G → R3 ≤ 1000000 → R3 ≤ R2 → (∀ g', g' < g → m < D.2.2.1 g' → R3 ≤ D.2.2.1 g') → K 0 118 [some (aR 81), some (aI (nI m)), some (aI (nI R3)), some (aI (bI b)), some (aI (nI g))] [] σ := by
              intro f3
              induction f3 with
              | zero =>
                intro g R3 hgG hR31 hR3 h4
                iterate 3 refine hK _ _ _ _ _ ?_
                show K _ _ _ _ _
                rw [show σ 81 0 1 = nI 76 from hO.2.1]
                show K _ _ _ _ _
                rw [show (nI 76).toNatClampNeg = 76 from rfl]
                refine hK _ _ _ _ _ ?_
                show K _ _ _ _ _
                rw [show σ 76 0 1 = nI G from hS.2.1]
                refine hK _ _ _ _ _ ?_
                refine And.intro (fun _ => ?_) (fun h => absurd ((nI_leI (by omega) (by omega)).mpr (by omega)) h)
                iterate 2 refine hK _ _ _ _ _ ?_
                exact ⟨R3, rfl, by omega, ⟨fun u hu q1 q2 => by have := h1 u (by omega) q1 q2; omega, fun _ => ⟨fun p hp ho k q1 q2 => by have := h3 p (by omega) ho k q1 q2; omega, fun g hg => h4 g (by omega)⟩⟩, rfl⟩
              | succ f3 ih3 =>
                intro g R3 hgG hR31 hR3 h4
                have ef : σ 86 0 g = nI (D.2.2.1 g) := hC.2.1 g (by omega)
                have hfr := hV.2.2.1 g
                iterate 3 refine hK _ _ _ _ _ ?_
                show K _ _ _ _ _
                rw [show σ 81 0 1 = nI 76 from hO.2.1]
                show K _ _ _ _ _
                rw [show (nI 76).toNatClampNeg = 76 from rfl]
                refine hK _ _ _ _ _ ?_
                show K _ _ _ _ _
                rw [show σ 76 0 1 = nI G from hS.2.1]
                refine hK _ _ _ _ _ ?_
                refine And.intro (fun h => absurd ((nI_leI (by omega) (by omega)).mp h) (by omega)) (fun _ => ?_)
                iterate 4 refine hK _ _ _ _ _ ?_
                refine And.intro (vp_in_nI (n := g) (by omega) (by decide)) ?_
                rw [nI_clamp (show g < 2 ^ 31 by omega)]
                rw [show σ 86 0 g = nI (D.2.2.1 g) from ef]
                iterate 2 refine hK _ _ _ _ _ ?_
                refine And.intro (fun h7 => ?_) (fun h7 => ?_)
                · have hgm : D.2.2.1 g ≤ m := (nI_leI (by omega) (by omega)).mp h7
                  refine hK _ _ _ _ _ ?_
                  show K _ _ _ _ _
                  rw [show nI g + Int32.ofInt 1 = nI (g + 1) from nIs _]
                  refine hK _ _ _ _ _ ?_
                  refine ih3 (g + 1) R3 (by omega) (by omega) hR3 (fun g' hg' q => ?_)
                  by_cases e : g' = g
                  · subst e; omega
                  · exact h4 g' (by omega) q
                · have hgm : m < D.2.2.1 g := Nat.lt_of_not_le (fun q => h7 ((nI_leI (by omega) (by omega)).mpr q))
                  iterate 5 refine hK _ _ _ _ _ ?_
                  refine And.intro (vp_in_nI (n := g) (by omega) (by decide)) ?_
                  rw [nI_clamp (show g < 2 ^ 31 by omega)]
                  rw [show σ 86 0 g = nI (D.2.2.1 g) from ef]
                  refine hK _ _ _ _ _ ?_
                  show K _ _ _ _ _
                  rw [mn_nI (by omega) (by omega)]
                  iterate 2 refine hK _ _ _ _ _ ?_
                  show K _ _ _ _ _
                  rw [show nI g + Int32.ofInt 1 = nI (g + 1) from nIs _]
                  refine hK _ _ _ _ _ ?_
                  refine ih3 (g + 1) (min R3 (D.2.2.1 g)) (by omega) (by omega) (by omega) (fun g' hg' q => ?_)
                  by_cases e : g' = g
                  · subst e; omega
                  · have := h4 g' (by omega) q; omega
            exact L118 G 0 R2 (by omega) (by omega) (Nat.le_refl _) (fun g hg => absurd hg (Nat.not_lt_zero _))
          | succ f2 ih2 =>
            intro p R2 hpP hR21 hR2 h3
            iterate 3 refine hK _ _ _ _ _ ?_
            show K _ _ _ _ _
            rw [show σ 81 0 0 = nI 36 from hO.1]
            show K _ _ _ _ _
            rw [show (nI 36).toNatClampNeg = 36 from rfl]
            refine hK _ _ _ _ _ ?_
            show K _ _ _ _ _
            rw [show σ 36 0 1 = nI P from hT.2.1]
            refine hK _ _ _ _ _ ?_
            refine And.intro (fun h => absurd ((nI_leI (by omega) (by omega)).mp h) (by omega)) (fun _ => ?_)
            iterate 5 refine hK _ _ _ _ _ ?_
            refine Or.inl (calD (c0_nextMinuteOf_36 _ _ c cm kd N P S G D m B h0 hm p (by omega)) ?_)
            rintro r σ' ⟨Rp, rfl, hRp1, hRp2, hσ⟩; subst σ'
            refine hK _ _ _ _ _ ?_
            show K _ _ _ _ _
            rw [mn_nI (by omega) (by omega)]
            iterate 2 refine hK _ _ _ _ _ ?_
            show K _ _ _ _ _
            rw [show nI p + Int32.ofInt 1 = nI (p + 1) from nIs _]
            refine hK _ _ _ _ _ ?_
            refine ih2 (p + 1) (min R2 Rp) (by omega) (by omega) (by omega) (fun p' hp' ho k q1 q2 => ?_)
            by_cases e : p' = p
            · subst e; have := hRp2 ho k q1 q2; omega
            · have := h3 p' (by omega) ho k q1 q2; omega
        exact L85 P 0 R (by omega) hR (Nat.le_refl _) (fun p hp => absurd hp (Nat.not_lt_zero _))
      · have hb0 := bI_f h8
        iterate 2 refine hK _ _ _ _ _ ?_
        exact ⟨R, rfl, hR, ⟨fun u hu => h1 u (by omega), fun ⟨u, q1, q2, q3⟩ => by have := h2 u (by omega) q2 q3; rw [hb0] at this; cases this⟩, rfl⟩
    | succ f ih =>
      intro s R b hsS hR h1 h2
      have e87 : σ 87 0 s = oI (D.2.1 s).2.2.1 := (hC.1 s (by omega)).2.2.1
      have e85 : σ 85 0 s = nI (D.2.1 s).2.1 := (hC.1 s (by omega)).2.1
      obtain ⟨-, x2, x3, -⟩ := hV.2.1 s (by omega)
      have hoi := oI_inj (a := (D.2.1 s).2.2.1) (fun k hk => by have := x3 k hk; omega)
      iterate 3 refine hK _ _ _ _ _ ?_
      show K _ _ _ _ _
      rw [show σ 81 0 0 = nI 36 from hO.1]
      show K _ _ _ _ _
      rw [show (nI 36).toNatClampNeg = 36 from rfl]
      refine hK _ _ _ _ _ ?_
      show K _ _ _ _ _
      rw [show σ 36 0 7 = nI S from hT.2.2.1]
      refine hK _ _ _ _ _ ?_
      refine And.intro (fun h => absurd ((nI_leI (by omega) (by omega)).mp h) (by omega)) (fun _ => ?_)
      iterate 4 refine hK _ _ _ _ _ ?_
      refine And.intro (vp_in_nI (n := s) (by omega) (by decide)) ?_
      rw [nI_clamp (show s < 2 ^ 31 by omega)]
      rw [show σ 87 0 s = oI (D.2.1 s).2.2.1 from e87]
      iterate 2 refine hK _ _ _ _ _ ?_
      refine And.intro (fun h9 => ?_) (fun h9 => ?_)
      · have hnn : ¬ (D.2.1 s).2.2.1 = none := fun q => h9 (hoi.mpr q)
        iterate 4 refine hK _ _ _ _ _ ?_
        refine And.intro (vp_in_nI (n := s) (by omega) (by decide)) ?_
        rw [nI_clamp (show s < 2 ^ 31 by omega)]
        rw [show σ 87 0 s = oI (D.2.1 s).2.2.1 from e87]
        iterate 2 refine hK _ _ _ _ _ ?_
        refine And.intro (fun _ => ?_) (fun h7 => absurd h7 h9)
        refine hK _ _ _ _ _ ?_
        show K _ _ _ _ _
        rw [show nI s + Int32.ofInt 1 = nI (s + 1) from nIs _]
        refine hK _ _ _ _ _ ?_
        refine ih (s + 1) R b (by omega) hR (fun u hu q1 q2 => ?_) (fun u hu q1 q2 => ?_)
        · by_cases e : u = s
          · subst e; exact absurd q1 hnn
          · exact h1 u (by omega) q1 q2
        · by_cases e : u = s
          · subst e; exact absurd q1 hnn
          · exact h2 u (by omega) q1 q2
      · have hnn := hoi.mp h9
        iterate 4 refine hK _ _ _ _ _ ?_
        refine And.intro (vp_in_nI (n := s) (by omega) (by decide)) ?_
        rw [nI_clamp (show s < 2 ^ 31 by omega)]
        rw [show σ 85 0 s = nI (D.2.1 s).2.1 from e85]
        iterate 2 refine hK _ _ _ _ _ ?_
        refine And.intro (fun h8 => ?_) (fun h8 => ?_)
        · have hfm : m < (D.2.1 s).2.1 := (nI_ltI (by omega) (by omega)).mp h8
          iterate 4 refine hK _ _ _ _ _ ?_
          refine And.intro (vp_in_nI (n := s) (by omega) (by decide)) ?_
          rw [nI_clamp (show s < 2 ^ 31 by omega)]
          rw [show σ 87 0 s = oI (D.2.1 s).2.2.1 from e87]
          iterate 2 refine hK _ _ _ _ _ ?_
          refine And.intro (fun h7 => absurd h9 h7) (fun _ => ?_)
          iterate 5 refine hK _ _ _ _ _ ?_
          refine And.intro (vp_in_nI (n := s) (by omega) (by decide)) ?_
          rw [nI_clamp (show s < 2 ^ 31 by omega)]
          rw [show σ 85 0 s = nI (D.2.1 s).2.1 from e85]
          refine hK _ _ _ _ _ ?_
          show K _ _ _ _ _
          rw [mn_nI (by omega) (by omega)]
          iterate 2 refine hK _ _ _ _ _ ?_
          show K _ _ _ _ _
          rw [show nI s + Int32.ofInt 1 = nI (s + 1) from nIs _]
          refine hK _ _ _ _ _ ?_
          refine ih (s + 1) (min R (D.2.1 s).2.1) b (by omega) (by omega) (fun u hu q1 q2 => ?_) (fun u hu q1 q2 => ?_)
          · by_cases e : u = s
            · subst e; omega
            · have := h1 u (by omega) q1 q2; omega
          · by_cases e : u = s
            · subst e; omega
            · exact h2 u (by omega) q1 q2
        · have hfm : (D.2.1 s).2.1 ≤ m := (nI_leI (by omega) (by omega)).mp (Int32.not_lt.mp h8)
          iterate 4 refine hK _ _ _ _ _ ?_
          show K _ _ _ _ _
          rw [show nI s + Int32.ofInt 1 = nI (s + 1) from nIs _]
          refine hK _ _ _ _ _ ?_
          refine ih (s + 1) R true (by omega) hR (fun u hu q1 q2 => ?_) (fun u hu q1 q2 => ?_)
          · by_cases e : u = s
            · subst e; omega
            · exact h1 u (by omega) q1 q2
          · by_cases e : u = s
            · subst e; rfl
            · rfl
  exact L8 S 0 1000000 false (by omega) (Nat.le_refl _) (fun u hu => absurd hu (Nat.not_lt_zero _)) (fun u hu => absurd hu (Nat.not_lt_zero _))
theorem c0_count_36 (d : Nat) (σ c : sMem) (cm : Nat → Bool) (kd N P S G : Nat) (D : DA) (B : Nat) (h : CE σ c cm 36 kd N P S G D 1000 0 false B) : sMet l D0 b0 ty lay d mX0_countWaitingToTheEnd [aR 81] σ (fun r σ' => r = [] ∧ CF σ' c 36 kd N P S G D ∧ ∀ i, i ≠ 81 → σ' i = σ i) := by
  refine sMet_intro lay_nd kX0_countWaitingToTheEnd xX0_ok (by decide +kernel) rfl ?_
  intro K hK
  obtain ⟨hT, hM, hS, hSC, ⟨hO, hA, hC, wc, hw1, hw2⟩, hV⟩ := h
  have hS8 := hM.2.2.2.1
  iterate 2 refine hK _ _ _ _ ?_
  have L2 : ∀ (f : Nat) (s : Nat) (μ : sMem), s + f = S → (∀ i, i ≠ 81 → μ i = σ i) → (∀ k, k ≠ 12 → μ 81 0 k = σ 81 0 k) → μ 81 0 12 = nI (wc + peS D 1000 0 s) → K 2 [some (aR 81), some (aI (nI s))] [] μ := by
    intro f
    induction f with
    | zero =>
      intro s μ hsS hfr h81 hw
      have hT1 : TT μ c 36 N P S := hT.cg (fun i _ _ => hfr i (by omega))
      have hO1 : CO μ 36 kd := ⟨by rw [h81 0 (by decide)]; exact hO.1, by rw [h81 1 (by decide)]; exact hO.2.1, by rw [h81 2 (by decide)]; exact hO.2.2⟩
      iterate 3 refine hK _ _ _ _ ?_
      show K _ _ _ _
      rw [show μ 81 0 0 = nI 36 from hO1.1]
      show K _ _ _ _
      rw [show (nI 36).toNatClampNeg = 36 from rfl]
      refine hK _ _ _ _ ?_
      show K _ _ _ _
      rw [show μ 36 0 7 = nI S from hT1.2.2.1]
      refine hK _ _ _ _ ?_
      refine And.intro (fun _ => ?_) (fun h => absurd ((nI_leI (by omega) (by omega)).mpr (by omega)) h)
      refine hK _ _ _ _ ?_
      have eS : s = S := by omega
      subst eS
      refine ⟨rfl, ⟨hO1, fun p hp => (hA p hp).cg (by rw [hfr 82 (by decide)]) (by rw [hfr 83 (by decide)]) rfl, ?_, by rw [hw, hw2]⟩, hfr⟩
      unfold CS
      rw [hfr 84 (by omega), hfr 85 (by omega), hfr 87 (by omega), hfr 88 (by omega), hfr 89 (by omega), hfr 86 (by omega), h81 13 (by decide), h81 11 (by decide)]
      exact hC
    | succ f ih =>
      intro s μ hsS hfr h81 hw
      have hT1 : TT μ c 36 N P S := hT.cg (fun i _ _ => hfr i (by omega))
      have hO1 : CO μ 36 kd := ⟨by rw [h81 0 (by decide)]; exact hO.1, by rw [h81 1 (by decide)]; exact hO.2.1, by rw [h81 2 (by decide)]; exact hO.2.2⟩
      have e87 : μ 87 0 s = oI (D.2.1 s).2.2.1 := by rw [hfr 87 (by decide)]; exact (hC.1 s (by omega)).2.2.1
      have e85 : μ 85 0 s = nI (D.2.1 s).2.1 := by rw [hfr 85 (by decide)]; exact (hC.1 s (by omega)).2.1
      obtain ⟨-, x2, x3, -⟩ := hV.2.1 s (by omega)
      have hoi := oI_inj (a := (D.2.1 s).2.2.1) (fun k hk => by have := x3 k hk; omega)
      have hpe : peS D 1000 0 (s + 1) = peS D 1000 0 s + if (D.2.1 s).2.2.1 = none then 1000 - (D.2.1 s).2.1 else 0 := rfl
      iterate 3 refine hK _ _ _ _ ?_
      show K _ _ _ _
      rw [show μ 81 0 0 = nI 36 from hO1.1]
      show K _ _ _ _
      rw [show (nI 36).toNatClampNeg = 36 from rfl]
      refine hK _ _ _ _ ?_
      show K _ _ _ _
      rw [show μ 36 0 7 = nI S from hT1.2.2.1]
      refine hK _ _ _ _ ?_
      refine And.intro (fun h => absurd ((nI_leI (by omega) (by omega)).mp h) (by omega)) (fun _ => ?_)
      iterate 4 refine hK _ _ _ _ ?_
      refine And.intro (vp_in_nI (n := s) (by omega) (by decide)) ?_
      rw [nI_clamp (show s < 2 ^ 31 by omega)]
      rw [show μ 87 0 s = oI (D.2.1 s).2.2.1 from e87]
      iterate 2 refine hK _ _ _ _ ?_
      refine And.intro (fun h9 => ?_) (fun h9 => ?_)
      · refine hK _ _ _ _ ?_
        show K _ _ _ _
        rw [show nI s + Int32.ofInt 1 = nI (s + 1) from nIs _]
        refine hK _ _ _ _ ?_
        exact ih (s + 1) μ (by omega) hfr h81 (by rw [hw, hpe, if_neg (fun q => h9 (hoi.mpr q))]; rfl)
      · have hnn := hoi.mp h9
        iterate 4 refine hK _ _ _ _ ?_
        refine And.intro (vp_in_nI (n := s) (by omega) (by decide)) ?_
        rw [nI_clamp (show s < 2 ^ 31 by omega)]
        rw [show μ 85 0 s = nI (D.2.1 s).2.1 from e85]
        iterate 2 refine hK _ _ _ _ ?_
        refine And.intro (fun h8 => ?_) (fun h8 => ?_)
        · have hfm : 999 < (D.2.1 s).2.1 := (nI_ltI (a := 999) (by decide) (by omega)).mp h8
          refine hK _ _ _ _ ?_
          show K _ _ _ _
          rw [show nI s + Int32.ofInt 1 = nI (s + 1) from nIs _]
          refine hK _ _ _ _ ?_
          exact ih (s + 1) μ (by omega) hfr h81 (by rw [hw, hpe, if_pos hnn]; congr 1; omega)
        · have hfm : (D.2.1 s).2.1 ≤ 999 := (nI_leI (b := 999) (by omega) (by decide)).mp (Int32.not_lt.mp h8)
          iterate 3 refine hK _ _ _ _ ?_
          show K _ _ _ _
          rw [show μ 81 0 12 = nI (wc + peS D 1000 0 s) from hw]
          iterate 5 refine hK _ _ _ _ ?_
          refine And.intro (vp_in_nI (n := s) (by omega) (by decide)) ?_
          rw [nI_clamp (show s < 2 ^ 31 by omega)]
          rw [show μ 85 0 s = nI (D.2.1 s).2.1 from e85]
          iterate 2 refine hK _ _ _ _ ?_
          show K _ _ _ _
          rw [show (Int16.ofInt 1000).toInt32 - nI (D.2.1 s).2.1 = nI (1000 - (D.2.1 s).2.1) from nIm (a := 1000) (by omega), nIa]
          iterate 2 refine hK _ _ _ _ ?_
          show K _ _ _ _
          rw [show nI s + Int32.ofInt 1 = nI (s + 1) from nIs _]
          refine hK _ _ _ _ ?_
          refine ih (s + 1) _ (by omega) (fun i hi => by rw [sUp_off hi]; exact hfr i hi) (fun k hk => by rw [sUp_k hk]; exact h81 k hk) (by rw [sUp_at, hpe, if_pos hnn]; congr 1; omega)
  exact L2 S 0 σ (by omega) (fun _ _ => rfl) (fun _ _ => rfl) hw1
theorem c0_nextMinuteOf_54 (d : Nat) (σ c : sMem) (cm : Nat → Bool) (kd N P S G : Nat) (D : DA) (m B : Nat) (h : CE σ c cm 54 kd N P S G D m S true B) (hm : m ≤ 999) (p : Nat) (hp : p < P) : sMet l D0 b0 ty lay d mX0_nextMinuteOf [aR 81, aI (nI p), aI (nI m)] σ (fun r σ' => ∃ R : Nat, r = [aI (nI R)] ∧ R ≤ 1000000 ∧ (ouP c p = true → ∀ k, k ≤ pl c (pQ c p) (D.1 p).1 → m < (pth c (pQ c p) k (D.1 p)).2 → R ≤ (pth c (pQ c p) k (D.1 p)).2) ∧ σ' = σ) := by
  refine sMet_intro lay_nd kX0_nextMinuteOf xX0_ok (by decide +kernel) rfl ?_
  intro K hK
  obtain ⟨hT, hM, hS, hSC, ⟨hO, hA, hC, hW⟩, hV⟩ := h
  have hN := hM.1.1.1
  have hP := hM.2.2.1
  have hS8 := hM.2.2.2.1
  obtain ⟨⟨ea, hpa⟩, ⟨eq, hq⟩, -⟩ := hM.2.2.2.2.1 p hp
  have k6 : σ 60 0 p = nI (pQ c p) := (hT.2.2.2.2.1 p hp).2.1
  cases ho : ouP c p
  · obtain ⟨y83, a, ha, y82⟩ := (hA p hp).2 ho
    iterate 4 refine hK _ _ _ _ ?_
    refine And.intro (vp_in_nI (n := p) (by omega) (by decide)) ?_
    rw [nI_clamp (show p < 2 ^ 31 by omega)]
    rw [show σ 83 0 p = nI 1000000 from y83]
    iterate 2 refine hK _ _ _ _ ?_
    refine And.intro (fun h9 => absurd ((nI_leI (a := 1000000) (b := m) (by decide) (by omega)).mp h9) (by omega)) (fun _ => ?_)
    iterate 4 refine hK _ _ _ _ ?_
    refine And.intro (vp_in_nI (n := p) (by omega) (by decide)) ?_
    rw [nI_clamp (show p < 2 ^ 31 by omega)]
    rw [show σ 83 0 p = nI 1000000 from y83]
    refine hK _ _ _ _ ?_
    exact ⟨1000000, rfl, Nat.le_refl _, fun h2 => (by rw [ho] at h2; cases h2), rfl⟩
  · obtain ⟨k, k2, k3, hmv, y82', y83'⟩ := (hA p hp).1 ho
    obtain ⟨b1, b2, b3⟩ := hV.1 p hp ho
    have hpt := pth_at hM.1 hq k (D.1 p).1 (D.1 p).2 b1 b2 k2
    have f6 := fN_660 hM.1 hq b1 b2
    obtain ⟨⟨a, w⟩, k4⟩ : ∃ aw, pth c (pQ c p) k (D.1 p) = aw := ⟨_, rfl⟩
    have k5 : pth c (pQ c p) k ((D.1 p).1, (D.1 p).2) = (a, w) := k4
    rw [k5] at hpt
    dsimp only at hpt
    rw [k4] at y82' y83' hmv
    have hw : w ≤ 2319 := by omega
    have ha := hpt.1
    have nl := nx_lt hM.1 ha hq
    have y82 : σ 82 0 p = nI a := y82'
    have y83 : σ 83 0 p = nI w := y83'
    have ks : σ 58 a (pQ c p) = nI (nxN c a (pQ c p)) := (hT.2.2.2.1 a _ ha hq).2
    have km : σ 57 a (nxN c a (pQ c p)) = nI (fN c a (nxN c a (pQ c p))) := (hT.2.2.2.1 a _ ha nl).1
    have mono : ∀ k1 k', k1 ≤ k' → k' ≤ pl c (pQ c p) (D.1 p).1 → (pth c (pQ c p) k1 (D.1 p)).2 ≤ (pth c (pQ c p) k' (D.1 p)).2 := fun k1 k' g1 g2 => by
      have := pth_mono (w := (D.1 p).2) hM.1 hq b1 b2 (k' - k1) k1 (by omega)
      rw [show k1 + (k' - k1) = k' by omega] at this
      have h9 : (pth c (pQ c p) k1 (D.1 p)).2 + (k' - k1) ≤ (pth c (pQ c p) k' (D.1 p)).2 := this
      omega
    iterate 4 refine hK _ _ _ _ ?_
    refine And.intro (vp_in_nI (n := p) (by omega) (by decide)) ?_
    rw [nI_clamp (show p < 2 ^ 31 by omega)]
    rw [show σ 83 0 p = nI w from y83]
    iterate 2 refine hK _ _ _ _ ?_
    refine And.intro (fun h9 => ?_) (fun h9 => ?_)
    · have hwm : w ≤ m := (nI_leI (by omega) (by omega)).mp h9
      iterate 2 refine hK _ _ _ _ ?_
      show K _ _ _ _
      rw [show σ 81 0 0 = nI 54 from hO.1]
      show K _ _ _ _
      rw [show (nI 54).toNatClampNeg = 54 from rfl]
      iterate 3 refine hK _ _ _ _ ?_
      refine And.intro (vp_in_nI (n := p) (by omega) (by decide)) ?_
      rw [nI_clamp (show p < 2 ^ 31 by omega)]
      rw [show σ 60 0 p = nI (pQ c p) from k6]
      iterate 5 refine hK _ _ _ _ ?_
      refine And.intro (vp_in_nI (n := p) (by omega) (by decide)) ?_
      rw [nI_clamp (show p < 2 ^ 31 by omega)]
      rw [show σ 82 0 p = nI a from y82]
      iterate 2 refine hK _ _ _ _ ?_
      refine And.intro (fun h8 => ?_) (fun h8 => ?_)
      · have haq : ¬ a = pQ c p := fun e => h8 (by rw [e])
        have hkl : k ≠ pl c (pQ c p) (D.1 p).1 := fun e => haq (by
          have := (pth_q (k := k) (w := (D.1 p).2) hM.1 hq b1 b2 k2).mpr e
          rw [k5] at this
          exact this)
        obtain ⟨n1, n2, n3, n4, n5, n6⟩ := nx_at hM.1 ha hq hpt.2.1 haq
        iterate 4 refine hK _ _ _ _ ?_
        refine And.intro (vp_in_nI (n := p) (by omega) (by decide)) ?_
        rw [nI_clamp (show p < 2 ^ 31 by omega)]
        rw [show σ 83 0 p = nI w from y83]
        iterate 2 refine hK _ _ _ _ ?_
        show K _ _ _ _
        rw [show σ 81 0 0 = nI 54 from hO.1]
        show K _ _ _ _
        rw [show (nI 54).toNatClampNeg = 54 from rfl]
        iterate 6 refine hK _ _ _ _ ?_
        refine And.intro (vp_in_nI (n := p) (by omega) (by decide)) ?_
        rw [nI_clamp (show p < 2 ^ 31 by omega)]
        rw [show σ 82 0 p = nI a from y82]
        refine hK _ _ _ _ ?_
        refine And.intro (vp_in_nI (n := a) (by omega) (by decide)) ?_
        rw [nI_clamp (show a < 2 ^ 31 by omega)]
        iterate 2 refine hK _ _ _ _ ?_
        show K _ _ _ _
        rw [show σ 81 0 0 = nI 54 from hO.1]
        show K _ _ _ _
        rw [show (nI 54).toNatClampNeg = 54 from rfl]
        iterate 6 refine hK _ _ _ _ ?_
        refine And.intro (vp_in_nI (n := p) (by omega) (by decide)) ?_
        rw [nI_clamp (show p < 2 ^ 31 by omega)]
        rw [show σ 82 0 p = nI a from y82]
        refine hK _ _ _ _ ?_
        refine And.intro (vp_in_nI (n := a) (by omega) (by decide)) ?_
        rw [nI_clamp (show a < 2 ^ 31 by omega)]
        iterate 2 refine hK _ _ _ _ ?_
        refine And.intro (by first | omega | (rw [nI_clamp (by omega)]; omega)) (And.intro (vp_in_nI (n := (pQ c p)) (by omega) (by decide)) ?_)
        rw [nI_clamp (show (pQ c p) < 2 ^ 31 by omega)]
        rw [show σ 58 a (pQ c p) = nI (nxN c a (pQ c p)) from ks]
        refine hK _ _ _ _ ?_
        refine And.intro (by first | omega | (rw [nI_clamp (by omega)]; omega)) (And.intro (vp_in_nI (n := (nxN c a (pQ c p))) (by omega) (by decide)) ?_)
        rw [nI_clamp (show (nxN c a (pQ c p)) < 2 ^ 31 by omega)]
        rw [show σ 57 a (nxN c a (pQ c p)) = nI (fN c a (nxN c a (pQ c p))) from km]
        iterate 2 refine hK _ _ _ _ ?_
        have ep : pth c (pQ c p) (k + 1) (D.1 p) = (nxN c a (pQ c p), w + fN c a (nxN c a (pQ c p))) := by rw [pth_s, k4]; rfl
        refine ⟨w + fN c a (nxN c a (pQ c p)), by rw [nIa], by omega, fun _ k' h1 h2 => ?_, rfl⟩
        rcases Nat.lt_trichotomy k' k with g | g | g
        · have := k3 k' g; omega
        · subst g; rw [k4] at h2; dsimp only at h2; omega
        · have := mono (k + 1) k' (by omega) h1
          rw [ep] at this
          exact this
      · have haq : a = pQ c p := (nI_eq (by omega) (by omega)).mp h8
        iterate 2 refine hK _ _ _ _ ?_
        refine ⟨1000000, rfl, Nat.le_refl _, fun _ k' h1 h2 => ?_, rfl⟩
        have hkl := (pth_q (k := k) (w := (D.1 p).2) hM.1 hq b1 b2 k2).mp (by rw [k5]; exact haq)
        rcases Nat.lt_trichotomy k' k with g | g | g
        · have := k3 k' g; omega
        · subst g; rw [k4] at h2; dsimp only at h2; omega
        · omega
    · have hwm : m < w := Nat.lt_of_not_le (fun q => h9 ((nI_leI (by omega) (by omega)).mpr q))
      iterate 4 refine hK _ _ _ _ ?_
      refine And.intro (vp_in_nI (n := p) (by omega) (by decide)) ?_
      rw [nI_clamp (show p < 2 ^ 31 by omega)]
      rw [show σ 83 0 p = nI w from y83]
      refine hK _ _ _ _ ?_
      refine ⟨w, rfl, by omega, fun _ k' h1 h2 => ?_, rfl⟩
      rcases Nat.lt_or_ge k' k with g | g
      · have := k3 k' g; omega
      · have := mono k k' g h1
        rw [k4] at this
        exact this
set_option maxHeartbeats 2000000 in
theorem c0_nextMinute_54 (d : Nat) (σ c : sMem) (cm : Nat → Bool) (kd N P S G : Nat) (D : DA) (m B : Nat) (h : CE σ c cm 54 kd N P S G D m S true B) (hm : m ≤ 999) : yMet l D0 b0 ty ad av lay (d + 1) 0 mX0_nextMinute [aR 81, aI (nI m)] σ (fun r σ' => ∃ R : Nat, r = [aI (nI R)] ∧ R ≤ 1000000 ∧ NM c P S G D m R ∧ σ' = σ) (fun _ _ => False) := by
  refine yMet_intro lay_nd kX0_nextMinute xX0_ok (yY0_ok _) (by decide +kernel) rfl ?_
  intro K hK
  have h0 := h
  obtain ⟨hT, hM, hS, hSC, ⟨hO, hA, hC, hW⟩, hV⟩ := h
  have hN := hM.1.1.1
  have hP := hM.2.2.1
  have hS8 := hM.2.2.2.1
  have hG6 := hSC.2.1
  iterate 6 refine hK _ _ _ _ _ ?_
  have L8 : ∀ (f : Nat) (s R : Nat) (b : Bool), s + f = S → R ≤ 1000000 → (∀ u, u < s → (D.2.1 u).2.2.1 = none → m < (D.2.1 u).2.1 → R ≤ (D.2.1 u).2.1) → (∀ u, u < s → (D.2.1 u).2.2.1 = none → (D.2.1 u).2.1 ≤ m → b = true) → K 0 8 [some (aR 81), some (aI (nI m)), some (aI (nI R)), some (aI (bI b)), some (aI (nI s))] [] σ := by
    intro f
    induction f with
    | zero =>
      intro s R b hsS hR h1 h2
      iterate 3 refine hK _ _ _ _ _ ?_
      show K _ _ _ _ _
      rw [show σ 81 0 0 = nI 54 from hO.1]
      show K _ _ _ _ _
      rw [show (nI 54).toNatClampNeg = 54 from rfl]
      refine hK _ _ _ _ _ ?_
      show K _ _ _ _ _
      rw [show σ 54 0 7 = nI S from hT.2.2.1]
      refine hK _ _ _ _ _ ?_
      refine And.intro (fun _ => ?_) (fun h => absurd ((nI_leI (by omega) (by omega)).mpr (by omega)) h)
      iterate 2 refine hK _ _ _ _ _ ?_
      refine And.intro (fun h8 => ?_) (fun h8 => ?_)
      · iterate 2 refine hK _ _ _ _ _ ?_
        have L85 : ∀ (f2 : Nat) (p R2 : Nat), p + f2 = P → R2 ≤ 1000000 → R2 ≤ R → (∀ p', p' < p → ouP c p' = true → ∀ k, k ≤ pl c (pQ c p') (D.1 p').1 → m < (pth c (pQ c p') k (D.1 p')).2 → R2 ≤ (pth c (pQ c p') k (D.1 p')).2) → K 0 85 [some (aR 81), some (aI (nI m)), some (aI (nI R2)), some (aI (bI b)), some (aI (nI p))] [] σ := by
          intro f2
          induction f2 with
          | zero =>
            intro p R2 hpP hR21 hR2 h3
            iterate 3 refine hK _ _ _ _ _ ?_
            show K _ _ _ _ _
            rw [show σ 81 0 0 = nI 54 from hO.1]
            show K _ _ _ _ _
            rw [show (nI 54).toNatClampNeg = 54 from rfl]
            refine hK _ _ _ _ _ ?_
            show K _ _ _ _ _
            rw [show σ 54 0 1 = nI P from hT.2.1]
            refine hK _ _ _ _ _ ?_
            refine And.intro (fun _ => ?_) (fun h => absurd ((nI_leI (by omega) (by omega)).mpr (by omega)) h)
            iterate 2 refine hK _ _ _ _ _ ?_
            have L118 : ∀ (f3 : Nat) (g R3 : Nat), g + f3 = G → R3 ≤ 1000000 → R3 ≤ R2 → (∀ g', g' < g → m < D.2.2.1 g' → R3 ≤ D.2.2.1 g') → K 0 118 [some (aR 81), some (aI (nI m)), some (aI (nI R3)), some (aI (bI b)), some (aI (nI g))] [] σ := by
              intro f3
              induction f3 with
              | zero =>
                intro g R3 hgG hR31 hR3 h4
                iterate 3 refine hK _ _ _ _ _ ?_
                show K _ _ _ _ _
                rw [show σ 81 0 1 = nI 76 from hO.2.1]
                show K _ _ _ _ _
                rw [show (nI 76).toNatClampNeg = 76 from rfl]
                refine hK _ _ _ _ _ ?_
                show K _ _ _ _ _
                rw [show σ 76 0 1 = nI G from hS.2.1]
                refine hK _ _ _ _ _ ?_
                refine And.intro (fun _ => ?_) (fun h => absurd ((nI_leI (by omega) (by omega)).mpr (by omega)) h)
                iterate 2 refine hK _ _ _ _ _ ?_
                exact ⟨R3, rfl, by omega, ⟨fun u hu q1 q2 => by have := h1 u (by omega) q1 q2; omega, fun _ => ⟨fun p hp ho k q1 q2 => by have := h3 p (by omega) ho k q1 q2; omega, fun g hg => h4 g (by omega)⟩⟩, rfl⟩
              | succ f3 ih3 =>
                intro g R3 hgG hR31 hR3 h4
                have ef : σ 86 0 g = nI (D.2.2.1 g) := hC.2.1 g (by omega)
                have hfr := hV.2.2.1 g
                iterate 3 refine hK _ _ _ _ _ ?_
                show K _ _ _ _ _
                rw [show σ 81 0 1 = nI 76 from hO.2.1]
                show K _ _ _ _ _
                rw [show (nI 76).toNatClampNeg = 76 from rfl]
                refine hK _ _ _ _ _ ?_
                show K _ _ _ _ _
                rw [show σ 76 0 1 = nI G from hS.2.1]
                refine hK _ _ _ _ _ ?_
                refine And.intro (fun h => absurd ((nI_leI (by omega) (by omega)).mp h) (by omega)) (fun _ => ?_)
                iterate 4 refine hK _ _ _ _ _ ?_
                refine And.intro (vp_in_nI (n := g) (by omega) (by decide)) ?_
                rw [nI_clamp (show g < 2 ^ 31 by omega)]
                rw [show σ 86 0 g = nI (D.2.2.1 g) from ef]
                iterate 2 refine hK _ _ _ _ _ ?_
                refine And.intro (fun h7 => ?_) (fun h7 => ?_)
                · have hgm : D.2.2.1 g ≤ m := (nI_leI (by omega) (by omega)).mp h7
                  refine hK _ _ _ _ _ ?_
                  show K _ _ _ _ _
                  rw [show nI g + Int32.ofInt 1 = nI (g + 1) from nIs _]
                  refine hK _ _ _ _ _ ?_
                  refine ih3 (g + 1) R3 (by omega) (by omega) hR3 (fun g' hg' q => ?_)
                  by_cases e : g' = g
                  · subst e; omega
                  · exact h4 g' (by omega) q
                · have hgm : m < D.2.2.1 g := Nat.lt_of_not_le (fun q => h7 ((nI_leI (by omega) (by omega)).mpr q))
                  iterate 5 refine hK _ _ _ _ _ ?_
                  refine And.intro (vp_in_nI (n := g) (by omega) (by decide)) ?_
                  rw [nI_clamp (show g < 2 ^ 31 by omega)]
                  rw [show σ 86 0 g = nI (D.2.2.1 g) from ef]
                  refine hK _ _ _ _ _ ?_
                  show K _ _ _ _ _
                  rw [mn_nI (by omega) (by omega)]
                  iterate 2 refine hK _ _ _ _ _ ?_
                  show K _ _ _ _ _
                  rw [show nI g + Int32.ofInt 1 = nI (g + 1) from nIs _]
                  refine hK _ _ _ _ _ ?_
                  refine ih3 (g + 1) (min R3 (D.2.2.1 g)) (by omega) (by omega) (by omega) (fun g' hg' q => ?_)
                  by_cases e : g' = g
                  · subst e; omega
                  · have := h4 g' (by omega) q; omega
            exact L118 G 0 R2 (by omega) (by omega) (Nat.le_refl _) (fun g hg => absurd hg (Nat.not_lt_zero _))
          | succ f2 ih2 =>
            intro p R2 hpP hR21 hR2 h3
            iterate 3 refine hK _ _ _ _ _ ?_
            show K _ _ _ _ _
            rw [show σ 81 0 0 = nI 54 from hO.1]
            show K _ _ _ _ _
            rw [show (nI 54).toNatClampNeg = 54 from rfl]
            refine hK _ _ _ _ _ ?_
            show K _ _ _ _ _
            rw [show σ 54 0 1 = nI P from hT.2.1]
            refine hK _ _ _ _ _ ?_
            refine And.intro (fun h => absurd ((nI_leI (by omega) (by omega)).mp h) (by omega)) (fun _ => ?_)
            iterate 5 refine hK _ _ _ _ _ ?_
            refine Or.inl (calD (c0_nextMinuteOf_54 _ _ c cm kd N P S G D m B h0 hm p (by omega)) ?_)
            rintro r σ' ⟨Rp, rfl, hRp1, hRp2, hσ⟩; subst σ'
            refine hK _ _ _ _ _ ?_
            show K _ _ _ _ _
            rw [mn_nI (by omega) (by omega)]
            iterate 2 refine hK _ _ _ _ _ ?_
            show K _ _ _ _ _
            rw [show nI p + Int32.ofInt 1 = nI (p + 1) from nIs _]
            refine hK _ _ _ _ _ ?_
            refine ih2 (p + 1) (min R2 Rp) (by omega) (by omega) (by omega) (fun p' hp' ho k q1 q2 => ?_)
            by_cases e : p' = p
            · subst e; have := hRp2 ho k q1 q2; omega
            · have := h3 p' (by omega) ho k q1 q2; omega
        exact L85 P 0 R (by omega) hR (Nat.le_refl _) (fun p hp => absurd hp (Nat.not_lt_zero _))
      · have hb0 := bI_f h8
        iterate 2 refine hK _ _ _ _ _ ?_
        exact ⟨R, rfl, hR, ⟨fun u hu => h1 u (by omega), fun ⟨u, q1, q2, q3⟩ => by have := h2 u (by omega) q2 q3; rw [hb0] at this; cases this⟩, rfl⟩
    | succ f ih =>
      intro s R b hsS hR h1 h2
      have e87 : σ 87 0 s = oI (D.2.1 s).2.2.1 := (hC.1 s (by omega)).2.2.1
      have e85 : σ 85 0 s = nI (D.2.1 s).2.1 := (hC.1 s (by omega)).2.1
      obtain ⟨-, x2, x3, -⟩ := hV.2.1 s (by omega)
      have hoi := oI_inj (a := (D.2.1 s).2.2.1) (fun k hk => by have := x3 k hk; omega)
      iterate 3 refine hK _ _ _ _ _ ?_
      show K _ _ _ _ _
      rw [show σ 81 0 0 = nI 54 from hO.1]
      show K _ _ _ _ _
      rw [show (nI 54).toNatClampNeg = 54 from rfl]
      refine hK _ _ _ _ _ ?_
      show K _ _ _ _ _
      rw [show σ 54 0 7 = nI S from hT.2.2.1]
      refine hK _ _ _ _ _ ?_
      refine And.intro (fun h => absurd ((nI_leI (by omega) (by omega)).mp h) (by omega)) (fun _ => ?_)
      iterate 4 refine hK _ _ _ _ _ ?_
      refine And.intro (vp_in_nI (n := s) (by omega) (by decide)) ?_
      rw [nI_clamp (show s < 2 ^ 31 by omega)]
      rw [show σ 87 0 s = oI (D.2.1 s).2.2.1 from e87]
      iterate 2 refine hK _ _ _ _ _ ?_
      refine And.intro (fun h9 => ?_) (fun h9 => ?_)
      · have hnn : ¬ (D.2.1 s).2.2.1 = none := fun q => h9 (hoi.mpr q)
        iterate 4 refine hK _ _ _ _ _ ?_
        refine And.intro (vp_in_nI (n := s) (by omega) (by decide)) ?_
        rw [nI_clamp (show s < 2 ^ 31 by omega)]
        rw [show σ 87 0 s = oI (D.2.1 s).2.2.1 from e87]
        iterate 2 refine hK _ _ _ _ _ ?_
        refine And.intro (fun _ => ?_) (fun h7 => absurd h7 h9)
        refine hK _ _ _ _ _ ?_
        show K _ _ _ _ _
        rw [show nI s + Int32.ofInt 1 = nI (s + 1) from nIs _]
        refine hK _ _ _ _ _ ?_
        refine ih (s + 1) R b (by omega) hR (fun u hu q1 q2 => ?_) (fun u hu q1 q2 => ?_)
        · by_cases e : u = s
          · subst e; exact absurd q1 hnn
          · exact h1 u (by omega) q1 q2
        · by_cases e : u = s
          · subst e; exact absurd q1 hnn
          · exact h2 u (by omega) q1 q2
      · have hnn := hoi.mp h9
        iterate 4 refine hK _ _ _ _ _ ?_
        refine And.intro (vp_in_nI (n := s) (by omega) (by decide)) ?_
        rw [nI_clamp (show s < 2 ^ 31 by omega)]
        rw [show σ 85 0 s = nI (D.2.1 s).2.1 from e85]
        iterate 2 refine hK _ _ _ _ _ ?_
        refine And.intro (fun h8 => ?_) (fun h8 => ?_)
        · have hfm : m < (D.2.1 s).2.1 := (nI_ltI (by omega) (by omega)).mp h8
          iterate 4 refine hK _ _ _ _ _ ?_
          refine And.intro (vp_in_nI (n := s) (by omega) (by decide)) ?_
          rw [nI_clamp (show s < 2 ^ 31 by omega)]
          rw [show σ 87 0 s = oI (D.2.1 s).2.2.1 from e87]
          iterate 2 refine hK _ _ _ _ _ ?_
          refine And.intro (fun h7 => absurd h9 h7) (fun _ => ?_)
          iterate 5 refine hK _ _ _ _ _ ?_
          refine And.intro (vp_in_nI (n := s) (by omega) (by decide)) ?_
          rw [nI_clamp (show s < 2 ^ 31 by omega)]
          rw [show σ 85 0 s = nI (D.2.1 s).2.1 from e85]
          refine hK _ _ _ _ _ ?_
          show K _ _ _ _ _
          rw [mn_nI (by omega) (by omega)]
          iterate 2 refine hK _ _ _ _ _ ?_
          show K _ _ _ _ _
          rw [show nI s + Int32.ofInt 1 = nI (s + 1) from nIs _]
          refine hK _ _ _ _ _ ?_
          refine ih (s + 1) (min R (D.2.1 s).2.1) b (by omega) (by omega) (fun u hu q1 q2 => ?_) (fun u hu q1 q2 => ?_)
          · by_cases e : u = s
            · subst e; omega
            · have := h1 u (by omega) q1 q2; omega
          · by_cases e : u = s
            · subst e; omega
            · exact h2 u (by omega) q1 q2
        · have hfm : (D.2.1 s).2.1 ≤ m := (nI_leI (by omega) (by omega)).mp (Int32.not_lt.mp h8)
          iterate 4 refine hK _ _ _ _ _ ?_
          show K _ _ _ _ _
          rw [show nI s + Int32.ofInt 1 = nI (s + 1) from nIs _]
          refine hK _ _ _ _ _ ?_
          refine ih (s + 1) R true (by omega) hR (fun u hu q1 q2 => ?_) (fun u hu q1 q2 => ?_)
          · by_cases e : u = s
            · subst e; omega
            · exact h1 u (by omega) q1 q2
          · by_cases e : u = s
            · subst e; rfl
            · rfl
  exact L8 S 0 1000000 false (by omega) (Nat.le_refl _) (fun u hu => absurd hu (Nat.not_lt_zero _)) (fun u hu => absurd hu (Nat.not_lt_zero _))
theorem c0_count_54 (d : Nat) (σ c : sMem) (cm : Nat → Bool) (kd N P S G : Nat) (D : DA) (B : Nat) (h : CE σ c cm 54 kd N P S G D 1000 0 false B) : sMet l D0 b0 ty lay d mX0_countWaitingToTheEnd [aR 81] σ (fun r σ' => r = [] ∧ CF σ' c 54 kd N P S G D ∧ ∀ i, i ≠ 81 → σ' i = σ i) := by
  refine sMet_intro lay_nd kX0_countWaitingToTheEnd xX0_ok (by decide +kernel) rfl ?_
  intro K hK
  obtain ⟨hT, hM, hS, hSC, ⟨hO, hA, hC, wc, hw1, hw2⟩, hV⟩ := h
  have hS8 := hM.2.2.2.1
  iterate 2 refine hK _ _ _ _ ?_
  have L2 : ∀ (f : Nat) (s : Nat) (μ : sMem), s + f = S → (∀ i, i ≠ 81 → μ i = σ i) → (∀ k, k ≠ 12 → μ 81 0 k = σ 81 0 k) → μ 81 0 12 = nI (wc + peS D 1000 0 s) → K 2 [some (aR 81), some (aI (nI s))] [] μ := by
    intro f
    induction f with
    | zero =>
      intro s μ hsS hfr h81 hw
      have hT1 : TT μ c 54 N P S := hT.cg (fun i _ _ => hfr i (by omega))
      have hO1 : CO μ 54 kd := ⟨by rw [h81 0 (by decide)]; exact hO.1, by rw [h81 1 (by decide)]; exact hO.2.1, by rw [h81 2 (by decide)]; exact hO.2.2⟩
      iterate 3 refine hK _ _ _ _ ?_
      show K _ _ _ _
      rw [show μ 81 0 0 = nI 54 from hO1.1]
      show K _ _ _ _
      rw [show (nI 54).toNatClampNeg = 54 from rfl]
      refine hK _ _ _ _ ?_
      show K _ _ _ _
      rw [show μ 54 0 7 = nI S from hT1.2.2.1]
      refine hK _ _ _ _ ?_
      refine And.intro (fun _ => ?_) (fun h => absurd ((nI_leI (by omega) (by omega)).mpr (by omega)) h)
      refine hK _ _ _ _ ?_
      have eS : s = S := by omega
      subst eS
      refine ⟨rfl, ⟨hO1, fun p hp => (hA p hp).cg (by rw [hfr 82 (by decide)]) (by rw [hfr 83 (by decide)]) rfl, ?_, by rw [hw, hw2]⟩, hfr⟩
      unfold CS
      rw [hfr 84 (by omega), hfr 85 (by omega), hfr 87 (by omega), hfr 88 (by omega), hfr 89 (by omega), hfr 86 (by omega), h81 13 (by decide), h81 11 (by decide)]
      exact hC
    | succ f ih =>
      intro s μ hsS hfr h81 hw
      have hT1 : TT μ c 54 N P S := hT.cg (fun i _ _ => hfr i (by omega))
      have hO1 : CO μ 54 kd := ⟨by rw [h81 0 (by decide)]; exact hO.1, by rw [h81 1 (by decide)]; exact hO.2.1, by rw [h81 2 (by decide)]; exact hO.2.2⟩
      have e87 : μ 87 0 s = oI (D.2.1 s).2.2.1 := by rw [hfr 87 (by decide)]; exact (hC.1 s (by omega)).2.2.1
      have e85 : μ 85 0 s = nI (D.2.1 s).2.1 := by rw [hfr 85 (by decide)]; exact (hC.1 s (by omega)).2.1
      obtain ⟨-, x2, x3, -⟩ := hV.2.1 s (by omega)
      have hoi := oI_inj (a := (D.2.1 s).2.2.1) (fun k hk => by have := x3 k hk; omega)
      have hpe : peS D 1000 0 (s + 1) = peS D 1000 0 s + if (D.2.1 s).2.2.1 = none then 1000 - (D.2.1 s).2.1 else 0 := rfl
      iterate 3 refine hK _ _ _ _ ?_
      show K _ _ _ _
      rw [show μ 81 0 0 = nI 54 from hO1.1]
      show K _ _ _ _
      rw [show (nI 54).toNatClampNeg = 54 from rfl]
      refine hK _ _ _ _ ?_
      show K _ _ _ _
      rw [show μ 54 0 7 = nI S from hT1.2.2.1]
      refine hK _ _ _ _ ?_
      refine And.intro (fun h => absurd ((nI_leI (by omega) (by omega)).mp h) (by omega)) (fun _ => ?_)
      iterate 4 refine hK _ _ _ _ ?_
      refine And.intro (vp_in_nI (n := s) (by omega) (by decide)) ?_
      rw [nI_clamp (show s < 2 ^ 31 by omega)]
      rw [show μ 87 0 s = oI (D.2.1 s).2.2.1 from e87]
      iterate 2 refine hK _ _ _ _ ?_
      refine And.intro (fun h9 => ?_) (fun h9 => ?_)
      · refine hK _ _ _ _ ?_
        show K _ _ _ _
        rw [show nI s + Int32.ofInt 1 = nI (s + 1) from nIs _]
        refine hK _ _ _ _ ?_
        exact ih (s + 1) μ (by omega) hfr h81 (by rw [hw, hpe, if_neg (fun q => h9 (hoi.mpr q))]; rfl)
      · have hnn := hoi.mp h9
        iterate 4 refine hK _ _ _ _ ?_
        refine And.intro (vp_in_nI (n := s) (by omega) (by decide)) ?_
        rw [nI_clamp (show s < 2 ^ 31 by omega)]
        rw [show μ 85 0 s = nI (D.2.1 s).2.1 from e85]
        iterate 2 refine hK _ _ _ _ ?_
        refine And.intro (fun h8 => ?_) (fun h8 => ?_)
        · have hfm : 999 < (D.2.1 s).2.1 := (nI_ltI (a := 999) (by decide) (by omega)).mp h8
          refine hK _ _ _ _ ?_
          show K _ _ _ _
          rw [show nI s + Int32.ofInt 1 = nI (s + 1) from nIs _]
          refine hK _ _ _ _ ?_
          exact ih (s + 1) μ (by omega) hfr h81 (by rw [hw, hpe, if_pos hnn]; congr 1; omega)
        · have hfm : (D.2.1 s).2.1 ≤ 999 := (nI_leI (b := 999) (by omega) (by decide)).mp (Int32.not_lt.mp h8)
          iterate 3 refine hK _ _ _ _ ?_
          show K _ _ _ _
          rw [show μ 81 0 12 = nI (wc + peS D 1000 0 s) from hw]
          iterate 5 refine hK _ _ _ _ ?_
          refine And.intro (vp_in_nI (n := s) (by omega) (by decide)) ?_
          rw [nI_clamp (show s < 2 ^ 31 by omega)]
          rw [show μ 85 0 s = nI (D.2.1 s).2.1 from e85]
          iterate 2 refine hK _ _ _ _ ?_
          show K _ _ _ _
          rw [show (Int16.ofInt 1000).toInt32 - nI (D.2.1 s).2.1 = nI (1000 - (D.2.1 s).2.1) from nIm (a := 1000) (by omega), nIa]
          iterate 2 refine hK _ _ _ _ ?_
          show K _ _ _ _
          rw [show nI s + Int32.ofInt 1 = nI (s + 1) from nIs _]
          refine hK _ _ _ _ ?_
          refine ih (s + 1) _ (by omega) (fun i hi => by rw [sUp_off hi]; exact hfr i hi) (fun k hk => by rw [sUp_k hk]; exact h81 k hk) (by rw [sUp_at, hpe, if_pos hnn]; congr 1; omega)
  exact L2 S 0 σ (by omega) (fun _ _ => rfl) (fun _ _ => rfl) hw1
end
