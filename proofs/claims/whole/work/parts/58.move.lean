/-! THE CLASS'S COURSE: people move; a day begins -/
/-- a person on his way, i steps made in this minute -/
def QP (μ c : sMem) (N : Nat) (D : DA) (m p i : Nat) : Prop :=
  (ouP c p = true → ∃ k a w, i ≤ k ∧ k ≤ pl c (pQ c p) (D.1 p).1 ∧ (∀ j, j < k → (pth c (pQ c p) j (D.1 p)).2 < m) ∧ pth c (pQ c p) k (D.1 p) = (a, w) ∧ a < N ∧ w ≤ 2319 ∧ μ 82 0 p = nI a ∧ μ 83 0 p = nI w) ∧
  (ouP c p = false → μ 83 0 p = nI 1000000 ∧ ∃ a : Nat, a < N ∧ μ 82 0 p = nI a)
theorem QP_of {μ c : sMem} {N P S B m p : Nat} {D : DA} (hM : MC c N P S) (hV : DV c N P S B D) (hp : p < P) (h : CP μ c N D m false p) : QP μ c N D m p 0 := by
  refine ⟨fun ho => ?_, h.2⟩
  obtain ⟨k, h1, h2, -, h4, h5⟩ := h.1 ho
  obtain ⟨b1, b2, b3⟩ := hV.1 p hp ho
  have hq := (hM.2.2.2.2.1 p hp).2.1.2
  have hpt := pth_at hM.1 hq k (D.1 p).1 (D.1 p).2 b1 b2 h1
  have f6 := fN_660 hM.1 hq b1 b2
  refine ⟨k, _, _, Nat.zero_le _, h1, h2, rfl, hpt.1, ?_, h4, h5⟩
  have h3 := hpt.2.2.1
  show (pth c (pQ c p) k ((D.1 p).1, (D.1 p).2)).2 ≤ 2319
  omega
section
variable {l : Launch} {D0 : va_G} {b0 : Nat} {ty : Nat → ClassId} {ad av : Nat → Nat}
set_option maxHeartbeats 2000000 in
theorem c0_movePeople_36 (d : Nat) (σ c : sMem) (cm : Nat → Bool) (kd N P S G : Nat) (D : DA) (m B : Nat) (h : CE σ c cm 36 kd N P S G D m 0 false B) (hm : m ≤ 999) : sMet l D0 b0 ty lay d mX0_movePeople [aR 81, aI (nI m)] σ (fun r σ' => r = [] ∧ CE σ' c cm 36 kd N P S G D m 0 true B ∧ ∀ i, i < 82 ∨ 83 < i → σ' i = σ i) := by
  refine sMet_intro lay_nd kX0_movePeople xX0_ok (by decide +kernel) rfl ?_
  intro K hK
  obtain ⟨hT, hM, hS, hSC, hCR, hV⟩ := h
  have hN := hM.1.1.1
  have hP := hM.2.2.1
  have hS8 := hM.2.2.2.1
  have hCR0 := hCR
  obtain ⟨hO, hA, hC, hW⟩ := hCR0
  iterate 2 refine hK _ _ _ _ ?_
  have L2 : ∀ (f : Nat) (p : Nat) (μ : sMem) (e3 e4 e5 : Option AV), p + f = P → (∀ i, i < 82 ∨ 83 < i → μ i = σ i) → (∀ r, r < p → CP μ c N D m true r) → (∀ r, p ≤ r → r < P → CP μ c N D m false r) → K 2 [some (aR 81), some (aI (nI m)), some (aI (nI p)), e3, e4, e5] [] μ := by
    intro f
    induction f with
    | zero =>
      intro p μ e3 e4 e5 hpP hfr h1 h2
      have hT1 : TT μ c 36 N P S := hT.cg (fun i _ _ => hfr i (by omega))
      have hO0 : μ 81 0 0 = nI 36 := by rw [hfr 81 (by omega)]; exact hO.1
      iterate 3 refine hK _ _ _ _ ?_
      show K _ _ _ _
      rw [show μ 81 0 0 = nI 36 from hO0]
      show K _ _ _ _
      rw [show (nI 36).toNatClampNeg = 36 from rfl]
      refine hK _ _ _ _ ?_
      show K _ _ _ _
      rw [show μ 36 0 1 = nI P from hT1.2.1]
      refine hK _ _ _ _ ?_
      refine And.intro (fun _ => ?_) (fun h => absurd ((nI_leI (by omega) (by omega)).mpr (by omega)) h)
      refine hK _ _ _ _ ?_
      exact ⟨rfl, ⟨hT1, hM, hS.cg (fun i _ _ => hfr i (by omega)), hSC, ⟨⟨by rw [hfr 81 (by omega)]; exact hO.1, by rw [hfr 81 (by omega)]; exact hO.2.1, by rw [hfr 81 (by omega)]; exact hO.2.2⟩, fun r hr => h1 r (by omega), by unfold CS; rw [hfr 84 (by omega), hfr 85 (by omega), hfr 87 (by omega), hfr 88 (by omega), hfr 89 (by omega), hfr 86 (by omega), hfr 81 (by omega)]; exact hC, by rw [hfr 81 (by omega)]; exact hW⟩, hV⟩, hfr⟩
    | succ f ih =>
      intro p μ e3 e4 e5 hpP hfr h1 h2
      have hT1 : TT μ c 36 N P S := hT.cg (fun i _ _ => hfr i (by omega))
      have hO0 : μ 81 0 0 = nI 36 := by rw [hfr 81 (by omega)]; exact hO.1
      obtain ⟨⟨ea, hpa⟩, ⟨eq, hq⟩, -⟩ := hM.2.2.2.2.1 p (by omega)
      have k6 : μ 42 0 p = nI (pQ c p) := (hT1.2.2.2.2.1 p (by omega)).2.1
      iterate 3 refine hK _ _ _ _ ?_
      show K _ _ _ _
      rw [show μ 81 0 0 = nI 36 from hO0]
      show K _ _ _ _
      rw [show (nI 36).toNatClampNeg = 36 from rfl]
      refine hK _ _ _ _ ?_
      show K _ _ _ _
      rw [show μ 36 0 1 = nI P from hT1.2.1]
      refine hK _ _ _ _ ?_
      refine And.intro (fun h => absurd ((nI_leI (by omega) (by omega)).mp h) (by omega)) (fun _ => ?_)
      iterate 2 refine hK _ _ _ _ ?_
      show K _ _ _ _
      rw [show μ 81 0 0 = nI 36 from hO0]
      show K _ _ _ _
      rw [show (nI 36).toNatClampNeg = 36 from rfl]
      iterate 3 refine hK _ _ _ _ ?_
      refine And.intro (vp_in_nI (n := p) (by omega) (by decide)) ?_
      rw [nI_clamp (show p < 2 ^ 31 by omega)]
      rw [show μ 42 0 p = nI (pQ c p) from k6]
      iterate 3 refine hK _ _ _ _ ?_
      have l117 : ∀ (ν : sMem) (e3 e4 e5 : Option AV), (∀ i, i < 82 ∨ 83 < i → ν i = σ i) → (∀ r, r < p → CP ν c N D m true r) → (∀ r, p < r → r < P → CP ν c N D m false r) → CP ν c N D m true p → K 117 [some (aR 81), some (aI (nI m)), some (aI (nI p)), e3, e4, e5] [] ν := by
        intro ν e3 e4 e5 hg g1 g2 hcp
        refine hK _ _ _ _ ?_
        show K _ _ _ _
        rw [show nI p + Int32.ofInt 1 = nI (p + 1) from nIs _]
        refine hK _ _ _ _ ?_
        refine ih (p + 1) ν _ _ _ (by omega) hg (fun r hr => ?_) (fun r h3 h4 => g2 r (by omega) h4)
        by_cases e : r = p
        · subst e; exact hcp
        · exact g1 r (by omega)
      have L26 : ∀ (f2 : Nat) (i : Nat) (ν : sMem) (e5 : Option AV), i + f2 = 12 → (∀ i, i < 82 ∨ 83 < i → ν i = σ i) → (∀ r, r < p → CP ν c N D m true r) → (∀ r, p < r → r < P → CP ν c N D m false r) → QP ν c N D m p i → K 26 [some (aR 81), some (aI (nI m)), some (aI (nI p)), some (aI (nI (pQ c p))), some (aI (nI i)), e5] [] ν := by
        intro f2
        induction f2 with
        | zero =>
          intro i ν e5 hif hg g1 g2 hqp
          have hT2 : TT ν c 36 N P S := hT.cg (fun i _ _ => hg i (by omega))
          have hO2 : ν 81 0 0 = nI 36 := by rw [hg 81 (by omega)]; exact hO.1
          iterate 3 refine hK _ _ _ _ ?_
          refine And.intro (fun h9 => l117 ν _ _ _ hg g1 g2 ⟨fun ho => by obtain ⟨k, a, w, k1, k2, -⟩ := hqp.1 ho; obtain ⟨b1, b2, -⟩ := hV.1 p (by omega) ho; have := pl_le hM.1 hq b1 b2; omega, hqp.2⟩) (fun h9 => absurd ((nI_leI (a := 12) (b := i) (by decide) (by omega)).mpr (by omega)) h9)
        | succ f2 ih2 =>
          intro i ν e5 hif hg g1 g2 hqp
          have hT2 : TT ν c 36 N P S := hT.cg (fun i _ _ => hg i (by omega))
          have hO2 : ν 81 0 0 = nI 36 := by rw [hg 81 (by omega)]; exact hO.1
          cases ho : ouP c p
          · obtain ⟨y83, a, ha, y82⟩ := hqp.2 ho
            iterate 3 refine hK _ _ _ _ ?_
            refine And.intro (fun h9 => absurd ((nI_leI (a := 12) (b := i) (by decide) (by omega)).mp h9) (by omega)) (fun _ => ?_)
            iterate 4 refine hK _ _ _ _ ?_
            refine And.intro (vp_in_nI (n := p) (by omega) (by decide)) ?_
            rw [nI_clamp (show p < 2 ^ 31 by omega)]
            rw [show ν 83 0 p = nI 1000000 from y83]
            iterate 2 refine hK _ _ _ _ ?_
            refine And.intro (fun h8 => l117 ν _ _ _ hg g1 g2 ⟨fun ho2 => (by rw [ho] at ho2; cases ho2), hqp.2⟩) (fun h8 => absurd ((nI_leI (a := m) (b := 1000000) (by omega) (by decide)).mpr (by omega)) h8)
          · obtain ⟨k, a, w, k1, k2, k3, k4, ha, hw, y82, y83⟩ := hqp.1 ho
            obtain ⟨b1, b2, b3⟩ := hV.1 p (by omega) ho
            have nl := nx_lt hM.1 ha hq
            have ks : ν 40 a (pQ c p) = nI (nxN c a (pQ c p)) := (hT2.2.2.2.1 a _ ha hq).2
            have km : ν 39 a (nxN c a (pQ c p)) = nI (fN c a (nxN c a (pQ c p))) := (hT2.2.2.2.1 a _ ha nl).1
            iterate 3 refine hK _ _ _ _ ?_
            refine And.intro (fun h9 => absurd ((nI_leI (a := 12) (b := i) (by decide) (by omega)).mp h9) (by omega)) (fun _ => ?_)
            iterate 4 refine hK _ _ _ _ ?_
            refine And.intro (vp_in_nI (n := p) (by omega) (by decide)) ?_
            rw [nI_clamp (show p < 2 ^ 31 by omega)]
            rw [show ν 83 0 p = nI w from y83]
            iterate 2 refine hK _ _ _ _ ?_
            refine And.intro (fun h8 => l117 ν _ _ _ hg g1 g2 ⟨fun _ => ⟨k, k2, k3, fun _ => Or.inl (by rw [k4]; exact (nI_leI (by omega) (by omega)).mp h8), by rw [k4]; exact y82, by rw [k4]; exact y83⟩, hqp.2⟩) (fun h8 => ?_)
            have hwm : w < m := Nat.lt_of_not_le (fun q => h8 ((nI_leI (by omega) (by omega)).mpr q))
            iterate 4 refine hK _ _ _ _ ?_
            refine And.intro (vp_in_nI (n := p) (by omega) (by decide)) ?_
            rw [nI_clamp (show p < 2 ^ 31 by omega)]
            rw [show ν 82 0 p = nI a from y82]
            iterate 2 refine hK _ _ _ _ ?_
            refine And.intro (fun h7 => l117 ν _ _ _ hg g1 g2 ⟨fun _ => ⟨k, k2, k3, fun _ => Or.inr (by have e5 : pth c (pQ c p) k ((D.1 p).1, (D.1 p).2) = (a, w) := k4; exact (pth_q (k := k) (w := (D.1 p).2) hM.1 hq b1 b2 k2).mp (by rw [e5]; exact (nI_eq (by omega) (by omega)).mp h7)), by rw [k4]; exact y82, by rw [k4]; exact y83⟩, hqp.2⟩) (fun h7 => ?_)
            have haq : ¬ a = pQ c p := fun e => h7 (by rw [e])
            have hpt := pth_at hM.1 hq k (D.1 p).1 (D.1 p).2 b1 b2 k2
            have hkl : k ≠ pl c (pQ c p) (D.1 p).1 := fun e => haq (by
              have := (pth_q (k := k) (w := (D.1 p).2) hM.1 hq b1 b2 k2).mpr e
              have e5 : pth c (pQ c p) k ((D.1 p).1, (D.1 p).2) = (a, w) := k4
              rw [e5] at this
              exact this)
            have hfa : fN c a (pQ c p) < 1000000 := by
              have h5 := hpt.2.1
              have e5 : pth c (pQ c p) k ((D.1 p).1, (D.1 p).2) = (a, w) := k4
              rw [e5] at h5
              exact h5
            obtain ⟨n1, n2, n3, n4, n5, n6⟩ := nx_at hM.1 ha hq hfa haq
            iterate 2 refine hK _ _ _ _ ?_
            show K _ _ _ _
            rw [show ν 81 0 0 = nI 36 from hO2]
            show K _ _ _ _
            rw [show (nI 36).toNatClampNeg = 36 from rfl]
            iterate 6 refine hK _ _ _ _ ?_
            refine And.intro (vp_in_nI (n := p) (by omega) (by decide)) ?_
            rw [nI_clamp (show p < 2 ^ 31 by omega)]
            rw [show ν 82 0 p = nI a from y82]
            refine hK _ _ _ _ ?_
            refine And.intro (vp_in_nI (n := a) (by omega) (by decide)) ?_
            rw [nI_clamp (show a < 2 ^ 31 by omega)]
            iterate 2 refine hK _ _ _ _ ?_
            refine And.intro (by first | omega | (rw [nI_clamp (by omega)]; omega)) (And.intro (vp_in_nI (n := (pQ c p)) (by omega) (by decide)) ?_)
            rw [nI_clamp (show (pQ c p) < 2 ^ 31 by omega)]
            rw [show ν 40 a (pQ c p) = nI (nxN c a (pQ c p)) from ks]
            iterate 6 refine hK _ _ _ _ ?_
            refine And.intro (vp_in_nI (n := p) (by omega) (by decide)) ?_
            rw [nI_clamp (show p < 2 ^ 31 by omega)]
            rw [show ν 83 0 p = nI w from y83]
            iterate 2 refine hK _ _ _ _ ?_
            show K _ _ _ _
            rw [show ν 81 0 0 = nI 36 from hO2]
            show K _ _ _ _
            rw [show (nI 36).toNatClampNeg = 36 from rfl]
            iterate 6 refine hK _ _ _ _ ?_
            refine And.intro (vp_in_nI (n := p) (by omega) (by decide)) ?_
            rw [nI_clamp (show p < 2 ^ 31 by omega)]
            rw [show ν 82 0 p = nI a from y82]
            refine hK _ _ _ _ ?_
            refine And.intro (vp_in_nI (n := a) (by omega) (by decide)) ?_
            rw [nI_clamp (show a < 2 ^ 31 by omega)]
            iterate 2 refine hK _ _ _ _ ?_
            refine And.intro (by first | omega | (rw [nI_clamp (by omega)]; omega)) (And.intro (vp_in_nI (n := (nxN c a (pQ c p))) (by omega) (by decide)) ?_)
            rw [nI_clamp (show (nxN c a (pQ c p)) < 2 ^ 31 by omega)]
            rw [show ν 39 a (nxN c a (pQ c p)) = nI (fN c a (nxN c a (pQ c p))) from km]
            refine hK _ _ _ _ ?_
            show K _ _ _ _
            rw [nIa]
            refine hK _ _ _ _ ?_
            refine And.intro (vp_in_nI (n := p) (by omega) (by decide)) ?_
            rw [nI_clamp (show p < 2 ^ 31 by omega)]
            iterate 5 refine hK _ _ _ _ ?_
            refine And.intro (vp_in_nI (n := p) (by omega) (by decide)) ?_
            rw [nI_clamp (show p < 2 ^ 31 by omega)]
            refine hK _ _ _ _ ?_
            show K _ _ _ _
            rw [show nI i + Int32.ofInt 1 = nI (i + 1) from nIs _]
            refine hK _ _ _ _ ?_
            have ep : pth c (pQ c p) (k + 1) (D.1 p) = (nxN c a (pQ c p), w + fN c a (nxN c a (pQ c p))) := by rw [pth_s, k4]; rfl
            have cgp : ∀ r b, r ≠ p → CP ν c N D m b r → CP (sUp (sUp ν 83 0 p (nI (w + fN c a (nxN c a (pQ c p))))) 82 0 p (nI (nxN c a (pQ c p)))) c N D m b r := fun r b hr hh => hh.cg (by rw [sUp_k hr, sUp_off (by decide)]) (by rw [sUp_off (by decide), sUp_k hr]) rfl
            refine ih2 (i + 1) (sUp (sUp ν 83 0 p (nI (w + fN c a (nxN c a (pQ c p))))) 82 0 p (nI (nxN c a (pQ c p)))) _ (by omega) (fun i hi => by rw [sUp_off (by omega), sUp_off (by omega)]; exact hg i hi) (fun r hr => cgp r true (by omega) (g1 r hr)) (fun r h3 h4 => cgp r false (by omega) (g2 r h3 h4)) ⟨fun _ => ⟨k + 1, _, _, by omega, by omega, fun j hj => ?_, ep, nl, by omega, sUp_at _ _ _ _ _, by rw [sUp_off (by decide), sUp_at]⟩, fun ho2 => by rw [ho] at ho2; cases ho2⟩
            by_cases e : j = k
            · subst e; rw [k4]; exact hwm
            · exact k3 j (by omega)
      exact L26 12 0 μ _ (by omega) hfr h1 (fun r h3 h4 => h2 r (by omega) h4) (QP_of hM hV (by omega) (h2 p (Nat.le_refl _) (by omega)))
  exact L2 P 0 σ none none none (by omega) (fun _ _ => rfl) (fun r hr => absurd hr (Nat.not_lt_zero _)) (fun r _ hr => hA r hr)
set_option maxHeartbeats 2000000 in
theorem c0_movePeople_54 (d : Nat) (σ c : sMem) (cm : Nat → Bool) (kd N P S G : Nat) (D : DA) (m B : Nat) (h : CE σ c cm 54 kd N P S G D m 0 false B) (hm : m ≤ 999) : sMet l D0 b0 ty lay d mX0_movePeople [aR 81, aI (nI m)] σ (fun r σ' => r = [] ∧ CE σ' c cm 54 kd N P S G D m 0 true B ∧ ∀ i, i < 82 ∨ 83 < i → σ' i = σ i) := by
  refine sMet_intro lay_nd kX0_movePeople xX0_ok (by decide +kernel) rfl ?_
  intro K hK
  obtain ⟨hT, hM, hS, hSC, hCR, hV⟩ := h
  have hN := hM.1.1.1
  have hP := hM.2.2.1
  have hS8 := hM.2.2.2.1
  have hCR0 := hCR
  obtain ⟨hO, hA, hC, hW⟩ := hCR0
  iterate 2 refine hK _ _ _ _ ?_
  have L2 : ∀ (f : Nat) (p : Nat) (μ : sMem) (e3 e4 e5 : Option AV), p + f = P → (∀ i, i < 82 ∨ 83 < i → μ i = σ i) → (∀ r, r < p → CP μ c N D m true r) → (∀ r, p ≤ r → r < P → CP μ c N D m false r) → K 2 [some (aR 81), some (aI (nI m)), some (aI (nI p)), e3, e4, e5] [] μ := by
    intro f
    induction f with
    | zero =>
      intro p μ e3 e4 e5 hpP hfr h1 h2
      have hT1 : TT μ c 54 N P S := hT.cg (fun i _ _ => hfr i (by omega))
      have hO0 : μ 81 0 0 = nI 54 := by rw [hfr 81 (by omega)]; exact hO.1
      iterate 3 refine hK _ _ _ _ ?_
      show K _ _ _ _
      rw [show μ 81 0 0 = nI 54 from hO0]
      show K _ _ _ _
      rw [show (nI 54).toNatClampNeg = 54 from rfl]
      refine hK _ _ _ _ ?_
      show K _ _ _ _
      rw [show μ 54 0 1 = nI P from hT1.2.1]
      refine hK _ _ _ _ ?_
      refine And.intro (fun _ => ?_) (fun h => absurd ((nI_leI (by omega) (by omega)).mpr (by omega)) h)
      refine hK _ _ _ _ ?_
      exact ⟨rfl, ⟨hT1, hM, hS.cg (fun i _ _ => hfr i (by omega)), hSC, ⟨⟨by rw [hfr 81 (by omega)]; exact hO.1, by rw [hfr 81 (by omega)]; exact hO.2.1, by rw [hfr 81 (by omega)]; exact hO.2.2⟩, fun r hr => h1 r (by omega), by unfold CS; rw [hfr 84 (by omega), hfr 85 (by omega), hfr 87 (by omega), hfr 88 (by omega), hfr 89 (by omega), hfr 86 (by omega), hfr 81 (by omega)]; exact hC, by rw [hfr 81 (by omega)]; exact hW⟩, hV⟩, hfr⟩
    | succ f ih =>
      intro p μ e3 e4 e5 hpP hfr h1 h2
      have hT1 : TT μ c 54 N P S := hT.cg (fun i _ _ => hfr i (by omega))
      have hO0 : μ 81 0 0 = nI 54 := by rw [hfr 81 (by omega)]; exact hO.1
      obtain ⟨⟨ea, hpa⟩, ⟨eq, hq⟩, -⟩ := hM.2.2.2.2.1 p (by omega)
      have k6 : μ 60 0 p = nI (pQ c p) := (hT1.2.2.2.2.1 p (by omega)).2.1
      iterate 3 refine hK _ _ _ _ ?_
      show K _ _ _ _
      rw [show μ 81 0 0 = nI 54 from hO0]
      show K _ _ _ _
      rw [show (nI 54).toNatClampNeg = 54 from rfl]
      refine hK _ _ _ _ ?_
      show K _ _ _ _
      rw [show μ 54 0 1 = nI P from hT1.2.1]
      refine hK _ _ _ _ ?_
      refine And.intro (fun h => absurd ((nI_leI (by omega) (by omega)).mp h) (by omega)) (fun _ => ?_)
      iterate 2 refine hK _ _ _ _ ?_
      show K _ _ _ _
      rw [show μ 81 0 0 = nI 54 from hO0]
      show K _ _ _ _
      rw [show (nI 54).toNatClampNeg = 54 from rfl]
      iterate 3 refine hK _ _ _ _ ?_
      refine And.intro (vp_in_nI (n := p) (by omega) (by decide)) ?_
      rw [nI_clamp (show p < 2 ^ 31 by omega)]
      rw [show μ 60 0 p = nI (pQ c p) from k6]
      iterate 3 refine hK _ _ _ _ ?_
      have l117 : ∀ (ν : sMem) (e3 e4 e5 : Option AV), (∀ i, i < 82 ∨ 83 < i → ν i = σ i) → (∀ r, r < p → CP ν c N D m true r) → (∀ r, p < r → r < P → CP ν c N D m false r) → CP ν c N D m true p → K 117 [some (aR 81), some (aI (nI m)), some (aI (nI p)), e3, e4, e5] [] ν := by
        intro ν e3 e4 e5 hg g1 g2 hcp
        refine hK _ _ _ _ ?_
        show K _ _ _ _
        rw [show nI p + Int32.ofInt 1 = nI (p + 1) from nIs _]
        refine hK _ _ _ _ ?_
        refine ih (p + 1) ν _ _ _ (by omega) hg (fun r hr => ?_) (fun r h3 h4 => g2 r (by omega) h4)
        by_cases e : r = p
        · subst e; exact hcp
        · exact g1 r (by omega)
      have L26 : ∀ (f2 : Nat) (i : Nat) (ν : sMem) (e5 : Option AV), i + f2 = 12 → (∀ i, i < 82 ∨ 83 < i → ν i = σ i) → (∀ r, r < p → CP ν c N D m true r) → (∀ r, p < r → r < P → CP ν c N D m false r) → QP ν c N D m p i → K 26 [some (aR 81), some (aI (nI m)), some (aI (nI p)), some (aI (nI (pQ c p))), some (aI (nI i)), e5] [] ν := by
        intro f2
        induction f2 with
        | zero =>
          intro i ν e5 hif hg g1 g2 hqp
          have hT2 : TT ν c 54 N P S := hT.cg (fun i _ _ => hg i (by omega))
          have hO2 : ν 81 0 0 = nI 54 := by rw [hg 81 (by omega)]; exact hO.1
          iterate 3 refine hK _ _ _ _ ?_
          refine And.intro (fun h9 => l117 ν _ _ _ hg g1 g2 ⟨fun ho => by obtain ⟨k, a, w, k1, k2, -⟩ := hqp.1 ho; obtain ⟨b1, b2, -⟩ := hV.1 p (by omega) ho; have := pl_le hM.1 hq b1 b2; omega, hqp.2⟩) (fun h9 => absurd ((nI_leI (a := 12) (b := i) (by decide) (by omega)).mpr (by omega)) h9)
        | succ f2 ih2 =>
          intro i ν e5 hif hg g1 g2 hqp
          have hT2 : TT ν c 54 N P S := hT.cg (fun i _ _ => hg i (by omega))
          have hO2 : ν 81 0 0 = nI 54 := by rw [hg 81 (by omega)]; exact hO.1
          cases ho : ouP c p
          · obtain ⟨y83, a, ha, y82⟩ := hqp.2 ho
            iterate 3 refine hK _ _ _ _ ?_
            refine And.intro (fun h9 => absurd ((nI_leI (a := 12) (b := i) (by decide) (by omega)).mp h9) (by omega)) (fun _ => ?_)
            iterate 4 refine hK _ _ _ _ ?_
            refine And.intro (vp_in_nI (n := p) (by omega) (by decide)) ?_
            rw [nI_clamp (show p < 2 ^ 31 by omega)]
            rw [show ν 83 0 p = nI 1000000 from y83]
            iterate 2 refine hK _ _ _ _ ?_
            refine And.intro (fun h8 => l117 ν _ _ _ hg g1 g2 ⟨fun ho2 => (by rw [ho] at ho2; cases ho2), hqp.2⟩) (fun h8 => absurd ((nI_leI (a := m) (b := 1000000) (by omega) (by decide)).mpr (by omega)) h8)
          · obtain ⟨k, a, w, k1, k2, k3, k4, ha, hw, y82, y83⟩ := hqp.1 ho
            obtain ⟨b1, b2, b3⟩ := hV.1 p (by omega) ho
            have nl := nx_lt hM.1 ha hq
            have ks : ν 58 a (pQ c p) = nI (nxN c a (pQ c p)) := (hT2.2.2.2.1 a _ ha hq).2
            have km : ν 57 a (nxN c a (pQ c p)) = nI (fN c a (nxN c a (pQ c p))) := (hT2.2.2.2.1 a _ ha nl).1
            iterate 3 refine hK _ _ _ _ ?_
            refine And.intro (fun h9 => absurd ((nI_leI (a := 12) (b := i) (by decide) (by omega)).mp h9) (by omega)) (fun _ => ?_)
            iterate 4 refine hK _ _ _ _ ?_
            refine And.intro (vp_in_nI (n := p) (by omega) (by decide)) ?_
            rw [nI_clamp (show p < 2 ^ 31 by omega)]
            rw [show ν 83 0 p = nI w from y83]
            iterate 2 refine hK _ _ _ _ ?_
            refine And.intro (fun h8 => l117 ν _ _ _ hg g1 g2 ⟨fun _ => ⟨k, k2, k3, fun _ => Or.inl (by rw [k4]; exact (nI_leI (by omega) (by omega)).mp h8), by rw [k4]; exact y82, by rw [k4]; exact y83⟩, hqp.2⟩) (fun h8 => ?_)
            have hwm : w < m := Nat.lt_of_not_le (fun q => h8 ((nI_leI (by omega) (by omega)).mpr q))
            iterate 4 refine hK _ _ _ _ ?_
            refine And.intro (vp_in_nI (n := p) (by omega) (by decide)) ?_
            rw [nI_clamp (show p < 2 ^ 31 by omega)]
            rw [show ν 82 0 p = nI a from y82]
            iterate 2 refine hK _ _ _ _ ?_
            refine And.intro (fun h7 => l117 ν _ _ _ hg g1 g2 ⟨fun _ => ⟨k, k2, k3, fun _ => Or.inr (by have e5 : pth c (pQ c p) k ((D.1 p).1, (D.1 p).2) = (a, w) := k4; exact (pth_q (k := k) (w := (D.1 p).2) hM.1 hq b1 b2 k2).mp (by rw [e5]; exact (nI_eq (by omega) (by omega)).mp h7)), by rw [k4]; exact y82, by rw [k4]; exact y83⟩, hqp.2⟩) (fun h7 => ?_)
            have haq : ¬ a = pQ c p := fun e => h7 (by rw [e])
            have hpt := pth_at hM.1 hq k (D.1 p).1 (D.1 p).2 b1 b2 k2
            have hkl : k ≠ pl c (pQ c p) (D.1 p).1 := fun e => haq (by
              have := (pth_q (k := k) (w := (D.1 p).2) hM.1 hq b1 b2 k2).mpr e
              have e5 : pth c (pQ c p) k ((D.1 p).1, (D.1 p).2) = (a, w) := k4
              rw [e5] at this
              exact this)
            have hfa : fN c a (pQ c p) < 1000000 := by
              have h5 := hpt.2.1
              have e5 : pth c (pQ c p) k ((D.1 p).1, (D.1 p).2) = (a, w) := k4
              rw [e5] at h5
              exact h5
            obtain ⟨n1, n2, n3, n4, n5, n6⟩ := nx_at hM.1 ha hq hfa haq
            iterate 2 refine hK _ _ _ _ ?_
            show K _ _ _ _
            rw [show ν 81 0 0 = nI 54 from hO2]
            show K _ _ _ _
            rw [show (nI 54).toNatClampNeg = 54 from rfl]
            iterate 6 refine hK _ _ _ _ ?_
            refine And.intro (vp_in_nI (n := p) (by omega) (by decide)) ?_
            rw [nI_clamp (show p < 2 ^ 31 by omega)]
            rw [show ν 82 0 p = nI a from y82]
            refine hK _ _ _ _ ?_
            refine And.intro (vp_in_nI (n := a) (by omega) (by decide)) ?_
            rw [nI_clamp (show a < 2 ^ 31 by omega)]
            iterate 2 refine hK _ _ _ _ ?_
            refine And.intro (by first | omega | (rw [nI_clamp (by omega)]; omega)) (And.intro (vp_in_nI (n := (pQ c p)) (by omega) (by decide)) ?_)
            rw [nI_clamp (show (pQ c p) < 2 ^ 31 by omega)]
            rw [show ν 58 a (pQ c p) = nI (nxN c a (pQ c p)) from ks]
            iterate 6 refine hK _ _ _ _ ?_
            refine And.intro (vp_in_nI (n := p) (by omega) (by decide)) ?_
            rw [nI_clamp (show p < 2 ^ 31 by omega)]
            rw [show ν 83 0 p = nI w from y83]
            iterate 2 refine hK _ _ _ _ ?_
            show K _ _ _ _
            rw [show ν 81 0 0 = nI 54 from hO2]
            show K _ _ _ _
            rw [show (nI 54).toNatClampNeg = 54 from rfl]
            iterate 6 refine hK _ _ _ _ ?_
            refine And.intro (vp_in_nI (n := p) (by omega) (by decide)) ?_
            rw [nI_clamp (show p < 2 ^ 31 by omega)]
            rw [show ν 82 0 p = nI a from y82]
            refine hK _ _ _ _ ?_
            refine And.intro (vp_in_nI (n := a) (by omega) (by decide)) ?_
            rw [nI_clamp (show a < 2 ^ 31 by omega)]
            iterate 2 refine hK _ _ _ _ ?_
            refine And.intro (by first | omega | (rw [nI_clamp (by omega)]; omega)) (And.intro (vp_in_nI (n := (nxN c a (pQ c p))) (by omega) (by decide)) ?_)
            rw [nI_clamp (show (nxN c a (pQ c p)) < 2 ^ 31 by omega)]
            rw [show ν 57 a (nxN c a (pQ c p)) = nI (fN c a (nxN c a (pQ c p))) from km]
            refine hK _ _ _ _ ?_
            show K _ _ _ _
            rw [nIa]
            refine hK _ _ _ _ ?_
            refine And.intro (vp_in_nI (n := p) (by omega) (by decide)) ?_
            rw [nI_clamp (show p < 2 ^ 31 by omega)]
            iterate 5 refine hK _ _ _ _ ?_
            refine And.intro (vp_in_nI (n := p) (by omega) (by decide)) ?_
            rw [nI_clamp (show p < 2 ^ 31 by omega)]
            refine hK _ _ _ _ ?_
            show K _ _ _ _
            rw [show nI i + Int32.ofInt 1 = nI (i + 1) from nIs _]
            refine hK _ _ _ _ ?_
            have ep : pth c (pQ c p) (k + 1) (D.1 p) = (nxN c a (pQ c p), w + fN c a (nxN c a (pQ c p))) := by rw [pth_s, k4]; rfl
            have cgp : ∀ r b, r ≠ p → CP ν c N D m b r → CP (sUp (sUp ν 83 0 p (nI (w + fN c a (nxN c a (pQ c p))))) 82 0 p (nI (nxN c a (pQ c p)))) c N D m b r := fun r b hr hh => hh.cg (by rw [sUp_k hr, sUp_off (by decide)]) (by rw [sUp_off (by decide), sUp_k hr]) rfl
            refine ih2 (i + 1) (sUp (sUp ν 83 0 p (nI (w + fN c a (nxN c a (pQ c p))))) 82 0 p (nI (nxN c a (pQ c p)))) _ (by omega) (fun i hi => by rw [sUp_off (by omega), sUp_off (by omega)]; exact hg i hi) (fun r hr => cgp r true (by omega) (g1 r hr)) (fun r h3 h4 => cgp r false (by omega) (g2 r h3 h4)) ⟨fun _ => ⟨k + 1, _, _, by omega, by omega, fun j hj => ?_, ep, nl, by omega, sUp_at _ _ _ _ _, by rw [sUp_off (by decide), sUp_at]⟩, fun ho2 => by rw [ho] at ho2; cases ho2⟩
            by_cases e : j = k
            · subst e; rw [k4]; exact hwm
            · exact k3 j (by omega)
      exact L26 12 0 μ _ (by omega) hfr h1 (fun r h3 h4 => h2 r (by omega) h4) (QP_of hM hV (by omega) (h2 p (Nat.le_refl _) (by omega)))
  exact L2 P 0 σ none none none (by omega) (fun _ _ => rfl) (fun r hr => absurd hr (Nat.not_lt_zero _)) (fun r _ hr => hA r hr)
end
