/-! THE CLASS'S COURSE: what is read off a day -/
def FI (S : Nat) (cm : Nat → Bool) (D : DA) : Prop := ∀ s, s < S → ((D.2.1 s).2.1 = 1000000 ↔ cm s = false)
section
variable {c : sMem} {N P S G : Nat}
theorem as_FI {D : DA} {B s kd m : Nat} {cm : Nat → Bool} (hM : MC c N P S) (hS : SC c N P S G) (hV : DV c N P S B D) (hs : s < S) (hm : m ≤ 999) (hn : (D.2.1 s).2.2.1 = none) (hf : (D.2.1 s).2.1 ≤ m) (h : FI S cm D) : FI S cm (asA c P G kd s m D) := by
  intro u hu
  by_cases e : u = s
  · subst e
    have hc : cm u = true := by
      cases hh : cm u with
      | true => rfl
      | false => have := (h u hu).mpr hh; omega
    have hy := (hM.2.2.2.2.2 u hu).2.1.2
    obtain ⟨x1, -, -, x4, -⟩ := hV.2.1 u hu
    have hne : ((asA c P G kd u m D).2.1 u).2.1 ≤ 1659 := by
      by_cases hw : fN c (D.2.1 u).1 (sY c u) < 1000000
      · have f6 := fN_660 hM.1 hy x1 hw
        by_cases h1 : sgB c (D.2.1 u).1 (sY c u) = true ∧ fN c (D.2.1 u).1 (sY c u) < 1000000
        · have e1 : asA c P G kd u m D = goA c D u (sY c u) (m + fN c (D.2.1 u).1 (sY c u)) := by unfold asA; dsimp only; rw [if_pos h1]
          rw [e1]
          show ((fu D.2.1 u _) u).2.1 ≤ 1659
          rw [fu_at]
          dsimp only
          omega
        · by_cases h2 : kd = 3 ∧ fN c (D.2.1 u).1 (sY c u) < 1000000 ∧ bt (c 8 u 4) (nxN c (D.2.1 u).1 (sY c u)) = true
          · have e1 : asA c P G kd u m D = goA c D u (nxN c (D.2.1 u).1 (sY c u)) (m + fN c (D.2.1 u).1 (nxN c (D.2.1 u).1 (sY c u))) := by unfold asA; dsimp only; rw [if_neg h1, if_pos h2]
            have n5 := (nx_at hM.1 x1 hy hw (x4 hn)).2.2.2.2.1
            rw [e1]
            show ((fu D.2.1 u _) u).2.1 ≤ 1659
            rw [fu_at]
            dsimp only
            omega
          · rcases ld_cases (m := m) hs hS h1 h2 with ⟨-, ea⟩ | ⟨p, hp, hc, -, ea⟩ | ⟨g, hg, -, ea⟩
            · rw [ea]; show (D.2.1 u).2.1 ≤ 1659; omega
            · obtain ⟨l1, l2, l3, -, l5⟩ := led_at hM.1 hS.1 x1 hy hw
              have e1 : ((byPA c D p u m).2.1 u).2.1 = m + fN c (D.2.1 u).1 (ledM c (D.2.1 u).1 (sY c u)) := by simp [byPA, goA, ldA, fu]
              rw [ea, e1]; omega
            · have e1 : ((byGA c D g u m).2.1 u).2.1 = m + fN c (D.2.1 u).1 (sY c u) := by simp [byGA, goA, ldA, fu]
              rw [ea, e1]; omega
      · rw [as_nw hw]; show (D.2.1 u).2.1 ≤ 1659; omega
    rw [hc]
    exact ⟨fun q => by omega, fun q => by cases q⟩
  · rw [as_oth e]; exact h u hu
theorem da_FI {cm : Nat → Bool} {kd : Nat} (hM : MC c N P S) (hS : SC c N P S G) : ∀ k, k ≤ 1000 → FI S cm (forG (dmA c P G S kd) (beA c cm) k)
  | 0, _ => fun s hs => by
    have := (hM.2.2.2.2.2 s hs).2.2.1.2
    show (if cm s = true then sT c s else 1000000) = 1000000 ↔ cm s = false
    cases cm s with
    | true => exact ⟨fun q => by rw [if_pos rfl] at q; omega, fun q => by cases q⟩
    | false => exact ⟨fun _ => rfl, fun _ => rfl⟩
  | k + 1, hk => by
    have ih := da_FI (cm := cm) (kd := kd) hM hS k (by omega)
    have hV := daA_DV (cm := cm) (kd := kd) hM hS k (by omega)
    show FI S cm (forG (dsA c P G kd k) (forG (dmA c P G S kd) (beA c cm) k) S)
    generalize forG (dmA c P G S kd) (beA c cm) k = D at *
    have : ∀ j, j ≤ S → FI S cm (forG (dsA c P G kd k) D j) := by
      intro j
      induction j with
      | zero => intro _; exact ih
      | succ j ihj =>
        intro hj
        have h1 := ihj (by omega)
        have h2 := dmA_DV (kd := kd) (m := k) hV hM hS (by omega) j (by omega)
        show FI S cm (dsA c P G kd k j (forG (dsA c P G kd k) D j))
        unfold dsA
        split
        · rename_i he
          exact as_FI hM hS h2 (by omega) (by omega) he.1 he.2 h1
        · exact h1
    exact this S (Nat.le_refl _)
end
/-- a day that is over, with all that is known of it -/
def CG (σ c : sMem) (cm : Nat → Bool) (v kd N P S G : Nat) (D : DA) : Prop := TT σ c v N P S ∧ MC c N P S ∧ SS σ c cm N S G ∧ CF σ c v kd N P S G D ∧ DV c N P S 8000 D ∧ DLo c P D ∧ FI S cm D
theorem CG_of {σ c : sMem} {cm : Nat → Bool} {v kd N P S G : Nat} (hT : TT σ c v N P S) (hM : MC c N P S) (hS : SS σ c cm N S G) (hSC : SC c N P S G) (h : CF σ c v kd N P S G (daA c cm P G S kd)) : CG σ c cm v kd N P S G (daA c cm P G S kd) :=
  ⟨hT, hM, hS, h, (daA_DV hM hSC 1000 (Nat.le_refl _)).mono (by have := hM.2.2.2.1; omega), da_DLo hM hSC 1000 (Nat.le_refl _), da_FI hM hSC 1000 (Nat.le_refl _)⟩
section
variable {l : Launch} {D0 : va_G} {b0 : Nat} {ty : Nat → ClassId} {ad av : Nat → Nat}
theorem c0_lostBy_36 (d : Nat) (σ c : sMem) (cm : Nat → Bool) (kd N P S G : Nat) (D : DA) (h : CG σ c cm 36 kd N P S G D) (p : Nat) (hp : p < P) : sMet l D0 b0 ty lay (d + 3) mX0_lostBy [aR 81, aI (nI p)] σ (fun r σ' => r = [aI (nI (losP c D p))] ∧ σ' = σ) := by
  refine sMet_intro lay_nd kX0_lostBy xX0_ok (by decide +kernel) rfl ?_
  intro K hK
  obtain ⟨hT, hM, hS, ⟨hO, hA, hC, hW⟩, hV, hLo, hFI⟩ := h
  have hN := hM.1.1.1
  have hP := hM.2.2.1
  have hS8 := hM.2.2.2.1
  iterate 3 refine hK _ _ _ _ ?_
  refine calD (c0_goesOut_36 _ σ c N P S hT hM kd hO hS.2.2.2.2.2.1 p hp) ?_
  rintro r σ' ⟨rfl, hσ⟩
  subst σ'
  refine hK _ _ _ _ ?_
  refine And.intro (fun h9 => ?_) (fun h9 => ?_)
  · have ho := bI_t h9
    obtain ⟨k, k2, k3, -, y82', y83'⟩ := (hA p hp).1 ho
    obtain ⟨b1, b2, b3⟩ := hV.1 p hp ho
    obtain ⟨⟨ea, hpa⟩, ⟨eq, hq⟩, ⟨et, ht⟩, ew, v1, v2⟩ := hM.2.2.2.2.1 p hp
    have hpt := pth_at hM.1 hq k (D.1 p).1 (D.1 p).2 b1 b2 k2
    have f6 := fN_660 hM.1 hq b1 b2
    obtain ⟨⟨a, w⟩, k4⟩ : ∃ aw, pth c (pQ c p) k (D.1 p) = aw := ⟨_, rfl⟩
    have k5 : pth c (pQ c p) k ((D.1 p).1, (D.1 p).2) = (a, w) := k4
    rw [k5] at hpt
    dsimp only at hpt
    rw [k4] at y82' y83'
    have ha := hpt.1
    have y82 : σ 82 0 p = nI a := y82'
    have y83 : σ 83 0 p = nI w := y83'
    have km : σ 39 a (pQ c p) = nI (fN c a (pQ c p)) := (hT.2.2.2.1 a _ ha hq).1
    have k6 : σ 42 0 p = nI (pQ c p) := (hT.2.2.2.2.1 p hp).2.1
    have k8 : σ 44 0 p = nI (pV c p) := (hT.2.2.2.2.1 p hp).2.2.2.1
    iterate 4 refine hK _ _ _ _ ?_
    refine And.intro (vp_in_nI (n := p) (by omega) (by decide)) ?_
    rw [nI_clamp (show p < 2 ^ 31 by omega)]
    rw [show σ 83 0 p = nI w from y83]
    iterate 2 refine hK _ _ _ _ ?_
    show K _ _ _ _
    rw [show σ 81 0 0 = nI 36 from hO.1]
    show K _ _ _ _
    rw [show (nI 36).toNatClampNeg = 36 from rfl]
    iterate 6 refine hK _ _ _ _ ?_
    refine And.intro (vp_in_nI (n := p) (by omega) (by decide)) ?_
    rw [nI_clamp (show p < 2 ^ 31 by omega)]
    rw [show σ 82 0 p = nI a from y82]
    refine hK _ _ _ _ ?_
    refine And.intro (vp_in_nI (n := a) (by omega) (by decide)) ?_
    rw [nI_clamp (show a < 2 ^ 31 by omega)]
    iterate 2 refine hK _ _ _ _ ?_
    show K _ _ _ _
    rw [show σ 81 0 0 = nI 36 from hO.1]
    show K _ _ _ _
    rw [show (nI 36).toNatClampNeg = 36 from rfl]
    iterate 3 refine hK _ _ _ _ ?_
    refine And.intro (vp_in_nI (n := p) (by omega) (by decide)) ?_
    rw [nI_clamp (show p < 2 ^ 31 by omega)]
    rw [show σ 42 0 p = nI (pQ c p) from k6]
    refine hK _ _ _ _ ?_
    refine And.intro (by first | omega | (rw [nI_clamp (by omega)]; omega)) (And.intro (vp_in_nI (n := (pQ c p)) (by omega) (by decide)) ?_)
    rw [nI_clamp (show (pQ c p) < 2 ^ 31 by omega)]
    rw [show σ 39 a (pQ c p) = nI (fN c a (pQ c p)) from km]
    iterate 4 refine hK _ _ _ _ ?_
    show K _ _ _ _
    rw [show σ 81 0 0 = nI 36 from hO.1]
    show K _ _ _ _
    rw [show (nI 36).toNatClampNeg = 36 from rfl]
    iterate 3 refine hK _ _ _ _ ?_
    refine And.intro (vp_in_nI (n := p) (by omega) (by decide)) ?_
    rw [nI_clamp (show p < 2 ^ 31 by omega)]
    rw [show σ 44 0 p = nI (pV c p) from k8]
    iterate 3 refine hK _ _ _ _ ?_
    show K _ _ _ _
    rw [show σ 81 0 0 = nI 36 from hO.1]
    show K _ _ _ _
    rw [show (nI 36).toNatClampNeg = 36 from rfl]
    iterate 2 refine hK _ _ _ _ ?_
    refine calD (t7_arrival_36 _ _ c N P S hT hM p hp) ?_
    rintro r σ' ⟨rfl, hσ⟩
    subst σ'
    iterate 3 refine hK _ _ _ _ ?_
    have hl := hLo p hp ho
    exact ⟨by unfold losP; rw [ho, if_pos rfl, nIa, nIm (by omega), nIx, show w + fN c a (pQ c p) = (D.1 p).2 + fN c (D.1 p).1 (pQ c p) by omega], rfl⟩
  · have ho := bI_f h9
    iterate 2 refine hK _ _ _ _ ?_
    exact ⟨by unfold losP; rw [ho]; rfl, rfl⟩
theorem c0_cost_36 (d : Nat) (σ c : sMem) (cm : Nat → Bool) (kd N P S G : Nat) (D : DA) (h : CG σ c cm 36 kd N P S G D) : sMet l D0 b0 ty lay (d + 4) mX0_cost [aR 81] σ (fun r σ' => r = [aI (nI (cosA c D P))] ∧ σ' = σ) := by
  refine sMet_intro lay_nd kX0_cost xX0_ok (by decide +kernel) rfl ?_
  intro K hK
  have h0 := h
  obtain ⟨hT, hM, hS, ⟨hO, hA, hC, hW⟩, hV, hLo, hFI⟩ := h
  have hN := hM.1.1.1
  have hP := hM.2.2.1
  have hS8 := hM.2.2.2.1
  iterate 2 refine hK _ _ _ _ ?_
  show K _ _ _ _
  rw [show σ 81 0 13 = nI D.2.2.2.1 from hC.2.2.1]
  iterate 3 refine hK _ _ _ _ ?_
  have L7 : ∀ (f : Nat) (p : Nat), p + f = P → K 7 [some (aR 81), some (aI (nI (cosA c D p))), some (aI (nI p))] [] σ := by
    intro f
    induction f with
    | zero =>
      intro p hpP
      iterate 3 refine hK _ _ _ _ ?_
      show K _ _ _ _
      rw [show σ 81 0 0 = nI 36 from hO.1]
      show K _ _ _ _
      rw [show (nI 36).toNatClampNeg = 36 from rfl]
      refine hK _ _ _ _ ?_
      show K _ _ _ _
      rw [show σ 36 0 1 = nI P from hT.2.1]
      refine hK _ _ _ _ ?_
      refine And.intro (fun _ => ?_) (fun h => absurd ((nI_leI (by omega) (by omega)).mpr (by omega)) h)
      iterate 2 refine hK _ _ _ _ ?_
      exact ⟨by rw [show p = P by omega], rfl⟩
    | succ f ih =>
      intro p hpP
      iterate 3 refine hK _ _ _ _ ?_
      show K _ _ _ _
      rw [show σ 81 0 0 = nI 36 from hO.1]
      show K _ _ _ _
      rw [show (nI 36).toNatClampNeg = 36 from rfl]
      refine hK _ _ _ _ ?_
      show K _ _ _ _
      rw [show σ 36 0 1 = nI P from hT.2.1]
      refine hK _ _ _ _ ?_
      refine And.intro (fun h => absurd ((nI_leI (by omega) (by omega)).mp h) (by omega)) (fun _ => ?_)
      iterate 4 refine hK _ _ _ _ ?_
      refine calD (c0_lostBy_36 _ _ c cm kd N P S G D h0 p (by omega)) ?_
      rintro r σ' ⟨rfl, hσ⟩
      subst σ'
      refine hK _ _ _ _ ?_
      show K _ _ _ _
      rw [nIa]
      iterate 2 refine hK _ _ _ _ ?_
      show K _ _ _ _
      rw [show nI p + Int32.ofInt 1 = nI (p + 1) from nIs _]
      refine hK _ _ _ _ ?_
      exact ih (p + 1) (by omega)
  exact L7 P 0 (by omega)
theorem c0_arrivedBy_36 (d : Nat) (σ c : sMem) (cm : Nat → Bool) (kd N P S G : Nat) (D : DA) (h : CG σ c cm 36 kd N P S G D) : sMet l D0 b0 ty lay d mX0_arrivedBy [aR 81, aI (nI 999)] σ (fun r σ' => r = [aI (nI (cnA (arrA D) S))] ∧ σ' = σ) := by
  refine sMet_intro lay_nd kX0_arrivedBy xX0_ok (by decide +kernel) rfl ?_
  intro K hK
  obtain ⟨hT, hM, hS, ⟨hO, hA, hC, hW⟩, hV, hLo, hFI⟩ := h
  have hN := hM.1.1.1
  have hP := hM.2.2.1
  have hS8 := hM.2.2.2.1
  iterate 4 refine hK _ _ _ _ ?_
  have L4 : ∀ (f : Nat) (s : Nat), s + f = S → K 4 [some (aR 81), some (aI (nI 999)), some (aI (nI (cnA (arrA D) s))), some (aI (nI s))] [] σ := by
    intro f
    induction f with
    | zero =>
      intro s hsS
      iterate 3 refine hK _ _ _ _ ?_
      show K _ _ _ _
      rw [show σ 81 0 0 = nI 36 from hO.1]
      show K _ _ _ _
      rw [show (nI 36).toNatClampNeg = 36 from rfl]
      refine hK _ _ _ _ ?_
      show K _ _ _ _
      rw [show σ 36 0 7 = nI S from hT.2.2.1]
      refine hK _ _ _ _ ?_
      refine And.intro (fun _ => ?_) (fun h => absurd ((nI_leI (by omega) (by omega)).mpr (by omega)) h)
      iterate 2 refine hK _ _ _ _ ?_
      exact ⟨by rw [show s = S by omega], rfl⟩
    | succ f ih =>
      intro s hsS
      have e87 : σ 87 0 s = oI (D.2.1 s).2.2.1 := (hC.1 s (by omega)).2.2.1
      obtain ⟨-, x2, x3, -⟩ := hV.2.1 s (by omega)
      have hcs : cnA (arrA D) (s + 1) = cnA (arrA D) s + if arrA D s = true then 1 else 0 := rfl
      have nx : arrA D s = false → K 38 [some (aR 81), some (aI (nI 999)), some (aI (nI (cnA (arrA D) s))), some (aI (nI s))] [] σ := by
        intro hf
        refine hK _ _ _ _ ?_
        show K _ _ _ _
        rw [show nI s + Int32.ofInt 1 = nI (s + 1) from nIs _]
        refine hK _ _ _ _ ?_
        have := ih (s + 1) (by omega)
        rw [hcs, hf, if_neg (by decide), Nat.add_zero] at this
        exact this
      iterate 3 refine hK _ _ _ _ ?_
      show K _ _ _ _
      rw [show σ 81 0 0 = nI 36 from hO.1]
      show K _ _ _ _
      rw [show (nI 36).toNatClampNeg = 36 from rfl]
      refine hK _ _ _ _ ?_
      show K _ _ _ _
      rw [show σ 36 0 7 = nI S from hT.2.2.1]
      refine hK _ _ _ _ ?_
      refine And.intro (fun h => absurd ((nI_leI (by omega) (by omega)).mp h) (by omega)) (fun _ => ?_)
      rcases hd : (D.2.1 s).2.2.1 with _ | k
      · have hoi : oI (D.2.1 s).2.2.1 = -1 := by rw [hd]; rfl
        iterate 4 refine hK _ _ _ _ ?_
        refine And.intro (vp_in_nI (n := s) (by omega) (by decide)) ?_
        rw [nI_clamp (show s < 2 ^ 31 by omega)]
        rw [show σ 87 0 s = oI (D.2.1 s).2.2.1 from e87]
        iterate 2 refine hK _ _ _ _ ?_
        refine And.intro (fun _ => ?_) (fun h9 => absurd hoi h9)
        exact nx (by unfold arrA; rw [hd])
      · have hm := x3 k hd
        have hoi : oI (D.2.1 s).2.2.1 = nI k := by rw [hd]; rfl
        iterate 4 refine hK _ _ _ _ ?_
        refine And.intro (vp_in_nI (n := s) (by omega) (by decide)) ?_
        rw [nI_clamp (show s < 2 ^ 31 by omega)]
        rw [show σ 87 0 s = nI k from e87.trans hoi]
        iterate 2 refine hK _ _ _ _ ?_
        refine And.intro (fun h9 => absurd h9 (nI_ne (by omega))) (fun _ => ?_)
        iterate 4 refine hK _ _ _ _ ?_
        refine And.intro (vp_in_nI (n := s) (by omega) (by decide)) ?_
        rw [nI_clamp (show s < 2 ^ 31 by omega)]
        rw [show σ 87 0 s = nI k from e87.trans hoi]
        iterate 2 refine hK _ _ _ _ ?_
        refine And.intro (fun h8 => nx (by unfold arrA; rw [hd]; exact decide_eq_false (fun q => absurd ((nI_ltI (by omega) (by omega)).mp h8) (by omega)))) (fun h8 => ?_)
        have hk9 : k ≤ 999 := (nI_leI (by omega) (by omega)).mp (Int32.not_lt.mp h8)
        refine hK _ _ _ _ ?_
        show K _ _ _ _
        rw [show nI (cnA (arrA D) s) + Int32.ofInt 1 = nI ((cnA (arrA D) s) + 1) from nIs _]
        refine hK _ _ _ _ ?_
        show K _ _ _ _
        rw [show nI s + Int32.ofInt 1 = nI (s + 1) from nIs _]
        refine hK _ _ _ _ ?_
        have := ih (s + 1) (by omega)
        rw [hcs, show arrA D s = true by unfold arrA; rw [hd]; exact decide_eq_true hk9, if_pos rfl] at this
        exact this
  exact L4 S 0 (by omega)
theorem c0_isLedBy_36 (d : Nat) (σ c : sMem) (cm : Nat → Bool) (kd N P S G : Nat) (D : DA) (h : CG σ c cm 36 kd N P S G D) (s q : Nat) (hs : s < S) (hq : q < 2 ^ 31) : sMet l D0 b0 ty lay d mX0_isLedBy [aR 81, aI (nI s), aI (nI q)] σ (fun r σ' => r = [aI (bI ((D.2.1 s).2.2.2.contains q))] ∧ σ' = σ) := by
  refine sMet_intro lay_nd kX0_isLedBy xX0_ok (by decide +kernel) rfl ?_
  intro K hK
  obtain ⟨hT, hM, hS, ⟨hO, hA, hC, hW⟩, hV, hLo, hFI⟩ := h
  have hN := hM.1.1.1
  have hP := hM.2.2.1
  have hS8 := hM.2.2.2.1
  obtain ⟨-, -, -, e89, e88⟩ := hC.1 s hs
  obtain ⟨-, -, -, -, -, x6, x7⟩ := hV.2.1 s hs
  iterate 2 refine hK _ _ _ _ ?_
  have L2 : ∀ (f : Nat) (i : Nat), i + f = (D.2.1 s).2.2.2.length → (∀ j, j < i → ¬ (D.2.1 s).2.2.2[j]? = some q) → K 2 [some (aR 81), some (aI (nI s)), some (aI (nI q)), some (aI (nI i))] [] σ := by
    intro f
    induction f with
    | zero =>
      intro i hif hno
      iterate 5 refine hK _ _ _ _ ?_
      refine And.intro (vp_in_nI (n := s) (by omega) (by decide)) ?_
      rw [nI_clamp (show s < 2 ^ 31 by omega)]
      rw [show σ 89 0 s = nI (D.2.1 s).2.2.2.length from e89]
      refine hK _ _ _ _ ?_
      refine And.intro (fun _ => ?_) (fun h => absurd ((nI_leI (by omega) (by omega)).mpr (by omega)) h)
      iterate 2 refine hK _ _ _ _ ?_
      exact ⟨Or.inl rfl, by rw [show (D.2.1 s).2.2.2.contains q = false from Bool.eq_false_iff.mpr (fun hc => by obtain ⟨j, hj⟩ := List.getElem?_of_mem (List.contains_iff_mem.mp hc); have hlt := (List.getElem?_eq_some_iff.mp hj).1; exact hno j (by omega) hj)]; rfl, rfl⟩
    | succ f ih =>
      intro i hif hno
      obtain ⟨x, hx⟩ : ∃ x, (D.2.1 s).2.2.2[i]? = some x := ⟨_, List.getElem?_eq_getElem (by omega)⟩
      have y88 := e88 i x hx
      have hx6 := x7 x (List.mem_of_getElem? hx)
      iterate 5 refine hK _ _ _ _ ?_
      refine And.intro (vp_in_nI (n := s) (by omega) (by decide)) ?_
      rw [nI_clamp (show s < 2 ^ 31 by omega)]
      rw [show σ 89 0 s = nI (D.2.1 s).2.2.2.length from e89]
      refine hK _ _ _ _ ?_
      refine And.intro (fun h => absurd ((nI_leI (by omega) (by omega)).mp h) (by omega)) (fun _ => ?_)
      iterate 4 refine hK _ _ _ _ ?_
      refine And.intro (vp_in_nI (n := s) (by omega) (by decide)) ?_
      rw [nI_clamp (show s < 2 ^ 31 by omega)]
      iterate 2 refine hK _ _ _ _ ?_
      refine And.intro (by first | omega | (rw [nI_clamp (by omega)]; omega)) (And.intro (vp_in_nI (n := i) (by omega) (by decide)) ?_)
      rw [nI_clamp (show i < 2 ^ 31 by omega)]
      rw [show σ 88 s i = nI x from y88]
      iterate 2 refine hK _ _ _ _ ?_
      refine And.intro (fun h9 => ?_) (fun h9 => ?_)
      · refine hK _ _ _ _ ?_
        show K _ _ _ _
        rw [show nI i + Int32.ofInt 1 = nI (i + 1) from nIs _]
        refine hK _ _ _ _ ?_
        refine ih (i + 1) (by omega) (fun j hj hq2 => ?_)
        by_cases e : j = i
        · subst e; rw [hx] at hq2; cases hq2; exact h9 rfl
        · exact hno j (by omega) hq2
      · iterate 2 refine hK _ _ _ _ ?_
        have hxq : x = q := (nI_eq (by omega) hq).mp h9
        subst hxq
        exact ⟨Or.inr rfl, by rw [List.contains_iff_mem.mpr (List.mem_of_getElem? hx)]; rfl, rfl⟩
  exact L2 (D.2.1 s).2.2.2.length 0 (by omega) (fun j hj => absurd hj (Nat.not_lt_zero _))
theorem c0_isLeft_36 (d : Nat) (σ c : sMem) (cm : Nat → Bool) (kd N P S G : Nat) (D : DA) (h : CG σ c cm 36 kd N P S G D) (s : Nat) (hs : s < S) : yMet l D0 b0 ty ad av lay (d + 1) 0 mX0_isLeft [aR 81, aI (nI s)] σ (fun r σ' => r = [aI (bI (lefA D s))] ∧ σ' = σ) (fun _ _ => False) := by
  refine yMet_intro lay_nd kX0_isLeft xX0_ok (yY0_ok _) (by decide +kernel) rfl ?_
  intro K hK
  obtain ⟨hT, hM, hS, ⟨hO, hA, hC, hW⟩, hV, hLo, hFI⟩ := h
  have hN := hM.1.1.1
  have hP := hM.2.2.1
  have hS8 := hM.2.2.2.1
  have e87 : σ 87 0 s = oI (D.2.1 s).2.2.1 := (hC.1 s hs).2.2.1
  obtain ⟨-, x2, x3, -⟩ := hV.2.1 s hs
  have hoi := oI_inj (a := (D.2.1 s).2.2.1) (fun k hk => by have := x3 k hk; omega)
  have hfi := hFI s hs
  iterate 4 refine hK _ _ _ _ _ ?_
  refine And.intro (vp_in_nI (n := s) (by omega) (by decide)) ?_
  rw [nI_clamp (show s < 2 ^ 31 by omega)]
  rw [show σ 87 0 s = oI (D.2.1 s).2.2.1 from e87]
  iterate 2 refine hK _ _ _ _ _ ?_
  refine And.intro (fun h9 => ?_) (fun h9 => ?_)
  · iterate 2 refine hK _ _ _ _ _ ?_
    exact ⟨Or.inl rfl, by unfold lefA; rw [decide_eq_false (fun z => h9 (hoi.mpr z.1))]; rfl, rfl⟩
  · have hnn := hoi.mp h9
    iterate 2 refine hK _ _ _ _ _ ?_
    show K _ _ _ _ _
    rw [show σ 81 0 1 = nI 76 from hO.2.1]
    show K _ _ _ _ _
    rw [show (nI 76).toNatClampNeg = 76 from rfl]
    refine hK _ _ _ _ _ ?_
    iterate 2 refine hK _ _ _ _ _ ?_
    refine calD (c8_hasBit _ _ _ _) ?_
    rintro r σ' ⟨rfl, hσ⟩
    subst σ'
    rw [hS.2.2.2.2.2.2 s hs]
    refine hK _ _ _ _ _ ?_
    refine And.intro (fun h8 => ?_) (fun h8 => ?_)
    · have hc := bI_f h8
      iterate 2 refine hK _ _ _ _ _ ?_
      exact ⟨Or.inl rfl, by unfold lefA; rw [decide_eq_false (fun z => by have := hfi.mpr hc; omega)]; rfl, rfl⟩
    · have hc := bI_t h8
      have h5 : ¬ (D.2.1 s).2.1 = 1000000 := fun z => by have := hfi.mp z; rw [hc] at this; cases this
      iterate 3 refine hK _ _ _ _ _ ?_
      exact ⟨Or.inr rfl, by unfold lefA; rw [decide_eq_true ⟨hnn, by omega⟩]; rfl, rfl⟩
theorem c0_leftCount_36 (d : Nat) (σ c : sMem) (cm : Nat → Bool) (kd N P S G : Nat) (D : DA) (h : CG σ c cm 36 kd N P S G D) : yMet l D0 b0 ty ad av lay (d + 2) 0 mX0_leftCount [aR 81] σ (fun r σ' => r = [aI (nI (cnA (lefA D) S))] ∧ σ' = σ) (fun _ _ => False) := by
  refine yMet_intro lay_nd kX0_leftCount xX0_ok (yY0_ok _) (by decide +kernel) rfl ?_
  intro K hK
  have h0 := h
  obtain ⟨hT, hM, hS, ⟨hO, hA, hC, hW⟩, hV, hLo, hFI⟩ := h
  have hN := hM.1.1.1
  have hP := hM.2.2.1
  have hS8 := hM.2.2.2.1
  iterate 4 refine hK _ _ _ _ _ ?_
  have L4 : ∀ (f : Nat) (s : Nat), s + f = S → K 0 4 [some (aR 81), some (aI (nI (cnA (lefA D) s))), some (aI (nI s))] [] σ := by
    intro f
    induction f with
    | zero =>
      intro s hsS
      iterate 3 refine hK _ _ _ _ _ ?_
      show K _ _ _ _ _
      rw [show σ 81 0 0 = nI 36 from hO.1]
      show K _ _ _ _ _
      rw [show (nI 36).toNatClampNeg = 36 from rfl]
      refine hK _ _ _ _ _ ?_
      show K _ _ _ _ _
      rw [show σ 36 0 7 = nI S from hT.2.2.1]
      refine hK _ _ _ _ _ ?_
      refine And.intro (fun _ => ?_) (fun h => absurd ((nI_leI (by omega) (by omega)).mpr (by omega)) h)
      iterate 2 refine hK _ _ _ _ _ ?_
      exact ⟨by rw [show s = S by omega], rfl⟩
    | succ f ih =>
      intro s hsS
      have hcs : cnA (lefA D) (s + 1) = cnA (lefA D) s + if lefA D s = true then 1 else 0 := rfl
      iterate 3 refine hK _ _ _ _ _ ?_
      show K _ _ _ _ _
      rw [show σ 81 0 0 = nI 36 from hO.1]
      show K _ _ _ _ _
      rw [show (nI 36).toNatClampNeg = 36 from rfl]
      refine hK _ _ _ _ _ ?_
      show K _ _ _ _ _
      rw [show σ 36 0 7 = nI S from hT.2.2.1]
      refine hK _ _ _ _ _ ?_
      refine And.intro (fun h => absurd ((nI_leI (by omega) (by omega)).mp h) (by omega)) (fun _ => ?_)
      iterate 3 refine hK _ _ _ _ _ ?_
      refine Or.inr (Or.inl (yD0 (c0_isLeft_36 _ _ c cm kd N P S G D h0 s (by omega)) ?_))
      rintro r σ' ⟨rfl, hσ⟩
      subst σ'
      refine hK _ _ _ _ _ ?_
      refine And.intro (fun h9 => ?_) (fun h9 => ?_)
      · have hc := bI_f h9
        refine hK _ _ _ _ _ ?_
        show K _ _ _ _ _
        rw [show nI s + Int32.ofInt 1 = nI (s + 1) from nIs _]
        refine hK _ _ _ _ _ ?_
        have := ih (s + 1) (by omega)
        rw [hcs, hc, if_neg (by decide), Nat.add_zero] at this
        exact this
      · have hc := bI_t h9
        refine hK _ _ _ _ _ ?_
        show K _ _ _ _ _
        rw [show nI (cnA (lefA D) s) + Int32.ofInt 1 = nI ((cnA (lefA D) s) + 1) from nIs _]
        refine hK _ _ _ _ _ ?_
        show K _ _ _ _ _
        rw [show nI s + Int32.ofInt 1 = nI (s + 1) from nIs _]
        refine hK _ _ _ _ _ ?_
        have := ih (s + 1) (by omega)
        rw [hcs, hc, if_pos rfl] at this
        exact this
  exact L4 S 0 (by omega)
theorem c0_lostBy_54 (d : Nat) (σ c : sMem) (cm : Nat → Bool) (kd N P S G : Nat) (D : DA) (h : CG σ c cm 54 kd N P S G D) (p : Nat) (hp : p < P) : sMet l D0 b0 ty lay (d + 3) mX0_lostBy [aR 81, aI (nI p)] σ (fun r σ' => r = [aI (nI (losP c D p))] ∧ σ' = σ) := by
  refine sMet_intro lay_nd kX0_lostBy xX0_ok (by decide +kernel) rfl ?_
  intro K hK
  obtain ⟨hT, hM, hS, ⟨hO, hA, hC, hW⟩, hV, hLo, hFI⟩ := h
  have hN := hM.1.1.1
  have hP := hM.2.2.1
  have hS8 := hM.2.2.2.1
  iterate 3 refine hK _ _ _ _ ?_
  refine calD (c0_goesOut_54 _ σ c N P S hT hM kd hO hS.2.2.2.2.2.1 p hp) ?_
  rintro r σ' ⟨rfl, hσ⟩
  subst σ'
  refine hK _ _ _ _ ?_
  refine And.intro (fun h9 => ?_) (fun h9 => ?_)
  · have ho := bI_t h9
    obtain ⟨k, k2, k3, -, y82', y83'⟩ := (hA p hp).1 ho
    obtain ⟨b1, b2, b3⟩ := hV.1 p hp ho
    obtain ⟨⟨ea, hpa⟩, ⟨eq, hq⟩, ⟨et, ht⟩, ew, v1, v2⟩ := hM.2.2.2.2.1 p hp
    have hpt := pth_at hM.1 hq k (D.1 p).1 (D.1 p).2 b1 b2 k2
    have f6 := fN_660 hM.1 hq b1 b2
    obtain ⟨⟨a, w⟩, k4⟩ : ∃ aw, pth c (pQ c p) k (D.1 p) = aw := ⟨_, rfl⟩
    have k5 : pth c (pQ c p) k ((D.1 p).1, (D.1 p).2) = (a, w) := k4
    rw [k5] at hpt
    dsimp only at hpt
    rw [k4] at y82' y83'
    have ha := hpt.1
    have y82 : σ 82 0 p = nI a := y82'
    have y83 : σ 83 0 p = nI w := y83'
    have km : σ 57 a (pQ c p) = nI (fN c a (pQ c p)) := (hT.2.2.2.1 a _ ha hq).1
    have k6 : σ 60 0 p = nI (pQ c p) := (hT.2.2.2.2.1 p hp).2.1
    have k8 : σ 62 0 p = nI (pV c p) := (hT.2.2.2.2.1 p hp).2.2.2.1
    iterate 4 refine hK _ _ _ _ ?_
    refine And.intro (vp_in_nI (n := p) (by omega) (by decide)) ?_
    rw [nI_clamp (show p < 2 ^ 31 by omega)]
    rw [show σ 83 0 p = nI w from y83]
    iterate 2 refine hK _ _ _ _ ?_
    show K _ _ _ _
    rw [show σ 81 0 0 = nI 54 from hO.1]
    show K _ _ _ _
    rw [show (nI 54).toNatClampNeg = 54 from rfl]
    iterate 6 refine hK _ _ _ _ ?_
    refine And.intro (vp_in_nI (n := p) (by omega) (by decide)) ?_
    rw [nI_clamp (show p < 2 ^ 31 by omega)]
    rw [show σ 82 0 p = nI a from y82]
    refine hK _ _ _ _ ?_
    refine And.intro (vp_in_nI (n := a) (by omega) (by decide)) ?_
    rw [nI_clamp (show a < 2 ^ 31 by omega)]
    iterate 2 refine hK _ _ _ _ ?_
    show K _ _ _ _
    rw [show σ 81 0 0 = nI 54 from hO.1]
    show K _ _ _ _
    rw [show (nI 54).toNatClampNeg = 54 from rfl]
    iterate 3 refine hK _ _ _ _ ?_
    refine And.intro (vp_in_nI (n := p) (by omega) (by decide)) ?_
    rw [nI_clamp (show p < 2 ^ 31 by omega)]
    rw [show σ 60 0 p = nI (pQ c p) from k6]
    refine hK _ _ _ _ ?_
    refine And.intro (by first | omega | (rw [nI_clamp (by omega)]; omega)) (And.intro (vp_in_nI (n := (pQ c p)) (by omega) (by decide)) ?_)
    rw [nI_clamp (show (pQ c p) < 2 ^ 31 by omega)]
    rw [show σ 57 a (pQ c p) = nI (fN c a (pQ c p)) from km]
    iterate 4 refine hK _ _ _ _ ?_
    show K _ _ _ _
    rw [show σ 81 0 0 = nI 54 from hO.1]
    show K _ _ _ _
    rw [show (nI 54).toNatClampNeg = 54 from rfl]
    iterate 3 refine hK _ _ _ _ ?_
    refine And.intro (vp_in_nI (n := p) (by omega) (by decide)) ?_
    rw [nI_clamp (show p < 2 ^ 31 by omega)]
    rw [show σ 62 0 p = nI (pV c p) from k8]
    iterate 3 refine hK _ _ _ _ ?_
    show K _ _ _ _
    rw [show σ 81 0 0 = nI 54 from hO.1]
    show K _ _ _ _
    rw [show (nI 54).toNatClampNeg = 54 from rfl]
    iterate 2 refine hK _ _ _ _ ?_
    refine calD (t7_arrival_54 _ _ c N P S hT hM p hp) ?_
    rintro r σ' ⟨rfl, hσ⟩
    subst σ'
    iterate 3 refine hK _ _ _ _ ?_
    have hl := hLo p hp ho
    exact ⟨by unfold losP; rw [ho, if_pos rfl, nIa, nIm (by omega), nIx, show w + fN c a (pQ c p) = (D.1 p).2 + fN c (D.1 p).1 (pQ c p) by omega], rfl⟩
  · have ho := bI_f h9
    iterate 2 refine hK _ _ _ _ ?_
    exact ⟨by unfold losP; rw [ho]; rfl, rfl⟩
theorem c0_cost_54 (d : Nat) (σ c : sMem) (cm : Nat → Bool) (kd N P S G : Nat) (D : DA) (h : CG σ c cm 54 kd N P S G D) : sMet l D0 b0 ty lay (d + 4) mX0_cost [aR 81] σ (fun r σ' => r = [aI (nI (cosA c D P))] ∧ σ' = σ) := by
  refine sMet_intro lay_nd kX0_cost xX0_ok (by decide +kernel) rfl ?_
  intro K hK
  have h0 := h
  obtain ⟨hT, hM, hS, ⟨hO, hA, hC, hW⟩, hV, hLo, hFI⟩ := h
  have hN := hM.1.1.1
  have hP := hM.2.2.1
  have hS8 := hM.2.2.2.1
  iterate 2 refine hK _ _ _ _ ?_
  show K _ _ _ _
  rw [show σ 81 0 13 = nI D.2.2.2.1 from hC.2.2.1]
  iterate 3 refine hK _ _ _ _ ?_
  have L7 : ∀ (f : Nat) (p : Nat), p + f = P → K 7 [some (aR 81), some (aI (nI (cosA c D p))), some (aI (nI p))] [] σ := by
    intro f
    induction f with
    | zero =>
      intro p hpP
      iterate 3 refine hK _ _ _ _ ?_
      show K _ _ _ _
      rw [show σ 81 0 0 = nI 54 from hO.1]
      show K _ _ _ _
      rw [show (nI 54).toNatClampNeg = 54 from rfl]
      refine hK _ _ _ _ ?_
      show K _ _ _ _
      rw [show σ 54 0 1 = nI P from hT.2.1]
      refine hK _ _ _ _ ?_
      refine And.intro (fun _ => ?_) (fun h => absurd ((nI_leI (by omega) (by omega)).mpr (by omega)) h)
      iterate 2 refine hK _ _ _ _ ?_
      exact ⟨by rw [show p = P by omega], rfl⟩
    | succ f ih =>
      intro p hpP
      iterate 3 refine hK _ _ _ _ ?_
      show K _ _ _ _
      rw [show σ 81 0 0 = nI 54 from hO.1]
      show K _ _ _ _
      rw [show (nI 54).toNatClampNeg = 54 from rfl]
      refine hK _ _ _ _ ?_
      show K _ _ _ _
      rw [show σ 54 0 1 = nI P from hT.2.1]
      refine hK _ _ _ _ ?_
      refine And.intro (fun h => absurd ((nI_leI (by omega) (by omega)).mp h) (by omega)) (fun _ => ?_)
      iterate 4 refine hK _ _ _ _ ?_
      refine calD (c0_lostBy_54 _ _ c cm kd N P S G D h0 p (by omega)) ?_
      rintro r σ' ⟨rfl, hσ⟩
      subst σ'
      refine hK _ _ _ _ ?_
      show K _ _ _ _
      rw [nIa]
      iterate 2 refine hK _ _ _ _ ?_
      show K _ _ _ _
      rw [show nI p + Int32.ofInt 1 = nI (p + 1) from nIs _]
      refine hK _ _ _ _ ?_
      exact ih (p + 1) (by omega)
  exact L7 P 0 (by omega)
theorem c0_arrivedBy_54 (d : Nat) (σ c : sMem) (cm : Nat → Bool) (kd N P S G : Nat) (D : DA) (h : CG σ c cm 54 kd N P S G D) : sMet l D0 b0 ty lay d mX0_arrivedBy [aR 81, aI (nI 999)] σ (fun r σ' => r = [aI (nI (cnA (arrA D) S))] ∧ σ' = σ) := by
  refine sMet_intro lay_nd kX0_arrivedBy xX0_ok (by decide +kernel) rfl ?_
  intro K hK
  obtain ⟨hT, hM, hS, ⟨hO, hA, hC, hW⟩, hV, hLo, hFI⟩ := h
  have hN := hM.1.1.1
  have hP := hM.2.2.1
  have hS8 := hM.2.2.2.1
  iterate 4 refine hK _ _ _ _ ?_
  have L4 : ∀ (f : Nat) (s : Nat), s + f = S → K 4 [some (aR 81), some (aI (nI 999)), some (aI (nI (cnA (arrA D) s))), some (aI (nI s))] [] σ := by
    intro f
    induction f with
    | zero =>
      intro s hsS
      iterate 3 refine hK _ _ _ _ ?_
      show K _ _ _ _
      rw [show σ 81 0 0 = nI 54 from hO.1]
      show K _ _ _ _
      rw [show (nI 54).toNatClampNeg = 54 from rfl]
      refine hK _ _ _ _ ?_
      show K _ _ _ _
      rw [show σ 54 0 7 = nI S from hT.2.2.1]
      refine hK _ _ _ _ ?_
      refine And.intro (fun _ => ?_) (fun h => absurd ((nI_leI (by omega) (by omega)).mpr (by omega)) h)
      iterate 2 refine hK _ _ _ _ ?_
      exact ⟨by rw [show s = S by omega], rfl⟩
    | succ f ih =>
      intro s hsS
      have e87 : σ 87 0 s = oI (D.2.1 s).2.2.1 := (hC.1 s (by omega)).2.2.1
      obtain ⟨-, x2, x3, -⟩ := hV.2.1 s (by omega)
      have hcs : cnA (arrA D) (s + 1) = cnA (arrA D) s + if arrA D s = true then 1 else 0 := rfl
      have nx : arrA D s = false → K 38 [some (aR 81), some (aI (nI 999)), some (aI (nI (cnA (arrA D) s))), some (aI (nI s))] [] σ := by
        intro hf
        refine hK _ _ _ _ ?_
        show K _ _ _ _
        rw [show nI s + Int32.ofInt 1 = nI (s + 1) from nIs _]
        refine hK _ _ _ _ ?_
        have := ih (s + 1) (by omega)
        rw [hcs, hf, if_neg (by decide), Nat.add_zero] at this
        exact this
      iterate 3 refine hK _ _ _ _ ?_
      show K _ _ _ _
      rw [show σ 81 0 0 = nI 54 from hO.1]
      show K _ _ _ _
      rw [show (nI 54).toNatClampNeg = 54 from rfl]
      refine hK _ _ _ _ ?_
      show K _ _ _ _
      rw [show σ 54 0 7 = nI S from hT.2.2.1]
      refine hK _ _ _ _ ?_
      refine And.intro (fun h => absurd ((nI_leI (by omega) (by omega)).mp h) (by omega)) (fun _ => ?_)
      rcases hd : (D.2.1 s).2.2.1 with _ | k
      · have hoi : oI (D.2.1 s).2.2.1 = -1 := by rw [hd]; rfl
        iterate 4 refine hK _ _ _ _ ?_
        refine And.intro (vp_in_nI (n := s) (by omega) (by decide)) ?_
        rw [nI_clamp (show s < 2 ^ 31 by omega)]
        rw [show σ 87 0 s = oI (D.2.1 s).2.2.1 from e87]
        iterate 2 refine hK _ _ _ _ ?_
        refine And.intro (fun _ => ?_) (fun h9 => absurd hoi h9)
        exact nx (by unfold arrA; rw [hd])
      · have hm := x3 k hd
        have hoi : oI (D.2.1 s).2.2.1 = nI k := by rw [hd]; rfl
        iterate 4 refine hK _ _ _ _ ?_
        refine And.intro (vp_in_nI (n := s) (by omega) (by decide)) ?_
        rw [nI_clamp (show s < 2 ^ 31 by omega)]
        rw [show σ 87 0 s = nI k from e87.trans hoi]
        iterate 2 refine hK _ _ _ _ ?_
        refine And.intro (fun h9 => absurd h9 (nI_ne (by omega))) (fun _ => ?_)
        iterate 4 refine hK _ _ _ _ ?_
        refine And.intro (vp_in_nI (n := s) (by omega) (by decide)) ?_
        rw [nI_clamp (show s < 2 ^ 31 by omega)]
        rw [show σ 87 0 s = nI k from e87.trans hoi]
        iterate 2 refine hK _ _ _ _ ?_
        refine And.intro (fun h8 => nx (by unfold arrA; rw [hd]; exact decide_eq_false (fun q => absurd ((nI_ltI (by omega) (by omega)).mp h8) (by omega)))) (fun h8 => ?_)
        have hk9 : k ≤ 999 := (nI_leI (by omega) (by omega)).mp (Int32.not_lt.mp h8)
        refine hK _ _ _ _ ?_
        show K _ _ _ _
        rw [show nI (cnA (arrA D) s) + Int32.ofInt 1 = nI ((cnA (arrA D) s) + 1) from nIs _]
        refine hK _ _ _ _ ?_
        show K _ _ _ _
        rw [show nI s + Int32.ofInt 1 = nI (s + 1) from nIs _]
        refine hK _ _ _ _ ?_
        have := ih (s + 1) (by omega)
        rw [hcs, show arrA D s = true by unfold arrA; rw [hd]; exact decide_eq_true hk9, if_pos rfl] at this
        exact this
  exact L4 S 0 (by omega)
theorem c0_isLedBy_54 (d : Nat) (σ c : sMem) (cm : Nat → Bool) (kd N P S G : Nat) (D : DA) (h : CG σ c cm 54 kd N P S G D) (s q : Nat) (hs : s < S) (hq : q < 2 ^ 31) : sMet l D0 b0 ty lay d mX0_isLedBy [aR 81, aI (nI s), aI (nI q)] σ (fun r σ' => r = [aI (bI ((D.2.1 s).2.2.2.contains q))] ∧ σ' = σ) := by
  refine sMet_intro lay_nd kX0_isLedBy xX0_ok (by decide +kernel) rfl ?_
  intro K hK
  obtain ⟨hT, hM, hS, ⟨hO, hA, hC, hW⟩, hV, hLo, hFI⟩ := h
  have hN := hM.1.1.1
  have hP := hM.2.2.1
  have hS8 := hM.2.2.2.1
  obtain ⟨-, -, -, e89, e88⟩ := hC.1 s hs
  obtain ⟨-, -, -, -, -, x6, x7⟩ := hV.2.1 s hs
  iterate 2 refine hK _ _ _ _ ?_
  have L2 : ∀ (f : Nat) (i : Nat), i + f = (D.2.1 s).2.2.2.length → (∀ j, j < i → ¬ (D.2.1 s).2.2.2[j]? = some q) → K 2 [some (aR 81), some (aI (nI s)), some (aI (nI q)), some (aI (nI i))] [] σ := by
    intro f
    induction f with
    | zero =>
      intro i hif hno
      iterate 5 refine hK _ _ _ _ ?_
      refine And.intro (vp_in_nI (n := s) (by omega) (by decide)) ?_
      rw [nI_clamp (show s < 2 ^ 31 by omega)]
      rw [show σ 89 0 s = nI (D.2.1 s).2.2.2.length from e89]
      refine hK _ _ _ _ ?_
      refine And.intro (fun _ => ?_) (fun h => absurd ((nI_leI (by omega) (by omega)).mpr (by omega)) h)
      iterate 2 refine hK _ _ _ _ ?_
      exact ⟨Or.inl rfl, by rw [show (D.2.1 s).2.2.2.contains q = false from Bool.eq_false_iff.mpr (fun hc => by obtain ⟨j, hj⟩ := List.getElem?_of_mem (List.contains_iff_mem.mp hc); have hlt := (List.getElem?_eq_some_iff.mp hj).1; exact hno j (by omega) hj)]; rfl, rfl⟩
    | succ f ih =>
      intro i hif hno
      obtain ⟨x, hx⟩ : ∃ x, (D.2.1 s).2.2.2[i]? = some x := ⟨_, List.getElem?_eq_getElem (by omega)⟩
      have y88 := e88 i x hx
      have hx6 := x7 x (List.mem_of_getElem? hx)
      iterate 5 refine hK _ _ _ _ ?_
      refine And.intro (vp_in_nI (n := s) (by omega) (by decide)) ?_
      rw [nI_clamp (show s < 2 ^ 31 by omega)]
      rw [show σ 89 0 s = nI (D.2.1 s).2.2.2.length from e89]
      refine hK _ _ _ _ ?_
      refine And.intro (fun h => absurd ((nI_leI (by omega) (by omega)).mp h) (by omega)) (fun _ => ?_)
      iterate 4 refine hK _ _ _ _ ?_
      refine And.intro (vp_in_nI (n := s) (by omega) (by decide)) ?_
      rw [nI_clamp (show s < 2 ^ 31 by omega)]
      iterate 2 refine hK _ _ _ _ ?_
      refine And.intro (by first | omega | (rw [nI_clamp (by omega)]; omega)) (And.intro (vp_in_nI (n := i) (by omega) (by decide)) ?_)
      rw [nI_clamp (show i < 2 ^ 31 by omega)]
      rw [show σ 88 s i = nI x from y88]
      iterate 2 refine hK _ _ _ _ ?_
      refine And.intro (fun h9 => ?_) (fun h9 => ?_)
      · refine hK _ _ _ _ ?_
        show K _ _ _ _
        rw [show nI i + Int32.ofInt 1 = nI (i + 1) from nIs _]
        refine hK _ _ _ _ ?_
        refine ih (i + 1) (by omega) (fun j hj hq2 => ?_)
        by_cases e : j = i
        · subst e; rw [hx] at hq2; cases hq2; exact h9 rfl
        · exact hno j (by omega) hq2
      · iterate 2 refine hK _ _ _ _ ?_
        have hxq : x = q := (nI_eq (by omega) hq).mp h9
        subst hxq
        exact ⟨Or.inr rfl, by rw [List.contains_iff_mem.mpr (List.mem_of_getElem? hx)]; rfl, rfl⟩
  exact L2 (D.2.1 s).2.2.2.length 0 (by omega) (fun j hj => absurd hj (Nat.not_lt_zero _))
theorem c0_isLeft_54 (d : Nat) (σ c : sMem) (cm : Nat → Bool) (kd N P S G : Nat) (D : DA) (h : CG σ c cm 54 kd N P S G D) (s : Nat) (hs : s < S) : yMet l D0 b0 ty ad av lay (d + 1) 0 mX0_isLeft [aR 81, aI (nI s)] σ (fun r σ' => r = [aI (bI (lefA D s))] ∧ σ' = σ) (fun _ _ => False) := by
  refine yMet_intro lay_nd kX0_isLeft xX0_ok (yY0_ok _) (by decide +kernel) rfl ?_
  intro K hK
  obtain ⟨hT, hM, hS, ⟨hO, hA, hC, hW⟩, hV, hLo, hFI⟩ := h
  have hN := hM.1.1.1
  have hP := hM.2.2.1
  have hS8 := hM.2.2.2.1
  have e87 : σ 87 0 s = oI (D.2.1 s).2.2.1 := (hC.1 s hs).2.2.1
  obtain ⟨-, x2, x3, -⟩ := hV.2.1 s hs
  have hoi := oI_inj (a := (D.2.1 s).2.2.1) (fun k hk => by have := x3 k hk; omega)
  have hfi := hFI s hs
  iterate 4 refine hK _ _ _ _ _ ?_
  refine And.intro (vp_in_nI (n := s) (by omega) (by decide)) ?_
  rw [nI_clamp (show s < 2 ^ 31 by omega)]
  rw [show σ 87 0 s = oI (D.2.1 s).2.2.1 from e87]
  iterate 2 refine hK _ _ _ _ _ ?_
  refine And.intro (fun h9 => ?_) (fun h9 => ?_)
  · iterate 2 refine hK _ _ _ _ _ ?_
    exact ⟨Or.inl rfl, by unfold lefA; rw [decide_eq_false (fun z => h9 (hoi.mpr z.1))]; rfl, rfl⟩
  · have hnn := hoi.mp h9
    iterate 2 refine hK _ _ _ _ _ ?_
    show K _ _ _ _ _
    rw [show σ 81 0 1 = nI 76 from hO.2.1]
    show K _ _ _ _ _
    rw [show (nI 76).toNatClampNeg = 76 from rfl]
    refine hK _ _ _ _ _ ?_
    iterate 2 refine hK _ _ _ _ _ ?_
    refine calD (c8_hasBit _ _ _ _) ?_
    rintro r σ' ⟨rfl, hσ⟩
    subst σ'
    rw [hS.2.2.2.2.2.2 s hs]
    refine hK _ _ _ _ _ ?_
    refine And.intro (fun h8 => ?_) (fun h8 => ?_)
    · have hc := bI_f h8
      iterate 2 refine hK _ _ _ _ _ ?_
      exact ⟨Or.inl rfl, by unfold lefA; rw [decide_eq_false (fun z => by have := hfi.mpr hc; omega)]; rfl, rfl⟩
    · have hc := bI_t h8
      have h5 : ¬ (D.2.1 s).2.1 = 1000000 := fun z => by have := hfi.mp z; rw [hc] at this; cases this
      iterate 3 refine hK _ _ _ _ _ ?_
      exact ⟨Or.inr rfl, by unfold lefA; rw [decide_eq_true ⟨hnn, by omega⟩]; rfl, rfl⟩
theorem c0_leftCount_54 (d : Nat) (σ c : sMem) (cm : Nat → Bool) (kd N P S G : Nat) (D : DA) (h : CG σ c cm 54 kd N P S G D) : yMet l D0 b0 ty ad av lay (d + 2) 0 mX0_leftCount [aR 81] σ (fun r σ' => r = [aI (nI (cnA (lefA D) S))] ∧ σ' = σ) (fun _ _ => False) := by
  refine yMet_intro lay_nd kX0_leftCount xX0_ok (yY0_ok _) (by decide +kernel) rfl ?_
  intro K hK
  have h0 := h
  obtain ⟨hT, hM, hS, ⟨hO, hA, hC, hW⟩, hV, hLo, hFI⟩ := h
  have hN := hM.1.1.1
  have hP := hM.2.2.1
  have hS8 := hM.2.2.2.1
  iterate 4 refine hK _ _ _ _ _ ?_
  have L4 : ∀ (f : Nat) (s : Nat), s + f = S → K 0 4 [some (aR 81), some (aI (nI (cnA (lefA D) s))), some (aI (nI s))] [] σ := by
    intro f
    induction f with
    | zero =>
      intro s hsS
      iterate 3 refine hK _ _ _ _ _ ?_
      show K _ _ _ _ _
      rw [show σ 81 0 0 = nI 54 from hO.1]
      show K _ _ _ _ _
      rw [show (nI 54).toNatClampNeg = 54 from rfl]
      refine hK _ _ _ _ _ ?_
      show K _ _ _ _ _
      rw [show σ 54 0 7 = nI S from hT.2.2.1]
      refine hK _ _ _ _ _ ?_
      refine And.intro (fun _ => ?_) (fun h => absurd ((nI_leI (by omega) (by omega)).mpr (by omega)) h)
      iterate 2 refine hK _ _ _ _ _ ?_
      exact ⟨by rw [show s = S by omega], rfl⟩
    | succ f ih =>
      intro s hsS
      have hcs : cnA (lefA D) (s + 1) = cnA (lefA D) s + if lefA D s = true then 1 else 0 := rfl
      iterate 3 refine hK _ _ _ _ _ ?_
      show K _ _ _ _ _
      rw [show σ 81 0 0 = nI 54 from hO.1]
      show K _ _ _ _ _
      rw [show (nI 54).toNatClampNeg = 54 from rfl]
      refine hK _ _ _ _ _ ?_
      show K _ _ _ _ _
      rw [show σ 54 0 7 = nI S from hT.2.2.1]
      refine hK _ _ _ _ _ ?_
      refine And.intro (fun h => absurd ((nI_leI (by omega) (by omega)).mp h) (by omega)) (fun _ => ?_)
      iterate 3 refine hK _ _ _ _ _ ?_
      refine Or.inr (Or.inl (yD0 (c0_isLeft_54 _ _ c cm kd N P S G D h0 s (by omega)) ?_))
      rintro r σ' ⟨rfl, hσ⟩
      subst σ'
      refine hK _ _ _ _ _ ?_
      refine And.intro (fun h9 => ?_) (fun h9 => ?_)
      · have hc := bI_f h9
        refine hK _ _ _ _ _ ?_
        show K _ _ _ _ _
        rw [show nI s + Int32.ofInt 1 = nI (s + 1) from nIs _]
        refine hK _ _ _ _ _ ?_
        have := ih (s + 1) (by omega)
        rw [hcs, hc, if_neg (by decide), Nat.add_zero] at this
        exact this
      · have hc := bI_t h9
        refine hK _ _ _ _ _ ?_
        show K _ _ _ _ _
        rw [show nI (cnA (lefA D) s) + Int32.ofInt 1 = nI ((cnA (lefA D) s) + 1) from nIs _]
        refine hK _ _ _ _ _ ?_
        show K _ _ _ _ _
        rw [show nI s + Int32.ofInt 1 = nI (s + 1) from nIs _]
        refine hK _ _ _ _ _ ?_
        have := ih (s + 1) (by omega)
        rw [hcs, hc, if_pos rfl] at this
        exact this
  exact L4 S 0 (by omega)
end
