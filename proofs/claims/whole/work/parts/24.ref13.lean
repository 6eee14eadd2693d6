/-! THE REFERENCE, who leads -/
def oI (b : Option Nat) : Int32 := match b with
  | none => -1
  | some k => nI k
/-- where the strangers are and the people's entries, as the walks of a day rest on them -/
def DI (σ : sMem) (N P S : Nat) : Prop := (∀ s, s < S → ∃ x : Nat, σ 25 0 s = nI x ∧ x < N) ∧ ∀ p, p < P → ∃ g : Nat, σ 20 0 p = nI g ∧ g ≤ 13
def pfL (σ : sMem) (s : Nat) (m : Int32) (ch : Bool) : Nat → Nat → Option Nat → Option Nat
  | 0, _, b => b
  | f + 1, p, b => pfL σ s m ch f (p + 1) (if canM σ p s m then (match b with
    | none => some p
    | some q => if ch = true ∧ losM σ p s m < losM σ q s m then some p else some q) else b)
def pfM (σ : sMem) (P s : Nat) (m : Int32) (ch : Bool) : Option Nat := pfL σ s m ch P 0 none
def gfL (σ : sMem) (s : Nat) (m : Int32) : Nat → Nat → Option Nat
  | 0, _ => none
  | f + 1, g => if σ 10 g 0 = σ 25 0 s ∧ σ 24 0 g ≤ m ∧ σ 14 (σ 25 0 s).toNatClampNeg (σ 8 s 1).toNatClampNeg < 1000000 then some g else gfL σ s m f (g + 1)
def gfM (σ : sMem) (G s : Nat) (m : Int32) : Option Nat := gfL σ s m G 0
section
variable {l : Launch} {D : va_G} {b0 : Nat} {ty : Nat → ClassId}
theorem c9_isTold (d : Nat) (σ : sMem) (N P S : Nat) (hT : TD σ N P S) (s x : Nat) (hs : s < S) (ex : σ 25 0 s = nI x) (hx : x < N) : sMet l D b0 ty lay d mX9_isTold [aR 0, aI (nI s)] σ (fun r σ' => r = [aI (bI (tldM σ s))] ∧ σ' = σ) := by
  refine sMet_intro lay_nd kX9_isTold xX9_ok (by decide +kernel) rfl ?_
  intro K hK
  obtain ⟨hW, hN2, -, -, ⟨-, hS⟩, -, hst⟩ := hT
  have hN := hW.1
  obtain ⟨-, y, -, -, -, ⟨ey, hy⟩, -⟩ := hst s hs
  have cs := nI_clamp (show s < 2 ^ 31 by omega)
  have cx := nI_clamp (show x < 2 ^ 31 by omega)
  have hC : tldM σ s = (decide (σ 0 0 29 = nI x) || decide ((σ 12 0 x >>> (nI y &&& 31)) &&& 1 = 1)) := by
    unfold tldM
    rw [ex, ey, cx]
  rw [hC] at hK
  iterate 6 refine hK _ _ _ _ ?_
  refine And.intro (vp_in_nI (by omega) (by decide)) ?_
  rw [cs, ex]
  refine hK _ _ _ _ ?_
  refine And.intro (fun h => ?_) (fun h => ?_)
  · iterate 3 refine hK _ _ _ _ ?_
    refine ⟨Or.inr rfl, ?_, rfl⟩
    rw [decide_eq_true h]; rfl
  · have hn : decide (σ 0 0 29 = nI x) = false := decide_eq_false h
    rw [hn] at hK
    iterate 6 refine hK _ _ _ _ ?_
    refine And.intro (vp_in_nI (by omega) (by decide)) ?_
    rw [cs, ex]
    iterate 1 refine hK _ _ _ _ ?_
    refine And.intro (vp_in_nI (by omega) (by decide)) ?_
    iterate 4 refine hK _ _ _ _ ?_
    refine And.intro (vp_in_nI (by omega) (by decide)) ?_
    iterate 2 refine hK _ _ _ _ ?_
    refine And.intro (by first | omega | (rw [nI_clamp (by omega)]; omega)) (And.intro (vp_in_nI (n := 1) (by decide) (by decide)) ?_)
    rw [cs, cx]
    have ey' : σ 8 s (Int32.ofInt 1).toNatClampNeg = nI y := ey
    rw [ey']
    iterate 5 refine hK _ _ _ _ ?_
    refine And.intro (fun h2 => ?_) (fun h2 => ?_)
    · iterate 2 refine hK _ _ _ _ ?_
      refine ⟨Or.inl rfl, ?_, rfl⟩
      rw [decide_eq_false (show ¬ (σ 12 0 x >>> (nI y &&& 31)) &&& 1 = 1 from h2)]; rfl
    · iterate 3 refine hK _ _ _ _ ?_
      refine ⟨Or.inr rfl, ?_, rfl⟩
      rw [decide_eq_true (show (σ 12 0 x >>> (nI y &&& 31)) &&& 1 = 1 from h2)]; rfl
theorem canM_way {σ : sMem} {N P S : Nat} (hT : TD σ N P S) {p s x y : Nat} {m : Int32} (ex : σ 25 0 s = nI x) (hx : x < N) (ey : σ 8 s 1 = nI y) (hy : y < N) (h : canM σ p s m = true) : fN σ x y < 1000000 := by
  have hN := hT.1.1
  unfold canM at h
  rw [Bool.and_eq_true, Bool.and_eq_true] at h
  have h1 := of_decide_eq_true h.1.2
  rw [ex, ey, nI_clamp (by omega), nI_clamp (by omega)] at h1
  exact (hT.1.lt hx hy).mp h1
theorem c9_personFor (d : Nat) (σ : sMem) (N P S : Nat) (hT : TD σ N P S) (hD : DI σ N P S) (s : Nat) (m : Int32) (ch : Bool) (hs : s < S) : sMet l D b0 ty lay (d + 2) mX9_personFor [aR 0, aI (nI s), aI m, aI (bI ch)] σ (fun r σ' => r = [aI (oI (pfM σ P s m ch))] ∧ σ' = σ) := by
  refine sMet_intro lay_nd kX9_personFor xX9_ok (by decide +kernel) rfl ?_
  intro K hK
  have hN := hT.1.1
  obtain ⟨x, ex, hx⟩ := hD.1 s hs
  obtain ⟨-, y, -, -, -, ⟨ey, hy⟩, -⟩ := hT.2.2.2.2.2.2 s hs
  have h31 : σ 3 0 1 = nI P := hT.2.2.2.1.1
  have hP10 : P ≤ 10 := hT.2.2.2.1.2
  generalize hG : pfM σ P s m ch = G at hK
  have key : ∀ (f p : Nat) (b : Option Nat), p + f = P → (∀ q, b = some q → q < P ∧ canM σ q s m = true) → pfL σ s m ch f p b = G → K 6 [some (aR 0), some (aI (nI s)), some (aI m), some (aI (bI ch)), some (aI (oI b)), some (aI (nI p))] [] σ := by
    intro f
    induction f with
    | zero =>
      intro p b hp hb he
      iterate 5 refine hK _ _ _ _ ?_
      refine And.intro (vp_in_nI (n := 1) (by decide) (by decide)) ?_
      refine hK _ _ _ _ ?_
      have e31 : σ 3 0 (Int32.ofInt 1).toNatClampNeg = nI P := h31
      rw [e31]
      have hpP : p = P := by omega
      subst hpP
      refine And.intro (fun _ => ?_) (fun h => absurd (Int32.le_refl _) h)
      iterate 2 refine hK _ _ _ _ ?_
      refine ⟨?_, rfl⟩
      rw [← he]; rfl
    | succ f ih =>
      intro p b hp hb he
      unfold pfL at he
      have hpP : p < P := by omega
      iterate 5 refine hK _ _ _ _ ?_
      refine And.intro (vp_in_nI (n := 1) (by decide) (by decide)) ?_
      refine hK _ _ _ _ ?_
      have e31 : σ 3 0 (Int32.ofInt 1).toNatClampNeg = nI P := h31
      rw [e31]
      refine And.intro (fun h => absurd h (nI_ge hpP (by omega))) (fun _ => ?_)
      obtain ⟨g, hg, hg13⟩ := hD.2 p hpP
      iterate 5 refine hK _ _ _ _ ?_
      refine calD (c9_canLead d σ N P S hT p s g x m hpP hs hg hg13 ex hx) ?_
      rintro r σ' ⟨rfl, hσ⟩
      subst σ'
      have stay : ∀ b' : Option Nat, (∀ q, b' = some q → q < P ∧ canM σ q s m = true) → pfL σ s m ch f (p + 1) b' = G → K 64 [some (aR 0), some (aI (nI s)), some (aI m), some (aI (bI ch)), some (aI (oI b')), some (aI (nI p))] [] σ := by
        intro b' hb' he'
        refine hK _ _ _ _ ?_
        show K _ _ _ _
        rw [nIs]
        refine hK _ _ _ _ ?_
        exact ih (p + 1) b' (by omega) hb' he'
      refine hK _ _ _ _ ?_
      refine And.intro (fun h => ?_) (fun h => ?_)
      · have hc := bI_f h
        rw [hc] at he
        exact stay b hb he
      · have hc := bI_t h
        rw [hc] at he
        have take : pfL σ s m ch f (p + 1) (some p) = G → K 60 [some (aR 0), some (aI (nI s)), some (aI m), some (aI (bI ch)), some (aI (oI b)), some (aI (nI p))] [] σ := by
          intro he'
          iterate 2 refine hK _ _ _ _ ?_
          exact stay (some p) (fun q hq => by cases hq; exact ⟨hpP, hc⟩) he'
        cases b with
        | none =>
          iterate 3 refine hK _ _ _ _ ?_
          refine And.intro (fun _ => take he) (fun h2 => absurd rfl h2)
        | some q =>
          obtain ⟨hq, hqc⟩ := hb q rfl
          iterate 3 refine hK _ _ _ _ ?_
          refine And.intro (fun h2 => absurd (show nI q = -1 from h2) (fun e => by
            have h3 := nI_pos (n := q) (by omega)
            rw [e] at h3
            exact h3 (by decide))) (fun _ => ?_)
          iterate 2 refine hK _ _ _ _ ?_
          refine And.intro (fun h2 => ?_) (fun h2 => ?_)
          · have hch := bI_f h2
            refine stay (some q) hb ?_
            rw [← he]
            simp [hch]
          · have hch := bI_t h2
            iterate 5 refine hK _ _ _ _ ?_
            refine calD (c9_loses d σ N P S hT p s x y m hpP hs ex hx ey hy (canM_way hT ex hx ey hy hc)) ?_
            rintro r σ' ⟨rfl, hσ⟩
            subst σ'
            iterate 5 refine hK _ _ _ _ ?_
            refine calD (c9_loses d σ N P S hT q s x y m hq hs ex hx ey hy (canM_way hT ex hx ey hy hqc)) ?_
            rintro r σ' ⟨rfl, hσ⟩
            subst σ'
            refine hK _ _ _ _ ?_
            refine And.intro (fun h3 => ?_) (fun h3 => ?_)
            · refine take ?_
              rw [← he]
              simp [hch, h3]
            · refine hK _ _ _ _ ?_
              refine stay (some q) hb ?_
              rw [← he]
              simp [h3]
  iterate 4 refine hK _ _ _ _ ?_
  exact key P 0 none (by omega) (fun q hq => by cases hq) hG
theorem c9_guideFor (d : Nat) (σ : sMem) (N P S G : Nat) (hT : TD σ N P S) (s x : Nat) (m : Int32) (hs : s < S) (ex : σ 25 0 s = nI x) (hx : x < N) (eG : σ 0 0 26 = nI G) (hG6 : G ≤ 6) : sMet l D b0 ty lay (d + 1) mX9_guideFor [aR 0, aI (nI s), aI m] σ (fun r σ' => r = [aI (oI (gfM σ G s m))] ∧ σ' = σ) := by
  refine sMet_intro lay_nd kX9_guideFor xX9_ok (by decide +kernel) rfl ?_
  intro K hK
  obtain ⟨hW, hN2, -, -, ⟨-, hS⟩, -, hst⟩ := hT
  have hN := hW.1
  obtain ⟨-, y, -, -, -, ⟨ey, hy⟩, -⟩ := hst s hs
  have cs := nI_clamp (show s < 2 ^ 31 by omega)
  have cx := nI_clamp (show x < 2 ^ 31 by omega)
  have cy := nI_clamp (show y < 2 ^ 31 by omega)
  generalize hR : gfM σ G s m = R at hK
  have key : ∀ (f g : Nat), g + f = G → gfL σ s m f g = R → K 2 [some (aR 0), some (aI (nI s)), some (aI m), some (aI (nI g))] [] σ := by
    intro f
    induction f with
    | zero =>
      intro g hg he
      iterate 4 refine hK _ _ _ _ ?_
      rw [eG]
      have hgG : g = G := by omega
      subst hgG
      refine And.intro (fun _ => ?_) (fun h => absurd (Int32.le_refl _) h)
      iterate 2 refine hK _ _ _ _ ?_
      refine ⟨?_, rfl⟩
      rw [← he]; rfl
    | succ f ih =>
      intro g hg he
      unfold gfL at he
      rw [ex, ey, cx, cy] at he
      have cg := nI_clamp (show g < 2 ^ 31 by omega)
      iterate 4 refine hK _ _ _ _ ?_
      rw [eG]
      refine And.intro (fun h => absurd h (nI_ge (by omega) (by omega))) (fun _ => ?_)
      have next : ¬ (σ 10 g 0 = nI x ∧ σ 24 0 g ≤ m ∧ σ 14 x y < 1000000) → K 60 [some (aR 0), some (aI (nI s)), some (aI m), some (aI (nI g))] [] σ := by
        intro hq
        rw [if_neg hq] at he
        refine hK _ _ _ _ ?_
        show K _ _ _ _
        rw [nIs]
        refine hK _ _ _ _ ?_
        exact ih (g + 1) (by omega) he
      iterate 4 refine hK _ _ _ _ ?_
      refine And.intro (vp_in_nI (by omega) (by decide)) ?_
      iterate 2 refine hK _ _ _ _ ?_
      refine And.intro (by first | omega | (rw [nI_clamp (by omega)]; omega)) (And.intro (vp_in_nI (n := 0) (by decide) (by decide)) ?_)
      iterate 4 refine hK _ _ _ _ ?_
      refine And.intro (vp_in_nI (by omega) (by decide)) ?_
      rw [cg, cs, ex]
      refine hK _ _ _ _ ?_
      refine And.intro (fun h => next (fun q => h q.1)) (fun h1 => ?_)
      iterate 4 refine hK _ _ _ _ ?_
      refine And.intro (vp_in_nI (by omega) (by decide)) ?_
      rw [cg]
      iterate 2 refine hK _ _ _ _ ?_
      refine And.intro (fun h => next (fun q => Int32.not_le.mpr h q.2.1)) (fun h2 => ?_)
      iterate 5 refine hK _ _ _ _ ?_
      refine And.intro (vp_in_nI (by omega) (by decide)) ?_
      rw [cs, ex]
      iterate 4 refine hK _ _ _ _ ?_
      refine And.intro (vp_in_nI (by omega) (by decide)) ?_
      iterate 2 refine hK _ _ _ _ ?_
      refine And.intro (by first | omega | (rw [nI_clamp (by omega)]; omega)) (And.intro (vp_in_nI (n := 1) (by decide) (by decide)) ?_)
      rw [cs]
      have ey' : σ 8 s (Int32.ofInt 1).toNatClampNeg = nI y := ey
      rw [ey']
      refine hK _ _ _ _ ?_
      refine calD (c9_isWay _ _ x y (by omega) (by omega)) ?_
      rintro r σ' ⟨rfl, hσ⟩
      subst σ'
      refine hK _ _ _ _ ?_
      refine And.intro (fun h => next (fun q => ite_eq h q.2.2)) (fun h3 => ?_)
      rw [if_pos ⟨h1, Int32.not_lt.mp h2, ite_ne h3⟩] at he
      iterate 2 refine hK _ _ _ _ ?_
      refine ⟨?_, rfl⟩
      rw [← he]; rfl
  iterate 2 refine hK _ _ _ _ ?_
  exact key G 0 (by omega) hR
end
