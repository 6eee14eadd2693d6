/-! THE REFERENCE, asking: the whole -/
def NX (σ : sMem) (N : Nat) : Prop := ∀ a b, a < N → b < N → σ 15 a b = -1 ∨ ∃ c : Nat, σ 15 a b = nI c ∧ c < N
def TF (σ : sMem) (P S : Nat) : Prop := ∀ s, s < S → σ 16 0 s = -1 ∨ ∃ q : Nat, σ 16 0 s = nI q ∧ q < P
def LG (σ : sMem) (S B : Nat) : Prop := ∀ s, s < S → ∃ k : Nat, σ 28 0 s = nI k ∧ k ≤ B
/-- what holds at every minute of a day -/
def DJ (σ : sMem) (N P S G B : Nat) : Prop := TD σ N P S ∧ TR σ N ∧ DI σ N P S ∧ NX σ N ∧ TF σ P S ∧ (σ 0 0 26 = nI G ∧ G ≤ 6) ∧ LG σ S B
theorem nI_ne {q : Nat} (h : q < 2 ^ 31) : ¬ nI q = -1 := fun e => by
  have h3 := nI_pos (n := q) h
  rw [e] at h3
  exact h3 (by decide)
theorem oI_ne {q : Nat} (h : q < 2 ^ 31) : ¬ oI (some q) = -1 := nI_ne h
theorem pfL_some {σ : sMem} {s : Nat} {m : Int32} {ch : Bool} : ∀ (f p : Nat) (b : Option Nat) (P q : Nat), p + f = P → (∀ r, b = some r → r < P ∧ canM σ r s m = true) → pfL σ s m ch f p b = some q → q < P ∧ canM σ q s m = true
  | 0, p, b, P, q, hp, hb, h => hb q h
  | f + 1, p, b, P, q, hp, hb, h => by
    unfold pfL at h
    refine pfL_some f (p + 1) _ P q (by omega) ?_ h
    intro r hr
    split at hr
    · rename_i hc
      split at hr
      · cases hr; exact ⟨by omega, hc⟩
      · split at hr
        · cases hr; exact ⟨by omega, hc⟩
        · cases hr; exact hb _ rfl
    · exact hb r hr
theorem pfM_some {σ : sMem} {P s q : Nat} {m : Int32} {ch : Bool} (h : pfM σ P s m ch = some q) : q < P ∧ canM σ q s m = true :=
  pfL_some P 0 none P q (by omega) (fun r hr => by cases hr) h
theorem gfL_some {σ : sMem} {s : Nat} {m : Int32} : ∀ (f g q : Nat), gfL σ s m f g = some q → g ≤ q ∧ q < g + f ∧ σ 14 (σ 25 0 s).toNatClampNeg (σ 8 s 1).toNatClampNeg < 1000000
  | 0, g, q, h => by cases h
  | f + 1, g, q, h => by
    unfold gfL at h
    split at h
    · rename_i hc
      cases h
      exact ⟨Nat.le_refl _, by omega, hc.2.2⟩
    · obtain ⟨h1, h2, h3⟩ := gfL_some f (g + 1) q h
      exact ⟨by omega, by omega, h3⟩
theorem canM_ways {σ : sMem} {N P S : Nat} (hT : TD σ N P S) {p s x y : Nat} {m : Int32} (ex : σ 25 0 s = nI x) (hx : x < N) (ey : σ 8 s 1 = nI y) (hy : y < N) (h : canM σ p s m = true) : ∀ b : Nat, σ 6 p 1 = nI b → b < N → fN σ y b < 1000000 := by
  intro b eb hb
  have hN := hT.1.1
  unfold canM at h
  rw [Bool.and_eq_true, Bool.and_eq_true] at h
  have h1 := of_decide_eq_true h.2
  rw [eb, ey, nI_clamp (by omega), nI_clamp (by omega)] at h1
  exact (hT.1.lt hy hb).mp h1
theorem asP_some {σ : sMem} {P S s q : Nat} {kd m : Int32} (hF : TF σ P S) (hP : P ≤ 10) (hs : s < S) (h : asP σ P s kd m = some q) : q < P ∧ canM σ q s m = true := by
  unfold asP at h
  split at h
  · split at h
    · cases h
    · rename_i h1
      split at h
      · rename_i hc
        cases h
        rcases hF s hs with e | ⟨r, e, hr⟩
        · exact absurd e h1
        · rw [e, nI_clamp (by omega)] at hc ⊢
          exact ⟨hr, hc⟩
      · cases h
  · exact pfM_some h
section
variable {l : Launch} {D : va_G} {b0 : Nat} {ty : Nat → ClassId}
set_option maxHeartbeats 4000000 in
theorem c9_asks (d : Nat) (σ : sMem) (N P S G B : Nat) (hJ : DJ σ N P S G B) (s : Nat) (kd m : Int32) (hs : s < S) (hB : B < 2 ^ 30) : sMet l D b0 ty lay (d + 3) mX9_asks [aR 0, aI (kd), aI (nI s), aI (m)] σ (fun r σ' => r = [] ∧ σ' = asM σ P G s kd m) := by
  refine sMet_intro lay_nd kX9_asks xX9_ok (by decide +kernel) rfl ?_
  intro K hK
  obtain ⟨hT, hR, hD, hX, hF, ⟨eG, hG6⟩, hL⟩ := hJ
  have hT0 := hT
  obtain ⟨hW, hN2, -, ⟨-, hP⟩, ⟨-, hS⟩, hpe, hst⟩ := hT0
  have hN := hW.1
  obtain ⟨x, ex, hx⟩ := hD.1 s hs
  obtain ⟨-, y, -, -, -, ⟨ey, hy⟩, -⟩ := hst s hs
  obtain ⟨k, ek, hk⟩ := hL s hs
  have cx := nI_clamp (show x < 2 ^ 31 by omega)
  have cy := nI_clamp (show y < 2 ^ 31 by omega)
  generalize hG : asM σ P G s kd m = Z at hK
  unfold asM at hG
  rw [ex, ey, cx, cy] at hG
  iterate 4 refine hK _ _ _ _ ?_
  refine And.intro (vp_in_nI (n := s) (by omega) (by decide)) ?_
  rw [nI_clamp (show s < 2 ^ 31 by omega)]
  rw [show σ 25 0 s = nI x from ex]
  iterate 5 refine hK _ _ _ _ ?_
  refine And.intro (vp_in_nI (n := s) (by omega) (by decide)) ?_
  rw [nI_clamp (show s < 2 ^ 31 by omega)]
  iterate 2 refine hK _ _ _ _ ?_
  refine And.intro (by first | omega | (rw [nI_clamp (by omega)]; omega)) (And.intro (vp_in_nI (n := 1) (by decide) (by decide)) ?_)
  rw [show (Int32.ofInt 1).toNatClampNeg = 1 from rfl]
  rw [show σ 8 s 1 = nI y from ey]
  iterate 4 refine hK _ _ _ _ ?_
  have l57 : ¬ (tldM σ s = true ∧ σ 14 x y < 1000000) → K 57 [some (aR 0), some (aI (kd)), some (aI (nI s)), some (aI (m)), some (aI (nI x)), some (aI (nI y)), none, none, none] [] σ := by
    intro hnt
    rw [if_neg hnt] at hG
    iterate 4 refine hK _ _ _ _ ?_
    refine And.intro (vp_in_nI (n := x) (by omega) (by decide)) ?_
    rw [nI_clamp (show x < 2 ^ 31 by omega)]
    iterate 2 refine hK _ _ _ _ ?_
    refine And.intro (by first | omega | (rw [nI_clamp (by omega)]; omega)) (And.intro (vp_in_nI (n := y) (by omega) (by decide)) ?_)
    rw [nI_clamp (show y < 2 ^ 31 by omega)]
    iterate 4 refine hK _ _ _ _ ?_
    have l117 : ¬ (kd = 3 ∧ σ 15 x y ≠ -1 ∧ (σ 8 s 4 >>> (σ 15 x y &&& 31)) &&& 1 = 1) → K 117 [some (aR 0), some (aI (kd)), some (aI (nI s)), some (aI (m)), some (aI (nI x)), some (aI (nI y)), some (aI (σ 15 x y)), none, none] [] σ := by
      intro hn3
      rw [if_neg hn3] at hG
      have gfS : ∀ q, asG σ G s kd m = some q → q < G ∧ σ 14 (σ 25 0 s).toNatClampNeg (σ 8 s 1).toNatClampNeg < 1000000 := by
        intro q hq
        unfold asG at hq
        split at hq
        · cases hq
        · obtain ⟨-, h2, h3⟩ := gfL_some G 0 q hq
          exact ⟨by omega, h3⟩
      have l193 : ∀ (p g : Option Nat), asP σ P s kd m = p → asG σ G s kd m = g → K 193 [some (aR 0), some (aI (kd)), some (aI (nI s)), some (aI (m)), some (aI (nI x)), some (aI (nI y)), some (aI (σ 15 x y)), some (aI (oI p)), none] [aI (oI g)] σ := by
        intro p g hp hg
        have l223 : ∀ (g8 : Int32), (p = none → sUp σ 0 0 45 (σ 0 0 45 + 1) = Z) → (∀ q, p = some q → bpM σ q s m = Z) → K 223 [some (aR 0), some (aI (kd)), some (aI (nI s)), some (aI (m)), some (aI (nI x)), some (aI (nI y)), some (aI (σ 15 x y)), some (aI (oI p)), some (aI (g8))] [] σ := by
          intro g8 hz0 hz1
          iterate 3 refine hK _ _ _ _ ?_
          refine And.intro (fun h => ?_) (fun h => ?_)
          · have hp0 : p = none := by
              cases p with
              | none => rfl
              | some q => exact absurd h (oI_ne (by have := (asP_some hF hP hs hp).1; omega))
            iterate 3 refine hK _ _ _ _ ?_
            iterate 4 refine hK _ _ _ _ ?_
            exact ⟨rfl, hz0 hp0⟩
          · obtain ⟨q, hq⟩ : ∃ q, p = some q := by
              cases p with
              | none => exact absurd rfl h
              | some q => exact ⟨q, rfl⟩
            subst hq
            obtain ⟨hqP, hqc⟩ := asP_some hF hP hs hp
            show K _ [_, _, _, _, _, _, _, some (aI (nI q)), _] _ _
            iterate 5 refine hK _ _ _ _ ?_
            refine calD (c9_byPerson (d + 1) σ N P S hT hR q s x y k m hqP hs ex hx ey hy (canM_way hT ex hx ey hy hqc) (canM_ways hT ex hx ey hy hqc) ek (by omega)) ?_
            rintro r σ' ⟨rfl, rfl⟩
            iterate 2 refine hK _ _ _ _ ?_
            exact ⟨rfl, hz1 q rfl⟩
        iterate 4 refine hK _ _ _ _ ?_
        refine And.intro (fun h => ?_) (fun h => ?_)
        · have hg0 : g = none := by
            cases g with
            | none => rfl
            | some q => exact absurd h (oI_ne (by have := (gfS q hg).1; omega))
          subst hg0
          rw [hp, hg] at hG
          exact l223 _ (fun e => by rw [e] at hG; exact hG) (fun q e => by rw [e] at hG; exact hG)
        · obtain ⟨q, hq⟩ : ∃ q, g = some q := by
            cases g with
            | none => exact absurd rfl h
            | some q => exact ⟨q, rfl⟩
          subst hq
          obtain ⟨hqG, hqf⟩ := gfS q hg
          rw [hp, hg] at hG
          show K _ [_, _, _, _, _, _, _, _, some (aI (nI q))] _ _
          have byg : bgM σ q s m = Z → K 212 [some (aR 0), some (aI (kd)), some (aI (nI s)), some (aI (m)), some (aI (nI x)), some (aI (nI y)), some (aI (σ 15 x y)), some (aI (oI p)), some (aI (nI q))] [] σ := by
            intro hz
            iterate 5 refine hK _ _ _ _ ?_
            refine calD (c9_byGuide (d + 1) σ N P S hT q s x y k m (by omega) hs ex hx ey hy ek (by omega)) ?_
            rintro r σ' ⟨rfl, rfl⟩
            iterate 2 refine hK _ _ _ _ ?_
            exact ⟨rfl, hz⟩
          iterate 3 refine hK _ _ _ _ ?_
          refine And.intro (fun h2 => ?_) (fun h2 => ?_)
          · refine byg ?_
            have h2 : kd = 2 := h2
            rw [← hG]
            cases p with
            | none => rfl
            | some p => exact (if_pos h2).symm
          · iterate 3 refine hK _ _ _ _ ?_
            refine And.intro (fun h3 => ?_) (fun h3 => ?_)
            · obtain ⟨r, hr⟩ : ∃ r, p = some r := by
                cases p with
                | none => exact absurd rfl h3
                | some r => exact ⟨r, rfl⟩
              subst hr
              refine l223 _ (fun e => by cases e) (fun q' e => ?_)
              cases e
              rw [← hG]
              exact (if_neg h2).symm
            · have hp0 : p = none := by
                cases p with
                | none => rfl
                | some r => exact absurd h3 (oI_ne (by have := (asP_some hF hP hs hp).1; omega))
              subst hp0
              exact byg hG
      have l176 : ∀ (p : Option Nat), asP σ P s kd m = p → K 176 [some (aR 0), some (aI (kd)), some (aI (nI s)), some (aI (m)), some (aI (nI x)), some (aI (nI y)), some (aI (σ 15 x y)), none, none] [aI (oI p)] σ := by
        intro p hp
        iterate 4 refine hK _ _ _ _ ?_
        refine And.intro (fun h => ?_) (fun h => ?_)
        · iterate 4 refine hK _ _ _ _ ?_
          refine calD (c9_guideFor (d + 1) σ N P S G hT s x m hs ex hx eG hG6) ?_
          rintro r σ' ⟨rfl, hσ⟩
          subst σ'
          exact l193 p _ hp (by unfold asG; rw [if_neg (show ¬ kd = 4 from h)])
        · iterate 2 refine hK _ _ _ _ ?_
          exact l193 p none hp (by unfold asG; rw [if_pos (show kd = 4 from h)])
      iterate 3 refine hK _ _ _ _ ?_
      refine And.intro (fun h => ?_) (fun h => ?_)
      · have hk4 : ¬ kd = 4 := h
        iterate 6 refine hK _ _ _ _ ?_
        refine And.intro (fun h1 => ?_) (fun h1 => ?_)
        · iterate 2 refine hK _ _ _ _ ?_
          refine calD (c9_personFor d σ N P S hT hD s m false hs) ?_
          rintro r σ' ⟨rfl, hσ⟩
          subst σ'
          refine l176 _ ?_
          unfold asP
          rw [if_neg hk4, decide_eq_false (show ¬ kd = 1 from h1)]
        · iterate 3 refine hK _ _ _ _ ?_
          refine calD (c9_personFor d σ N P S hT hD s m true hs) ?_
          rintro r σ' ⟨rfl, hσ⟩
          subst σ'
          refine l176 _ ?_
          unfold asP
          rw [if_neg hk4, decide_eq_true (show kd = 1 from h1)]
      · have hk4 : kd = 4 := h
        iterate 4 refine hK _ _ _ _ ?_
        refine And.intro (vp_in_nI (n := s) (by omega) (by decide)) ?_
        rw [nI_clamp (show s < 2 ^ 31 by omega)]
        iterate 2 refine hK _ _ _ _ ?_
        refine And.intro (fun h1 => ?_) (fun h1 => ?_)
        · iterate 2 refine hK _ _ _ _ ?_
          refine l176 none ?_
          unfold asP
          rw [if_pos hk4, if_pos (show σ 16 0 s = -1 from h1)]
        · have h1' : ¬ σ 16 0 s = -1 := h1
          obtain ⟨q, eq, hq⟩ := (hF s hs).resolve_left h1'
          obtain ⟨go, ego, hgo⟩ := hD.2 q hq
          iterate 5 refine hK _ _ _ _ ?_
          refine And.intro (vp_in_nI (n := s) (by omega) (by decide)) ?_
          rw [nI_clamp (show s < 2 ^ 31 by omega)]
          rw [show σ 16 0 s = nI q from eq]
          iterate 3 refine hK _ _ _ _ ?_
          refine calD (c9_canLead (d + 1) σ N P S hT q s go x m hq hs ego hgo ex hx) ?_
          rintro r σ' ⟨rfl, hσ⟩
          subst σ'
          refine hK _ _ _ _ ?_
          refine And.intro (fun h2 => ?_) (fun h2 => ?_)
          · iterate 2 refine hK _ _ _ _ ?_
            refine l176 none ?_
            unfold asP
            rw [if_pos hk4, if_neg h1', eq, nI_clamp (show q < 2 ^ 31 by omega), bI_f h2]
            rfl
          · iterate 4 refine hK _ _ _ _ ?_
            refine And.intro (vp_in_nI (n := s) (by omega) (by decide)) ?_
            rw [nI_clamp (show s < 2 ^ 31 by omega)]
            rw [show σ 16 0 s = nI q from eq]
            refine hK _ _ _ _ ?_
            refine l176 (some q) ?_
            unfold asP
            rw [if_pos hk4, if_neg h1', eq, nI_clamp (show q < 2 ^ 31 by omega), bI_t h2]
            rfl
    refine And.intro (fun h => l117 (fun t => h t.1)) (fun h => ?_)
    iterate 3 refine hK _ _ _ _ ?_
    refine And.intro (fun h2 => l117 (fun t => t.2.1 h2)) (fun h2 => ?_)
    have h2' : ¬ σ 15 x y = -1 := h2
    obtain ⟨n, en, hn⟩ := (hX x y hx hy).resolve_left h2'
    iterate 4 refine hK _ _ _ _ ?_
    refine And.intro (vp_in_nI (n := s) (by omega) (by decide)) ?_
    rw [nI_clamp (show s < 2 ^ 31 by omega)]
    iterate 2 refine hK _ _ _ _ ?_
    refine And.intro (by first | omega | (rw [nI_clamp (by omega)]; omega)) (And.intro (vp_in_nI (n := 4) (by decide) (by decide)) ?_)
    rw [show (Int32.ofInt 4).toNatClampNeg = 4 from rfl]
    iterate 6 refine hK _ _ _ _ ?_
    refine And.intro (fun h3 => l117 (fun t => h3 t.2.2)) (fun h3 => ?_)
    rw [if_pos ⟨h, h2', h3⟩, en, nI_clamp (show n < 2 ^ 31 by omega)] at hG
    rw [en]
    iterate 8 refine hK _ _ _ _ ?_
    refine And.intro (vp_in_nI (n := x) (by omega) (by decide)) ?_
    rw [nI_clamp (show x < 2 ^ 31 by omega)]
    iterate 2 refine hK _ _ _ _ ?_
    refine And.intro (by first | omega | (rw [nI_clamp (by omega)]; omega)) (And.intro (vp_in_nI (n := n) (by omega) (by decide)) ?_)
    rw [nI_clamp (show n < 2 ^ 31 by omega)]
    iterate 2 refine hK _ _ _ _ ?_
    refine calD (c9_goesTo (d + 2) _ s (nI n) _ (by omega)) ?_
    rintro r σ' ⟨rfl, rfl⟩
    refine hK _ _ _ _ ?_
    exact ⟨rfl, hG⟩
  refine calD (c9_isTold (d + 2) σ N P S hT s x hs ex hx) ?_
  rintro r σ' ⟨rfl, hσ⟩
  subst σ'
  refine hK _ _ _ _ ?_
  refine And.intro (fun h => l57 (fun t => by rw [bI_f h] at t; exact absurd t.1 (by decide))) (fun h => ?_)
  iterate 4 refine hK _ _ _ _ ?_
  refine calD (c9_isWay _ _ x y (by omega) (by omega)) ?_
  rintro r σ' ⟨rfl, hσ⟩
  subst σ'
  refine hK _ _ _ _ ?_
  refine And.intro (fun h2 => l57 (fun t => ite_eq h2 t.2)) (fun h2 => ?_)
  rw [if_pos ⟨bI_t h, ite_ne h2⟩] at hG
  iterate 8 refine hK _ _ _ _ ?_
  refine And.intro (vp_in_nI (n := x) (by omega) (by decide)) ?_
  rw [nI_clamp (show x < 2 ^ 31 by omega)]
  iterate 2 refine hK _ _ _ _ ?_
  refine And.intro (by first | omega | (rw [nI_clamp (by omega)]; omega)) (And.intro (vp_in_nI (n := y) (by omega) (by decide)) ?_)
  rw [nI_clamp (show y < 2 ^ 31 by omega)]
  iterate 2 refine hK _ _ _ _ ?_
  refine calD (c9_goesTo (d + 2) _ s (nI y) _ (by omega)) ?_
  rintro r σ' ⟨rfl, rfl⟩
  refine hK _ _ _ _ ?_
  exact ⟨rfl, hG⟩
end
