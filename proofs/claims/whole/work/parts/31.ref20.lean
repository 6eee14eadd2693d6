/-! THE REFERENCE: other towns -/
def sgM (σ : sMem) (p : Int32) (P S : Nat) : sMem := sUp (goM (sUp σ 0 0 29 p) 0 P S) 0 0 29 (-1)
def sgC (σ : sMem) (p : Int32) (P S : Nat) : Int32 := csM (goM (sUp σ 0 0 29 p) 0 P S) P
def fcC (σ : sMem) (P S : Nat) : Int32 := csM (goM σ 0 P S) P
theorem sgM_KP {G : Nat} {σ : sMem} (h : σ 0 0 29 = -1) (p : Int32) (P S : Nat) : KP G σ (sgM σ p P S) := by
  have hk := goM_KP G (sUp σ 0 0 29 p) 0 P S
  unfold sgM
  refine ⟨fun a h1 h2 h3 => ?_, fun g j hg => ?_, fun k h1 h2 h3 h4 => ?_⟩
  · rw [sUp_off h1, hk.1 a h1 h2 h3, sUp_off h1]
  · rw [sUp_off (by decide), hk.2.1 g j hg, sUp_off (by decide)]
  · by_cases e : k = 29
    · subst e; rw [sUp_at]; exact h.symm
    · rw [sUp_k e, hk.2.2 k h1 h2 h3 h4, sUp_k e]
/-- the first least of F from p on, b the best so far -/
def whL (F : Nat → Int32) : Nat → Nat → Nat → Nat
  | 0, _, b => b
  | f + 1, p, b => whL F f (p + 1) (if F p < F b then p else b)
theorem whL_lt {F : Nat → Int32} : ∀ (f p b N : Nat), p + f ≤ N → b < N → whL F f p b < N
  | 0, _, _, _, _, h => h
  | f + 1, p, b, N, h1, h2 => by
    unfold whL
    refine whL_lt f (p + 1) _ N (by omega) ?_
    split <;> omega
def agM (t : sMem) (p fee : Int32) : sMem := if p = -1 then t else sUp (sUp (sUp t 10 (t 0 0 26).toNatClampNeg 0 p) 10 (t 0 0 26).toNatClampNeg 1 fee) 0 0 26 (t 0 0 26 + 1)
def gcS (σ : sMem) (a b fee : Int32) : sMem := agM (agM (sUp (sUp σ 0 0 26 (σ 3 0 3)) 0 0 27 (σ 3 0 4)) a fee) b fee
def gcM (σ : sMem) (a b fee : Int32) (P S : Nat) : sMem := daM (gcS σ a b fee) 0 P (gcS σ a b fee 0 0 26).toNatClampNeg S
def gcC (σ : sMem) (a b fee : Int32) (P S : Nat) : Int32 := csM (gcM σ a b fee P S) P
theorem agM_s {t : sMem} {N P S G g : Nat} (p fee : Int32) (hJ : MJ t N P S G) (eg : t 0 0 26 = nI g) (hg : G ≤ g) (h5 : g ≤ 5) : KP G t (agM t p fee) ∧ MJ (agM t p fee) N P S G ∧ ∃ g', agM t p fee 0 0 26 = nI g' ∧ g ≤ g' ∧ g' ≤ g + 1 := by
  have hG := hJ.2.2.2.2.2
  unfold agM
  split
  · exact ⟨KP.rfl', hJ, g, eg, by omega, by omega⟩
  · rw [eg, nI_clamp (show g < 2 ^ 31 by omega)]
    have hk : KP G t (sUp (sUp (sUp t 10 g 0 p) 10 g 1 fee) 0 0 26 (nI g + 1)) := by
      refine ⟨fun a h1 h2 h3 => ?_, fun i j hi => ?_, fun k h1 h2 h3 h4 => ?_⟩
      · rw [sUp_off h1, sUp_off h2, sUp_off h2]
      · rw [sUp_off (by decide), sUp_rowne (by omega), sUp_rowne (by omega)]
      · rw [sUp_k h1, sUp_off (by decide), sUp_off (by decide)]
    exact ⟨hk, hk.MJ hJ, g + 1, by rw [sUp_at]; exact nIs g, by omega, by omega⟩
theorem gcS_s {σ : sMem} {N P S G : Nat} (a b fee : Int32) (hJ : MJ σ N P S G) : KP G σ (gcS σ a b fee) ∧ MJ (gcS σ a b fee) N P S G ∧ ∃ g', gcS σ a b fee 0 0 26 = nI g' ∧ g' ≤ 6 := by
  have hG := hJ.2.2.2.2.2
  have e3 := hJ.2.2.2.2.1
  unfold gcS
  rw [e3]
  have hk : KP G σ (sUp (sUp σ 0 0 26 (nI G)) 0 0 27 (σ 3 0 4)) := (KP.z0 σ 26 _ (by omega)).trans (KP.z0 _ 27 _ (by omega))
  have e26 : (sUp (sUp σ 0 0 26 (nI G)) 0 0 27 (σ 3 0 4)) 0 0 26 = nI G := by rw [sUp_k (by decide), sUp_at]
  generalize sUp (sUp σ 0 0 26 (nI G)) 0 0 27 (σ 3 0 4) = t at hk e26 ⊢
  obtain ⟨k1, j1, g1, e1, h1, h1'⟩ := agM_s a fee (hk.MJ hJ) e26 (Nat.le_refl _) (by omega)
  obtain ⟨k2, j2, g2, e2, h2, h2'⟩ := agM_s b fee j1 e1 h1 (by omega)
  exact ⟨(hk.trans k1).trans k2, j2, g2, e2, by omega⟩
theorem gcM_KP {σ : sMem} {N P S G : Nat} (a b fee : Int32) (hJ : MJ σ N P S G) : KP G σ (gcM σ a b fee P S) := by
  unfold gcM
  exact (gcS_s a b fee hJ).1.trans (daM_KP _ _ _ _ _ _)
def coM (σ : sMem) (l : Int32) (P S : Nat) : sMem := daM (sUp (sUp σ 0 0 26 (σ 3 0 3)) 0 0 27 l) 0 P (σ 3 0 3).toNatClampNeg S
def coC (σ : sMem) (l : Int32) (P S : Nat) : Int32 := csM (coM σ l P S) P
theorem coM_KP (G : Nat) (σ : sMem) (l : Int32) (P S : Nat) : KP G σ (coM σ l P S) := by
  unfold coM
  exact ((KP.z0 σ 26 _ (by omega)).trans (KP.z0 _ 27 _ (by omega))).trans (daM_KP _ _ _ _ _ _)
/-- the least of two guides: b from there on, best and least so far -/
def mnB (F : Nat → Nat → Int32) (a : Nat) : Nat → Nat → Int32 × Int32 → Int32 × Int32
  | 0, _, q => q
  | f + 1, b, q => mnB F a f (b + 1) (if F a b < q.2 then (2, F a b) else q)
def mnA (F : Nat → Nat → Int32) (N : Nat) : Nat → Nat → Int32 × Int32 → Int32 × Int32
  | 0, _, q => q
  | f + 1, a, q => mnA F N f (a + 1) (mnB F a (N - a) a q)
section
variable {l : Launch} {D : va_G} {b0 : Nat} {ty : Nat → ClassId}
theorem c9_firstCost (d : Nat) (σ : sMem) (N P S G : Nat) (hJ : MJ σ N P S G) : sMet l D b0 ty lay (d + 6) mX9_firstCost [aR 0] σ (fun r σ' => r = [aI (fcC σ P S)] ∧ σ' = goM σ 0 P S) := by
  refine sMet_intro lay_nd kX9_firstCost xX9_ok (by decide +kernel) rfl ?_
  intro K hK
  have hP := hJ.1.2.2.2.1.2
  have hS := hJ.1.2.2.2.2.1.2
  have hN := hJ.1.1.1
  have hG := hJ.2.2.2.2.2
  iterate 3 refine hK _ _ _ _ ?_
  refine calD (c9_goes d σ N P S G 0 hJ) ?_
  rintro r σ' ⟨rfl, rfl⟩
  have hJt := (goM_KP G σ 0 P S).MJ hJ
  unfold fcC at hK
  generalize goM σ 0 P S = t at hJt hK ⊢
  iterate 2 refine hK _ _ _ _ ?_
  refine calD (c9_costNow (d + 4) t P hJt.1.2.2.2.1.1 hP) ?_
  rintro r σ' ⟨rfl, hσ⟩
  subst σ'
  refine hK _ _ _ _ ?_
  exact ⟨rfl, rfl⟩
theorem c9_signCost (d : Nat) (σ : sMem) (N P S G : Nat) (hJ : MJ σ N P S G) (x : Int32) : sMet l D b0 ty lay (d + 7) mX9_signCost [aR 0, aI (x)] σ (fun r σ' => r = [aI (sgC σ x P S)] ∧ σ' = sgM σ x P S) := by
  refine sMet_intro lay_nd kX9_signCost xX9_ok (by decide +kernel) rfl ?_
  intro K hK
  iterate 5 refine hK _ _ _ _ ?_
  refine calD (c9_firstCost d _ N P S G (hJ.z0 29 x)) ?_
  rintro r σ' ⟨rfl, rfl⟩
  iterate 6 refine hK _ _ _ _ ?_
  exact ⟨rfl, rfl⟩
theorem c9_saves (d : Nat) (σ : sMem) (N P S G : Nat) (hJ : MJ σ N P S G) (x : Int32) : sMet l D b0 ty lay (d + 8) mX9_saves [aR 0, aI (x)] σ (fun r σ' => ((0 ≤ x ∧ x ≤ nI N - 1) → r = [aI (fcC (sUp σ 0 0 0 0) P S - sgC (goM (sUp σ 0 0 0 0) 0 P S) x P S)] ∧ σ' = sgM (goM (sUp σ 0 0 0 0) 0 P S) x P S) ∧ (¬ (0 ≤ x ∧ x ≤ nI N - 1) → r = [aI 0] ∧ σ' = sUp σ 0 0 0 1)) := by
  refine sMet_intro lay_nd kX9_saves xX9_ok (by decide +kernel) rfl ?_
  intro K hK
  have hN := hJ.1.1.1
  have hN2 := hJ.1.2.1
  have hP := hJ.1.2.2.2.1.2
  have hS := hJ.1.2.2.2.2.1.2
  have hG4 := hJ.2.2.2.2.2
  iterate 3 refine hK _ _ _ _ ?_
  show K _ _ _ (sUp σ 0 0 0 0)
  have hJz := hJ.z0 0 0
  have z0 : sUp σ 0 0 0 0 0 0 0 = 0 := sUp_at _ _ _ _ _
  generalize hz : sUp σ 0 0 0 0 = z at hJz z0 ⊢
  iterate 4 refine hK _ _ _ _ ?_
  refine calD (c9_isPlace _ _ _) ?_
  rintro r σ' ⟨rfl, hσ⟩
  subst σ'
  rw [show z 3 0 0 = nI N from hJz.1.2.2.1]
  refine hK _ _ _ _ ?_
  refine And.intro (fun h00 => ?_) (fun h00 => ?_)
  · have hg0 : (0 ≤ x ∧ x ≤ nI N - 1) := ite_ne h00
    iterate 3 refine hK _ _ _ _ ?_
    refine calD (c9_bad0 _ _ _ z0) ?_
    rintro r σ' ⟨rfl, hσ⟩
    subst σ'
    refine hK _ _ _ _ ?_
    refine And.intro (fun _ => ?_) (fun h => absurd rfl h)
    iterate 2 refine hK _ _ _ _ ?_
    refine calD (c9_firstCost (d + 1) z N P S G hJz) ?_
    rintro r σ' ⟨rfl, rfl⟩
    have hJt := (goM_KP G z 0 P S).MJ hJz
    rw [hz] at hK
    generalize goM z 0 P S = t at hJt hK ⊢
    iterate 5 refine hK _ _ _ _ ?_
    refine calD (c9_signCost d t N P S G hJt x) ?_
    rintro r σ' ⟨rfl, rfl⟩
    iterate 2 refine hK _ _ _ _ ?_
    refine ⟨fun _ => ?_, fun n => absurd hg0 n⟩
    exact ⟨rfl, rfl⟩
  · have hn : ¬ (0 ≤ x ∧ x ≤ nI N - 1) := ite_eq h00
    iterate 4 refine hK _ _ _ _ ?_
    refine calD (c9_bad1 _ _ _ z0 (by decide)) ?_
    rintro r σ' ⟨rfl, rfl⟩
    refine hK _ _ _ _ ?_
    refine And.intro (fun h => absurd h (by decide)) (fun _ => ?_)
    iterate 2 refine hK _ _ _ _ ?_
    exact ⟨fun q0 => absurd q0 hn, fun _ => ⟨rfl, by rw [← hz, sUp_twice]; rfl⟩⟩
theorem c9_which (d : Nat) (σ : sMem) (N P S G : Nat) (hJ : MJ σ N P S G) (h29 : σ 0 0 29 = -1) (F : Nat → Int32) (hF : ∀ τ p, KP G (sUp σ 0 0 0 0) τ → p < N → sgC τ (nI p) P S = F p) : sMet l D b0 ty lay (d + 8) mX9_which [aR 0] σ (fun r σ' => r = [aI (nI (whL F (N - 1) 1 0))] ∧ KP G (sUp σ 0 0 0 0) σ') := by
  refine sMet_intro lay_nd kX9_which xX9_ok (by decide +kernel) rfl ?_
  intro K hK
  have hN := hJ.1.1.1
  have hN2 := hJ.1.2.1
  have hP := hJ.1.2.2.2.1.2
  have hS := hJ.1.2.2.2.2.1.2
  have hG4 := hJ.2.2.2.2.2
  iterate 3 refine hK _ _ _ _ ?_
  show K _ _ _ (sUp σ 0 0 0 0)
  have hJz := hJ.z0 0 0
  have z0 : sUp σ 0 0 0 0 0 0 0 = 0 := sUp_at _ _ _ _ _
  have h29z : sUp σ 0 0 0 0 0 0 29 = -1 := (sUp_k (by decide)).trans h29
  generalize hz : sUp σ 0 0 0 0 = z at hJz z0 h29z ⊢
  rw [hz] at hF
  generalize hR : whL F (N - 1) 1 0 = R at hK
  iterate 4 refine hK _ _ _ _ ?_
  have key : ∀ (f : Nat) (p b : Nat) (τ : sMem), p + f = N → b < N → KP G z τ → whL F f p b = R → K 9 [some (aR 0), some (aI (nI b)), some (aI (nI p))] [] τ := by
    intro f
    induction f with
    | zero =>
      intro p b τ hp hb hk he
      have hpN : p = N := by omega
      subst p
      have e0 := (hk.MJ hJz).1.2.2.1
      iterate 5 refine hK _ _ _ _ ?_
      refine And.intro (vp_in_nI (n := 0) (by decide) (by decide)) ?_
      rw [show (Int32.ofInt 0).toNatClampNeg = 0 from rfl]
      rw [show τ 3 0 0 = nI N from e0]
      refine hK _ _ _ _ ?_
      refine And.intro (fun _ => ?_) (fun h => absurd (Int32.le_refl _) h)
      iterate 2 refine hK _ _ _ _ ?_
      exact ⟨by rw [← he]; rfl, by rw [hz]; exact hk⟩
    | succ f ih =>
      intro p b τ hp hb hk he
      unfold whL at he
      have hJt := hk.MJ hJz
      have e0 := hJt.1.2.2.1
      have e29 : τ 0 0 29 = -1 := (hk.2.2 29 (by decide) (by decide) (by decide) (by decide)).trans h29z
      iterate 5 refine hK _ _ _ _ ?_
      refine And.intro (vp_in_nI (n := 0) (by decide) (by decide)) ?_
      rw [show (Int32.ofInt 0).toNatClampNeg = 0 from rfl]
      rw [show τ 3 0 0 = nI N from e0]
      refine hK _ _ _ _ ?_
      refine And.intro (fun h => absurd h (nI_ge (by omega) (by omega))) (fun _ => ?_)
      iterate 3 refine hK _ _ _ _ ?_
      refine calD (c9_signCost d τ N P S G hJt (nI p)) ?_
      rintro r σ' ⟨rfl, rfl⟩
      have hk1 : KP G z (sgM τ (nI p) P S) := hk.trans (sgM_KP e29 (nI p) P S)
      rw [show sgC τ (nI p) P S = F p from hF τ p hk (by omega)]
      generalize sgM τ (nI p) P S = τ1 at hk1 ⊢
      have hJt1 := hk1.MJ hJz
      have e291 : τ1 0 0 29 = -1 := (hk1.2.2 29 (by decide) (by decide) (by decide) (by decide)).trans h29z
      iterate 3 refine hK _ _ _ _ ?_
      refine calD (c9_signCost d τ1 N P S G hJt1 (nI b)) ?_
      rintro r σ' ⟨rfl, rfl⟩
      have hk2 : KP G z (sgM τ1 (nI b) P S) := hk1.trans (sgM_KP e291 (nI b) P S)
      rw [show sgC τ1 (nI b) P S = F b from hF τ1 b hk1 hb]
      generalize sgM τ1 (nI b) P S = τ2 at hk2 ⊢
      refine hK _ _ _ _ ?_
      refine And.intro (fun h => ?_) (fun h => ?_)
      · rw [if_neg (Int32.not_lt.mpr h)] at he
        refine hK _ _ _ _ ?_
        show K _ _ _ _
        rw [show nI p + Int32.ofInt 1 = nI (p + 1) from nIs _]
        refine hK _ _ _ _ ?_
        exact ih (p + 1) b τ2 (by omega) hb hk2 he
      · rw [if_pos (Int32.not_le.mp h)] at he
        iterate 3 refine hK _ _ _ _ ?_
        show K _ _ _ _
        rw [show nI p + Int32.ofInt 1 = nI (p + 1) from nIs _]
        refine hK _ _ _ _ ?_
        exact ih (p + 1) p τ2 (by omega) (by omega) hk2 he
  exact key (N - 1) 1 0 z (by omega) (by omega) KP.rfl' hR
set_option maxHeartbeats 4000000 in
theorem c9_guidedCost (d : Nat) (σ : sMem) (N P S G : Nat) (hJ : MJ σ N P S G) (a b fee : Int32) : sMet l D b0 ty lay (d + 6) mX9_guidedCost [aR 0, aI (a), aI (b), aI (fee)] σ (fun r σ' => r = [aI (gcC σ a b fee P S)] ∧ σ' = gcM σ a b fee P S) := by
  refine sMet_intro lay_nd kX9_guidedCost xX9_ok (by decide +kernel) rfl ?_
  intro K hK
  have hP := hJ.1.2.2.2.1.2
  have hS := hJ.1.2.2.2.2.1.2
  have hN := hJ.1.1.1
  have hG := hJ.2.2.2.2.2
  have e3 := hJ.2.2.2.2.1
  obtain ⟨hkS, hJS, gS, eS, hgS⟩ := gcS_s a b fee hJ
  have hC : gcM σ a b fee P S = daM (gcS σ a b fee) 0 P gS S := by
    unfold gcM
    rw [eS, nI_clamp (show gS < 2 ^ 31 by omega)]
  unfold gcC at hK
  rw [hC] at hK
  generalize hZ : gcS σ a b fee = Z at hK eS hJS
  unfold gcS at hZ
  rw [e3] at hZ
  iterate 5 refine hK _ _ _ _ ?_
  refine And.intro (vp_in_nI (n := 3) (by decide) (by decide)) ?_
  rw [show (Int32.ofInt 3).toNatClampNeg = 3 from rfl]
  rw [show σ 3 0 3 = nI G from e3]
  iterate 6 refine hK _ _ _ _ ?_
  refine And.intro (vp_in_nI (n := 4) (by decide) (by decide)) ?_
  rw [show (Int32.ofInt 4).toNatClampNeg = 4 from rfl]
  rw [sUp_off (by decide)]
  iterate 3 refine hK _ _ _ _ ?_
  have hJ0 : MJ (sUp (sUp σ 0 0 26 (nI G)) 0 0 27 (σ 3 0 4)) N P S G := (hJ.z0 26 _).z0 27 _
  have e26 : (sUp (sUp σ 0 0 26 (nI G)) 0 0 27 (σ 3 0 4)) 0 0 26 = nI G := by rw [sUp_k (by decide), sUp_at]
  generalize sUp (sUp σ 0 0 26 (nI G)) 0 0 27 (σ 3 0 4) = t at hJ0 e26 hZ ⊢
  obtain ⟨k1, j1, g1, e1, h1, h1'⟩ := agM_s a fee hJ0 e26 (Nat.le_refl _) (by omega)
  have add : ∀ (t : sMem) (g : Nat) (p : Int32) (k : Nat), t 0 0 26 = nI g → g ≤ 5 → k < 2 → (∀ e5, K 23 [some (aR 0), some (aI a), some (aI b), some (aI fee), some (aI (nI (k + 1))), e5] [] (agM t p fee)) → K 41 [some (aR 0), some (aI (a)), some (aI (b)), some (aI (fee)), some (aI (nI k)), some (aI (p))] [] t := by
    intro t g p k eg hg hk l23
    have l85 : K 85 [some (aR 0), some (aI (a)), some (aI (b)), some (aI (fee)), some (aI (nI k)), some (aI (p))] [] (agM t p fee) := by
      refine hK _ _ _ _ ?_
      show K _ _ _ _
      rw [show nI k + Int32.ofInt 1 = nI (k + 1) from nIs _]
      refine hK _ _ _ _ ?_
      exact l23 _
    iterate 3 refine hK _ _ _ _ ?_
    refine And.intro (fun h => ?_) (fun h => ?_)
    · iterate 4 refine hK _ _ _ _ ?_
      show K _ _ _ _
      rw [show t 0 0 26 = nI g from eg]
      refine hK _ _ _ _ ?_
      refine And.intro (vp_in_nI (n := g) (by omega) (by decide)) ?_
      rw [nI_clamp (show g < 2 ^ 31 by omega)]
      iterate 3 refine hK _ _ _ _ ?_
      refine And.intro (by first | omega | (rw [nI_clamp (by omega)]; omega)) (And.intro (vp_in_nI (n := 0) (by decide) (by decide)) ?_)
      rw [show (Int32.ofInt 0).toNatClampNeg = 0 from rfl]
      iterate 4 refine hK _ _ _ _ ?_
      show K _ _ _ _
      rw [sUp_off (by decide), show t 0 0 26 = nI g from eg]
      refine hK _ _ _ _ ?_
      refine And.intro (vp_in_nI (n := g) (by omega) (by decide)) ?_
      rw [nI_clamp (show g < 2 ^ 31 by omega)]
      iterate 3 refine hK _ _ _ _ ?_
      refine And.intro (by first | omega | (rw [nI_clamp (by omega)]; omega)) (And.intro (vp_in_nI (n := 1) (by decide) (by decide)) ?_)
      rw [show (Int32.ofInt 1).toNatClampNeg = 1 from rfl]
      iterate 3 refine hK _ _ _ _ ?_
      show K _ _ _ _
      rw [sUp_off (by decide), sUp_off (by decide), show t 0 0 26 = nI g from eg]
      iterate 3 refine hK _ _ _ _ ?_
      rw [show agM t p fee = sUp (sUp (sUp t 10 g 0 p) 10 g 1 fee) 0 0 26 (nI g + 1) from by unfold agM; rw [if_neg (show ¬ p = -1 from h), eg, nI_clamp (show g < 2 ^ 31 by omega)]] at l85
      exact l85
    · refine hK _ _ _ _ ?_
      rw [show agM t p fee = t from by unfold agM; rw [if_pos (show p = -1 from h)]] at l85
      exact l85
  have fin : ∀ (e5 : Option AV), K 23 [some (aR 0), some (aI (a)), some (aI (b)), some (aI (fee)), some (aI (nI 2)), e5] [] Z := by
    intro e5
    iterate 3 refine hK _ _ _ _ ?_
    refine And.intro (fun _ => ?_) (fun h => absurd (show Int32.ofInt 2 ≤ nI 2 by decide) h)
    iterate 3 refine hK _ _ _ _ ?_
    refine calD (c9_day0 _ Z N P S gS G 0 hJS eS hgS) ?_
    rintro r σ' ⟨rfl, rfl⟩
    have hJu := (daM_KP G Z 0 P gS S).MJ hJS
    generalize daM Z 0 P gS S = u at hJu hK ⊢
    iterate 2 refine hK _ _ _ _ ?_
    refine calD (c9_costNow (d + 4) u P hJu.1.2.2.2.1.1 hP) ?_
    rintro r σ' ⟨rfl, hσ⟩
    subst σ'
    refine hK _ _ _ _ ?_
    exact ⟨rfl, rfl⟩
  have two : ∀ (e5 : Option AV), K 23 [some (aR 0), some (aI (a)), some (aI (b)), some (aI (fee)), some (aI (nI 1)), e5] [] (agM t a fee) := by
    intro e5
    iterate 3 refine hK _ _ _ _ ?_
    refine And.intro (fun h => absurd h (by decide)) (fun _ => ?_)
    iterate 2 refine hK _ _ _ _ ?_
    refine And.intro (fun _ => ?_) (fun h => absurd h (by decide))
    iterate 2 refine hK _ _ _ _ ?_
    exact add (agM t a fee) g1 b 1 e1 (by omega) (by decide) (by rw [hZ]; exact fin)
  show K 23 [_, _, _, _, some (aI (nI 0)), _] [] t
  iterate 3 refine hK _ _ _ _ ?_
  refine And.intro (fun h => absurd h (by decide)) (fun _ => ?_)
  iterate 2 refine hK _ _ _ _ ?_
  refine And.intro (fun h => absurd rfl h) (fun _ => ?_)
  iterate 3 refine hK _ _ _ _ ?_
  exact add t G a 0 e26 (by omega) (by decide) two
theorem c9_bestPlace (d : Nat) (z : sMem) (N P S G : Nat) (hJz : MJ z N P S G) (fee : Int32) (F : Nat → Int32) (hF : ∀ τ p, KP G z τ → p < N → gcC τ (nI p) (-1) fee P S = F p) (σ : sMem) (hk0 : KP G z σ) : sMet l D b0 ty lay (d + 7) mX9_bestPlace [aR 0, aI (fee)] σ (fun r σ' => r = [aI (nI (whL F (N - 1) 1 0))] ∧ KP G z σ') := by
  refine sMet_intro lay_nd kX9_bestPlace xX9_ok (by decide +kernel) rfl ?_
  intro K hK
  have hP := hJz.1.2.2.2.1.2
  have hS := hJz.1.2.2.2.2.1.2
  have hN := hJz.1.1.1
  have hG := hJz.2.2.2.2.2
  have hN2 := hJz.1.2.1
  generalize hR : whL F (N - 1) 1 0 = R at hK
  iterate 7 refine hK _ _ _ _ ?_
  refine calD (c9_guidedCost d σ N P S G (hk0.MJ hJz) (nI 0) (-1) fee) ?_
  rintro r σ' ⟨rfl, rfl⟩
  have hk1 : KP G z (gcM σ (nI 0) (-1) fee P S) := hk0.trans (gcM_KP _ _ _ (hk0.MJ hJz))
  rw [hF σ 0 hk0 (by omega)]
  generalize gcM σ (nI 0) (-1) fee P S = τ0 at hk1 ⊢
  iterate 3 refine hK _ _ _ _ ?_
  have key : ∀ (f : Nat) (p b : Nat) (τ : sMem) (e5 : Option AV), p + f = N → b < N → KP G z τ → whL F f p b = R → K 13 [some (aR 0), some (aI (fee)), some (aI (nI b)), some (aI (F b)), some (aI (nI p)), e5] [] τ := by
    intro f
    induction f with
    | zero =>
      intro p b τ e5 hp hb hk he
      have hpN : p = N := by omega
      subst p
      have e0 := (hk.MJ hJz).1.2.2.1
      iterate 5 refine hK _ _ _ _ ?_
      refine And.intro (vp_in_nI (n := 0) (by decide) (by decide)) ?_
      rw [show (Int32.ofInt 0).toNatClampNeg = 0 from rfl]
      rw [show τ 3 0 0 = nI N from e0]
      refine hK _ _ _ _ ?_
      refine And.intro (fun _ => ?_) (fun h => absurd (Int32.le_refl _) h)
      iterate 2 refine hK _ _ _ _ ?_
      exact ⟨by rw [← he]; rfl, hk⟩
    | succ f ih =>
      intro p b τ e5 hp hb hk he
      unfold whL at he
      have hJt := hk.MJ hJz
      have e0 := hJt.1.2.2.1
      iterate 5 refine hK _ _ _ _ ?_
      refine And.intro (vp_in_nI (n := 0) (by decide) (by decide)) ?_
      rw [show (Int32.ofInt 0).toNatClampNeg = 0 from rfl]
      rw [show τ 3 0 0 = nI N from e0]
      refine hK _ _ _ _ ?_
      refine And.intro (fun h => absurd h (nI_ge (by omega) (by omega))) (fun _ => ?_)
      iterate 5 refine hK _ _ _ _ ?_
      refine calD (c9_guidedCost d τ N P S G hJt (nI p) (-1) fee) ?_
      rintro r σ' ⟨rfl, rfl⟩
      have hk1 : KP G z (gcM τ (nI p) (-1) fee P S) := hk.trans (gcM_KP _ _ _ hJt)
      rw [hF τ p hk (by omega)]
      generalize gcM τ (nI p) (-1) fee P S = τ1 at hk1 ⊢
      iterate 4 refine hK _ _ _ _ ?_
      refine And.intro (fun h => ?_) (fun h => ?_)
      · rw [if_pos h] at he
        iterate 5 refine hK _ _ _ _ ?_
        show K _ _ _ _
        rw [show nI p + Int32.ofInt 1 = nI (p + 1) from nIs _]
        refine hK _ _ _ _ ?_
        exact ih (p + 1) p τ1 _ (by omega) (by omega) hk1 he
      · rw [if_neg h] at he
        iterate 2 refine hK _ _ _ _ ?_
        show K _ _ _ _
        rw [show nI p + Int32.ofInt 1 = nI (p + 1) from nIs _]
        refine hK _ _ _ _ ?_
        exact ih (p + 1) b τ1 _ (by omega) hb hk1 he
  exact key (N - 1) 1 0 τ0 _ (by omega) (by omega) hk1 hR
theorem c9_where (d : Nat) (σ : sMem) (N P S G : Nat) (hJ : MJ σ N P S G) (fee w : Int32) (F : Nat → Int32) (hF : ∀ τ p, KP G (sUp σ 0 0 0 0) τ → p < N → gcC τ (nI p) (-1) fee P S = F p) : sMet l D b0 ty lay (d + 8) mX9_where [aR 0, aI (fee), aI (w)] σ (fun r σ' => (((0 ≤ fee ∧ fee ≤ 9) ∧ (0 ≤ w ∧ w ≤ 1)) → r = [aI (if w = 0 then nI (whL F (N - 1) 1 0) else F (whL F (N - 1) 1 0))] ∧ KP G (sUp σ 0 0 0 0) σ') ∧ (¬ ((0 ≤ fee ∧ fee ≤ 9) ∧ (0 ≤ w ∧ w ≤ 1)) → r = [aI 0] ∧ σ' = sUp σ 0 0 0 1)) := by
  refine sMet_intro lay_nd kX9_where xX9_ok (by decide +kernel) rfl ?_
  intro K hK
  have hN := hJ.1.1.1
  have hN2 := hJ.1.2.1
  have hP := hJ.1.2.2.2.1.2
  have hS := hJ.1.2.2.2.2.1.2
  have hG4 := hJ.2.2.2.2.2
  iterate 3 refine hK _ _ _ _ ?_
  show K _ _ _ (sUp σ 0 0 0 0)
  have hJz := hJ.z0 0 0
  have z0 : sUp σ 0 0 0 0 0 0 0 = 0 := sUp_at _ _ _ _ _
  generalize hz : sUp σ 0 0 0 0 = z at hJz z0 ⊢
  iterate 5 refine hK _ _ _ _ ?_
  refine calD (c9_in _ _ _ _ _) ?_
  rintro r σ' ⟨rfl, hσ⟩
  subst σ'
  refine hK _ _ _ _ ?_
  refine And.intro (fun h00 => ?_) (fun h00 => ?_)
  · have hn : ¬ ((0 ≤ fee ∧ fee ≤ 9) ∧ (0 ≤ w ∧ w ≤ 1)) := fun q => ite_eq h00 q.1
    iterate 4 refine hK _ _ _ _ ?_
    refine calD (c9_bad1 _ _ _ z0 (by decide)) ?_
    rintro r σ' ⟨rfl, rfl⟩
    refine hK _ _ _ _ ?_
    refine And.intro (fun h => absurd h (by decide)) (fun _ => ?_)
    iterate 2 refine hK _ _ _ _ ?_
    exact ⟨fun q0 => absurd q0 hn, fun _ => ⟨rfl, by rw [← hz, sUp_twice]; rfl⟩⟩
  · iterate 4 refine hK _ _ _ _ ?_
    refine calD (c9_in _ _ _ _ _) ?_
    rintro r σ' ⟨rfl, hσ⟩
    subst σ'
    refine hK _ _ _ _ ?_
    refine And.intro (fun h01 => ?_) (fun h01 => ?_)
    · have hg0 : ((0 ≤ fee ∧ fee ≤ 9) ∧ (0 ≤ w ∧ w ≤ 1)) := ⟨ite_ne h00, ite_ne h01⟩
      iterate 3 refine hK _ _ _ _ ?_
      refine calD (c9_bad0 _ _ _ z0) ?_
      rintro r σ' ⟨rfl, hσ⟩
      subst σ'
      refine hK _ _ _ _ ?_
      refine And.intro (fun _ => ?_) (fun h => absurd rfl h)
      rw [hz] at hF
      iterate 3 refine hK _ _ _ _ ?_
      refine calD (c9_bestPlace d z N P S G hJz fee F hF z KP.rfl') ?_
      rintro r τ ⟨rfl, hk⟩
      have hb := whL_lt (F := F) (N - 1) 1 0 N (by omega) (by omega)
      generalize whL F (N - 1) 1 0 = b at hb hK ⊢
      iterate 3 refine hK _ _ _ _ ?_
      refine And.intro (fun h => ?_) (fun h => ?_)
      · iterate 5 refine hK _ _ _ _ ?_
        refine calD (c9_guidedCost (d + 1) τ N P S G (hk.MJ hJz) (nI b) (-1) fee) ?_
        rintro r σ' ⟨rfl, rfl⟩
        have hk1 : KP G z (gcM τ (nI b) (-1) fee P S) := hk.trans (gcM_KP _ _ _ (hk.MJ hJz))
        rw [hF τ b hk hb]
        generalize gcM τ (nI b) (-1) fee P S = τ1 at hk1 ⊢
        refine hK _ _ _ _ ?_
        refine ⟨fun _ => ?_, fun n => absurd hg0 n⟩
        exact ⟨by rw [if_neg h], by rw [hz]; exact hk1⟩
      · iterate 3 refine hK _ _ _ _ ?_
        refine ⟨fun _ => ?_, fun n => absurd hg0 n⟩
        exact ⟨by rw [if_pos h], by rw [hz]; exact hk⟩
    · have hn : ¬ ((0 ≤ fee ∧ fee ≤ 9) ∧ (0 ≤ w ∧ w ≤ 1)) := fun q => ite_eq h01 q.2
      iterate 4 refine hK _ _ _ _ ?_
      refine calD (c9_bad1 _ _ _ z0 (by decide)) ?_
      rintro r σ' ⟨rfl, rfl⟩
      refine hK _ _ _ _ ?_
      refine And.intro (fun h => absurd h (by decide)) (fun _ => ?_)
      iterate 2 refine hK _ _ _ _ ?_
      exact ⟨fun q0 => absurd q0 hn, fun _ => ⟨rfl, by rw [← hz, sUp_twice]; rfl⟩⟩
theorem c9_cornerCost (d : Nat) (σ : sMem) (N P S G : Nat) (hJ : MJ σ N P S G) (x : Int32) : sMet l D b0 ty lay (d + 5) mX9_cornerCost [aR 0, aI (x)] σ (fun r σ' => r = [aI (coC σ x P S)] ∧ σ' = coM σ x P S) := by
  refine sMet_intro lay_nd kX9_cornerCost xX9_ok (by decide +kernel) rfl ?_
  intro K hK
  have hP := hJ.1.2.2.2.1.2
  have hS := hJ.1.2.2.2.2.1.2
  have hN := hJ.1.1.1
  have hG := hJ.2.2.2.2.2
  have e3 := hJ.2.2.2.2.1
  unfold coC at hK
  generalize hZ : coM σ x P S = Z at hK
  have hJZ := (coM_KP G σ x P S).MJ hJ
  rw [hZ] at hJZ
  unfold coM at hZ
  rw [e3, nI_clamp (show G < 2 ^ 31 by omega)] at hZ
  iterate 5 refine hK _ _ _ _ ?_
  refine And.intro (vp_in_nI (n := 3) (by decide) (by decide)) ?_
  rw [show (Int32.ofInt 3).toNatClampNeg = 3 from rfl]
  rw [show σ 3 0 3 = nI G from e3]
  iterate 7 refine hK _ _ _ _ ?_
  refine calD (c9_day0 d _ N P S G G 0 ((hJ.z0 26 _).z0 27 _) (by rw [sUp_k (by decide), sUp_at]) (by omega)) ?_
  rintro r σ' ⟨rfl, rfl⟩
  rw [show daM (sUp (sUp σ 0 0 26 (nI G)) 0 0 27 x) 0 P G S = Z from hZ]
  iterate 2 refine hK _ _ _ _ ?_
  refine calD (c9_costNow (d + 3) Z P hJZ.1.2.2.2.1.1 hP) ?_
  rintro r σ' ⟨rfl, hσ⟩
  subst σ'
  refine hK _ _ _ _ ?_
  exact ⟨rfl, rfl⟩
theorem c9_corner (d : Nat) (σ : sMem) (N P S G : Nat) (hJ : MJ σ N P S G) (x : Int32) : sMet l D b0 ty lay (d + 7) mX9_corner [aR 0, aI (x)] σ (fun r σ' => ((0 ≤ x ∧ x ≤ 9) → r = [aI (coC (sUp σ 0 0 0 0) x P S)] ∧ σ' = coM (sUp σ 0 0 0 0) x P S) ∧ (¬ (0 ≤ x ∧ x ≤ 9) → r = [aI 0] ∧ σ' = sUp σ 0 0 0 1)) := by
  refine sMet_intro lay_nd kX9_corner xX9_ok (by decide +kernel) rfl ?_
  intro K hK
  have hN := hJ.1.1.1
  have hN2 := hJ.1.2.1
  have hP := hJ.1.2.2.2.1.2
  have hS := hJ.1.2.2.2.2.1.2
  have hG4 := hJ.2.2.2.2.2
  iterate 3 refine hK _ _ _ _ ?_
  show K _ _ _ (sUp σ 0 0 0 0)
  have hJz := hJ.z0 0 0
  have z0 : sUp σ 0 0 0 0 0 0 0 = 0 := sUp_at _ _ _ _ _
  generalize hz : sUp σ 0 0 0 0 = z at hJz z0 ⊢
  iterate 5 refine hK _ _ _ _ ?_
  refine calD (c9_in _ _ _ _ _) ?_
  rintro r σ' ⟨rfl, hσ⟩
  subst σ'
  refine hK _ _ _ _ ?_
  refine And.intro (fun h00 => ?_) (fun h00 => ?_)
  · have hg0 : (0 ≤ x ∧ x ≤ 9) := ite_ne h00
    iterate 3 refine hK _ _ _ _ ?_
    refine calD (c9_bad0 _ _ _ z0) ?_
    rintro r σ' ⟨rfl, hσ⟩
    subst σ'
    refine hK _ _ _ _ ?_
    refine And.intro (fun _ => ?_) (fun h => absurd rfl h)
    iterate 3 refine hK _ _ _ _ ?_
    refine calD (c9_cornerCost (d + 1) z N P S G hJz x) ?_
    rintro r σ' ⟨rfl, rfl⟩
    refine hK _ _ _ _ ?_
    refine ⟨fun _ => ?_, fun n => absurd hg0 n⟩
    rw [hz]
    exact ⟨rfl, rfl⟩
  · have hn : ¬ (0 ≤ x ∧ x ≤ 9) := ite_eq h00
    iterate 4 refine hK _ _ _ _ ?_
    refine calD (c9_bad1 _ _ _ z0 (by decide)) ?_
    rintro r σ' ⟨rfl, rfl⟩
    refine hK _ _ _ _ ?_
    refine And.intro (fun h => absurd h (by decide)) (fun _ => ?_)
    iterate 2 refine hK _ _ _ _ ?_
    exact ⟨fun q0 => absurd q0 hn, fun _ => ⟨rfl, by rw [← hz, sUp_twice]; rfl⟩⟩
theorem c9_other (d : Nat) (σ : sMem) (N P S G : Nat) (hJ : MJ σ N P S G) (h29 : σ 0 0 29 = -1) (F : Nat → Int32) (hF : ∀ τ p, KP G (sUp σ 0 0 0 0) τ → p < 10 → coC τ (nI p) P S = F p) : sMet l D b0 ty lay (d + 6) mX9_other [aR 0] σ (fun r σ' => r = [aI (nI (whL F 9 1 0))] ∧ KP G (sUp σ 0 0 0 0) σ') := by
  refine sMet_intro lay_nd kX9_other xX9_ok (by decide +kernel) rfl ?_
  intro K hK
  have hN := hJ.1.1.1
  have hN2 := hJ.1.2.1
  have hP := hJ.1.2.2.2.1.2
  have hS := hJ.1.2.2.2.2.1.2
  have hG4 := hJ.2.2.2.2.2
  iterate 3 refine hK _ _ _ _ ?_
  show K _ _ _ (sUp σ 0 0 0 0)
  have hJz := hJ.z0 0 0
  have z0 : sUp σ 0 0 0 0 0 0 0 = 0 := sUp_at _ _ _ _ _
  have h29z : sUp σ 0 0 0 0 0 0 29 = -1 := (sUp_k (by decide)).trans h29
  generalize hz : sUp σ 0 0 0 0 = z at hJz z0 h29z ⊢
  rw [hz] at hF
  generalize hR : whL F 9 1 0 = R at hK
  iterate 5 refine hK _ _ _ _ ?_
  refine calD (c9_cornerCost d z N P S G hJz (nI 0)) ?_
  rintro r σ' ⟨rfl, rfl⟩
  have hk1 : KP G z (coM z (nI 0) P S) := coM_KP _ _ _ _ _
  rw [hF z 0 KP.rfl' (by omega)]
  generalize coM z (nI 0) P S = τ0 at hk1 ⊢
  iterate 3 refine hK _ _ _ _ ?_
  have key : ∀ (f : Nat) (p b : Nat) (τ : sMem) (e4 : Option AV), p + f = 10 → b < 10 → KP G z τ → whL F f p b = R → K 15 [some (aR 0), some (aI (nI b)), some (aI (F b)), some (aI (nI p)), e4] [] τ := by
    intro f
    induction f with
    | zero =>
      intro p b τ e4 hp hb hk he
      have hpN : p = 10 := by omega
      subst p
      iterate 3 refine hK _ _ _ _ ?_
      refine And.intro (fun _ => ?_) (fun h => absurd (show (Int8.ofInt 10).toInt32 ≤ nI 10 by decide) h)
      iterate 2 refine hK _ _ _ _ ?_
      exact ⟨by rw [← he]; rfl, by rw [hz]; exact hk⟩
    | succ f ih =>
      intro p b τ e4 hp hb hk he
      unfold whL at he
      have hJt := hk.MJ hJz
      iterate 3 refine hK _ _ _ _ ?_
      refine And.intro (fun h => absurd ((nI_leI (a := 10) (b := p) (by decide) (by omega)).mp h) (by omega)) (fun _ => ?_)
      iterate 3 refine hK _ _ _ _ ?_
      refine calD (c9_cornerCost d τ N P S G hJt (nI p)) ?_
      rintro r σ' ⟨rfl, rfl⟩
      have hk1 : KP G z (coM τ (nI p) P S) := hk.trans (coM_KP _ _ _ _ _)
      rw [hF τ p hk (by omega)]
      generalize coM τ (nI p) P S = τ1 at hk1 ⊢
      iterate 4 refine hK _ _ _ _ ?_
      refine And.intro (fun h => ?_) (fun h => ?_)
      · rw [if_pos h] at he
        iterate 5 refine hK _ _ _ _ ?_
        show K _ _ _ _
        rw [show nI p + Int32.ofInt 1 = nI (p + 1) from nIs _]
        refine hK _ _ _ _ ?_
        exact ih (p + 1) p τ1 _ (by omega) (by omega) hk1 he
      · rw [if_neg h] at he
        iterate 2 refine hK _ _ _ _ ?_
        show K _ _ _ _
        rw [show nI p + Int32.ofInt 1 = nI (p + 1) from nIs _]
        refine hK _ _ _ _ ?_
        exact ih (p + 1) b τ1 _ (by omega) hb hk1 he
  exact key 9 1 0 τ0 _ (by omega) (by omega) hk1 hR
theorem c9_rest (d : Nat) (σ : sMem) (N P S G : Nat) (hJ : MJ σ N P S G) (x : Int32) : sMet l D b0 ty lay (d + 7) mX9_rest [aR 0, aI (x)] σ (fun r σ' => ((0 ≤ x ∧ x ≤ nI P - 1) → r = [aI ((fcC (sUp σ 0 0 0 0) P S - loR (goM (sUp σ 0 0 0 0) 0 P S) x.toNatClampNeg) - fcC (sUp (goM (sUp σ 0 0 0 0) 0 P S) 0 0 28 x) P S)] ∧ σ' = sUp (goM (sUp (goM (sUp σ 0 0 0 0) 0 P S) 0 0 28 x) 0 P S) 0 0 28 (-1)) ∧ (¬ (0 ≤ x ∧ x ≤ nI P - 1) → r = [aI 0] ∧ σ' = sUp σ 0 0 0 1)) := by
  refine sMet_intro lay_nd kX9_rest xX9_ok (by decide +kernel) rfl ?_
  intro K hK
  have hN := hJ.1.1.1
  have hN2 := hJ.1.2.1
  have hP := hJ.1.2.2.2.1.2
  have hS := hJ.1.2.2.2.2.1.2
  have hG4 := hJ.2.2.2.2.2
  iterate 3 refine hK _ _ _ _ ?_
  show K _ _ _ (sUp σ 0 0 0 0)
  have hJz := hJ.z0 0 0
  have z0 : sUp σ 0 0 0 0 0 0 0 = 0 := sUp_at _ _ _ _ _
  generalize hz : sUp σ 0 0 0 0 = z at hJz z0 ⊢
  iterate 4 refine hK _ _ _ _ ?_
  refine calD (c9_isPerson _ _ _) ?_
  rintro r σ' ⟨rfl, hσ⟩
  subst σ'
  rw [show z 3 0 1 = nI P from hJz.1.2.2.2.1.1]
  refine hK _ _ _ _ ?_
  refine And.intro (fun h00 => ?_) (fun h00 => ?_)
  · have hg0 : (0 ≤ x ∧ x ≤ nI P - 1) := ite_ne h00
    iterate 3 refine hK _ _ _ _ ?_
    refine calD (c9_bad0 _ _ _ z0) ?_
    rintro r σ' ⟨rfl, hσ⟩
    subst σ'
    refine hK _ _ _ _ ?_
    refine And.intro (fun _ => ?_) (fun h => absurd rfl h)
    obtain ⟨p, hp, rfl⟩ := inN hg0 (by omega)
    iterate 2 refine hK _ _ _ _ ?_
    refine calD (c9_firstCost d z N P S G hJz) ?_
    rintro r σ' ⟨rfl, rfl⟩
    have hJt := (goM_KP G z 0 P S).MJ hJz
    rw [hz] at hK
    generalize goM z 0 P S = t at hJt hK ⊢
    iterate 3 refine hK _ _ _ _ ?_
    refine calD (c9_lostBy _ t p (by omega)) ?_
    rintro r σ' ⟨rfl, hσ⟩
    subst σ'
    iterate 7 refine hK _ _ _ _ ?_
    refine calD (c9_firstCost d _ N P S G (hJt.z0 28 (nI p))) ?_
    rintro r σ' ⟨rfl, rfl⟩
    iterate 8 refine hK _ _ _ _ ?_
    refine ⟨fun _ => ?_, fun n => absurd hg0 n⟩
    rw [nI_clamp (show p < 2 ^ 31 by omega)]
    exact ⟨rfl, rfl⟩
  · have hn : ¬ (0 ≤ x ∧ x ≤ nI P - 1) := ite_eq h00
    iterate 4 refine hK _ _ _ _ ?_
    refine calD (c9_bad1 _ _ _ z0 (by decide)) ?_
    rintro r σ' ⟨rfl, rfl⟩
    refine hK _ _ _ _ ?_
    refine And.intro (fun h => absurd h (by decide)) (fun _ => ?_)
    iterate 2 refine hK _ _ _ _ ?_
    exact ⟨fun q0 => absurd q0 hn, fun _ => ⟨rfl, by rw [← hz, sUp_twice]; rfl⟩⟩
end
