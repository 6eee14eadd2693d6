/-! THE CLASS: mean, many -/
def cLo (t : sMem) (P S G : Nat) (sd : Int32) : Int32 := coD (cP (tLo t sd) G) (cmF (uP (tLo t sd))) P S G 0
theorem lo_cost {t z : sMem} {N P S G : Nat} (hT : HT t) (hM : MI t N P S G) {sd : Int32} (h : SM (tLo t sd) z G) (h30 : z 0 0 30 = sd) : fcC z P S = cLo t P S G sd := by
  obtain ⟨hO, hR, -⟩ := lo_RA (kd := 0) hT hM h h30 (by decide)
  exact cs_RA hO.1 ((daA_DV hO.1 hO.2 1000 (Nat.le_refl _)).mono (Nat.le_refl _)) (da_DLo hO.1 hO.2 1000 (Nat.le_refl _)) hR P (Nat.le_refl _)
/-- the least of F from p on, by min -/
def onL (F : Nat → Int32) : Nat → Nat → Int32 → Int32
  | 0, _, x => x
  | f + 1, p, x => onL F f (p + 1) (mnI x (F p))
def twI (F : Nat → Nat → Int32) (a : Nat) : Nat → Nat → Int32 → Int32
  | 0, _, x => x
  | f + 1, b, x => twI F a f (b + 1) (mnI x (F a b))
def twL (F : Nat → Nat → Int32) (N : Nat) : Nat → Nat → Int32 → Int32
  | 0, _, x => x
  | f + 1, a, x => twL F N f (a + 1) (twI F a (N - a) a x)
theorem onL_eq (F : Nat → Int32) : ∀ f p b, onL F f p (F b) = F (whL F f p b)
  | 0, _, _ => rfl
  | f + 1, p, b => by
    show onL F f (p + 1) (mnI (F b) (F p)) = F (whL F f (p + 1) (if F p < F b then p else b))
    rw [← onL_eq F f (p + 1)]
    congr 1
    unfold mnI
    split <;> rfl
theorem mn_max {x : Int32} (h : x.toInt ≤ 2000000000) : mnI 2000000000 x = x := by
  unfold mnI
  split
  · rfl
  · rename_i h9
    apply Int32.toInt_inj.mp
    have h1 : (2000000000 : Int32).toInt = 2000000000 := by decide
    have h3 : ¬ x.toInt < (2000000000 : Int32).toInt := fun q => h9 (Int32.lt_iff_toInt_lt.mpr q)
    omega
theorem coD_le {c : sMem} {cm : Nat → Bool} {N P S G kd : Nat} (hM : MC c N P S) (hS : SC c N P S G) : (coD c cm P S G kd).toInt ≤ 2000000000 := by
  have h1 := cosA_le hM ((daA_DV (cm := cm) (kd := kd) hM hS 1000 (Nat.le_refl _)).mono (show _ ≤ 8000 by have := hM.2.2.2.1; omega)) P (Nat.le_refl _)
  have h2 := hM.2.2.1
  unfold coD
  rw [nI_toInt (by unfold daA; omega)]
  unfold daA
  omega
theorem onL_all (F : Nat → Int32) {N : Nat} (hN : 1 ≤ N) (h0 : (F 0).toInt ≤ 2000000000) : onL F N 0 2000000000 = F (whL F (N - 1) 1 0) := by
  obtain ⟨n, rfl⟩ : ∃ n, N = n + 1 := ⟨N - 1, by omega⟩
  show onL F n 1 (mnI 2000000000 (F 0)) = F (whL F n 1 0)
  rw [mn_max h0]
  exact onL_eq F n 1 0
def mnQ (k m x : Int32) : Int32 × Int32 := if x < m then (2, x) else (k, m)
theorem mnI_l {x y : Int32} (h : y.toInt < x.toInt) : mnI x y = y := if_pos (Int32.lt_iff_toInt_lt.mpr h)
theorem mnI_g {x y : Int32} (h : ¬ y.toInt < x.toInt) : mnI x y = x := if_neg (fun q => h (Int32.lt_iff_toInt_lt.mp q))
theorem mnQ_l {k m x : Int32} (h : x.toInt < m.toInt) : mnQ k m x = (2, x) := if_pos (Int32.lt_iff_toInt_lt.mpr h)
theorem mnQ_g {k m x : Int32} (h : ¬ x.toInt < m.toInt) : mnQ k m x = (k, m) := if_neg (fun q => h (Int32.lt_iff_toInt_lt.mp q))
theorem mnQ_st (k m x y : Int32) : (if y < (mnQ k m x).2 then ((2 : Int32), y) else mnQ k m x) = mnQ k m (mnI x y) := by
  by_cases h1 : x.toInt < m.toInt
  · rw [mnQ_l h1]
    by_cases h2 : y.toInt < x.toInt
    · rw [mnI_l h2, mnQ_l (show y.toInt < m.toInt by omega)]
      exact if_pos (Int32.lt_iff_toInt_lt.mpr h2)
    · rw [mnI_g h2, mnQ_l h1]
      exact if_neg (fun q => h2 (Int32.lt_iff_toInt_lt.mp q))
  · rw [mnQ_g h1]
    by_cases h3 : y.toInt < m.toInt
    · rw [mnI_l (show y.toInt < x.toInt by omega), mnQ_l h3]
      exact if_pos (Int32.lt_iff_toInt_lt.mpr h3)
    · by_cases h2 : y.toInt < x.toInt
      · rw [mnI_l h2, mnQ_g h3]
        exact if_neg (fun q => h3 (Int32.lt_iff_toInt_lt.mp q))
      · rw [mnI_g h2, mnQ_g h1]
        exact if_neg (fun q => h3 (Int32.lt_iff_toInt_lt.mp q))
theorem mnB_eq (F : Nat → Nat → Int32) (k m : Int32) (a : Nat) (f : Nat) : ∀ b x, mnB F a f b (mnQ k m x) = mnQ k m (twI F a f b x) := by
  induction f with
  | zero => intro b x; rfl
  | succ f ih =>
    intro b x
    unfold mnB twI
    rw [mnQ_st]
    exact ih (b + 1) _
theorem mnA_eq (F : Nat → Nat → Int32) (k m : Int32) (N : Nat) (f : Nat) : ∀ a x, mnA F N f a (mnQ k m x) = mnQ k m (twL F N f a x) := by
  induction f with
  | zero => intro a x; rfl
  | succ f ih =>
    intro a x
    unfold mnA twL
    rw [mnB_eq]
    exact ih (a + 1) _
theorem mnQ_max (k : Int32) {m : Int32} (hm : m.toInt ≤ 2000000000) : mnQ k m 2000000000 = (k, m) := by
  refine mnQ_g ?_
  have h1 : (2000000000 : Int32).toInt = 2000000000 := by decide
  omega
/-- what 'many' answers, of the three leasts -/
def mnC (w n o p : Int32) : Int32 := if w = 1 then mnI n (mnI o p) else if n = mnI n (mnI o p) then 0 else if o = mnI n (mnI o p) then 1 else 2
theorem mnC_eq (n o p : Int32) : mnC 1 n o p = (mnQ (if o < n then 1 else 0) (if o < n then o else n) p).2 ∧ mnC 0 n o p = (mnQ (if o < n then 1 else 0) (if o < n then o else n) p).1 := by
  have ne : ∀ {x y : Int32}, x.toInt < y.toInt → ¬ y = x := fun h e => by rw [e] at h; omega
  have eq : ∀ {x y : Int32}, ¬ x.toInt < y.toInt → ¬ y.toInt < x.toInt → x = y := fun h h' => Int32.toInt_inj.mp (by omega)
  have e1 : mnC 1 n o p = mnI n (mnI o p) := if_pos rfl
  have e0 : mnC 0 n o p = if n = mnI n (mnI o p) then 0 else if o = mnI n (mnI o p) then 1 else 2 := if_neg (by decide)
  rw [e1, e0]
  by_cases h1 : o.toInt < n.toInt
  · have hl := Int32.lt_iff_toInt_lt.mpr h1
    rw [if_pos hl, if_pos hl]
    by_cases h2 : p.toInt < o.toInt
    · rw [mnI_l h2, mnI_l (show p.toInt < n.toInt by omega), mnQ_l h2, if_neg (ne (show p.toInt < n.toInt by omega)), if_neg (ne h2)]
      exact ⟨rfl, rfl⟩
    · rw [mnI_g h2, mnI_l h1, mnQ_g h2, if_neg (ne h1), if_pos rfl]
      exact ⟨rfl, rfl⟩
  · have hl : ¬ o < n := fun q => h1 (Int32.lt_iff_toInt_lt.mp q)
    rw [if_neg hl, if_neg hl]
    by_cases h2 : p.toInt < o.toInt
    · rw [mnI_l h2]
      by_cases h3 : p.toInt < n.toInt
      · rw [mnI_l h3, mnQ_l h3, if_neg (ne h3), if_neg (ne h2)]
        exact ⟨rfl, rfl⟩
      · rw [mnI_g h3, mnQ_g h3, if_pos rfl]
        exact ⟨rfl, rfl⟩
    · rw [mnI_g h2, mnI_g h1, mnQ_g (show ¬ p.toInt < n.toInt by omega), if_pos rfl]
      exact ⟨rfl, rfl⟩
section
variable {l : Launch} {D0 : va_G} {b0 : Nat} {ty : Nat → ClassId} {ad av : Nat → Nat}
theorem c8_mean_36_x0 (d : Nat) (σ t : sMem) (N P S G : Nat) (h : HR σ t 36 N P S G) (sd w : Int32) (h0 : ¬ (1 ≤ w ∧ w ≤ 99)) : yMet l D0 b0 ty ad av lay (d + 7) 1 mX8_mean [aR 34, aI (sd), aI (w)] σ (fun _ _ => False) (fun e σ' => e = yIAE ∧ σ' = σ) := by
  refine yMet_intro lay_nd kX8_mean xX8_ok (yYX8_mean_ok) (by decide +kernel) rfl ?_
  intro K hK
  iterate 3 refine hK _ _ _ _ _ ?_
  refine And.intro (fun h9 => ?_) (fun h9 => ?_)
  · refine hK _ _ _ _ _ ?_
    exact ⟨0, rfl, rfl, rfl⟩
  · iterate 3 refine hK _ _ _ _ _ ?_
    refine And.intro (fun h8 => absurd ⟨Int32.not_lt.mp h9, h8⟩ h0) (fun _ => ?_)
    refine hK _ _ _ _ _ ?_
    exact ⟨0, rfl, rfl, rfl⟩
theorem c8_mean_36_ok (d : Nat) (σ t : sMem) (N P S G : Nat) (h : HR σ t 36 N P S G) (hT : HT t) (sd : Int32) (n : Nat) (hn1 : 1 ≤ n) (hn : n ≤ 99) : yMet l D0 b0 ty ad av lay (d + 7) 0 mX8_mean [aR 34, aI (sd), aI (nI n)] σ (fun r σ' => r = [aI ((smL (fun k => cLo t P S G (sd + nI k)) n / (nI n).toInt64).toInt32)] ∧ FR σ σ') (fun _ _ => False) := by
  refine yMet_intro lay_nd kX8_mean xX8_ok (yYX8_mean_ok) (by decide +kernel) rfl ?_
  intro K hK
  have hN := h.2.2.1.1.1.1.1
  have hP := h.2.2.1.1.1.2.2.2.1.2
  have hS8 := h.2.2.1.1.1.2.2.2.2.1.2
  iterate 3 refine hK _ _ _ _ _ ?_
  refine And.intro (fun h9 => absurd ((nI_ltI (b := 1) (by omega) (by decide)).mp h9) (by omega)) (fun _ => ?_)
  iterate 3 refine hK _ _ _ _ _ ?_
  refine And.intro (fun _ => ?_) (fun h9 => absurd ((nI_leI (b := 99) (by omega) (by decide)).mpr hn) h9)
  iterate 4 refine hK _ _ _ _ _ ?_
  have L : ∀ (f : Nat) (k : Nat) (μ : sMem), k + f = n → FR σ μ → K 0 27 [some (aR 34), some (aI (sd)), some (aI (nI n)), some (aL (smL (fun k => cLo t P S G (sd + nI k)) k)), none, some (aI (nI k))] [] μ := by
    intro f
    induction f with
    | zero =>
      intro k μ hk hμ
      have ek : k = n := by omega
      subst ek
      iterate 3 refine hK _ _ _ _ _ ?_
      refine And.intro (fun _ => ?_) (fun h9 => absurd (Int32.le_refl _) h9)
      iterate 4 refine hK _ _ _ _ _ ?_
      refine And.intro (hne k hn1 (by omega)) ?_
      iterate 2 refine hK _ _ _ _ _ ?_
      exact ⟨rfl, hμ⟩
    | succ f ih =>
      intro k μ hk hμ
      have hm := h.cg (Or.inl rfl) hμ
      iterate 3 refine hK _ _ _ _ _ ?_
      refine And.intro (fun h9 => absurd ((nI_leI (by omega) (by omega)).mp h9) (by omega)) (fun _ => ?_)
      iterate 6 refine hK _ _ _ _ _ ?_
      have e30 : uP (tLo t (sd + nI k)) 0 0 30 = sd + nI k := by unfold uP tLo; rw [sUp_k (by decide), sUp_at]
      refine Or.inr (Or.inl (yD0 ((e30 ▸ c8_goThroughByLots_36 _ μ t (uP (tLo t (sd + nI k))) N P S G hm 0 (by omega) (by unfold uP tLo; rw [sUp_off (by decide), sUp_off (by decide), sUp_off (by decide)]) (by unfold uP tLo; rw [sUp_k (by decide), sUp_k (by decide), sUp_at]; decide) (uP_l hT h.2.2.1 (sd + nI k)) : yMet l D0 b0 ty ad av lay (d + 6) 0 mX8_goThroughByLots [aR 34, aI (nI 0), aI (sd + nI k)] μ _ _)) ?_))
      rintro r y ⟨rfl, hc, hG, hfr⟩
      iterate 4 refine hK _ _ _ _ _ ?_
      refine Or.inl (calD (c0_cost_36 _ _ _ _ _ N P S G _ hG) ?_)
      rintro r σ' ⟨rfl, hσ⟩
      subst σ'
      iterate 4 refine hK _ _ _ _ _ ?_
      show K _ _ _ _ _
      rw [show nI k + Int32.ofInt 1 = nI (k + 1) from nIs _]
      refine hK _ _ _ _ _ ?_
      exact ih (k + 1) y (by omega) (fun i hi => (hfr i hi).trans (hμ i hi))
  exact L n 0 σ (by omega) (fun _ _ => rfl)
theorem c8_many_36_x0 (d : Nat) (σ t : sMem) (N P S G : Nat) (h : HR σ t 36 N P S G) (x w : Int32) (h0 : ¬ (0 ≤ x ∧ x ≤ 9)) : yMet l D0 b0 ty ad av lay (d + 7) 1 mX8_many [aR 34, aI (x), aI (w)] σ (fun _ _ => False) (fun e σ' => e = yIAE ∧ σ' = σ) := by
  refine yMet_intro lay_nd kX8_many xX8_ok (yY8_ok _) (by decide +kernel) rfl ?_
  intro K hK
  have hN := h.2.2.1.1.1.1.1
  have hP := h.2.2.1.1.1.2.2.2.1.2
  have hS8 := h.2.2.1.1.1.2.2.2.2.1.2
  iterate 2 refine hK _ _ _ _ _ ?_
  refine Or.inr (Or.inr ⟨0, 1, rfl, yDX (c8_checkFee_x _ _ x h0) (fun _ _ h => h.elim) ?_⟩)
  exact fun e σ' h => h
theorem c8_many_36_x1 (d : Nat) (σ t : sMem) (N P S G : Nat) (h : HR σ t 36 N P S G) (x w : Int32) (h0 : 0 ≤ x ∧ x ≤ 9) (h1 : ¬ (0 ≤ w ∧ w ≤ nI 2 - 1)) : yMet l D0 b0 ty ad av lay (d + 7) 1 mX8_many [aR 34, aI (x), aI (w)] σ (fun _ _ => False) (fun e σ' => e = yIAE ∧ σ' = σ) := by
  refine yMet_intro lay_nd kX8_many xX8_ok (yY8_ok _) (by decide +kernel) rfl ?_
  intro K hK
  have hN := h.2.2.1.1.1.1.1
  have hP := h.2.2.1.1.1.2.2.2.1.2
  have hS8 := h.2.2.1.1.1.2.2.2.2.1.2
  iterate 2 refine hK _ _ _ _ _ ?_
  refine Or.inl (calD (c8_checkFee_ok _ _ x h0) ?_)
  rintro r σ' ⟨rfl, hσ⟩
  subst σ'
  iterate 3 refine hK _ _ _ _ _ ?_
  refine Or.inr (Or.inr ⟨0, 1, rfl, yDX (c8_checkBelow_x _ _ 2 (by decide) w h1) (fun _ _ h => h.elim) ?_⟩)
  exact fun e σ' h => h
set_option maxHeartbeats 1000000 in
theorem c8_many_36_ok (d : Nat) (σ t : sMem) (N P S G : Nat) (h : HR σ t 36 N P S G) (hT : HT t) (fee w : Nat) (hfee : fee ≤ 9) (hw : w ≤ 1) : yMet l D0 b0 ty ad av lay (d + 7) 0 mX8_many [aR 34, aI (nI fee), aI (nI w)] σ (fun r σ' => r = [aI (mnC (nI w) (cFi t P S G) (onL (fun p => cG1 t P S G p fee) N 0 2000000000) (twL (fun a b => cG2 t P S G a b fee) N N 0 2000000000))] ∧ FR σ σ') (fun _ _ => False) := by
  refine yMet_intro lay_nd kX8_many xX8_ok (yY8_ok _) (by decide +kernel) rfl ?_
  intro K hK
  have hN := h.2.2.1.1.1.1.1
  have hP := h.2.2.1.1.1.2.2.2.1.2
  have hS8 := h.2.2.1.1.1.2.2.2.2.1.2
  iterate 2 refine hK _ _ _ _ _ ?_
  refine Or.inl (calD (c8_checkFee_ok _ _ (nI fee) (nI_isIn (n := 10) (by decide) (by omega))) ?_)
  rintro r σ' ⟨rfl, hσ⟩
  subst σ'
  iterate 3 refine hK _ _ _ _ _ ?_
  refine Or.inl (calD (c8_checkBelow_ok _ _ 2 (by decide) (nI w) (nI_isIn (n := 2) (by decide) (by omega))) ?_)
  rintro r σ' ⟨rfl, hσ⟩
  subst σ'
  iterate 2 refine hK _ _ _ _ _ ?_
  refine Or.inr (Or.inl (yD0 (c8_costByFirst_36 _ σ t (uP t) N P S G h (uP_0 hT h.2.2.1)) ?_))
  rintro r y ⟨rfl, hG_y, hf_y⟩
  generalize hZ1 : onL (fun p => cG1 t P S G p fee) N 0 2000000000 = Z1 at hK
  generalize hZ2 : twL (fun a b => cG2 t P S G a b fee) N N 0 2000000000 = Z2 at hK
  iterate 7 refine hK _ _ _ _ _ ?_
  have L27 : ∀ (f : Nat) (a : Nat) (μ : sMem) (x1 x2 : Int32) (e7 : Option AV), a + f = N → FR σ μ → onL (fun p => cG1 t P S G p fee) f a x1 = Z1 → twL (fun a b => cG2 t P S G a b fee) N f a x2 = Z2 → K 0 27 [some (aR 34), some (aI (nI fee)), some (aI (nI w)), some (aI (cFi t P S G)), some (aI (x1)), some (aI (x2)), some (aI (nI a)), e7] [] μ := by
    intro f
    induction f with
    | zero =>
      intro a μ x1 x2 e7 ha hf_μ h1 h2
      have h_μ := h.cg (Or.inl rfl) hf_μ
      have m3_μ := h_μ.1
      have m1_μ := h_μ.2.1.1
      have e1 : x1 = Z1 := h1
      have e2 : x2 = Z2 := h2
      subst e1 e2
      iterate 3 refine hK _ _ _ _ _ ?_
      show K _ _ _ _ _
      rw [show μ 34 0 3 = nI 36 from m3_μ]
      show K _ _ _ _ _
      rw [show (nI 36).toNatClampNeg = 36 from rfl]
      iterate 2 refine hK _ _ _ _ _ ?_
      show K _ _ _ _ _
      rw [show μ 37 0 0 = nI N from m1_μ]
      refine hK _ _ _ _ _ ?_
      refine And.intro (fun _ => ?_) (fun h9 => absurd ((nI_leI (by omega) (by omega)).mpr (by omega)) h9)
      iterate 9 refine hK _ _ _ _ _ ?_
      refine And.intro (fun h8 => ?_) (fun h8 => ?_)
      · have hw1 : ¬ nI w = 1 := h8
        iterate 3 refine hK _ _ _ _ _ ?_
        refine And.intro (fun h7 => ?_) (fun h7 => ?_)
        · iterate 3 refine hK _ _ _ _ _ ?_
          refine And.intro (fun h6 => ?_) (fun h6 => ?_)
          · iterate 2 refine hK _ _ _ _ _ ?_
            exact ⟨by unfold mnC; rw [if_neg hw1, if_neg h7, if_neg h6]; rfl, hf_μ⟩
          · iterate 3 refine hK _ _ _ _ _ ?_
            exact ⟨by unfold mnC; rw [if_neg hw1, if_neg h7, if_pos h6]; rfl, hf_μ⟩
        · iterate 3 refine hK _ _ _ _ _ ?_
          exact ⟨by unfold mnC; rw [if_neg hw1, if_pos h7]; rfl, hf_μ⟩
      · have hw1 : nI w = 1 := h8
        iterate 2 refine hK _ _ _ _ _ ?_
        exact ⟨by unfold mnC; rw [if_pos hw1], hf_μ⟩
    | succ f ih =>
      intro a μ x1 x2 e7 ha hf_μ h1 h2
      have h_μ := h.cg (Or.inl rfl) hf_μ
      have m3_μ := h_μ.1
      have m1_μ := h_μ.2.1.1
      have h1 : onL (fun p => cG1 t P S G p fee) f (a + 1) (mnI x1 (cG1 t P S G a fee)) = Z1 := h1
      have h2 : twL (fun a b => cG2 t P S G a b fee) N f (a + 1) (twI (fun a b => cG2 t P S G a b fee) a (N - a) a x2) = Z2 := h2
      iterate 3 refine hK _ _ _ _ _ ?_
      show K _ _ _ _ _
      rw [show μ 34 0 3 = nI 36 from m3_μ]
      show K _ _ _ _ _
      rw [show (nI 36).toNatClampNeg = 36 from rfl]
      iterate 2 refine hK _ _ _ _ _ ?_
      show K _ _ _ _ _
      rw [show μ 37 0 0 = nI N from m1_μ]
      refine hK _ _ _ _ _ ?_
      refine And.intro (fun h9 => absurd ((nI_leI (by omega) (by omega)).mp h9) (by omega)) (fun _ => ?_)
      iterate 5 refine hK _ _ _ _ _ ?_
      refine Or.inr (Or.inl (yD0 (c8_costWithGuide_36 _ μ t (uG1 t G a fee) N P S G h_μ a fee (uG_1 hT h.2.2.1 (a := a) (by omega) hfee).1 (uG_1 hT h.2.2.1 (a := a) (by omega) hfee).2.1 (uG_1 hT h.2.2.1 (a := a) (by omega) hfee).2.2) ?_))
      rintro r x ⟨rfl, hG_x, hf_x0⟩
      have hf_x : FR σ x := fun i hi => (hf_x0 i hi).trans (hf_μ i hi)
      generalize hZ3 : twI (fun a b => cG2 t P S G a b fee) a (N - a) a x2 = Z3 at h2
      iterate 4 refine hK _ _ _ _ _ ?_
      have L60 : ∀ (f2 : Nat) (b : Nat) (ν : sMem) (x3 : Int32), b + f2 = N → FR σ ν → twI (fun a b => cG2 t P S G a b fee) a f2 b x3 = Z3 → K 0 60 [some (aR 34), some (aI (nI fee)), some (aI (nI w)), some (aI (cFi t P S G)), some (aI (mnI x1 (cG1 t P S G a fee))), some (aI (x3)), some (aI (nI a)), some (aI (nI b))] [] ν := by
        intro f2
        induction f2 with
        | zero =>
          intro b ν x3 hb hf_ν h3
          have h_ν := h.cg (Or.inl rfl) hf_ν
          have m3_ν := h_ν.1
          have m1_ν := h_ν.2.1.1
          have e3 : x3 = Z3 := h3
          subst e3
          iterate 3 refine hK _ _ _ _ _ ?_
          show K _ _ _ _ _
          rw [show ν 34 0 3 = nI 36 from m3_ν]
          show K _ _ _ _ _
          rw [show (nI 36).toNatClampNeg = 36 from rfl]
          iterate 2 refine hK _ _ _ _ _ ?_
          show K _ _ _ _ _
          rw [show ν 37 0 0 = nI N from m1_ν]
          refine hK _ _ _ _ _ ?_
          refine And.intro (fun _ => ?_) (fun h9 => absurd ((nI_leI (by omega) (by omega)).mpr (by omega)) h9)
          refine hK _ _ _ _ _ ?_
          show K _ _ _ _ _
          rw [show nI a + Int32.ofInt 1 = nI (a + 1) from nIs _]
          refine hK _ _ _ _ _ ?_
          exact ih (a + 1) ν _ x3 _ (by omega) hf_ν h1 h2
        | succ f2 ih2 =>
          intro b ν x3 hb hf_ν h3
          have h_ν := h.cg (Or.inl rfl) hf_ν
          have m3_ν := h_ν.1
          have m1_ν := h_ν.2.1.1
          have h3 : twI (fun a b => cG2 t P S G a b fee) a f2 (b + 1) (mnI x3 (cG2 t P S G a b fee)) = Z3 := h3
          iterate 3 refine hK _ _ _ _ _ ?_
          show K _ _ _ _ _
          rw [show ν 34 0 3 = nI 36 from m3_ν]
          show K _ _ _ _ _
          rw [show (nI 36).toNatClampNeg = 36 from rfl]
          iterate 2 refine hK _ _ _ _ _ ?_
          show K _ _ _ _ _
          rw [show ν 37 0 0 = nI N from m1_ν]
          refine hK _ _ _ _ _ ?_
          refine And.intro (fun h9 => absurd ((nI_leI (by omega) (by omega)).mp h9) (by omega)) (fun _ => ?_)
          iterate 6 refine hK _ _ _ _ _ ?_
          refine Or.inr (Or.inl (yD0 (c8_costWithTwoGuides_36 _ ν t (uG2 t G a b fee) N P S G h_ν a b fee (uG_2 hT h.2.2.1 (a := a) (b := b) (by omega) (by omega) hfee).1 (uG_2 hT h.2.2.1 (a := a) (b := b) (by omega) (by omega) hfee).2.1 (uG_2 hT h.2.2.1 (a := a) (b := b) (by omega) (by omega) hfee).2.2.1 (uG_2 hT h.2.2.1 (a := a) (b := b) (by omega) (by omega) hfee).2.2.2.1 (uG_2 hT h.2.2.1 (a := a) (b := b) (by omega) (by omega) hfee).2.2.2.2) ?_))
          rintro r z ⟨rfl, hG_z, hf_z0⟩
          iterate 3 refine hK _ _ _ _ _ ?_
          show K _ _ _ _ _
          rw [show nI b + Int32.ofInt 1 = nI (b + 1) from nIs _]
          refine hK _ _ _ _ _ ?_
          exact ih2 (b + 1) z _ (by omega) (fun i hi => (hf_z0 i hi).trans (hf_ν i hi)) h3
      exact L60 (N - a) a x x2 (by omega) hf_x hZ3
  exact L27 N 0 y _ _ none (by omega) hf_y hZ1 hZ2
theorem c8_mean_54_x0 (d : Nat) (σ t : sMem) (N P S G : Nat) (h : HR σ t 54 N P S G) (sd w : Int32) (h0 : ¬ (1 ≤ w ∧ w ≤ 99)) : yMet l D0 b0 ty ad av lay (d + 7) 1 mX8_mean [aR 34, aI (sd), aI (w)] σ (fun _ _ => False) (fun e σ' => e = yIAE ∧ σ' = σ) := by
  refine yMet_intro lay_nd kX8_mean xX8_ok (yYX8_mean_ok) (by decide +kernel) rfl ?_
  intro K hK
  iterate 3 refine hK _ _ _ _ _ ?_
  refine And.intro (fun h9 => ?_) (fun h9 => ?_)
  · refine hK _ _ _ _ _ ?_
    exact ⟨0, rfl, rfl, rfl⟩
  · iterate 3 refine hK _ _ _ _ _ ?_
    refine And.intro (fun h8 => absurd ⟨Int32.not_lt.mp h9, h8⟩ h0) (fun _ => ?_)
    refine hK _ _ _ _ _ ?_
    exact ⟨0, rfl, rfl, rfl⟩
theorem c8_mean_54_ok (d : Nat) (σ t : sMem) (N P S G : Nat) (h : HR σ t 54 N P S G) (hT : HT t) (sd : Int32) (n : Nat) (hn1 : 1 ≤ n) (hn : n ≤ 99) : yMet l D0 b0 ty ad av lay (d + 7) 0 mX8_mean [aR 34, aI (sd), aI (nI n)] σ (fun r σ' => r = [aI ((smL (fun k => cLo t P S G (sd + nI k)) n / (nI n).toInt64).toInt32)] ∧ FR σ σ') (fun _ _ => False) := by
  refine yMet_intro lay_nd kX8_mean xX8_ok (yYX8_mean_ok) (by decide +kernel) rfl ?_
  intro K hK
  have hN := h.2.2.1.1.1.1.1
  have hP := h.2.2.1.1.1.2.2.2.1.2
  have hS8 := h.2.2.1.1.1.2.2.2.2.1.2
  iterate 3 refine hK _ _ _ _ _ ?_
  refine And.intro (fun h9 => absurd ((nI_ltI (b := 1) (by omega) (by decide)).mp h9) (by omega)) (fun _ => ?_)
  iterate 3 refine hK _ _ _ _ _ ?_
  refine And.intro (fun _ => ?_) (fun h9 => absurd ((nI_leI (b := 99) (by omega) (by decide)).mpr hn) h9)
  iterate 4 refine hK _ _ _ _ _ ?_
  have L : ∀ (f : Nat) (k : Nat) (μ : sMem), k + f = n → FR σ μ → K 0 27 [some (aR 34), some (aI (sd)), some (aI (nI n)), some (aL (smL (fun k => cLo t P S G (sd + nI k)) k)), none, some (aI (nI k))] [] μ := by
    intro f
    induction f with
    | zero =>
      intro k μ hk hμ
      have ek : k = n := by omega
      subst ek
      iterate 3 refine hK _ _ _ _ _ ?_
      refine And.intro (fun _ => ?_) (fun h9 => absurd (Int32.le_refl _) h9)
      iterate 4 refine hK _ _ _ _ _ ?_
      refine And.intro (hne k hn1 (by omega)) ?_
      iterate 2 refine hK _ _ _ _ _ ?_
      exact ⟨rfl, hμ⟩
    | succ f ih =>
      intro k μ hk hμ
      have hm := h.cg (Or.inr rfl) hμ
      iterate 3 refine hK _ _ _ _ _ ?_
      refine And.intro (fun h9 => absurd ((nI_leI (by omega) (by omega)).mp h9) (by omega)) (fun _ => ?_)
      iterate 6 refine hK _ _ _ _ _ ?_
      have e30 : uP (tLo t (sd + nI k)) 0 0 30 = sd + nI k := by unfold uP tLo; rw [sUp_k (by decide), sUp_at]
      refine Or.inr (Or.inl (yD0 ((e30 ▸ c8_goThroughByLots_54 _ μ t (uP (tLo t (sd + nI k))) N P S G hm 0 (by omega) (by unfold uP tLo; rw [sUp_off (by decide), sUp_off (by decide), sUp_off (by decide)]) (by unfold uP tLo; rw [sUp_k (by decide), sUp_k (by decide), sUp_at]; decide) (uP_l hT h.2.2.1 (sd + nI k)) : yMet l D0 b0 ty ad av lay (d + 6) 0 mX8_goThroughByLots [aR 34, aI (nI 0), aI (sd + nI k)] μ _ _)) ?_))
      rintro r y ⟨rfl, hc, hG, hfr⟩
      iterate 4 refine hK _ _ _ _ _ ?_
      refine Or.inl (calD (c0_cost_54 _ _ _ _ _ N P S G _ hG) ?_)
      rintro r σ' ⟨rfl, hσ⟩
      subst σ'
      iterate 4 refine hK _ _ _ _ _ ?_
      show K _ _ _ _ _
      rw [show nI k + Int32.ofInt 1 = nI (k + 1) from nIs _]
      refine hK _ _ _ _ _ ?_
      exact ih (k + 1) y (by omega) (fun i hi => (hfr i hi).trans (hμ i hi))
  exact L n 0 σ (by omega) (fun _ _ => rfl)
theorem c8_many_54_x0 (d : Nat) (σ t : sMem) (N P S G : Nat) (h : HR σ t 54 N P S G) (x w : Int32) (h0 : ¬ (0 ≤ x ∧ x ≤ 9)) : yMet l D0 b0 ty ad av lay (d + 7) 1 mX8_many [aR 34, aI (x), aI (w)] σ (fun _ _ => False) (fun e σ' => e = yIAE ∧ σ' = σ) := by
  refine yMet_intro lay_nd kX8_many xX8_ok (yY8_ok _) (by decide +kernel) rfl ?_
  intro K hK
  have hN := h.2.2.1.1.1.1.1
  have hP := h.2.2.1.1.1.2.2.2.1.2
  have hS8 := h.2.2.1.1.1.2.2.2.2.1.2
  iterate 2 refine hK _ _ _ _ _ ?_
  refine Or.inr (Or.inr ⟨0, 1, rfl, yDX (c8_checkFee_x _ _ x h0) (fun _ _ h => h.elim) ?_⟩)
  exact fun e σ' h => h
theorem c8_many_54_x1 (d : Nat) (σ t : sMem) (N P S G : Nat) (h : HR σ t 54 N P S G) (x w : Int32) (h0 : 0 ≤ x ∧ x ≤ 9) (h1 : ¬ (0 ≤ w ∧ w ≤ nI 2 - 1)) : yMet l D0 b0 ty ad av lay (d + 7) 1 mX8_many [aR 34, aI (x), aI (w)] σ (fun _ _ => False) (fun e σ' => e = yIAE ∧ σ' = σ) := by
  refine yMet_intro lay_nd kX8_many xX8_ok (yY8_ok _) (by decide +kernel) rfl ?_
  intro K hK
  have hN := h.2.2.1.1.1.1.1
  have hP := h.2.2.1.1.1.2.2.2.1.2
  have hS8 := h.2.2.1.1.1.2.2.2.2.1.2
  iterate 2 refine hK _ _ _ _ _ ?_
  refine Or.inl (calD (c8_checkFee_ok _ _ x h0) ?_)
  rintro r σ' ⟨rfl, hσ⟩
  subst σ'
  iterate 3 refine hK _ _ _ _ _ ?_
  refine Or.inr (Or.inr ⟨0, 1, rfl, yDX (c8_checkBelow_x _ _ 2 (by decide) w h1) (fun _ _ h => h.elim) ?_⟩)
  exact fun e σ' h => h
set_option maxHeartbeats 1000000 in
theorem c8_many_54_ok (d : Nat) (σ t : sMem) (N P S G : Nat) (h : HR σ t 54 N P S G) (hT : HT t) (fee w : Nat) (hfee : fee ≤ 9) (hw : w ≤ 1) : yMet l D0 b0 ty ad av lay (d + 7) 0 mX8_many [aR 34, aI (nI fee), aI (nI w)] σ (fun r σ' => r = [aI (mnC (nI w) (cFi t P S G) (onL (fun p => cG1 t P S G p fee) N 0 2000000000) (twL (fun a b => cG2 t P S G a b fee) N N 0 2000000000))] ∧ FR σ σ') (fun _ _ => False) := by
  refine yMet_intro lay_nd kX8_many xX8_ok (yY8_ok _) (by decide +kernel) rfl ?_
  intro K hK
  have hN := h.2.2.1.1.1.1.1
  have hP := h.2.2.1.1.1.2.2.2.1.2
  have hS8 := h.2.2.1.1.1.2.2.2.2.1.2
  iterate 2 refine hK _ _ _ _ _ ?_
  refine Or.inl (calD (c8_checkFee_ok _ _ (nI fee) (nI_isIn (n := 10) (by decide) (by omega))) ?_)
  rintro r σ' ⟨rfl, hσ⟩
  subst σ'
  iterate 3 refine hK _ _ _ _ _ ?_
  refine Or.inl (calD (c8_checkBelow_ok _ _ 2 (by decide) (nI w) (nI_isIn (n := 2) (by decide) (by omega))) ?_)
  rintro r σ' ⟨rfl, hσ⟩
  subst σ'
  iterate 2 refine hK _ _ _ _ _ ?_
  refine Or.inr (Or.inl (yD0 (c8_costByFirst_54 _ σ t (uP t) N P S G h (uP_0 hT h.2.2.1)) ?_))
  rintro r y ⟨rfl, hG_y, hf_y⟩
  generalize hZ1 : onL (fun p => cG1 t P S G p fee) N 0 2000000000 = Z1 at hK
  generalize hZ2 : twL (fun a b => cG2 t P S G a b fee) N N 0 2000000000 = Z2 at hK
  iterate 7 refine hK _ _ _ _ _ ?_
  have L27 : ∀ (f : Nat) (a : Nat) (μ : sMem) (x1 x2 : Int32) (e7 : Option AV), a + f = N → FR σ μ → onL (fun p => cG1 t P S G p fee) f a x1 = Z1 → twL (fun a b => cG2 t P S G a b fee) N f a x2 = Z2 → K 0 27 [some (aR 34), some (aI (nI fee)), some (aI (nI w)), some (aI (cFi t P S G)), some (aI (x1)), some (aI (x2)), some (aI (nI a)), e7] [] μ := by
    intro f
    induction f with
    | zero =>
      intro a μ x1 x2 e7 ha hf_μ h1 h2
      have h_μ := h.cg (Or.inr rfl) hf_μ
      have m3_μ := h_μ.1
      have m1_μ := h_μ.2.1.1
      have e1 : x1 = Z1 := h1
      have e2 : x2 = Z2 := h2
      subst e1 e2
      iterate 3 refine hK _ _ _ _ _ ?_
      show K _ _ _ _ _
      rw [show μ 34 0 3 = nI 54 from m3_μ]
      show K _ _ _ _ _
      rw [show (nI 54).toNatClampNeg = 54 from rfl]
      iterate 2 refine hK _ _ _ _ _ ?_
      show K _ _ _ _ _
      rw [show μ 55 0 0 = nI N from m1_μ]
      refine hK _ _ _ _ _ ?_
      refine And.intro (fun _ => ?_) (fun h9 => absurd ((nI_leI (by omega) (by omega)).mpr (by omega)) h9)
      iterate 9 refine hK _ _ _ _ _ ?_
      refine And.intro (fun h8 => ?_) (fun h8 => ?_)
      · have hw1 : ¬ nI w = 1 := h8
        iterate 3 refine hK _ _ _ _ _ ?_
        refine And.intro (fun h7 => ?_) (fun h7 => ?_)
        · iterate 3 refine hK _ _ _ _ _ ?_
          refine And.intro (fun h6 => ?_) (fun h6 => ?_)
          · iterate 2 refine hK _ _ _ _ _ ?_
            exact ⟨by unfold mnC; rw [if_neg hw1, if_neg h7, if_neg h6]; rfl, hf_μ⟩
          · iterate 3 refine hK _ _ _ _ _ ?_
            exact ⟨by unfold mnC; rw [if_neg hw1, if_neg h7, if_pos h6]; rfl, hf_μ⟩
        · iterate 3 refine hK _ _ _ _ _ ?_
          exact ⟨by unfold mnC; rw [if_neg hw1, if_pos h7]; rfl, hf_μ⟩
      · have hw1 : nI w = 1 := h8
        iterate 2 refine hK _ _ _ _ _ ?_
        exact ⟨by unfold mnC; rw [if_pos hw1], hf_μ⟩
    | succ f ih =>
      intro a μ x1 x2 e7 ha hf_μ h1 h2
      have h_μ := h.cg (Or.inr rfl) hf_μ
      have m3_μ := h_μ.1
      have m1_μ := h_μ.2.1.1
      have h1 : onL (fun p => cG1 t P S G p fee) f (a + 1) (mnI x1 (cG1 t P S G a fee)) = Z1 := h1
      have h2 : twL (fun a b => cG2 t P S G a b fee) N f (a + 1) (twI (fun a b => cG2 t P S G a b fee) a (N - a) a x2) = Z2 := h2
      iterate 3 refine hK _ _ _ _ _ ?_
      show K _ _ _ _ _
      rw [show μ 34 0 3 = nI 54 from m3_μ]
      show K _ _ _ _ _
      rw [show (nI 54).toNatClampNeg = 54 from rfl]
      iterate 2 refine hK _ _ _ _ _ ?_
      show K _ _ _ _ _
      rw [show μ 55 0 0 = nI N from m1_μ]
      refine hK _ _ _ _ _ ?_
      refine And.intro (fun h9 => absurd ((nI_leI (by omega) (by omega)).mp h9) (by omega)) (fun _ => ?_)
      iterate 5 refine hK _ _ _ _ _ ?_
      refine Or.inr (Or.inl (yD0 (c8_costWithGuide_54 _ μ t (uG1 t G a fee) N P S G h_μ a fee (uG_1 hT h.2.2.1 (a := a) (by omega) hfee).1 (uG_1 hT h.2.2.1 (a := a) (by omega) hfee).2.1 (uG_1 hT h.2.2.1 (a := a) (by omega) hfee).2.2) ?_))
      rintro r x ⟨rfl, hG_x, hf_x0⟩
      have hf_x : FR σ x := fun i hi => (hf_x0 i hi).trans (hf_μ i hi)
      generalize hZ3 : twI (fun a b => cG2 t P S G a b fee) a (N - a) a x2 = Z3 at h2
      iterate 4 refine hK _ _ _ _ _ ?_
      have L60 : ∀ (f2 : Nat) (b : Nat) (ν : sMem) (x3 : Int32), b + f2 = N → FR σ ν → twI (fun a b => cG2 t P S G a b fee) a f2 b x3 = Z3 → K 0 60 [some (aR 34), some (aI (nI fee)), some (aI (nI w)), some (aI (cFi t P S G)), some (aI (mnI x1 (cG1 t P S G a fee))), some (aI (x3)), some (aI (nI a)), some (aI (nI b))] [] ν := by
        intro f2
        induction f2 with
        | zero =>
          intro b ν x3 hb hf_ν h3
          have h_ν := h.cg (Or.inr rfl) hf_ν
          have m3_ν := h_ν.1
          have m1_ν := h_ν.2.1.1
          have e3 : x3 = Z3 := h3
          subst e3
          iterate 3 refine hK _ _ _ _ _ ?_
          show K _ _ _ _ _
          rw [show ν 34 0 3 = nI 54 from m3_ν]
          show K _ _ _ _ _
          rw [show (nI 54).toNatClampNeg = 54 from rfl]
          iterate 2 refine hK _ _ _ _ _ ?_
          show K _ _ _ _ _
          rw [show ν 55 0 0 = nI N from m1_ν]
          refine hK _ _ _ _ _ ?_
          refine And.intro (fun _ => ?_) (fun h9 => absurd ((nI_leI (by omega) (by omega)).mpr (by omega)) h9)
          refine hK _ _ _ _ _ ?_
          show K _ _ _ _ _
          rw [show nI a + Int32.ofInt 1 = nI (a + 1) from nIs _]
          refine hK _ _ _ _ _ ?_
          exact ih (a + 1) ν _ x3 _ (by omega) hf_ν h1 h2
        | succ f2 ih2 =>
          intro b ν x3 hb hf_ν h3
          have h_ν := h.cg (Or.inr rfl) hf_ν
          have m3_ν := h_ν.1
          have m1_ν := h_ν.2.1.1
          have h3 : twI (fun a b => cG2 t P S G a b fee) a f2 (b + 1) (mnI x3 (cG2 t P S G a b fee)) = Z3 := h3
          iterate 3 refine hK _ _ _ _ _ ?_
          show K _ _ _ _ _
          rw [show ν 34 0 3 = nI 54 from m3_ν]
          show K _ _ _ _ _
          rw [show (nI 54).toNatClampNeg = 54 from rfl]
          iterate 2 refine hK _ _ _ _ _ ?_
          show K _ _ _ _ _
          rw [show ν 55 0 0 = nI N from m1_ν]
          refine hK _ _ _ _ _ ?_
          refine And.intro (fun h9 => absurd ((nI_leI (by omega) (by omega)).mp h9) (by omega)) (fun _ => ?_)
          iterate 6 refine hK _ _ _ _ _ ?_
          refine Or.inr (Or.inl (yD0 (c8_costWithTwoGuides_54 _ ν t (uG2 t G a b fee) N P S G h_ν a b fee (uG_2 hT h.2.2.1 (a := a) (b := b) (by omega) (by omega) hfee).1 (uG_2 hT h.2.2.1 (a := a) (b := b) (by omega) (by omega) hfee).2.1 (uG_2 hT h.2.2.1 (a := a) (b := b) (by omega) (by omega) hfee).2.2.1 (uG_2 hT h.2.2.1 (a := a) (b := b) (by omega) (by omega) hfee).2.2.2.1 (uG_2 hT h.2.2.1 (a := a) (b := b) (by omega) (by omega) hfee).2.2.2.2) ?_))
          rintro r z ⟨rfl, hG_z, hf_z0⟩
          iterate 3 refine hK _ _ _ _ _ ?_
          show K _ _ _ _ _
          rw [show nI b + Int32.ofInt 1 = nI (b + 1) from nIs _]
          refine hK _ _ _ _ _ ?_
          exact ih2 (b + 1) z _ (by omega) (fun i hi => (hf_z0 i hi).trans (hf_ν i hi)) h3
      exact L60 (N - a) a x x2 (by omega) hf_x hZ3
  exact L27 N 0 y _ _ none (by omega) hf_y hZ1 hZ2
end
