/-! THE CLASS: Pairing: bound, match, matched -/
def bdC (o b : Option Nat) : Option Nat := match o with
  | none => b
  | some k => match b with
    | none => some k
    | some m => if k < m then some k else some m
def bdF (L : Nat → Option Nat) : Nat → Option Nat
  | 0 => none
  | p + 1 => bdC (L p) (bdF L p)
def bdT (L : Nat → Nat → Option Nat) (P : Nat) : Nat → Nat
  | 0 => 0
  | s + 1 => bdT L P s + (bdF (L s) P).getD 0
theorem bdC_le {o b : Option Nat} (ho : ∀ k, o = some k → k ≤ 200000) (hb9 : ∀ k, b = some k → k ≤ 200000) : ∀ k, bdC o b = some k → k ≤ 200000 := by
  intro k h
  cases o with
  | none => exact hb9 k h
  | some j =>
    cases b with
    | none => exact ho k h
    | some m =>
      have e : (if j < m then some j else some m) = some k := h
      split at e
      · exact ho k e
      · exact hb9 k e
theorem bdF_le {L : Nat → Option Nat} {P : Nat} (hL : ∀ p k, p < P → L p = some k → k ≤ 200000) : ∀ p, p ≤ P → ∀ k, bdF L p = some k → k ≤ 200000
  | 0, _, _, h => by cases h
  | p + 1, hp, k, h => bdC_le (fun k hk => hL p k (by omega) hk) (bdF_le hL p (by omega)) k h
theorem oF_bdC {o b : Option Nat} (ho : ∀ k, o = some k → k ≤ 200000) (hb9 : ∀ k, b = some k → k ≤ 200000) : (if oF o < oF b then oF o else oF b) = oF (bdC o b) := by
  cases o with
  | none =>
    cases b with
    | none => exact if_neg (fun h => Int32.lt_irrefl h)
    | some m =>
      have := hb9 m rfl
      exact if_neg (fun h => by have := (nI_ltI (a := 1000000) (b := m) (by decide) (by omega)).mp h; omega)
  | some k =>
    have h1 := ho k rfl
    cases b with
    | none => exact if_pos ((nI_ltI (a := k) (b := 1000000) (by omega) (by decide)).mpr (by omega))
    | some m =>
      have h2 := hb9 m rfl
      show (if nI k < nI m then nI k else nI m) = oF (if k < m then some k else some m)
      by_cases h : k < m
      · rw [if_pos h, if_pos ((nI_ltI (by omega) (by omega)).mpr h)]; rfl
      · rw [if_neg h, if_neg (fun q => h ((nI_ltI (by omega) (by omega)).mp q))]; rfl
theorem bdI_eq {t : sMem} {N P S : Nat} (hm : MC t N P S) {s : Nat} (hs : s < S) : ∀ p, p ≤ P → bdI t s p = oF (bdF (lsO t s) p)
  | 0, _ => rfl
  | p + 1, hp => by
    show (if lsB t p s < bdI t s p then lsB t p s else bdI t s p) = oF (bdC (lsO t s p) (bdF (lsO t s) p))
    rw [lsB_lsO hm hs (by omega), bdI_eq hm hs p (by omega)]
    exact oF_bdC (fun k hk => lsO_le hm hs (by omega) hk) (bdF_le (fun p k hp hk => lsO_le hm hs hp hk) p (by omega))
theorem bdS_eq {t : sMem} {N P S : Nat} (hm : MC t N P S) : ∀ s, s ≤ S → bdS t P s = nI (bdT (lsO t) P s)
  | 0, _ => rfl
  | s + 1, hs => by
    show bdS t P s + (if bdI t s P = 1000000 then 0 else bdI t s P) = nI (bdT (lsO t) P s + (bdF (lsO t s) P).getD 0)
    rw [bdS_eq hm s (by omega), bdI_eq hm (by omega) P (Nat.le_refl _), ← nIa]
    congr 1
    have hle := bdF_le (fun p k hp hk => lsO_le hm (show s < S by omega) hp hk) P (Nat.le_refl _)
    cases hb9 : bdF (lsO t s) P with
    | none => rfl
    | some k =>
      have := oF_ne (o := some k) (by rw [← hb9]; exact hle)
      rw [if_neg (fun e => by cases this.mp e)]
      rfl
theorem lsO_cg {t u : sMem} (h6 : u 6 = t 6) (h8 : u 8 = t 8) (h14 : u 14 = t 14) : lsO u = lsO t := by
  funext s p
  unfold lsO lcB lsN fN pP pQ pV sX sY
  rw [h6, h8, h14]
theorem lsB_cg {t u : sMem} (h6 : u 6 = t 6) (h8 : u 8 = t 8) (h14 : u 14 = t 14) (p s : Nat) : lsB u p s = lsB t p s := by
  unfold lsB
  rw [h6, h8, h14]
theorem x0 (x : Int32) : x + Int32.ofInt 0 = x := Int32.add_zero x
theorem x1 (x : Int32) : x + Int32.ofInt (-1) = x - Int32.ofInt 1 := by
  rw [Int32.sub_eq_add_neg]; rfl
section
variable {l : Launch} {D0 : va_G} {b0 : Nat} {ty : Nat → ClassId} {ad av : Nat → Nat}
theorem c3_valueWith (d : Nat) (σ : sMem) (s p T k f : Nat) (q : Nat × Nat) (hs : s < 8) (hp : p < 10) (hT : T < 1024) (hk : k ≤ 200000) (hq : mOK f q) (e1 : σ 92 s p = nI k) (e2 : σ 91 (s + 1) (T ||| 2 ^ p) = nI (mEn q)) : sMet l D0 b0 ty lay d mX3_valueWith [aR 90, aI (nI s), aI (nI p), aI (nI T)] σ (fun r σ' => r = [aI (nI (mEn (1 + q.1, k + q.2)))] ∧ σ' = σ) := by
  refine sMet_intro lay_nd kX3_valueWith xX3_ok (by decide +kernel) rfl ?_
  intro K hK
  have hO : T ||| 2 ^ p < 1024 := or_lt (P := 10) hT hp
  iterate 5 refine hK _ _ _ _ ?_
  refine And.intro (vp_in_nI (n := s) (by omega) (by decide)) ?_
  rw [nI_clamp (show s < 2 ^ 31 by omega)]
  iterate 2 refine hK _ _ _ _ ?_
  refine And.intro (by first | omega | (rw [nI_clamp (by omega)]; omega)) (And.intro (vp_in_nI (n := p) (by omega) (by decide)) ?_)
  rw [nI_clamp (show p < 2 ^ 31 by omega)]
  rw [show σ 92 s p = nI k from e1]
  iterate 6 refine hK _ _ _ _ ?_
  show K _ _ _ _
  rw [show nI s + Int32.ofInt 1 = nI (s + 1) from nIs _]
  refine hK _ _ _ _ ?_
  refine And.intro (vp_in_nI (n := (s + 1)) (by omega) (by decide)) ?_
  rw [nI_clamp (show (s + 1) < 2 ^ 31 by omega)]
  iterate 5 refine hK _ _ _ _ ?_
  show K _ _ _ _
  rw [show nI T ||| (Int32.ofInt 1 <<< (nI p &&& 31)) = nI (T ||| 2 ^ p) from nI_orp _ _ (by omega)]
  refine hK _ _ _ _ ?_
  refine And.intro (by first | omega | (rw [nI_clamp (by omega)]; omega)) (And.intro (vp_in_nI (n := (T ||| 2 ^ p)) (by omega) (by decide)) ?_)
  rw [nI_clamp (show (T ||| 2 ^ p) < 2 ^ 31 by omega)]
  rw [show σ 91 (s + 1) (T ||| 2 ^ p) = nI (mEn q) from e2]
  iterate 2 refine hK _ _ _ _ ?_
  exact ⟨by rw [mEn_v hk hq], rfl⟩
theorem c3_leastTogether_36 (d : Nat) (σ t : sMem) (N P S G : Nat) (hC : CT σ t 36 N P S G) (hM : MI t N P S G) : yMet l D0 b0 ty ad av lay (d + 4) 0 mX3_leastTogether [aR 90, aR 36] σ (fun r σ' => r = [aI (nI (bdT (lsO t) P S))] ∧ ∀ i, i ≠ 92 → σ' i = σ i) (fun _ _ => False) := by
  refine yMet_intro lay_nd kX3_leastTogether xX3_ok (yY3_ok _) (by decide +kernel) rfl ?_
  intro K hK
  have hm := MC_of hM
  have hN := hm.1.1.1
  have hP := hm.2.2.1
  have hS8 := hm.2.2.2.1
  have hLk : ∀ s p k, s < S → p < P → lsO t s p = some k → k ≤ 200000 := fun s p k hs hp hk => lsO_le hm hs hp hk
  iterate 3 refine hK _ _ _ _ _ ?_
  refine Or.inr (Or.inl (yD0 (c3_findLosses_36 _ σ t N P S G hC hM) ?_))
  rintro r μ ⟨rfl, hf, hl⟩
  show K 0 5 [some (aR 90), some (aR 36), none, none, none, none] [] μ
  have s7 : μ 36 0 7 = nI S := (by rw [hf 36 (by decide)]; exact hC.2.2.1)
  have s1 : μ 36 0 1 = nI P := (by rw [hf 36 (by decide)]; exact hC.2.1)
  iterate 4 refine hK _ _ _ _ _ ?_
  have L9 : ∀ (f : Nat) (s : Nat) (y : Int32) (e4 e5 : Option AV), s + f = S → y = nI (bdT (lsO t) P s) → K 0 9 [some (aR 90), some (aR 36), some (aI (y)), some (aI (nI s)), e4, e5] [] μ := by
    intro f
    induction f with
    | zero =>
      intro s y e4 e5 hs hy
      iterate 3 refine hK _ _ _ _ _ ?_
      show K _ _ _ _ _
      rw [show μ 36 0 7 = nI S from s7]
      refine hK _ _ _ _ _ ?_
      refine And.intro (fun _ => ?_) (fun h9 => absurd ((nI_leI (by omega) (by omega)).mpr (by omega)) h9)
      iterate 2 refine hK _ _ _ _ _ ?_
      exact ⟨by rw [hy, show s = S by omega], hf⟩
    | succ f ih =>
      intro s y e4 e5 hs hy
      iterate 3 refine hK _ _ _ _ _ ?_
      show K _ _ _ _ _
      rw [show μ 36 0 7 = nI S from s7]
      refine hK _ _ _ _ _ ?_
      refine And.intro (fun h9 => absurd ((nI_leI (by omega) (by omega)).mp h9) (by omega)) (fun _ => ?_)
      iterate 4 refine hK _ _ _ _ _ ?_
      have L23 : ∀ (f2 : Nat) (p : Nat) (x : Option Nat), p + f2 = P → x = bdF (lsO t s) p → K 0 23 [some (aR 90), some (aR 36), some (aI (y)), some (aI (nI s)), some (aI (oI x)), some (aI (nI p))] [] μ := by
        intro f2
        induction f2 with
        | zero =>
          intro p x hp hx
          iterate 3 refine hK _ _ _ _ _ ?_
          show K _ _ _ _ _
          rw [show μ 36 0 1 = nI P from s1]
          refine hK _ _ _ _ _ ?_
          refine And.intro (fun _ => ?_) (fun h9 => absurd ((nI_leI (by omega) (by omega)).mpr (by omega)) h9)
          iterate 4 refine hK _ _ _ _ _ ?_
          have ep : p = P := by omega
          rw [ep] at hx
          have hle := bdF_le (fun p k hp hk => hLk s p k (by omega) hp hk) P (Nat.le_refl _)
          rw [← hx] at hle
          have hg : bdT (lsO t) P (s + 1) = bdT (lsO t) P s + x.getD 0 := by rw [hx]; rfl
          rcases x with _ | m
          · refine And.intro (fun h9 => absurd rfl h9) (fun _ => ?_)
            iterate 5 refine hK _ _ _ _ _ ?_
            show K _ _ _ _ _
            rw [show nI s + Int32.ofInt 1 = nI (s + 1) from nIs _]
            refine hK _ _ _ _ _ ?_
            exact ih (s + 1) _ _ _ (by omega) (by rw [hg, hy]; exact x0 _)
          · have hm9 := hle m rfl
            refine And.intro (fun _ => ?_) (fun h9 => absurd h9 (nI_ne (by omega)))
            iterate 4 refine hK _ _ _ _ _ ?_
            show K _ _ _ _ _
            rw [show nI s + Int32.ofInt 1 = nI (s + 1) from nIs _]
            refine hK _ _ _ _ _ ?_
            exact ih (s + 1) _ _ _ (by omega) (by rw [hg, hy]; exact nIa _ _)
        | succ f2 ih2 =>
          intro p x hp hx
          have hxp : ∀ k, x = some k → k ≤ 200000 := by rw [hx]; exact bdF_le (fun p k hp hk => hLk s p k (by omega) hp hk) p (by omega)
          have hb1 : bdF (lsO t s) (p + 1) = bdC (lsO t s p) x := by rw [hx]; rfl
          have hlp := hl s p (by omega) (by omega)
          iterate 3 refine hK _ _ _ _ _ ?_
          show K _ _ _ _ _
          rw [show μ 36 0 1 = nI P from s1]
          refine hK _ _ _ _ _ ?_
          refine And.intro (fun h9 => absurd ((nI_leI (by omega) (by omega)).mp h9) (by omega)) (fun _ => ?_)
          rcases ho : lsO t s p with _ | k
          · rw [ho] at hlp hb1
            iterate 4 refine hK _ _ _ _ _ ?_
            refine And.intro (vp_in_nI (n := s) (by omega) (by decide)) ?_
            rw [nI_clamp (show s < 2 ^ 31 by omega)]
            iterate 2 refine hK _ _ _ _ _ ?_
            refine And.intro (by first | omega | (rw [nI_clamp (by omega)]; omega)) (And.intro (vp_in_nI (n := p) (by omega) (by decide)) ?_)
            rw [nI_clamp (show p < 2 ^ 31 by omega)]
            rw [show μ 92 s p = -1 from hlp]
            iterate 2 refine hK _ _ _ _ _ ?_
            refine And.intro (fun _ => ?_) (fun h9 => absurd rfl h9)
            refine hK _ _ _ _ _ ?_
            show K _ _ _ _ _
            rw [show nI p + Int32.ofInt 1 = nI (p + 1) from nIs _]
            refine hK _ _ _ _ _ ?_
            exact ih2 (p + 1) x (by omega) hb1.symm
          · have hk := hLk s p k (by omega) (by omega) ho
            rw [ho] at hlp hb1
            iterate 4 refine hK _ _ _ _ _ ?_
            refine And.intro (vp_in_nI (n := s) (by omega) (by decide)) ?_
            rw [nI_clamp (show s < 2 ^ 31 by omega)]
            iterate 2 refine hK _ _ _ _ _ ?_
            refine And.intro (by first | omega | (rw [nI_clamp (by omega)]; omega)) (And.intro (vp_in_nI (n := p) (by omega) (by decide)) ?_)
            rw [nI_clamp (show p < 2 ^ 31 by omega)]
            rw [show μ 92 s p = nI k from hlp]
            iterate 2 refine hK _ _ _ _ _ ?_
            refine And.intro (fun h9 => absurd h9 (nI_ne (by omega))) (fun _ => ?_)
            iterate 3 refine hK _ _ _ _ _ ?_
            rcases x with _ | m
            · refine And.intro (fun _ => ?_) (fun h9 => absurd rfl h9)
              iterate 4 refine hK _ _ _ _ _ ?_
              refine And.intro (vp_in_nI (n := s) (by omega) (by decide)) ?_
              rw [nI_clamp (show s < 2 ^ 31 by omega)]
              iterate 2 refine hK _ _ _ _ _ ?_
              refine And.intro (by first | omega | (rw [nI_clamp (by omega)]; omega)) (And.intro (vp_in_nI (n := p) (by omega) (by decide)) ?_)
              rw [nI_clamp (show p < 2 ^ 31 by omega)]
              rw [show μ 92 s p = nI k from hlp]
              iterate 2 refine hK _ _ _ _ _ ?_
              show K _ _ _ _ _
              rw [show nI p + Int32.ofInt 1 = nI (p + 1) from nIs _]
              refine hK _ _ _ _ _ ?_
              exact ih2 (p + 1) (some k) (by omega) hb1.symm
            · have hm9 := hxp m rfl
              refine And.intro (fun h9 => absurd h9 (nI_ne (by omega))) (fun _ => ?_)
              iterate 4 refine hK _ _ _ _ _ ?_
              refine And.intro (vp_in_nI (n := s) (by omega) (by decide)) ?_
              rw [nI_clamp (show s < 2 ^ 31 by omega)]
              iterate 2 refine hK _ _ _ _ _ ?_
              refine And.intro (by first | omega | (rw [nI_clamp (by omega)]; omega)) (And.intro (vp_in_nI (n := p) (by omega) (by decide)) ?_)
              rw [nI_clamp (show p < 2 ^ 31 by omega)]
              rw [show μ 92 s p = nI k from hlp]
              iterate 2 refine hK _ _ _ _ _ ?_
              refine And.intro (fun h8 => ?_) (fun h8 => ?_)
              · have hc : ¬ k < m := fun q => absurd ((nI_leI (by omega) (by omega)).mp h8) (by omega)
                have e : bdC (some k) (some m) = some m := if_neg hc
                rw [e] at hb1
                refine hK _ _ _ _ _ ?_
                show K _ _ _ _ _
                rw [show nI p + Int32.ofInt 1 = nI (p + 1) from nIs _]
                refine hK _ _ _ _ _ ?_
                exact ih2 (p + 1) (some m) (by omega) hb1.symm
              · have hc : k < m := Decidable.byContradiction fun q => h8 ((nI_leI (by omega) (by omega)).mpr (by omega))
                have e : bdC (some k) (some m) = some k := if_pos hc
                rw [e] at hb1
                iterate 4 refine hK _ _ _ _ _ ?_
                refine And.intro (vp_in_nI (n := s) (by omega) (by decide)) ?_
                rw [nI_clamp (show s < 2 ^ 31 by omega)]
                iterate 2 refine hK _ _ _ _ _ ?_
                refine And.intro (by first | omega | (rw [nI_clamp (by omega)]; omega)) (And.intro (vp_in_nI (n := p) (by omega) (by decide)) ?_)
                rw [nI_clamp (show p < 2 ^ 31 by omega)]
                rw [show μ 92 s p = nI k from hlp]
                iterate 2 refine hK _ _ _ _ _ ?_
                show K _ _ _ _ _
                rw [show nI p + Int32.ofInt 1 = nI (p + 1) from nIs _]
                refine hK _ _ _ _ _ ?_
                exact ih2 (p + 1) (some k) (by omega) hb1.symm
      exact L23 P 0 none (by omega) rfl
  exact L9 S 0 _ none none (by omega) rfl
theorem c8_bound_36 (d : Nat) (σ t : sMem) (N P S G : Nat) (h : HR σ t 36 N P S G) : yMet l D0 b0 ty ad av lay (d + 5) 0 mX8_bound [aR 34] σ (fun r σ' => r = [aI (nI (bdT (lsO t) P S))] ∧ ∀ i, i ≠ 92 → σ' i = σ i) (fun _ _ => False) := by
  refine yMet_intro lay_nd kX8_bound xX8_ok (yY8_ok _) (by decide +kernel) rfl ?_
  intro K hK
  iterate 4 refine hK _ _ _ _ _ ?_
  show K _ _ _ _ _
  rw [show σ 34 0 3 = nI 36 from h.1]
  show K _ _ _ _ _
  rw [show (nI 36).toNatClampNeg = 36 from rfl]
  refine hK _ _ _ _ _ ?_
  refine Or.inr (Or.inl (yD0 (c3_leastTogether_36 _ σ t N P S G h.2.1 h.2.2.1) ?_))
  rintro r μ ⟨rfl, hf⟩
  show K 0 11 [some (aR 34)] [aI (nI (bdT (lsO t) P S))] μ
  refine hK _ _ _ _ _ ?_
  exact ⟨rfl, hf⟩
theorem c3_bestFrom_36 (d : Nat) (σ t : sMem) (N P S G : Nat) (hC : CT σ t 36 N P S G) (hM : MI t N P S G) (s T : Nat) (hs : s < S) (hT : T < 2 ^ P) (hp9 : pcB T 12 ≤ s) (hl : ∀ s p, s < S → p < P → σ 92 s p = oI (lsO t s p)) (hB : ∀ U, U < 2 ^ P → pcB U 12 ≤ s + 1 → σ 91 (s + 1) U = nI (mEn (mtA (lsO t) P S (s + 1) U))) : yMet l D0 b0 ty ad av lay (d + 4) 0 mX3_bestFrom [aR 90, aR 36, aI (nI s), aI (nI T)] σ (fun r σ' => r = [aI (nI (mEn (mtA (lsO t) P S s T)))] ∧ σ' = σ) (fun _ _ => False) := by
  refine yMet_intro lay_nd kX3_bestFrom xX3_ok (yY3_ok _) (by decide +kernel) rfl ?_
  intro K hK
  have hm := MC_of hM
  have hN := hm.1.1.1
  have hP := hm.2.2.1
  have hS8 := hm.2.2.2.1
  have hLk : ∀ s p k, s < S → p < P → lsO t s p = some k → k ≤ 200000 := fun s p k hs hp hk => lsO_le hm hs hp hk
  have h2P : 2 ^ P ≤ 1024 := Nat.pow_le_pow_right (n := 2) (j := 10) (by decide) hP
  have hQ : ∀ U, mOK (S - (s + 1)) (mtA (lsO t) P S (s + 1) U) := fun U => mtA_ok hLk (s + 1) U
  have s7 : σ 36 0 7 = nI S := hC.2.2.1
  have s1 : σ 36 0 1 = nI P := hC.2.1
  iterate 5 refine hK _ _ _ _ _ ?_
  show K _ _ _ _ _
  rw [show nI s + Int32.ofInt 1 = nI (s + 1) from nIs _]
  refine hK _ _ _ _ _ ?_
  refine And.intro (vp_in_nI (n := (s + 1)) (by omega) (by decide)) ?_
  rw [nI_clamp (show (s + 1) < 2 ^ 31 by omega)]
  iterate 2 refine hK _ _ _ _ _ ?_
  refine And.intro (by first | omega | (rw [nI_clamp (by omega)]; omega)) (And.intro (vp_in_nI (n := T) (by omega) (by decide)) ?_)
  rw [nI_clamp (show T < 2 ^ 31 by omega)]
  rw [show σ 91 (s + 1) T = nI (mEn (mtA (lsO t) P S (s + 1) T)) from hB T hT (by omega)]
  iterate 3 refine hK _ _ _ _ _ ?_
  have L15 : ∀ (f : Nat) (p : Nat) (y : Int32), p + f = P → y = nI (mEn (mtP (lsO t s) (mtA (lsO t) P S (s + 1)) T p)) → K 0 15 [some (aR 90), some (aR 36), some (aI (nI s)), some (aI (nI T)), some (aI (y)), some (aI (nI p))] [] σ := by
    intro f
    induction f with
    | zero =>
      intro p y hp hy
      iterate 3 refine hK _ _ _ _ _ ?_
      show K _ _ _ _ _
      rw [show σ 36 0 1 = nI P from s1]
      refine hK _ _ _ _ _ ?_
      refine And.intro (fun _ => ?_) (fun h9 => absurd ((nI_leI (by omega) (by omega)).mpr (by omega)) h9)
      iterate 2 refine hK _ _ _ _ _ ?_
      exact ⟨by rw [hy, show p = P by omega, mtA_s hs], rfl⟩
    | succ f ih =>
      intro p y hp hy
      have hst : mtP (lsO t s) (mtA (lsO t) P S (s + 1)) T (p + 1) = mtC (lsO t s p) (T.testBit p) (mtA (lsO t) P S (s + 1) (T ||| 2 ^ p)) (mtP (lsO t s) (mtA (lsO t) P S (s + 1)) T p) := rfl
      have hlp := hl s p hs (by omega)
      iterate 3 refine hK _ _ _ _ _ ?_
      show K _ _ _ _ _
      rw [show σ 36 0 1 = nI P from s1]
      refine hK _ _ _ _ _ ?_
      refine And.intro (fun h9 => absurd ((nI_leI (by omega) (by omega)).mp h9) (by omega)) (fun _ => ?_)
      rcases ho : lsO t s p with _ | k
      · rw [ho] at hlp hst
        iterate 4 refine hK _ _ _ _ _ ?_
        refine And.intro (vp_in_nI (n := s) (by omega) (by decide)) ?_
        rw [nI_clamp (show s < 2 ^ 31 by omega)]
        iterate 2 refine hK _ _ _ _ _ ?_
        refine And.intro (by first | omega | (rw [nI_clamp (by omega)]; omega)) (And.intro (vp_in_nI (n := p) (by omega) (by decide)) ?_)
        rw [nI_clamp (show p < 2 ^ 31 by omega)]
        rw [show σ 92 s p = -1 from hlp]
        iterate 2 refine hK _ _ _ _ _ ?_
        refine And.intro (fun _ => ?_) (fun h9 => absurd rfl h9)
        refine hK _ _ _ _ _ ?_
        show K _ _ _ _ _
        rw [show nI p + Int32.ofInt 1 = nI (p + 1) from nIs _]
        refine hK _ _ _ _ _ ?_
        exact ih (p + 1) y (by omega) (by rw [hy, hst]; rfl)
      · have hk := hLk s p k hs (by omega) ho
        rw [ho] at hlp hst
        iterate 4 refine hK _ _ _ _ _ ?_
        refine And.intro (vp_in_nI (n := s) (by omega) (by decide)) ?_
        rw [nI_clamp (show s < 2 ^ 31 by omega)]
        iterate 2 refine hK _ _ _ _ _ ?_
        refine And.intro (by first | omega | (rw [nI_clamp (by omega)]; omega)) (And.intro (vp_in_nI (n := p) (by omega) (by decide)) ?_)
        rw [nI_clamp (show p < 2 ^ 31 by omega)]
        rw [show σ 92 s p = nI k from hlp]
        iterate 2 refine hK _ _ _ _ _ ?_
        refine And.intro (fun h9 => absurd h9 (nI_ne (by omega))) (fun _ => ?_)
        iterate 3 refine hK _ _ _ _ _ ?_
        refine calD (c8_hasBit _ _ _ _) ?_
        rintro r σ' ⟨rfl, hσ⟩
        subst σ'
        show K 0 43 [some (aR 90), some (aR 36), some (aI (nI s)), some (aI (nI T)), some (aI (y)), some (aI (nI p))] [aI (bI (hb (nI T) (nI p)))] σ
        refine hK _ _ _ _ _ ?_
        refine And.intro (fun h8 => ?_) (fun h8 => ?_)
        · have c := bI_t h8
          rw [hb_nI _ _ (by omega)] at c
          rw [c] at hst
          refine hK _ _ _ _ _ ?_
          show K _ _ _ _ _
          rw [show nI p + Int32.ofInt 1 = nI (p + 1) from nIs _]
          refine hK _ _ _ _ _ ?_
          exact ih (p + 1) y (by omega) (by rw [hy, hst]; rfl)
        · have c := bI_f h8
          rw [hb_nI _ _ (by omega)] at c
          rw [c] at hst
          iterate 6 refine hK _ _ _ _ _ ?_
          refine Or.inl (calD (c3_valueWith _ σ s p T k _ (mtA (lsO t) P S (s + 1) (T ||| 2 ^ p)) (by omega) (by omega) (by omega) hk (hQ _) hlp (hB _ (or_lt hT (by omega)) (by have := pcB_or T p 12; split at this <;> omega))) ?_)
          rintro r σ' ⟨rfl, hσ⟩
          subst σ'
          show K 0 56 [some (aR 90), some (aR 36), some (aI (nI s)), some (aI (nI T)), some (aI (y)), some (aI (nI p))] [aI (nI (mEn (1 + (mtA (lsO t) P S (s + 1) (T ||| 2 ^ p)).1, k + (mtA (lsO t) P S (s + 1) (T ||| 2 ^ p)).2))), aI (y)] σ
          iterate 3 refine hK _ _ _ _ _ ?_
          show K _ _ _ _ _
          rw [show nI p + Int32.ofInt 1 = nI (p + 1) from nIs _]
          refine hK _ _ _ _ _ ?_
          exact ih (p + 1) _ (by omega) (by rw [hy, hst]; exact (mtC_en hk (by omega) (hQ _) (mtP_ok (P := P) (fun p k hp hk => hLk s p k hs hp hk) hQ p (by omega))).symm)
  exact L15 P 0 _ (by omega) rfl
theorem c3_firstBest_36 (d : Nat) (σ t : sMem) (N P S G : Nat) (hC : CT σ t 36 N P S G) (hM : MI t N P S G) (s T : Nat) (hs : s < S) (hT : T < 2 ^ P) (hp9 : pcB T 12 ≤ s) (hl : ∀ s p, s < S → p < P → σ 92 s p = oI (lsO t s p)) (hB : ∀ U, U < 2 ^ P → pcB U 12 ≤ s + 1 → σ 91 (s + 1) U = nI (mEn (mtA (lsO t) P S (s + 1) U))) (hb0 : σ 91 s T = nI (mEn (mtA (lsO t) P S s T))) : yMet l D0 b0 ty ad av lay (d + 4) 0 mX3_firstBest [aR 90, aR 36, aI (nI s), aI (nI T)] σ (fun r σ' => r = [aI (oI (mtO (lsO t) P S s T))] ∧ σ' = σ) (fun _ _ => False) := by
  refine yMet_intro lay_nd kX3_firstBest xX3_ok (yY3_ok _) (by decide +kernel) rfl ?_
  intro K hK
  have hm := MC_of hM
  have hN := hm.1.1.1
  have hP := hm.2.2.1
  have hS8 := hm.2.2.2.1
  have hLk : ∀ s p k, s < S → p < P → lsO t s p = some k → k ≤ 200000 := fun s p k hs hp hk => lsO_le hm hs hp hk
  have h2P : 2 ^ P ≤ 1024 := Nat.pow_le_pow_right (n := 2) (j := 10) (by decide) hP
  have hQ : ∀ U, mOK (S - (s + 1)) (mtA (lsO t) P S (s + 1) U) := fun U => mtA_ok hLk (s + 1) U
  generalize hZ0 : oI (mtO (lsO t) P S s T) = Z at hK
  have hZ : oI (mtW (lsO t s) (mtA (lsO t) P S (s + 1)) (mtA (lsO t) P S s T) T P 0) = Z := hZ0
  have s7 : σ 36 0 7 = nI S := hC.2.2.1
  have s1 : σ 36 0 1 = nI P := hC.2.1
  iterate 2 refine hK _ _ _ _ _ ?_
  have L3 : ∀ (f : Nat) (p : Nat), p + f = P → oI (mtW (lsO t s) (mtA (lsO t) P S (s + 1)) (mtA (lsO t) P S s T) T f p) = Z → K 0 3 [some (aR 90), some (aR 36), some (aI (nI s)), some (aI (nI T)), some (aI (nI p))] [] σ := by
    intro f
    induction f with
    | zero =>
      intro p hp hz
      iterate 3 refine hK _ _ _ _ _ ?_
      show K _ _ _ _ _
      rw [show σ 36 0 1 = nI P from s1]
      refine hK _ _ _ _ _ ?_
      refine And.intro (fun _ => ?_) (fun h9 => absurd ((nI_leI (by omega) (by omega)).mpr (by omega)) h9)
      iterate 2 refine hK _ _ _ _ _ ?_
      exact ⟨by rw [← hz]; rfl, rfl⟩
    | succ f ih =>
      intro p hp hz
      have hst : mtW (lsO t s) (mtA (lsO t) P S (s + 1)) (mtA (lsO t) P S s T) T (f + 1) p = if mtT (lsO t s p) (T.testBit p) (mtA (lsO t) P S (s + 1) (T ||| 2 ^ p)) (mtA (lsO t) P S s T) = true then some p else mtW (lsO t s) (mtA (lsO t) P S (s + 1)) (mtA (lsO t) P S s T) T f (p + 1) := rfl
      rw [hst] at hz
      have hlp := hl s p hs (by omega)
      iterate 3 refine hK _ _ _ _ _ ?_
      show K _ _ _ _ _
      rw [show σ 36 0 1 = nI P from s1]
      refine hK _ _ _ _ _ ?_
      refine And.intro (fun h9 => absurd ((nI_leI (by omega) (by omega)).mp h9) (by omega)) (fun _ => ?_)
      rcases ho : lsO t s p with _ | k
      · rw [if_neg (fun h => by obtain ⟨_, h1, _⟩ := mtT_iff.mp h; rw [ho] at h1; cases h1)] at hz
        rw [ho] at hlp
        iterate 4 refine hK _ _ _ _ _ ?_
        refine And.intro (vp_in_nI (n := s) (by omega) (by decide)) ?_
        rw [nI_clamp (show s < 2 ^ 31 by omega)]
        iterate 2 refine hK _ _ _ _ _ ?_
        refine And.intro (by first | omega | (rw [nI_clamp (by omega)]; omega)) (And.intro (vp_in_nI (n := p) (by omega) (by decide)) ?_)
        rw [nI_clamp (show p < 2 ^ 31 by omega)]
        rw [show σ 92 s p = -1 from hlp]
        iterate 2 refine hK _ _ _ _ _ ?_
        refine And.intro (fun _ => ?_) (fun h9 => absurd rfl h9)
        refine hK _ _ _ _ _ ?_
        show K _ _ _ _ _
        rw [show nI p + Int32.ofInt 1 = nI (p + 1) from nIs _]
        refine hK _ _ _ _ _ ?_
        exact ih (p + 1) (by omega) hz
      · have hk := hLk s p k hs (by omega) ho
        rw [ho] at hlp
        iterate 4 refine hK _ _ _ _ _ ?_
        refine And.intro (vp_in_nI (n := s) (by omega) (by decide)) ?_
        rw [nI_clamp (show s < 2 ^ 31 by omega)]
        iterate 2 refine hK _ _ _ _ _ ?_
        refine And.intro (by first | omega | (rw [nI_clamp (by omega)]; omega)) (And.intro (vp_in_nI (n := p) (by omega) (by decide)) ?_)
        rw [nI_clamp (show p < 2 ^ 31 by omega)]
        rw [show σ 92 s p = nI k from hlp]
        iterate 2 refine hK _ _ _ _ _ ?_
        refine And.intro (fun h9 => absurd h9 (nI_ne (by omega))) (fun _ => ?_)
        iterate 3 refine hK _ _ _ _ _ ?_
        refine calD (c8_hasBit _ _ _ _) ?_
        rintro r σ' ⟨rfl, hσ⟩
        subst σ'
        show K 0 31 [some (aR 90), some (aR 36), some (aI (nI s)), some (aI (nI T)), some (aI (nI p))] [aI (bI (hb (nI T) (nI p)))] σ
        refine hK _ _ _ _ _ ?_
        refine And.intro (fun h8 => ?_) (fun h8 => ?_)
        · have c := bI_t h8
          rw [hb_nI _ _ (by omega)] at c
          rw [if_neg (fun h => by obtain ⟨_, _, h1, _⟩ := mtT_iff.mp h; rw [c] at h1; cases h1)] at hz
          refine hK _ _ _ _ _ ?_
          show K _ _ _ _ _
          rw [show nI p + Int32.ofInt 1 = nI (p + 1) from nIs _]
          refine hK _ _ _ _ _ ?_
          exact ih (p + 1) (by omega) hz
        · have c := bI_f h8
          rw [hb_nI _ _ (by omega)] at c
          have hB1 : mOK (S - (s + 1) + 1) (1 + (mtA (lsO t) P S (s + 1) (T ||| 2 ^ p)).1, k + (mtA (lsO t) P S (s + 1) (T ||| 2 ^ p)).2) := by
            have h1 := (hQ (T ||| 2 ^ p)).1
            have h2 := (hQ (T ||| 2 ^ p)).2
            exact ⟨by show 1 + _ ≤ _; omega, by show k + _ ≤ 200000 * (1 + _); omega⟩
          have hB2 : mOK (S - s) (mtA (lsO t) P S s T) := mtA_ok hLk s T
          iterate 5 refine hK _ _ _ _ _ ?_
          refine Or.inl (calD (c3_valueWith _ σ s p T k _ (mtA (lsO t) P S (s + 1) (T ||| 2 ^ p)) (by omega) (by omega) (by omega) hk (hQ _) hlp (hB _ (or_lt hT (by omega)) (by have := pcB_or T p 12; split at this <;> omega))) ?_)
          rintro r σ' ⟨rfl, hσ⟩
          subst σ'
          show K 0 42 [some (aR 90), some (aR 36), some (aI (nI s)), some (aI (nI T)), some (aI (nI p))] [aI (nI (mEn (1 + (mtA (lsO t) P S (s + 1) (T ||| 2 ^ p)).1, k + (mtA (lsO t) P S (s + 1) (T ||| 2 ^ p)).2)))] σ
          iterate 4 refine hK _ _ _ _ _ ?_
          refine And.intro (vp_in_nI (n := s) (by omega) (by decide)) ?_
          rw [nI_clamp (show s < 2 ^ 31 by omega)]
          iterate 2 refine hK _ _ _ _ _ ?_
          refine And.intro (by first | omega | (rw [nI_clamp (by omega)]; omega)) (And.intro (vp_in_nI (n := T) (by omega) (by decide)) ?_)
          rw [nI_clamp (show T < 2 ^ 31 by omega)]
          rw [show σ 91 s T = nI (mEn (mtA (lsO t) P S s T)) from hb0]
          refine hK _ _ _ _ _ ?_
          refine And.intro (fun h7 => ?_) (fun h7 => ?_)
          · rw [if_neg (fun h => by obtain ⟨j, h1, _, h3⟩ := mtT_iff.mp h; rw [ho] at h1; cases h1; exact h7 (by rw [h3]))] at hz
            refine hK _ _ _ _ _ ?_
            show K _ _ _ _ _
            rw [show nI p + Int32.ofInt 1 = nI (p + 1) from nIs _]
            refine hK _ _ _ _ _ ?_
            exact ih (p + 1) (by omega) hz
          · have he := (mEn_inj hB1 hB2 (by omega) (by omega)).mp ((nI_eq (mEn_le hB1 (by omega)) (mEn_le hB2 (by omega))).mp h7)
            rw [if_pos (mtT_iff.mpr ⟨k, ho, c, he⟩)] at hz
            iterate 2 refine hK _ _ _ _ _ ?_
            exact ⟨by rw [← hz]; rfl, rfl⟩
  exact L3 P 0 (by omega) hZ
theorem c3_chooseFirst_36 (d : Nat) (σ t : sMem) (N P S G : Nat) (hC : CT σ t 36 N P S G) (hM : MI t N P S G) (hl : ∀ s p, s < S → p < P → σ 92 s p = oI (lsO t s p)) (hB : ∀ s U, s ≤ S → U < 2 ^ P → pcB U 12 ≤ s → σ 91 s U = nI (mEn (mtA (lsO t) P S s U))) : yMet l D0 b0 ty ad av lay (d + 5) 0 mX3_chooseFirst [aR 90, aR 36] σ (fun r σ' => r = [] ∧ (∀ i, i ≠ 90 → i ≠ 93 → σ' i = σ i) ∧ (∀ s, s < S → σ' 93 0 s = oI (mtO (lsO t) P S s (mtH (lsO t) P S s))) ∧ σ' 90 0 3 = nI (mtA (lsO t) P S 0 0).1 ∧ σ' 90 0 4 = nI (mtA (lsO t) P S 0 0).2) (fun _ _ => False) := by
  refine yMet_intro lay_nd kX3_chooseFirst xX3_ok (yY3_ok _) (by decide +kernel) rfl ?_
  intro K hK
  have hm := MC_of hM
  have hN := hm.1.1.1
  have hP := hm.2.2.1
  have hS8 := hm.2.2.2.1
  have hLk : ∀ s p k, s < S → p < P → lsO t s p = some k → k ≤ 200000 := fun s p k hs hp hk => lsO_le hm hs hp hk
  have h2P : 2 ^ P ≤ 1024 := Nat.pow_le_pow_right (n := 2) (j := 10) (by decide) hP
  iterate 10 refine hK _ _ _ _ _ ?_
  have L14 : ∀ (f : Nat) (s : Nat) (y : Int32) (a b : Nat) (μ : sMem), s + f = S → y = nI (mtH (lsO t) P S s) → (∀ i, i ≠ 90 → i ≠ 93 → μ i = σ i) → μ 90 0 3 = nI a → μ 90 0 4 = nI b → a + (mtA (lsO t) P S s (mtH (lsO t) P S s)).1 = (mtA (lsO t) P S 0 0).1 → b + (mtA (lsO t) P S s (mtH (lsO t) P S s)).2 = (mtA (lsO t) P S 0 0).2 → (∀ x, x < s → μ 93 0 x = oI (mtO (lsO t) P S x (mtH (lsO t) P S x))) → K 0 14 [some (aR 90), some (aR 36), some (aI (y)), some (aI (nI s))] [] μ := by
    intro f
    induction f with
    | zero =>
      intro s y a b μ hs hy hf h3 h4 ha hb9 hd; subst y
      have s7 : μ 36 0 7 = nI S := by rw [hf 36 (by decide) (by decide)]; exact hC.2.2.1
      have s1 : μ 36 0 1 = nI P := by rw [hf 36 (by decide) (by decide)]; exact hC.2.1
      iterate 3 refine hK _ _ _ _ _ ?_
      show K _ _ _ _ _
      rw [show μ 36 0 7 = nI S from s7]
      refine hK _ _ _ _ _ ?_
      refine And.intro (fun _ => ?_) (fun h9 => absurd ((nI_leI (by omega) (by omega)).mpr (by omega)) h9)
      refine hK _ _ _ _ _ ?_
      have es : s = S := by omega
      subst es
      rw [mtA_S] at ha hb9
      exact ⟨rfl, hf, hd, by rw [h3, ← ha]; rfl, by rw [h4, ← hb9]; rfl⟩
    | succ f ih =>
      intro s y a b μ hs hy hf h3 h4 ha hb9 hd; subst y
      have s7 : μ 36 0 7 = nI S := by rw [hf 36 (by decide) (by decide)]; exact hC.2.2.1
      have s1 : μ 36 0 1 = nI P := by rw [hf 36 (by decide) (by decide)]; exact hC.2.1
      have hlt := mtH_lt (L := lsO t) (P := P) (S := S) s
      have hC_μ : CT μ t 36 N P S G := hC.cg (fun i h1 h2 => hf i (by omega) (by omega))
      have hl_μ : ∀ s p, s < S → p < P → μ 92 s p = oI (lsO t s p) := fun s p hs hp => by rw [hf 92 (by decide) (by decide)]; exact hl s p hs hp
      have hB_μ : ∀ s U, s ≤ S → U < 2 ^ P → pcB U 12 ≤ s → μ 91 s U = nI (mEn (mtA (lsO t) P S s U)) := fun s U h1 h2 h3 => by rw [hf 91 (by decide) (by decide)]; exact hB s U h1 h2 h3
      have hH : mtH (lsO t) P S (s + 1) = hdO (mtH (lsO t) P S s) (mtO (lsO t) P S s (mtH (lsO t) P S s)) := rfl
      iterate 3 refine hK _ _ _ _ _ ?_
      show K _ _ _ _ _
      rw [show μ 36 0 7 = nI S from s7]
      refine hK _ _ _ _ _ ?_
      refine And.intro (fun h9 => absurd ((nI_leI (by omega) (by omega)).mp h9) (by omega)) (fun _ => ?_)
      iterate 8 refine hK _ _ _ _ _ ?_
      refine Or.inr (Or.inl (yD0 (c3_firstBest_36 _ μ t N P S G hC_μ hM s (mtH (lsO t) P S s) (by omega) hlt.1 hlt.2 hl_μ (fun U h1 h2 => hB_μ (s + 1) U (by omega) h1 h2) (hB_μ s _ (by omega) hlt.1 hlt.2)) ?_))
      rintro r σ' ⟨rfl, hσ⟩
      subst σ'
      show K 0 34 [some (aR 90), some (aR 36), some (aI (nI (mtH (lsO t) P S s))), some (aI (nI s))] [aI (oI (mtO (lsO t) P S s (mtH (lsO t) P S s))), aI (nI s), aR 93] μ
      rcases ho : mtO (lsO t) P S s (mtH (lsO t) P S s) with _ | p
      · have hA := mtO_none (show s < S by omega) ho
        rw [ho] at hH
        have hH : mtH (lsO t) P S (s + 1) = mtH (lsO t) P S s := hH
        rw [hA] at ha hb9
        show K _ _ _ _ _
        refine hK _ _ _ _ _ ?_
        refine And.intro (vp_in_nI (n := s) (by omega) (by decide)) ?_
        rw [nI_clamp (show s < 2 ^ 31 by omega)]
        iterate 4 refine hK _ _ _ _ _ ?_
        refine And.intro (vp_in_nI (n := s) (by omega) (by decide)) ?_
        rw [nI_clamp (show s < 2 ^ 31 by omega)]
        rw [sUp_at]
        iterate 2 refine hK _ _ _ _ _ ?_
        refine And.intro (fun _ => ?_) (fun h9 => absurd rfl h9)
        refine hK _ _ _ _ _ ?_
        show K _ _ _ _ _
        rw [show nI s + Int32.ofInt 1 = nI (s + 1) from nIs _]
        refine hK _ _ _ _ _ ?_
        refine ih (s + 1) _ a b _ (by omega) (by rw [hH]) (fun i h1 h2 => by rw [sUp_off h2]; exact hf i h1 h2) (by rw [sUp_off (by decide)]; exact h3) (by rw [sUp_off (by decide)]; exact h4) (by rw [hH]; exact ha) (by rw [hH]; exact hb9) (fun x hx => ?_)
        by_cases e : x = s
        · subst e; rw [sUp_at, ho]; try rfl
        · rw [sUp_k e]; exact hd x (by omega)
      · obtain ⟨hpP, hbit, k, hLs, hA⟩ := mtO_some ho
        have hk := hLk s p k (by omega) hpP hLs
        have hls := hl_μ s p (by omega) hpP
        rw [ho] at hH
        have hH : mtH (lsO t) P S (s + 1) = mtH (lsO t) P S s ||| 2 ^ p := hH
        rw [hA] at ha hb9
        rw [hLs] at hls
        rw [oI_some]
        refine hK _ _ _ _ _ ?_
        refine And.intro (vp_in_nI (n := s) (by omega) (by decide)) ?_
        rw [nI_clamp (show s < 2 ^ 31 by omega)]
        iterate 4 refine hK _ _ _ _ _ ?_
        refine And.intro (vp_in_nI (n := s) (by omega) (by decide)) ?_
        rw [nI_clamp (show s < 2 ^ 31 by omega)]
        rw [sUp_at]
        iterate 2 refine hK _ _ _ _ _ ?_
        refine And.intro (fun h9 => absurd h9 (nI_ne (by omega))) (fun _ => ?_)
        iterate 3 refine hK _ _ _ _ _ ?_
        show K _ _ _ _ _
        rw [sUp_off (by decide), show μ 90 0 3 = nI a from h3]
        iterate 2 refine hK _ _ _ _ _ ?_
        show K _ _ _ _ _
        rw [show nI a + Int32.ofInt 1 = nI (a + 1) from nIs _]
        iterate 4 refine hK _ _ _ _ _ ?_
        show K _ _ _ _ _
        rw [sUp_k (by decide), sUp_off (by decide), show μ 90 0 4 = nI b from h4]
        iterate 4 refine hK _ _ _ _ _ ?_
        refine And.intro (vp_in_nI (n := s) (by omega) (by decide)) ?_
        rw [nI_clamp (show s < 2 ^ 31 by omega)]
        iterate 4 refine hK _ _ _ _ _ ?_
        refine And.intro (vp_in_nI (n := s) (by omega) (by decide)) ?_
        rw [nI_clamp (show s < 2 ^ 31 by omega)]
        rw [sUp_off (by decide), sUp_at]
        refine hK _ _ _ _ _ ?_
        refine And.intro (by first | omega | (rw [nI_clamp (by omega)]; omega)) (And.intro (vp_in_nI (n := p) (by omega) (by decide)) ?_)
        rw [nI_clamp (show p < 2 ^ 31 by omega)]
        rw [sUp_off (by decide), sUp_off (by decide), show μ 92 s p = nI k from hls]
        iterate 8 refine hK _ _ _ _ _ ?_
        refine And.intro (vp_in_nI (n := s) (by omega) (by decide)) ?_
        rw [nI_clamp (show s < 2 ^ 31 by omega)]
        rw [sUp_off (by decide), sUp_off (by decide), sUp_at]
        iterate 2 refine hK _ _ _ _ _ ?_
        show K _ _ _ _ _
        rw [show nI (mtH (lsO t) P S s) ||| (Int32.ofInt 1 <<< (nI p &&& 31)) = nI ((mtH (lsO t) P S s) ||| 2 ^ p) from nI_orp _ _ (by omega)]
        iterate 2 refine hK _ _ _ _ _ ?_
        show K _ _ _ _ _
        rw [show nI s + Int32.ofInt 1 = nI (s + 1) from nIs _]
        refine hK _ _ _ _ _ ?_
        refine ih (s + 1) _ (a + 1) (b + k) _ (by omega) (by rw [hH]) (fun i h1 h2 => by rw [sUp_off h1, sUp_off h1, sUp_off h2]; exact hf i h1 h2) (by rw [sUp_k (by decide), sUp_at]) (by rw [sUp_at]; exact nIa _ _) ?_ ?_ (fun x hx => ?_)
        · rw [hH, ← ha]; show a + 1 + _ = a + (1 + _); omega
        · rw [hH, ← hb9]; show b + k + _ = b + (k + _); omega
        rw [sUp_off (by decide), sUp_off (by decide)]
        by_cases e : x = s
        · subst e; rw [sUp_at, ho]; try rfl
        · rw [sUp_k e]; exact hd x (by omega)
  exact L14 S 0 _ 0 0 _ (by omega) rfl (fun i h1 h2 => by rw [sUp_off h1, sUp_off h1]) (by rw [sUp_k (by decide), sUp_at]; rfl) (by rw [sUp_at]; rfl) (Nat.zero_add _) (Nat.zero_add _) (fun x hx => absurd hx (Nat.not_lt_zero _))
theorem c3_pair_36 (d : Nat) (σ t : sMem) (N P S G : Nat) (hC : CT σ t 36 N P S G) (hM : MI t N P S G) : yMet l D0 b0 ty ad av lay (d + 6) 0 mX3_pair [aR 90, aR 36] σ (fun r σ' => r = [] ∧ (∀ i, i < 90 ∨ 93 < i → σ' i = σ i) ∧ (∀ s, s < S → σ' 93 0 s = oI (mtO (lsO t) P S s (mtH (lsO t) P S s))) ∧ σ' 90 0 3 = nI (mtA (lsO t) P S 0 0).1 ∧ σ' 90 0 4 = nI (mtA (lsO t) P S 0 0).2) (fun _ _ => False) := by
  refine yMet_intro lay_nd kX3_pair xX3_ok (yY3_ok _) (by decide +kernel) rfl ?_
  intro K hK
  have hm := MC_of hM
  have hN := hm.1.1.1
  have hP := hm.2.2.1
  have hS8 := hm.2.2.2.1
  have hLk : ∀ s p k, s < S → p < P → lsO t s p = some k → k ≤ 200000 := fun s p k hs hp hk => lsO_le hm hs hp hk
  have h2P : 2 ^ P ≤ 1024 := Nat.pow_le_pow_right (n := 2) (j := 10) (by decide) hP
  have hPs : (Int32.ofInt 1 <<< (nI P &&& 31)) = nI (2 ^ P) := nI_shl P (by omega)
  iterate 3 refine hK _ _ _ _ _ ?_
  refine Or.inr (Or.inl (yD0 (c3_findLosses_36 _ σ t N P S G hC hM) ?_))
  rintro r μ0 ⟨rfl, hf0, hl0⟩
  show K 0 5 [some (aR 90), some (aR 36), none, none, none] [] μ0
  have s7 : μ0 36 0 7 = nI S := by rw [hf0 36 (by decide)]; exact hC.2.2.1
  have s1 : μ0 36 0 1 = nI P := by rw [hf0 36 (by decide)]; exact hC.2.1
  iterate 3 refine hK _ _ _ _ _ ?_
  show K _ _ _ _ _
  rw [show μ0 36 0 1 = nI P from s1]
  refine hK _ _ _ _ _ ?_
  show K _ _ _ _ _
  rw [hPs]
  iterate 5 refine hK _ _ _ _ _ ?_
  show K _ _ _ _ _
  rw [show μ0 36 0 7 = nI S from s7]
  refine hK _ _ _ _ _ ?_
  refine And.intro (vp_in_nI (n := S) (by omega) (by decide)) ?_
  rw [nI_clamp (show S < 2 ^ 31 by omega)]
  iterate 2 refine hK _ _ _ _ _ ?_
  refine Or.inl (calD (cJ_fill91 _ _ S (by omega) _) ?_)
  rintro r μ1 ⟨rfl, h1⟩
  show K 0 25 [some (aR 90), some (aR 36), some (aI (nI (2 ^ P))), none, none] [] μ1
  have hf1 : ∀ i, i ≠ 91 → i ≠ 92 → μ1 i = σ i := fun i a b => by rw [h1]; unfold flR; rw [sRow_off a]; exact hf0 i b
  have hl1 : ∀ s p, s < S → p < P → μ1 92 s p = oI (lsO t s p) := fun s p hs hp => by rw [h1]; unfold flR; rw [sRow_off (by decide)]; exact hl0 s p hs hp
  have hB1 : ∀ s U, S ≤ s → s ≤ S → U < 2 ^ P → pcB U 12 ≤ s → μ1 91 s U = nI (mEn (mtA (lsO t) P S s U)) := fun s U a b c _ => by
    rw [show s = S by omega, h1, mtA_S]
    unfold flR
    rw [sRow_at, if_pos (by omega)]
    rfl
  clear h1
  have s7' : μ1 36 0 7 = nI S := by rw [hf1 36 (by decide) (by decide)]; exact hC.2.2.1
  iterate 2 refine hK _ _ _ _ _ ?_
  show K _ _ _ _ _
  rw [show μ1 36 0 7 = nI S from s7']
  iterate 3 refine hK _ _ _ _ _ ?_
  have L32 : ∀ (f : Nat) (e4 : Option AV) (μ : sMem), f ≤ S → (∀ i, i ≠ 91 → i ≠ 92 → μ i = σ i) → (∀ s p, s < S → p < P → μ 92 s p = oI (lsO t s p)) → (∀ s U, f ≤ s → s ≤ S → U < 2 ^ P → pcB U 12 ≤ s → μ 91 s U = nI (mEn (mtA (lsO t) P S s U))) → K 0 32 [some (aR 90), some (aR 36), some (aI (nI (2 ^ P))), some (aI (nI f - Int32.ofInt 1)), e4] [] μ := by
    intro f
    induction f with
    | zero =>
      intro e4 μ hfS hf hl hB
      iterate 2 refine hK _ _ _ _ _ ?_
      refine And.intro (fun _ => ?_) (fun h9 => absurd (show nI 0 - Int32.ofInt 1 < 0 by decide) h9)
      iterate 3 refine hK _ _ _ _ _ ?_
      refine Or.inr (Or.inl (yD0 (c3_chooseFirst_36 _ μ t N P S G (hC.cg (fun i h1 h2 => hf i (by omega) (by omega))) hM hl (fun s U a b c => hB s U (Nat.zero_le _) a b c)) ?_))
      rintro r ν ⟨rfl, hfν, hν⟩
      show K 0 88 [some (aR 90), some (aR 36), some (aI (nI (2 ^ P))), some (aI (nI 0 - Int32.ofInt 1)), e4] [] ν
      refine hK _ _ _ _ _ ?_
      exact ⟨rfl, fun i hi => by rw [hfν i (by omega) (by omega)]; exact hf i (by omega) (by omega), hν⟩
    | succ f ih =>
      intro e4 μ hfS hf hl hB
      have en : nI (f + 1) - Int32.ofInt 1 = nI f := nIm (b := 1) (by omega)
      rw [en]
      iterate 2 refine hK _ _ _ _ _ ?_
      refine And.intro (fun h9 => absurd h9 (nI_pos (by omega))) (fun _ => ?_)
      iterate 2 refine hK _ _ _ _ _ ?_
      have L39 : ∀ (f2 : Nat) (T : Nat) (ν : sMem), T + f2 = 2 ^ P → (∀ i, i ≠ 91 → i ≠ 92 → ν i = σ i) → (∀ s p, s < S → p < P → ν 92 s p = oI (lsO t s p)) → (∀ s U, f ≤ s → s ≤ S → U < 2 ^ P → pcB U 12 ≤ s → (f < s ∨ U < T) → ν 91 s U = nI (mEn (mtA (lsO t) P S s U))) → K 0 39 [some (aR 90), some (aR 36), some (aI (nI (2 ^ P))), some (aI (nI f)), some (aI (nI T))] [] ν := by
        intro f2
        induction f2 with
        | zero =>
          intro T ν hT hf2 hl2 hB2
          iterate 3 refine hK _ _ _ _ _ ?_
          refine And.intro (fun _ => ?_) (fun h9 => absurd ((nI_leI (by omega) (by omega)).mpr (by omega)) h9)
          iterate 2 refine hK _ _ _ _ _ ?_
          show K _ _ _ _ _
          rw [x1]
          exact ih _ ν (by omega) hf2 hl2 (fun s U a b c e => hB2 s U (by omega) b c e (by omega))
        | succ f2 ih2 =>
          intro T ν hT hf2 hl2 hB2
          iterate 3 refine hK _ _ _ _ _ ?_
          refine And.intro (fun h9 => absurd ((nI_leI (by omega) (by omega)).mp h9) (by omega)) (fun _ => ?_)
          iterate 2 refine hK _ _ _ _ _ ?_
          refine Or.inl (calD (cJ_bc _ _ _) ?_)
          rintro r σ' ⟨rfl, hσ⟩
          subst σ'
          show K 0 50 [some (aR 90), some (aR 36), some (aI (nI (2 ^ P))), some (aI (nI f)), some (aI (nI T))] [aI (bcI (nI T))] ν
          show K _ _ _ _ _
          rw [bc_nI (show T < 4096 by omega)]
          have hpc := pcB_le T 12
          iterate 2 refine hK _ _ _ _ _ ?_
          refine And.intro (fun h8 => ?_) (fun h8 => ?_)
          · have hc := (nI_ltI (by omega) (by omega)).mp h8
            refine hK _ _ _ _ _ ?_
            show K _ _ _ _ _
            rw [show nI T + Int32.ofInt 1 = nI (T + 1) from nIs _]
            refine hK _ _ _ _ _ ?_
            exact ih2 (T + 1) ν (by omega) hf2 hl2 (fun s U a b c e q => hB2 s U a b c e (by
              by_cases q1 : s = f
              · by_cases q2 : U = T
                · rw [q1, q2] at e; omega
                · omega
              · omega))
          · have hc : ¬ f < pcB T 12 := fun q => h8 ((nI_ltI (by omega) (by omega)).mpr q)
            iterate 4 refine hK _ _ _ _ _ ?_
            refine And.intro (vp_in_nI (n := f) (by omega) (by decide)) ?_
            rw [nI_clamp (show f < 2 ^ 31 by omega)]
            iterate 6 refine hK _ _ _ _ _ ?_
            refine Or.inr (Or.inl (yD0 (c3_bestFrom_36 _ ν t N P S G (hC.cg (fun i h1 h2 => hf2 i (by omega) (by omega))) hM f T (by omega) (by omega) (by omega) hl2 (fun U a b => hB2 (f + 1) U (by omega) (by omega) a b (by omega))) ?_))
            rintro r σ' ⟨rfl, hσ⟩
            subst σ'
            show K 0 70 [some (aR 90), some (aR 36), some (aI (nI (2 ^ P))), some (aI (nI f)), some (aI (nI T))] [aI (nI (mEn (mtA (lsO t) P S f T))), aI (nI T), .inr (91, f)] ν
            refine hK _ _ _ _ _ ?_
            refine And.intro (by first | omega | (rw [nI_clamp (by omega)]; omega)) (And.intro (vp_in_nI (n := T) (by omega) (by decide)) ?_)
            rw [nI_clamp (show T < 2 ^ 31 by omega)]
            refine hK _ _ _ _ _ ?_
            show K _ _ _ _ _
            rw [show nI T + Int32.ofInt 1 = nI (T + 1) from nIs _]
            refine hK _ _ _ _ _ ?_
            refine ih2 (T + 1) _ (by omega) (fun i a b => by rw [sUp_off a]; exact hf2 i a b) (fun s p a b => by rw [sUp_off (by decide)]; exact hl2 s p a b) (fun s U a b c e q => ?_)
            by_cases q1 : s = f
            · subst q1
              by_cases q2 : U = T
              · subst q2; rw [sUp_at]
              · rw [sUp_k q2]; exact hB2 s U a b c e (by omega)
            · rw [sUp_rowne q1]; exact hB2 s U a b c e (by omega)
      exact L39 (2 ^ P) 0 μ (by omega) hf hl (fun s U a b c e q => hB s U (by omega) b c e)
  exact L32 S none μ1 (Nat.le_refl _) hf1 hl1 hB1
theorem c8_match_36_x0 (d : Nat) (σ t : sMem) (N P S G : Nat) (h : HR σ t 36 N P S G) (w : Int32) (h0 : ¬ (0 ≤ w ∧ w ≤ nI 2 - 1)) : yMet l D0 b0 ty ad av lay (d + 7) 1 mX8_match [aR 34, aI (w)] σ (fun _ _ => False) (fun e σ' => e = yIAE ∧ σ' = σ) := by
  refine yMet_intro lay_nd kX8_match xX8_ok (yY8_ok _) (by decide +kernel) rfl ?_
  intro K hK
  have hN := h.2.2.1.1.1.1.1
  have hP := h.2.2.1.1.1.2.2.2.1.2
  have hS8 := h.2.2.1.1.1.2.2.2.2.1.2
  iterate 3 refine hK _ _ _ _ _ ?_
  refine Or.inr (Or.inr ⟨0, 1, rfl, yDX (c8_checkBelow_x _ _ 2 (by decide) w h0) (fun _ _ h => h.elim) ?_⟩)
  exact fun e σ' h => h
theorem c8_match_36_ok (d : Nat) (σ t : sMem) (N P S G : Nat) (h : HR σ t 36 N P S G) (w : Nat) (hw : w ≤ 1) : yMet l D0 b0 ty ad av lay (d + 7) 0 mX8_match [aR 34, aI (nI w)] σ (fun r σ' => r = [aI (nI (if w = 0 then (mtA (lsO t) P S 0 0).1 else (mtA (lsO t) P S 0 0).2))] ∧ ∀ i, i < 90 ∨ 93 < i → σ' i = σ i) (fun _ _ => False) := by
  refine yMet_intro lay_nd kX8_match xX8_ok (yY8_ok _) (by decide +kernel) rfl ?_
  intro K hK
  iterate 3 refine hK _ _ _ _ _ ?_
  refine Or.inl (calD (c8_checkBelow_ok _ _ 2 (by decide) (nI w) (nI_isIn (n := 2) (by decide) (by omega))) ?_)
  rintro r σ' ⟨rfl, hσ⟩
  subst σ'
  show K 0 5 [some (aR 34), some (aI (nI w))] [] σ
  iterate 4 refine hK _ _ _ _ _ ?_
  show K _ _ _ _ _
  rw [show σ 34 0 3 = nI 36 from h.1]
  show K _ _ _ _ _
  rw [show (nI 36).toNatClampNeg = 36 from rfl]
  refine hK _ _ _ _ _ ?_
  refine Or.inr (Or.inl (yD0 (c3_pair_36 _ σ t N P S G h.2.1 h.2.2.1) ?_))
  rintro r μ ⟨rfl, hf, hd, h3, h4⟩
  show K 0 16 [some (aR 34), some (aI (nI w))] [] μ
  iterate 2 refine hK _ _ _ _ _ ?_
  refine And.intro (fun h8 => ?_) (fun h8 => ?_)
  · have hw0 : ¬ w = 0 := fun e => h8 (by rw [e]; rfl)
    iterate 3 refine hK _ _ _ _ _ ?_
    show K _ _ _ _ _
    rw [show μ 90 0 4 = nI (mtA (lsO t) P S 0 0).2 from h4]
    refine hK _ _ _ _ _ ?_
    exact ⟨by rw [if_neg hw0], hf⟩
  · have hw0 : w = 0 := (nI_eq (b := 0) (by omega) (by decide)).mp h8
    iterate 3 refine hK _ _ _ _ _ ?_
    show K _ _ _ _ _
    rw [show μ 90 0 3 = nI (mtA (lsO t) P S 0 0).1 from h3]
    iterate 2 refine hK _ _ _ _ _ ?_
    exact ⟨by rw [if_pos hw0], hf⟩
theorem c8_matched_36_x0 (d : Nat) (σ t : sMem) (N P S G : Nat) (h : HR σ t 36 N P S G) (x : Int32) (h0 : ¬ (0 ≤ x ∧ x ≤ nI S - 1)) : yMet l D0 b0 ty ad av lay (d + 7) 1 mX8_matched [aR 34, aI (x)] σ (fun _ _ => False) (fun e σ' => e = yNSE ∧ σ' = σ) := by
  refine yMet_intro lay_nd kX8_matched xX8_ok (yY8_ok _) (by decide +kernel) rfl ?_
  intro K hK
  have hN := h.2.2.1.1.1.1.1
  have hP := h.2.2.1.1.1.2.2.2.1.2
  have hS8 := h.2.2.1.1.1.2.2.2.2.1.2
  iterate 3 refine hK _ _ _ _ _ ?_
  refine Or.inr (Or.inr ⟨0, 1, rfl, yDX (c8_checkStranger_36_x _ _ S (by omega) h.1 h.2.1.2.2.1 x h0) (fun _ _ h => h.elim) ?_⟩)
  exact fun e σ' h => h
theorem c8_matched_36_ok (d : Nat) (σ t : sMem) (N P S G : Nat) (h : HR σ t 36 N P S G) (x : Nat) (hx : x < S) : yMet l D0 b0 ty ad av lay (d + 7) 0 mX8_matched [aR 34, aI (nI x)] σ (fun r σ' => r = [aI (oI (mtO (lsO t) P S x (mtH (lsO t) P S x)))] ∧ ∀ i, i < 90 ∨ 93 < i → σ' i = σ i) (fun _ _ => False) := by
  refine yMet_intro lay_nd kX8_matched xX8_ok (yY8_ok _) (by decide +kernel) rfl ?_
  intro K hK
  have hN := h.2.2.1.1.1.1.1
  have hP := h.2.2.1.1.1.2.2.2.1.2
  have hS8 := h.2.2.1.1.1.2.2.2.2.1.2
  iterate 3 refine hK _ _ _ _ _ ?_
  refine Or.inl (calD (c8_checkStranger_36_ok _ _ S (by omega) h.1 h.2.1.2.2.1 (nI x) (nI_isIn (by omega) hx)) ?_)
  rintro r σ' ⟨rfl, hσ⟩
  subst σ'
  show K 0 5 [some (aR 34), some (aI (nI x))] [] σ
  iterate 4 refine hK _ _ _ _ _ ?_
  show K _ _ _ _ _
  rw [show σ 34 0 3 = nI 36 from h.1]
  show K _ _ _ _ _
  rw [show (nI 36).toNatClampNeg = 36 from rfl]
  refine hK _ _ _ _ _ ?_
  refine Or.inr (Or.inl (yD0 (c3_pair_36 _ σ t N P S G h.2.1 h.2.2.1) ?_))
  rintro r μ ⟨rfl, hf, hd, h3, h4⟩
  show K 0 16 [some (aR 34), some (aI (nI x))] [] μ
  iterate 5 refine hK _ _ _ _ _ ?_
  refine And.intro (vp_in_nI (n := x) (by omega) (by decide)) ?_
  rw [nI_clamp (show x < 2 ^ 31 by omega)]
  rw [show μ 93 0 x = oI (mtO (lsO t) P S x (mtH (lsO t) P S x)) from hd x hx]
  refine hK _ _ _ _ _ ?_
  exact ⟨rfl, hf⟩
theorem c3_leastTogether_54 (d : Nat) (σ t : sMem) (N P S G : Nat) (hC : CT σ t 54 N P S G) (hM : MI t N P S G) : yMet l D0 b0 ty ad av lay (d + 4) 0 mX3_leastTogether [aR 90, aR 54] σ (fun r σ' => r = [aI (nI (bdT (lsO t) P S))] ∧ ∀ i, i ≠ 92 → σ' i = σ i) (fun _ _ => False) := by
  refine yMet_intro lay_nd kX3_leastTogether xX3_ok (yY3_ok _) (by decide +kernel) rfl ?_
  intro K hK
  have hm := MC_of hM
  have hN := hm.1.1.1
  have hP := hm.2.2.1
  have hS8 := hm.2.2.2.1
  have hLk : ∀ s p k, s < S → p < P → lsO t s p = some k → k ≤ 200000 := fun s p k hs hp hk => lsO_le hm hs hp hk
  iterate 3 refine hK _ _ _ _ _ ?_
  refine Or.inr (Or.inl (yD0 (c3_findLosses_54 _ σ t N P S G hC hM) ?_))
  rintro r μ ⟨rfl, hf, hl⟩
  show K 0 5 [some (aR 90), some (aR 54), none, none, none, none] [] μ
  have s7 : μ 54 0 7 = nI S := (by rw [hf 54 (by decide)]; exact hC.2.2.1)
  have s1 : μ 54 0 1 = nI P := (by rw [hf 54 (by decide)]; exact hC.2.1)
  iterate 4 refine hK _ _ _ _ _ ?_
  have L9 : ∀ (f : Nat) (s : Nat) (y : Int32) (e4 e5 : Option AV), s + f = S → y = nI (bdT (lsO t) P s) → K 0 9 [some (aR 90), some (aR 54), some (aI (y)), some (aI (nI s)), e4, e5] [] μ := by
    intro f
    induction f with
    | zero =>
      intro s y e4 e5 hs hy
      iterate 3 refine hK _ _ _ _ _ ?_
      show K _ _ _ _ _
      rw [show μ 54 0 7 = nI S from s7]
      refine hK _ _ _ _ _ ?_
      refine And.intro (fun _ => ?_) (fun h9 => absurd ((nI_leI (by omega) (by omega)).mpr (by omega)) h9)
      iterate 2 refine hK _ _ _ _ _ ?_
      exact ⟨by rw [hy, show s = S by omega], hf⟩
    | succ f ih =>
      intro s y e4 e5 hs hy
      iterate 3 refine hK _ _ _ _ _ ?_
      show K _ _ _ _ _
      rw [show μ 54 0 7 = nI S from s7]
      refine hK _ _ _ _ _ ?_
      refine And.intro (fun h9 => absurd ((nI_leI (by omega) (by omega)).mp h9) (by omega)) (fun _ => ?_)
      iterate 4 refine hK _ _ _ _ _ ?_
      have L23 : ∀ (f2 : Nat) (p : Nat) (x : Option Nat), p + f2 = P → x = bdF (lsO t s) p → K 0 23 [some (aR 90), some (aR 54), some (aI (y)), some (aI (nI s)), some (aI (oI x)), some (aI (nI p))] [] μ := by
        intro f2
        induction f2 with
        | zero =>
          intro p x hp hx
          iterate 3 refine hK _ _ _ _ _ ?_
          show K _ _ _ _ _
          rw [show μ 54 0 1 = nI P from s1]
          refine hK _ _ _ _ _ ?_
          refine And.intro (fun _ => ?_) (fun h9 => absurd ((nI_leI (by omega) (by omega)).mpr (by omega)) h9)
          iterate 4 refine hK _ _ _ _ _ ?_
          have ep : p = P := by omega
          rw [ep] at hx
          have hle := bdF_le (fun p k hp hk => hLk s p k (by omega) hp hk) P (Nat.le_refl _)
          rw [← hx] at hle
          have hg : bdT (lsO t) P (s + 1) = bdT (lsO t) P s + x.getD 0 := by rw [hx]; rfl
          rcases x with _ | m
          · refine And.intro (fun h9 => absurd rfl h9) (fun _ => ?_)
            iterate 5 refine hK _ _ _ _ _ ?_
            show K _ _ _ _ _
            rw [show nI s + Int32.ofInt 1 = nI (s + 1) from nIs _]
            refine hK _ _ _ _ _ ?_
            exact ih (s + 1) _ _ _ (by omega) (by rw [hg, hy]; exact x0 _)
          · have hm9 := hle m rfl
            refine And.intro (fun _ => ?_) (fun h9 => absurd h9 (nI_ne (by omega)))
            iterate 4 refine hK _ _ _ _ _ ?_
            show K _ _ _ _ _
            rw [show nI s + Int32.ofInt 1 = nI (s + 1) from nIs _]
            refine hK _ _ _ _ _ ?_
            exact ih (s + 1) _ _ _ (by omega) (by rw [hg, hy]; exact nIa _ _)
        | succ f2 ih2 =>
          intro p x hp hx
          have hxp : ∀ k, x = some k → k ≤ 200000 := by rw [hx]; exact bdF_le (fun p k hp hk => hLk s p k (by omega) hp hk) p (by omega)
          have hb1 : bdF (lsO t s) (p + 1) = bdC (lsO t s p) x := by rw [hx]; rfl
          have hlp := hl s p (by omega) (by omega)
          iterate 3 refine hK _ _ _ _ _ ?_
          show K _ _ _ _ _
          rw [show μ 54 0 1 = nI P from s1]
          refine hK _ _ _ _ _ ?_
          refine And.intro (fun h9 => absurd ((nI_leI (by omega) (by omega)).mp h9) (by omega)) (fun _ => ?_)
          rcases ho : lsO t s p with _ | k
          · rw [ho] at hlp hb1
            iterate 4 refine hK _ _ _ _ _ ?_
            refine And.intro (vp_in_nI (n := s) (by omega) (by decide)) ?_
            rw [nI_clamp (show s < 2 ^ 31 by omega)]
            iterate 2 refine hK _ _ _ _ _ ?_
            refine And.intro (by first | omega | (rw [nI_clamp (by omega)]; omega)) (And.intro (vp_in_nI (n := p) (by omega) (by decide)) ?_)
            rw [nI_clamp (show p < 2 ^ 31 by omega)]
            rw [show μ 92 s p = -1 from hlp]
            iterate 2 refine hK _ _ _ _ _ ?_
            refine And.intro (fun _ => ?_) (fun h9 => absurd rfl h9)
            refine hK _ _ _ _ _ ?_
            show K _ _ _ _ _
            rw [show nI p + Int32.ofInt 1 = nI (p + 1) from nIs _]
            refine hK _ _ _ _ _ ?_
            exact ih2 (p + 1) x (by omega) hb1.symm
          · have hk := hLk s p k (by omega) (by omega) ho
            rw [ho] at hlp hb1
            iterate 4 refine hK _ _ _ _ _ ?_
            refine And.intro (vp_in_nI (n := s) (by omega) (by decide)) ?_
            rw [nI_clamp (show s < 2 ^ 31 by omega)]
            iterate 2 refine hK _ _ _ _ _ ?_
            refine And.intro (by first | omega | (rw [nI_clamp (by omega)]; omega)) (And.intro (vp_in_nI (n := p) (by omega) (by decide)) ?_)
            rw [nI_clamp (show p < 2 ^ 31 by omega)]
            rw [show μ 92 s p = nI k from hlp]
            iterate 2 refine hK _ _ _ _ _ ?_
            refine And.intro (fun h9 => absurd h9 (nI_ne (by omega))) (fun _ => ?_)
            iterate 3 refine hK _ _ _ _ _ ?_
            rcases x with _ | m
            · refine And.intro (fun _ => ?_) (fun h9 => absurd rfl h9)
              iterate 4 refine hK _ _ _ _ _ ?_
              refine And.intro (vp_in_nI (n := s) (by omega) (by decide)) ?_
              rw [nI_clamp (show s < 2 ^ 31 by omega)]
              iterate 2 refine hK _ _ _ _ _ ?_
              refine And.intro (by first | omega | (rw [nI_clamp (by omega)]; omega)) (And.intro (vp_in_nI (n := p) (by omega) (by decide)) ?_)
              rw [nI_clamp (show p < 2 ^ 31 by omega)]
              rw [show μ 92 s p = nI k from hlp]
              iterate 2 refine hK _ _ _ _ _ ?_
              show K _ _ _ _ _
              rw [show nI p + Int32.ofInt 1 = nI (p + 1) from nIs _]
              refine hK _ _ _ _ _ ?_
              exact ih2 (p + 1) (some k) (by omega) hb1.symm
            · have hm9 := hxp m rfl
              refine And.intro (fun h9 => absurd h9 (nI_ne (by omega))) (fun _ => ?_)
              iterate 4 refine hK _ _ _ _ _ ?_
              refine And.intro (vp_in_nI (n := s) (by omega) (by decide)) ?_
              rw [nI_clamp (show s < 2 ^ 31 by omega)]
              iterate 2 refine hK _ _ _ _ _ ?_
              refine And.intro (by first | omega | (rw [nI_clamp (by omega)]; omega)) (And.intro (vp_in_nI (n := p) (by omega) (by decide)) ?_)
              rw [nI_clamp (show p < 2 ^ 31 by omega)]
              rw [show μ 92 s p = nI k from hlp]
              iterate 2 refine hK _ _ _ _ _ ?_
              refine And.intro (fun h8 => ?_) (fun h8 => ?_)
              · have hc : ¬ k < m := fun q => absurd ((nI_leI (by omega) (by omega)).mp h8) (by omega)
                have e : bdC (some k) (some m) = some m := if_neg hc
                rw [e] at hb1
                refine hK _ _ _ _ _ ?_
                show K _ _ _ _ _
                rw [show nI p + Int32.ofInt 1 = nI (p + 1) from nIs _]
                refine hK _ _ _ _ _ ?_
                exact ih2 (p + 1) (some m) (by omega) hb1.symm
              · have hc : k < m := Decidable.byContradiction fun q => h8 ((nI_leI (by omega) (by omega)).mpr (by omega))
                have e : bdC (some k) (some m) = some k := if_pos hc
                rw [e] at hb1
                iterate 4 refine hK _ _ _ _ _ ?_
                refine And.intro (vp_in_nI (n := s) (by omega) (by decide)) ?_
                rw [nI_clamp (show s < 2 ^ 31 by omega)]
                iterate 2 refine hK _ _ _ _ _ ?_
                refine And.intro (by first | omega | (rw [nI_clamp (by omega)]; omega)) (And.intro (vp_in_nI (n := p) (by omega) (by decide)) ?_)
                rw [nI_clamp (show p < 2 ^ 31 by omega)]
                rw [show μ 92 s p = nI k from hlp]
                iterate 2 refine hK _ _ _ _ _ ?_
                show K _ _ _ _ _
                rw [show nI p + Int32.ofInt 1 = nI (p + 1) from nIs _]
                refine hK _ _ _ _ _ ?_
                exact ih2 (p + 1) (some k) (by omega) hb1.symm
      exact L23 P 0 none (by omega) rfl
  exact L9 S 0 _ none none (by omega) rfl
theorem c8_bound_54 (d : Nat) (σ t : sMem) (N P S G : Nat) (h : HR σ t 54 N P S G) : yMet l D0 b0 ty ad av lay (d + 5) 0 mX8_bound [aR 34] σ (fun r σ' => r = [aI (nI (bdT (lsO t) P S))] ∧ ∀ i, i ≠ 92 → σ' i = σ i) (fun _ _ => False) := by
  refine yMet_intro lay_nd kX8_bound xX8_ok (yY8_ok _) (by decide +kernel) rfl ?_
  intro K hK
  iterate 4 refine hK _ _ _ _ _ ?_
  show K _ _ _ _ _
  rw [show σ 34 0 3 = nI 54 from h.1]
  show K _ _ _ _ _
  rw [show (nI 54).toNatClampNeg = 54 from rfl]
  refine hK _ _ _ _ _ ?_
  refine Or.inr (Or.inl (yD0 (c3_leastTogether_54 _ σ t N P S G h.2.1 h.2.2.1) ?_))
  rintro r μ ⟨rfl, hf⟩
  show K 0 11 [some (aR 34)] [aI (nI (bdT (lsO t) P S))] μ
  refine hK _ _ _ _ _ ?_
  exact ⟨rfl, hf⟩
theorem c3_bestFrom_54 (d : Nat) (σ t : sMem) (N P S G : Nat) (hC : CT σ t 54 N P S G) (hM : MI t N P S G) (s T : Nat) (hs : s < S) (hT : T < 2 ^ P) (hp9 : pcB T 12 ≤ s) (hl : ∀ s p, s < S → p < P → σ 92 s p = oI (lsO t s p)) (hB : ∀ U, U < 2 ^ P → pcB U 12 ≤ s + 1 → σ 91 (s + 1) U = nI (mEn (mtA (lsO t) P S (s + 1) U))) : yMet l D0 b0 ty ad av lay (d + 4) 0 mX3_bestFrom [aR 90, aR 54, aI (nI s), aI (nI T)] σ (fun r σ' => r = [aI (nI (mEn (mtA (lsO t) P S s T)))] ∧ σ' = σ) (fun _ _ => False) := by
  refine yMet_intro lay_nd kX3_bestFrom xX3_ok (yY3_ok _) (by decide +kernel) rfl ?_
  intro K hK
  have hm := MC_of hM
  have hN := hm.1.1.1
  have hP := hm.2.2.1
  have hS8 := hm.2.2.2.1
  have hLk : ∀ s p k, s < S → p < P → lsO t s p = some k → k ≤ 200000 := fun s p k hs hp hk => lsO_le hm hs hp hk
  have h2P : 2 ^ P ≤ 1024 := Nat.pow_le_pow_right (n := 2) (j := 10) (by decide) hP
  have hQ : ∀ U, mOK (S - (s + 1)) (mtA (lsO t) P S (s + 1) U) := fun U => mtA_ok hLk (s + 1) U
  have s7 : σ 54 0 7 = nI S := hC.2.2.1
  have s1 : σ 54 0 1 = nI P := hC.2.1
  iterate 5 refine hK _ _ _ _ _ ?_
  show K _ _ _ _ _
  rw [show nI s + Int32.ofInt 1 = nI (s + 1) from nIs _]
  refine hK _ _ _ _ _ ?_
  refine And.intro (vp_in_nI (n := (s + 1)) (by omega) (by decide)) ?_
  rw [nI_clamp (show (s + 1) < 2 ^ 31 by omega)]
  iterate 2 refine hK _ _ _ _ _ ?_
  refine And.intro (by first | omega | (rw [nI_clamp (by omega)]; omega)) (And.intro (vp_in_nI (n := T) (by omega) (by decide)) ?_)
  rw [nI_clamp (show T < 2 ^ 31 by omega)]
  rw [show σ 91 (s + 1) T = nI (mEn (mtA (lsO t) P S (s + 1) T)) from hB T hT (by omega)]
  iterate 3 refine hK _ _ _ _ _ ?_
  have L15 : ∀ (f : Nat) (p : Nat) (y : Int32), p + f = P → y = nI (mEn (mtP (lsO t s) (mtA (lsO t) P S (s + 1)) T p)) → K 0 15 [some (aR 90), some (aR 54), some (aI (nI s)), some (aI (nI T)), some (aI (y)), some (aI (nI p))] [] σ := by
    intro f
    induction f with
    | zero =>
      intro p y hp hy
      iterate 3 refine hK _ _ _ _ _ ?_
      show K _ _ _ _ _
      rw [show σ 54 0 1 = nI P from s1]
      refine hK _ _ _ _ _ ?_
      refine And.intro (fun _ => ?_) (fun h9 => absurd ((nI_leI (by omega) (by omega)).mpr (by omega)) h9)
      iterate 2 refine hK _ _ _ _ _ ?_
      exact ⟨by rw [hy, show p = P by omega, mtA_s hs], rfl⟩
    | succ f ih =>
      intro p y hp hy
      have hst : mtP (lsO t s) (mtA (lsO t) P S (s + 1)) T (p + 1) = mtC (lsO t s p) (T.testBit p) (mtA (lsO t) P S (s + 1) (T ||| 2 ^ p)) (mtP (lsO t s) (mtA (lsO t) P S (s + 1)) T p) := rfl
      have hlp := hl s p hs (by omega)
      iterate 3 refine hK _ _ _ _ _ ?_
      show K _ _ _ _ _
      rw [show σ 54 0 1 = nI P from s1]
      refine hK _ _ _ _ _ ?_
      refine And.intro (fun h9 => absurd ((nI_leI (by omega) (by omega)).mp h9) (by omega)) (fun _ => ?_)
      rcases ho : lsO t s p with _ | k
      · rw [ho] at hlp hst
        iterate 4 refine hK _ _ _ _ _ ?_
        refine And.intro (vp_in_nI (n := s) (by omega) (by decide)) ?_
        rw [nI_clamp (show s < 2 ^ 31 by omega)]
        iterate 2 refine hK _ _ _ _ _ ?_
        refine And.intro (by first | omega | (rw [nI_clamp (by omega)]; omega)) (And.intro (vp_in_nI (n := p) (by omega) (by decide)) ?_)
        rw [nI_clamp (show p < 2 ^ 31 by omega)]
        rw [show σ 92 s p = -1 from hlp]
        iterate 2 refine hK _ _ _ _ _ ?_
        refine And.intro (fun _ => ?_) (fun h9 => absurd rfl h9)
        refine hK _ _ _ _ _ ?_
        show K _ _ _ _ _
        rw [show nI p + Int32.ofInt 1 = nI (p + 1) from nIs _]
        refine hK _ _ _ _ _ ?_
        exact ih (p + 1) y (by omega) (by rw [hy, hst]; rfl)
      · have hk := hLk s p k hs (by omega) ho
        rw [ho] at hlp hst
        iterate 4 refine hK _ _ _ _ _ ?_
        refine And.intro (vp_in_nI (n := s) (by omega) (by decide)) ?_
        rw [nI_clamp (show s < 2 ^ 31 by omega)]
        iterate 2 refine hK _ _ _ _ _ ?_
        refine And.intro (by first | omega | (rw [nI_clamp (by omega)]; omega)) (And.intro (vp_in_nI (n := p) (by omega) (by decide)) ?_)
        rw [nI_clamp (show p < 2 ^ 31 by omega)]
        rw [show σ 92 s p = nI k from hlp]
        iterate 2 refine hK _ _ _ _ _ ?_
        refine And.intro (fun h9 => absurd h9 (nI_ne (by omega))) (fun _ => ?_)
        iterate 3 refine hK _ _ _ _ _ ?_
        refine calD (c8_hasBit _ _ _ _) ?_
        rintro r σ' ⟨rfl, hσ⟩
        subst σ'
        show K 0 43 [some (aR 90), some (aR 54), some (aI (nI s)), some (aI (nI T)), some (aI (y)), some (aI (nI p))] [aI (bI (hb (nI T) (nI p)))] σ
        refine hK _ _ _ _ _ ?_
        refine And.intro (fun h8 => ?_) (fun h8 => ?_)
        · have c := bI_t h8
          rw [hb_nI _ _ (by omega)] at c
          rw [c] at hst
          refine hK _ _ _ _ _ ?_
          show K _ _ _ _ _
          rw [show nI p + Int32.ofInt 1 = nI (p + 1) from nIs _]
          refine hK _ _ _ _ _ ?_
          exact ih (p + 1) y (by omega) (by rw [hy, hst]; rfl)
        · have c := bI_f h8
          rw [hb_nI _ _ (by omega)] at c
          rw [c] at hst
          iterate 6 refine hK _ _ _ _ _ ?_
          refine Or.inl (calD (c3_valueWith _ σ s p T k _ (mtA (lsO t) P S (s + 1) (T ||| 2 ^ p)) (by omega) (by omega) (by omega) hk (hQ _) hlp (hB _ (or_lt hT (by omega)) (by have := pcB_or T p 12; split at this <;> omega))) ?_)
          rintro r σ' ⟨rfl, hσ⟩
          subst σ'
          show K 0 56 [some (aR 90), some (aR 54), some (aI (nI s)), some (aI (nI T)), some (aI (y)), some (aI (nI p))] [aI (nI (mEn (1 + (mtA (lsO t) P S (s + 1) (T ||| 2 ^ p)).1, k + (mtA (lsO t) P S (s + 1) (T ||| 2 ^ p)).2))), aI (y)] σ
          iterate 3 refine hK _ _ _ _ _ ?_
          show K _ _ _ _ _
          rw [show nI p + Int32.ofInt 1 = nI (p + 1) from nIs _]
          refine hK _ _ _ _ _ ?_
          exact ih (p + 1) _ (by omega) (by rw [hy, hst]; exact (mtC_en hk (by omega) (hQ _) (mtP_ok (P := P) (fun p k hp hk => hLk s p k hs hp hk) hQ p (by omega))).symm)
  exact L15 P 0 _ (by omega) rfl
theorem c3_firstBest_54 (d : Nat) (σ t : sMem) (N P S G : Nat) (hC : CT σ t 54 N P S G) (hM : MI t N P S G) (s T : Nat) (hs : s < S) (hT : T < 2 ^ P) (hp9 : pcB T 12 ≤ s) (hl : ∀ s p, s < S → p < P → σ 92 s p = oI (lsO t s p)) (hB : ∀ U, U < 2 ^ P → pcB U 12 ≤ s + 1 → σ 91 (s + 1) U = nI (mEn (mtA (lsO t) P S (s + 1) U))) (hb0 : σ 91 s T = nI (mEn (mtA (lsO t) P S s T))) : yMet l D0 b0 ty ad av lay (d + 4) 0 mX3_firstBest [aR 90, aR 54, aI (nI s), aI (nI T)] σ (fun r σ' => r = [aI (oI (mtO (lsO t) P S s T))] ∧ σ' = σ) (fun _ _ => False) := by
  refine yMet_intro lay_nd kX3_firstBest xX3_ok (yY3_ok _) (by decide +kernel) rfl ?_
  intro K hK
  have hm := MC_of hM
  have hN := hm.1.1.1
  have hP := hm.2.2.1
  have hS8 := hm.2.2.2.1
  have hLk : ∀ s p k, s < S → p < P → lsO t s p = some k → k ≤ 200000 := fun s p k hs hp hk => lsO_le hm hs hp hk
  have h2P : 2 ^ P ≤ 1024 := Nat.pow_le_pow_right (n := 2) (j := 10) (by decide) hP
  have hQ : ∀ U, mOK (S - (s + 1)) (mtA (lsO t) P S (s + 1) U) := fun U => mtA_ok hLk (s + 1) U
  generalize hZ0 : oI (mtO (lsO t) P S s T) = Z at hK
  have hZ : oI (mtW (lsO t s) (mtA (lsO t) P S (s + 1)) (mtA (lsO t) P S s T) T P 0) = Z := hZ0
  have s7 : σ 54 0 7 = nI S := hC.2.2.1
  have s1 : σ 54 0 1 = nI P := hC.2.1
  iterate 2 refine hK _ _ _ _ _ ?_
  have L3 : ∀ (f : Nat) (p : Nat), p + f = P → oI (mtW (lsO t s) (mtA (lsO t) P S (s + 1)) (mtA (lsO t) P S s T) T f p) = Z → K 0 3 [some (aR 90), some (aR 54), some (aI (nI s)), some (aI (nI T)), some (aI (nI p))] [] σ := by
    intro f
    induction f with
    | zero =>
      intro p hp hz
      iterate 3 refine hK _ _ _ _ _ ?_
      show K _ _ _ _ _
      rw [show σ 54 0 1 = nI P from s1]
      refine hK _ _ _ _ _ ?_
      refine And.intro (fun _ => ?_) (fun h9 => absurd ((nI_leI (by omega) (by omega)).mpr (by omega)) h9)
      iterate 2 refine hK _ _ _ _ _ ?_
      exact ⟨by rw [← hz]; rfl, rfl⟩
    | succ f ih =>
      intro p hp hz
      have hst : mtW (lsO t s) (mtA (lsO t) P S (s + 1)) (mtA (lsO t) P S s T) T (f + 1) p = if mtT (lsO t s p) (T.testBit p) (mtA (lsO t) P S (s + 1) (T ||| 2 ^ p)) (mtA (lsO t) P S s T) = true then some p else mtW (lsO t s) (mtA (lsO t) P S (s + 1)) (mtA (lsO t) P S s T) T f (p + 1) := rfl
      rw [hst] at hz
      have hlp := hl s p hs (by omega)
      iterate 3 refine hK _ _ _ _ _ ?_
      show K _ _ _ _ _
      rw [show σ 54 0 1 = nI P from s1]
      refine hK _ _ _ _ _ ?_
      refine And.intro (fun h9 => absurd ((nI_leI (by omega) (by omega)).mp h9) (by omega)) (fun _ => ?_)
      rcases ho : lsO t s p with _ | k
      · rw [if_neg (fun h => by obtain ⟨_, h1, _⟩ := mtT_iff.mp h; rw [ho] at h1; cases h1)] at hz
        rw [ho] at hlp
        iterate 4 refine hK _ _ _ _ _ ?_
        refine And.intro (vp_in_nI (n := s) (by omega) (by decide)) ?_
        rw [nI_clamp (show s < 2 ^ 31 by omega)]
        iterate 2 refine hK _ _ _ _ _ ?_
        refine And.intro (by first | omega | (rw [nI_clamp (by omega)]; omega)) (And.intro (vp_in_nI (n := p) (by omega) (by decide)) ?_)
        rw [nI_clamp (show p < 2 ^ 31 by omega)]
        rw [show σ 92 s p = -1 from hlp]
        iterate 2 refine hK _ _ _ _ _ ?_
        refine And.intro (fun _ => ?_) (fun h9 => absurd rfl h9)
        refine hK _ _ _ _ _ ?_
        show K _ _ _ _ _
        rw [show nI p + Int32.ofInt 1 = nI (p + 1) from nIs _]
        refine hK _ _ _ _ _ ?_
        exact ih (p + 1) (by omega) hz
      · have hk := hLk s p k hs (by omega) ho
        rw [ho] at hlp
        iterate 4 refine hK _ _ _ _ _ ?_
        refine And.intro (vp_in_nI (n := s) (by omega) (by decide)) ?_
        rw [nI_clamp (show s < 2 ^ 31 by omega)]
        iterate 2 refine hK _ _ _ _ _ ?_
        refine And.intro (by first | omega | (rw [nI_clamp (by omega)]; omega)) (And.intro (vp_in_nI (n := p) (by omega) (by decide)) ?_)
        rw [nI_clamp (show p < 2 ^ 31 by omega)]
        rw [show σ 92 s p = nI k from hlp]
        iterate 2 refine hK _ _ _ _ _ ?_
        refine And.intro (fun h9 => absurd h9 (nI_ne (by omega))) (fun _ => ?_)
        iterate 3 refine hK _ _ _ _ _ ?_
        refine calD (c8_hasBit _ _ _ _) ?_
        rintro r σ' ⟨rfl, hσ⟩
        subst σ'
        show K 0 31 [some (aR 90), some (aR 54), some (aI (nI s)), some (aI (nI T)), some (aI (nI p))] [aI (bI (hb (nI T) (nI p)))] σ
        refine hK _ _ _ _ _ ?_
        refine And.intro (fun h8 => ?_) (fun h8 => ?_)
        · have c := bI_t h8
          rw [hb_nI _ _ (by omega)] at c
          rw [if_neg (fun h => by obtain ⟨_, _, h1, _⟩ := mtT_iff.mp h; rw [c] at h1; cases h1)] at hz
          refine hK _ _ _ _ _ ?_
          show K _ _ _ _ _
          rw [show nI p + Int32.ofInt 1 = nI (p + 1) from nIs _]
          refine hK _ _ _ _ _ ?_
          exact ih (p + 1) (by omega) hz
        · have c := bI_f h8
          rw [hb_nI _ _ (by omega)] at c
          have hB1 : mOK (S - (s + 1) + 1) (1 + (mtA (lsO t) P S (s + 1) (T ||| 2 ^ p)).1, k + (mtA (lsO t) P S (s + 1) (T ||| 2 ^ p)).2) := by
            have h1 := (hQ (T ||| 2 ^ p)).1
            have h2 := (hQ (T ||| 2 ^ p)).2
            exact ⟨by show 1 + _ ≤ _; omega, by show k + _ ≤ 200000 * (1 + _); omega⟩
          have hB2 : mOK (S - s) (mtA (lsO t) P S s T) := mtA_ok hLk s T
          iterate 5 refine hK _ _ _ _ _ ?_
          refine Or.inl (calD (c3_valueWith _ σ s p T k _ (mtA (lsO t) P S (s + 1) (T ||| 2 ^ p)) (by omega) (by omega) (by omega) hk (hQ _) hlp (hB _ (or_lt hT (by omega)) (by have := pcB_or T p 12; split at this <;> omega))) ?_)
          rintro r σ' ⟨rfl, hσ⟩
          subst σ'
          show K 0 42 [some (aR 90), some (aR 54), some (aI (nI s)), some (aI (nI T)), some (aI (nI p))] [aI (nI (mEn (1 + (mtA (lsO t) P S (s + 1) (T ||| 2 ^ p)).1, k + (mtA (lsO t) P S (s + 1) (T ||| 2 ^ p)).2)))] σ
          iterate 4 refine hK _ _ _ _ _ ?_
          refine And.intro (vp_in_nI (n := s) (by omega) (by decide)) ?_
          rw [nI_clamp (show s < 2 ^ 31 by omega)]
          iterate 2 refine hK _ _ _ _ _ ?_
          refine And.intro (by first | omega | (rw [nI_clamp (by omega)]; omega)) (And.intro (vp_in_nI (n := T) (by omega) (by decide)) ?_)
          rw [nI_clamp (show T < 2 ^ 31 by omega)]
          rw [show σ 91 s T = nI (mEn (mtA (lsO t) P S s T)) from hb0]
          refine hK _ _ _ _ _ ?_
          refine And.intro (fun h7 => ?_) (fun h7 => ?_)
          · rw [if_neg (fun h => by obtain ⟨j, h1, _, h3⟩ := mtT_iff.mp h; rw [ho] at h1; cases h1; exact h7 (by rw [h3]))] at hz
            refine hK _ _ _ _ _ ?_
            show K _ _ _ _ _
            rw [show nI p + Int32.ofInt 1 = nI (p + 1) from nIs _]
            refine hK _ _ _ _ _ ?_
            exact ih (p + 1) (by omega) hz
          · have he := (mEn_inj hB1 hB2 (by omega) (by omega)).mp ((nI_eq (mEn_le hB1 (by omega)) (mEn_le hB2 (by omega))).mp h7)
            rw [if_pos (mtT_iff.mpr ⟨k, ho, c, he⟩)] at hz
            iterate 2 refine hK _ _ _ _ _ ?_
            exact ⟨by rw [← hz]; rfl, rfl⟩
  exact L3 P 0 (by omega) hZ
theorem c3_chooseFirst_54 (d : Nat) (σ t : sMem) (N P S G : Nat) (hC : CT σ t 54 N P S G) (hM : MI t N P S G) (hl : ∀ s p, s < S → p < P → σ 92 s p = oI (lsO t s p)) (hB : ∀ s U, s ≤ S → U < 2 ^ P → pcB U 12 ≤ s → σ 91 s U = nI (mEn (mtA (lsO t) P S s U))) : yMet l D0 b0 ty ad av lay (d + 5) 0 mX3_chooseFirst [aR 90, aR 54] σ (fun r σ' => r = [] ∧ (∀ i, i ≠ 90 → i ≠ 93 → σ' i = σ i) ∧ (∀ s, s < S → σ' 93 0 s = oI (mtO (lsO t) P S s (mtH (lsO t) P S s))) ∧ σ' 90 0 3 = nI (mtA (lsO t) P S 0 0).1 ∧ σ' 90 0 4 = nI (mtA (lsO t) P S 0 0).2) (fun _ _ => False) := by
  refine yMet_intro lay_nd kX3_chooseFirst xX3_ok (yY3_ok _) (by decide +kernel) rfl ?_
  intro K hK
  have hm := MC_of hM
  have hN := hm.1.1.1
  have hP := hm.2.2.1
  have hS8 := hm.2.2.2.1
  have hLk : ∀ s p k, s < S → p < P → lsO t s p = some k → k ≤ 200000 := fun s p k hs hp hk => lsO_le hm hs hp hk
  have h2P : 2 ^ P ≤ 1024 := Nat.pow_le_pow_right (n := 2) (j := 10) (by decide) hP
  iterate 10 refine hK _ _ _ _ _ ?_
  have L14 : ∀ (f : Nat) (s : Nat) (y : Int32) (a b : Nat) (μ : sMem), s + f = S → y = nI (mtH (lsO t) P S s) → (∀ i, i ≠ 90 → i ≠ 93 → μ i = σ i) → μ 90 0 3 = nI a → μ 90 0 4 = nI b → a + (mtA (lsO t) P S s (mtH (lsO t) P S s)).1 = (mtA (lsO t) P S 0 0).1 → b + (mtA (lsO t) P S s (mtH (lsO t) P S s)).2 = (mtA (lsO t) P S 0 0).2 → (∀ x, x < s → μ 93 0 x = oI (mtO (lsO t) P S x (mtH (lsO t) P S x))) → K 0 14 [some (aR 90), some (aR 54), some (aI (y)), some (aI (nI s))] [] μ := by
    intro f
    induction f with
    | zero =>
      intro s y a b μ hs hy hf h3 h4 ha hb9 hd; subst y
      have s7 : μ 54 0 7 = nI S := by rw [hf 54 (by decide) (by decide)]; exact hC.2.2.1
      have s1 : μ 54 0 1 = nI P := by rw [hf 54 (by decide) (by decide)]; exact hC.2.1
      iterate 3 refine hK _ _ _ _ _ ?_
      show K _ _ _ _ _
      rw [show μ 54 0 7 = nI S from s7]
      refine hK _ _ _ _ _ ?_
      refine And.intro (fun _ => ?_) (fun h9 => absurd ((nI_leI (by omega) (by omega)).mpr (by omega)) h9)
      refine hK _ _ _ _ _ ?_
      have es : s = S := by omega
      subst es
      rw [mtA_S] at ha hb9
      exact ⟨rfl, hf, hd, by rw [h3, ← ha]; rfl, by rw [h4, ← hb9]; rfl⟩
    | succ f ih =>
      intro s y a b μ hs hy hf h3 h4 ha hb9 hd; subst y
      have s7 : μ 54 0 7 = nI S := by rw [hf 54 (by decide) (by decide)]; exact hC.2.2.1
      have s1 : μ 54 0 1 = nI P := by rw [hf 54 (by decide) (by decide)]; exact hC.2.1
      have hlt := mtH_lt (L := lsO t) (P := P) (S := S) s
      have hC_μ : CT μ t 54 N P S G := hC.cg (fun i h1 h2 => hf i (by omega) (by omega))
      have hl_μ : ∀ s p, s < S → p < P → μ 92 s p = oI (lsO t s p) := fun s p hs hp => by rw [hf 92 (by decide) (by decide)]; exact hl s p hs hp
      have hB_μ : ∀ s U, s ≤ S → U < 2 ^ P → pcB U 12 ≤ s → μ 91 s U = nI (mEn (mtA (lsO t) P S s U)) := fun s U h1 h2 h3 => by rw [hf 91 (by decide) (by decide)]; exact hB s U h1 h2 h3
      have hH : mtH (lsO t) P S (s + 1) = hdO (mtH (lsO t) P S s) (mtO (lsO t) P S s (mtH (lsO t) P S s)) := rfl
      iterate 3 refine hK _ _ _ _ _ ?_
      show K _ _ _ _ _
      rw [show μ 54 0 7 = nI S from s7]
      refine hK _ _ _ _ _ ?_
      refine And.intro (fun h9 => absurd ((nI_leI (by omega) (by omega)).mp h9) (by omega)) (fun _ => ?_)
      iterate 8 refine hK _ _ _ _ _ ?_
      refine Or.inr (Or.inl (yD0 (c3_firstBest_54 _ μ t N P S G hC_μ hM s (mtH (lsO t) P S s) (by omega) hlt.1 hlt.2 hl_μ (fun U h1 h2 => hB_μ (s + 1) U (by omega) h1 h2) (hB_μ s _ (by omega) hlt.1 hlt.2)) ?_))
      rintro r σ' ⟨rfl, hσ⟩
      subst σ'
      show K 0 34 [some (aR 90), some (aR 54), some (aI (nI (mtH (lsO t) P S s))), some (aI (nI s))] [aI (oI (mtO (lsO t) P S s (mtH (lsO t) P S s))), aI (nI s), aR 93] μ
      rcases ho : mtO (lsO t) P S s (mtH (lsO t) P S s) with _ | p
      · have hA := mtO_none (show s < S by omega) ho
        rw [ho] at hH
        have hH : mtH (lsO t) P S (s + 1) = mtH (lsO t) P S s := hH
        rw [hA] at ha hb9
        show K _ _ _ _ _
        refine hK _ _ _ _ _ ?_
        refine And.intro (vp_in_nI (n := s) (by omega) (by decide)) ?_
        rw [nI_clamp (show s < 2 ^ 31 by omega)]
        iterate 4 refine hK _ _ _ _ _ ?_
        refine And.intro (vp_in_nI (n := s) (by omega) (by decide)) ?_
        rw [nI_clamp (show s < 2 ^ 31 by omega)]
        rw [sUp_at]
        iterate 2 refine hK _ _ _ _ _ ?_
        refine And.intro (fun _ => ?_) (fun h9 => absurd rfl h9)
        refine hK _ _ _ _ _ ?_
        show K _ _ _ _ _
        rw [show nI s + Int32.ofInt 1 = nI (s + 1) from nIs _]
        refine hK _ _ _ _ _ ?_
        refine ih (s + 1) _ a b _ (by omega) (by rw [hH]) (fun i h1 h2 => by rw [sUp_off h2]; exact hf i h1 h2) (by rw [sUp_off (by decide)]; exact h3) (by rw [sUp_off (by decide)]; exact h4) (by rw [hH]; exact ha) (by rw [hH]; exact hb9) (fun x hx => ?_)
        by_cases e : x = s
        · subst e; rw [sUp_at, ho]; try rfl
        · rw [sUp_k e]; exact hd x (by omega)
      · obtain ⟨hpP, hbit, k, hLs, hA⟩ := mtO_some ho
        have hk := hLk s p k (by omega) hpP hLs
        have hls := hl_μ s p (by omega) hpP
        rw [ho] at hH
        have hH : mtH (lsO t) P S (s + 1) = mtH (lsO t) P S s ||| 2 ^ p := hH
        rw [hA] at ha hb9
        rw [hLs] at hls
        rw [oI_some]
        refine hK _ _ _ _ _ ?_
        refine And.intro (vp_in_nI (n := s) (by omega) (by decide)) ?_
        rw [nI_clamp (show s < 2 ^ 31 by omega)]
        iterate 4 refine hK _ _ _ _ _ ?_
        refine And.intro (vp_in_nI (n := s) (by omega) (by decide)) ?_
        rw [nI_clamp (show s < 2 ^ 31 by omega)]
        rw [sUp_at]
        iterate 2 refine hK _ _ _ _ _ ?_
        refine And.intro (fun h9 => absurd h9 (nI_ne (by omega))) (fun _ => ?_)
        iterate 3 refine hK _ _ _ _ _ ?_
        show K _ _ _ _ _
        rw [sUp_off (by decide), show μ 90 0 3 = nI a from h3]
        iterate 2 refine hK _ _ _ _ _ ?_
        show K _ _ _ _ _
        rw [show nI a + Int32.ofInt 1 = nI (a + 1) from nIs _]
        iterate 4 refine hK _ _ _ _ _ ?_
        show K _ _ _ _ _
        rw [sUp_k (by decide), sUp_off (by decide), show μ 90 0 4 = nI b from h4]
        iterate 4 refine hK _ _ _ _ _ ?_
        refine And.intro (vp_in_nI (n := s) (by omega) (by decide)) ?_
        rw [nI_clamp (show s < 2 ^ 31 by omega)]
        iterate 4 refine hK _ _ _ _ _ ?_
        refine And.intro (vp_in_nI (n := s) (by omega) (by decide)) ?_
        rw [nI_clamp (show s < 2 ^ 31 by omega)]
        rw [sUp_off (by decide), sUp_at]
        refine hK _ _ _ _ _ ?_
        refine And.intro (by first | omega | (rw [nI_clamp (by omega)]; omega)) (And.intro (vp_in_nI (n := p) (by omega) (by decide)) ?_)
        rw [nI_clamp (show p < 2 ^ 31 by omega)]
        rw [sUp_off (by decide), sUp_off (by decide), show μ 92 s p = nI k from hls]
        iterate 8 refine hK _ _ _ _ _ ?_
        refine And.intro (vp_in_nI (n := s) (by omega) (by decide)) ?_
        rw [nI_clamp (show s < 2 ^ 31 by omega)]
        rw [sUp_off (by decide), sUp_off (by decide), sUp_at]
        iterate 2 refine hK _ _ _ _ _ ?_
        show K _ _ _ _ _
        rw [show nI (mtH (lsO t) P S s) ||| (Int32.ofInt 1 <<< (nI p &&& 31)) = nI ((mtH (lsO t) P S s) ||| 2 ^ p) from nI_orp _ _ (by omega)]
        iterate 2 refine hK _ _ _ _ _ ?_
        show K _ _ _ _ _
        rw [show nI s + Int32.ofInt 1 = nI (s + 1) from nIs _]
        refine hK _ _ _ _ _ ?_
        refine ih (s + 1) _ (a + 1) (b + k) _ (by omega) (by rw [hH]) (fun i h1 h2 => by rw [sUp_off h1, sUp_off h1, sUp_off h2]; exact hf i h1 h2) (by rw [sUp_k (by decide), sUp_at]) (by rw [sUp_at]; exact nIa _ _) ?_ ?_ (fun x hx => ?_)
        · rw [hH, ← ha]; show a + 1 + _ = a + (1 + _); omega
        · rw [hH, ← hb9]; show b + k + _ = b + (k + _); omega
        rw [sUp_off (by decide), sUp_off (by decide)]
        by_cases e : x = s
        · subst e; rw [sUp_at, ho]; try rfl
        · rw [sUp_k e]; exact hd x (by omega)
  exact L14 S 0 _ 0 0 _ (by omega) rfl (fun i h1 h2 => by rw [sUp_off h1, sUp_off h1]) (by rw [sUp_k (by decide), sUp_at]; rfl) (by rw [sUp_at]; rfl) (Nat.zero_add _) (Nat.zero_add _) (fun x hx => absurd hx (Nat.not_lt_zero _))
theorem c3_pair_54 (d : Nat) (σ t : sMem) (N P S G : Nat) (hC : CT σ t 54 N P S G) (hM : MI t N P S G) : yMet l D0 b0 ty ad av lay (d + 6) 0 mX3_pair [aR 90, aR 54] σ (fun r σ' => r = [] ∧ (∀ i, i < 90 ∨ 93 < i → σ' i = σ i) ∧ (∀ s, s < S → σ' 93 0 s = oI (mtO (lsO t) P S s (mtH (lsO t) P S s))) ∧ σ' 90 0 3 = nI (mtA (lsO t) P S 0 0).1 ∧ σ' 90 0 4 = nI (mtA (lsO t) P S 0 0).2) (fun _ _ => False) := by
  refine yMet_intro lay_nd kX3_pair xX3_ok (yY3_ok _) (by decide +kernel) rfl ?_
  intro K hK
  have hm := MC_of hM
  have hN := hm.1.1.1
  have hP := hm.2.2.1
  have hS8 := hm.2.2.2.1
  have hLk : ∀ s p k, s < S → p < P → lsO t s p = some k → k ≤ 200000 := fun s p k hs hp hk => lsO_le hm hs hp hk
  have h2P : 2 ^ P ≤ 1024 := Nat.pow_le_pow_right (n := 2) (j := 10) (by decide) hP
  have hPs : (Int32.ofInt 1 <<< (nI P &&& 31)) = nI (2 ^ P) := nI_shl P (by omega)
  iterate 3 refine hK _ _ _ _ _ ?_
  refine Or.inr (Or.inl (yD0 (c3_findLosses_54 _ σ t N P S G hC hM) ?_))
  rintro r μ0 ⟨rfl, hf0, hl0⟩
  show K 0 5 [some (aR 90), some (aR 54), none, none, none] [] μ0
  have s7 : μ0 54 0 7 = nI S := by rw [hf0 54 (by decide)]; exact hC.2.2.1
  have s1 : μ0 54 0 1 = nI P := by rw [hf0 54 (by decide)]; exact hC.2.1
  iterate 3 refine hK _ _ _ _ _ ?_
  show K _ _ _ _ _
  rw [show μ0 54 0 1 = nI P from s1]
  refine hK _ _ _ _ _ ?_
  show K _ _ _ _ _
  rw [hPs]
  iterate 5 refine hK _ _ _ _ _ ?_
  show K _ _ _ _ _
  rw [show μ0 54 0 7 = nI S from s7]
  refine hK _ _ _ _ _ ?_
  refine And.intro (vp_in_nI (n := S) (by omega) (by decide)) ?_
  rw [nI_clamp (show S < 2 ^ 31 by omega)]
  iterate 2 refine hK _ _ _ _ _ ?_
  refine Or.inl (calD (cJ_fill91 _ _ S (by omega) _) ?_)
  rintro r μ1 ⟨rfl, h1⟩
  show K 0 25 [some (aR 90), some (aR 54), some (aI (nI (2 ^ P))), none, none] [] μ1
  have hf1 : ∀ i, i ≠ 91 → i ≠ 92 → μ1 i = σ i := fun i a b => by rw [h1]; unfold flR; rw [sRow_off a]; exact hf0 i b
  have hl1 : ∀ s p, s < S → p < P → μ1 92 s p = oI (lsO t s p) := fun s p hs hp => by rw [h1]; unfold flR; rw [sRow_off (by decide)]; exact hl0 s p hs hp
  have hB1 : ∀ s U, S ≤ s → s ≤ S → U < 2 ^ P → pcB U 12 ≤ s → μ1 91 s U = nI (mEn (mtA (lsO t) P S s U)) := fun s U a b c _ => by
    rw [show s = S by omega, h1, mtA_S]
    unfold flR
    rw [sRow_at, if_pos (by omega)]
    rfl
  clear h1
  have s7' : μ1 54 0 7 = nI S := by rw [hf1 54 (by decide) (by decide)]; exact hC.2.2.1
  iterate 2 refine hK _ _ _ _ _ ?_
  show K _ _ _ _ _
  rw [show μ1 54 0 7 = nI S from s7']
  iterate 3 refine hK _ _ _ _ _ ?_
  have L32 : ∀ (f : Nat) (e4 : Option AV) (μ : sMem), f ≤ S → (∀ i, i ≠ 91 → i ≠ 92 → μ i = σ i) → (∀ s p, s < S → p < P → μ 92 s p = oI (lsO t s p)) → (∀ s U, f ≤ s → s ≤ S → U < 2 ^ P → pcB U 12 ≤ s → μ 91 s U = nI (mEn (mtA (lsO t) P S s U))) → K 0 32 [some (aR 90), some (aR 54), some (aI (nI (2 ^ P))), some (aI (nI f - Int32.ofInt 1)), e4] [] μ := by
    intro f
    induction f with
    | zero =>
      intro e4 μ hfS hf hl hB
      iterate 2 refine hK _ _ _ _ _ ?_
      refine And.intro (fun _ => ?_) (fun h9 => absurd (show nI 0 - Int32.ofInt 1 < 0 by decide) h9)
      iterate 3 refine hK _ _ _ _ _ ?_
      refine Or.inr (Or.inl (yD0 (c3_chooseFirst_54 _ μ t N P S G (hC.cg (fun i h1 h2 => hf i (by omega) (by omega))) hM hl (fun s U a b c => hB s U (Nat.zero_le _) a b c)) ?_))
      rintro r ν ⟨rfl, hfν, hν⟩
      show K 0 88 [some (aR 90), some (aR 54), some (aI (nI (2 ^ P))), some (aI (nI 0 - Int32.ofInt 1)), e4] [] ν
      refine hK _ _ _ _ _ ?_
      exact ⟨rfl, fun i hi => by rw [hfν i (by omega) (by omega)]; exact hf i (by omega) (by omega), hν⟩
    | succ f ih =>
      intro e4 μ hfS hf hl hB
      have en : nI (f + 1) - Int32.ofInt 1 = nI f := nIm (b := 1) (by omega)
      rw [en]
      iterate 2 refine hK _ _ _ _ _ ?_
      refine And.intro (fun h9 => absurd h9 (nI_pos (by omega))) (fun _ => ?_)
      iterate 2 refine hK _ _ _ _ _ ?_
      have L39 : ∀ (f2 : Nat) (T : Nat) (ν : sMem), T + f2 = 2 ^ P → (∀ i, i ≠ 91 → i ≠ 92 → ν i = σ i) → (∀ s p, s < S → p < P → ν 92 s p = oI (lsO t s p)) → (∀ s U, f ≤ s → s ≤ S → U < 2 ^ P → pcB U 12 ≤ s → (f < s ∨ U < T) → ν 91 s U = nI (mEn (mtA (lsO t) P S s U))) → K 0 39 [some (aR 90), some (aR 54), some (aI (nI (2 ^ P))), some (aI (nI f)), some (aI (nI T))] [] ν := by
        intro f2
        induction f2 with
        | zero =>
          intro T ν hT hf2 hl2 hB2
          iterate 3 refine hK _ _ _ _ _ ?_
          refine And.intro (fun _ => ?_) (fun h9 => absurd ((nI_leI (by omega) (by omega)).mpr (by omega)) h9)
          iterate 2 refine hK _ _ _ _ _ ?_
          show K _ _ _ _ _
          rw [x1]
          exact ih _ ν (by omega) hf2 hl2 (fun s U a b c e => hB2 s U (by omega) b c e (by omega))
        | succ f2 ih2 =>
          intro T ν hT hf2 hl2 hB2
          iterate 3 refine hK _ _ _ _ _ ?_
          refine And.intro (fun h9 => absurd ((nI_leI (by omega) (by omega)).mp h9) (by omega)) (fun _ => ?_)
          iterate 2 refine hK _ _ _ _ _ ?_
          refine Or.inl (calD (cJ_bc _ _ _) ?_)
          rintro r σ' ⟨rfl, hσ⟩
          subst σ'
          show K 0 50 [some (aR 90), some (aR 54), some (aI (nI (2 ^ P))), some (aI (nI f)), some (aI (nI T))] [aI (bcI (nI T))] ν
          show K _ _ _ _ _
          rw [bc_nI (show T < 4096 by omega)]
          have hpc := pcB_le T 12
          iterate 2 refine hK _ _ _ _ _ ?_
          refine And.intro (fun h8 => ?_) (fun h8 => ?_)
          · have hc := (nI_ltI (by omega) (by omega)).mp h8
            refine hK _ _ _ _ _ ?_
            show K _ _ _ _ _
            rw [show nI T + Int32.ofInt 1 = nI (T + 1) from nIs _]
            refine hK _ _ _ _ _ ?_
            exact ih2 (T + 1) ν (by omega) hf2 hl2 (fun s U a b c e q => hB2 s U a b c e (by
              by_cases q1 : s = f
              · by_cases q2 : U = T
                · rw [q1, q2] at e; omega
                · omega
              · omega))
          · have hc : ¬ f < pcB T 12 := fun q => h8 ((nI_ltI (by omega) (by omega)).mpr q)
            iterate 4 refine hK _ _ _ _ _ ?_
            refine And.intro (vp_in_nI (n := f) (by omega) (by decide)) ?_
            rw [nI_clamp (show f < 2 ^ 31 by omega)]
            iterate 6 refine hK _ _ _ _ _ ?_
            refine Or.inr (Or.inl (yD0 (c3_bestFrom_54 _ ν t N P S G (hC.cg (fun i h1 h2 => hf2 i (by omega) (by omega))) hM f T (by omega) (by omega) (by omega) hl2 (fun U a b => hB2 (f + 1) U (by omega) (by omega) a b (by omega))) ?_))
            rintro r σ' ⟨rfl, hσ⟩
            subst σ'
            show K 0 70 [some (aR 90), some (aR 54), some (aI (nI (2 ^ P))), some (aI (nI f)), some (aI (nI T))] [aI (nI (mEn (mtA (lsO t) P S f T))), aI (nI T), .inr (91, f)] ν
            refine hK _ _ _ _ _ ?_
            refine And.intro (by first | omega | (rw [nI_clamp (by omega)]; omega)) (And.intro (vp_in_nI (n := T) (by omega) (by decide)) ?_)
            rw [nI_clamp (show T < 2 ^ 31 by omega)]
            refine hK _ _ _ _ _ ?_
            show K _ _ _ _ _
            rw [show nI T + Int32.ofInt 1 = nI (T + 1) from nIs _]
            refine hK _ _ _ _ _ ?_
            refine ih2 (T + 1) _ (by omega) (fun i a b => by rw [sUp_off a]; exact hf2 i a b) (fun s p a b => by rw [sUp_off (by decide)]; exact hl2 s p a b) (fun s U a b c e q => ?_)
            by_cases q1 : s = f
            · subst q1
              by_cases q2 : U = T
              · subst q2; rw [sUp_at]
              · rw [sUp_k q2]; exact hB2 s U a b c e (by omega)
            · rw [sUp_rowne q1]; exact hB2 s U a b c e (by omega)
      exact L39 (2 ^ P) 0 μ (by omega) hf hl (fun s U a b c e q => hB s U (by omega) b c e)
  exact L32 S none μ1 (Nat.le_refl _) hf1 hl1 hB1
theorem c8_match_54_x0 (d : Nat) (σ t : sMem) (N P S G : Nat) (h : HR σ t 54 N P S G) (w : Int32) (h0 : ¬ (0 ≤ w ∧ w ≤ nI 2 - 1)) : yMet l D0 b0 ty ad av lay (d + 7) 1 mX8_match [aR 34, aI (w)] σ (fun _ _ => False) (fun e σ' => e = yIAE ∧ σ' = σ) := by
  refine yMet_intro lay_nd kX8_match xX8_ok (yY8_ok _) (by decide +kernel) rfl ?_
  intro K hK
  have hN := h.2.2.1.1.1.1.1
  have hP := h.2.2.1.1.1.2.2.2.1.2
  have hS8 := h.2.2.1.1.1.2.2.2.2.1.2
  iterate 3 refine hK _ _ _ _ _ ?_
  refine Or.inr (Or.inr ⟨0, 1, rfl, yDX (c8_checkBelow_x _ _ 2 (by decide) w h0) (fun _ _ h => h.elim) ?_⟩)
  exact fun e σ' h => h
theorem c8_match_54_ok (d : Nat) (σ t : sMem) (N P S G : Nat) (h : HR σ t 54 N P S G) (w : Nat) (hw : w ≤ 1) : yMet l D0 b0 ty ad av lay (d + 7) 0 mX8_match [aR 34, aI (nI w)] σ (fun r σ' => r = [aI (nI (if w = 0 then (mtA (lsO t) P S 0 0).1 else (mtA (lsO t) P S 0 0).2))] ∧ ∀ i, i < 90 ∨ 93 < i → σ' i = σ i) (fun _ _ => False) := by
  refine yMet_intro lay_nd kX8_match xX8_ok (yY8_ok _) (by decide +kernel) rfl ?_
  intro K hK
  iterate 3 refine hK _ _ _ _ _ ?_
  refine Or.inl (calD (c8_checkBelow_ok _ _ 2 (by decide) (nI w) (nI_isIn (n := 2) (by decide) (by omega))) ?_)
  rintro r σ' ⟨rfl, hσ⟩
  subst σ'
  show K 0 5 [some (aR 34), some (aI (nI w))] [] σ
  iterate 4 refine hK _ _ _ _ _ ?_
  show K _ _ _ _ _
  rw [show σ 34 0 3 = nI 54 from h.1]
  show K _ _ _ _ _
  rw [show (nI 54).toNatClampNeg = 54 from rfl]
  refine hK _ _ _ _ _ ?_
  refine Or.inr (Or.inl (yD0 (c3_pair_54 _ σ t N P S G h.2.1 h.2.2.1) ?_))
  rintro r μ ⟨rfl, hf, hd, h3, h4⟩
  show K 0 16 [some (aR 34), some (aI (nI w))] [] μ
  iterate 2 refine hK _ _ _ _ _ ?_
  refine And.intro (fun h8 => ?_) (fun h8 => ?_)
  · have hw0 : ¬ w = 0 := fun e => h8 (by rw [e]; rfl)
    iterate 3 refine hK _ _ _ _ _ ?_
    show K _ _ _ _ _
    rw [show μ 90 0 4 = nI (mtA (lsO t) P S 0 0).2 from h4]
    refine hK _ _ _ _ _ ?_
    exact ⟨by rw [if_neg hw0], hf⟩
  · have hw0 : w = 0 := (nI_eq (b := 0) (by omega) (by decide)).mp h8
    iterate 3 refine hK _ _ _ _ _ ?_
    show K _ _ _ _ _
    rw [show μ 90 0 3 = nI (mtA (lsO t) P S 0 0).1 from h3]
    iterate 2 refine hK _ _ _ _ _ ?_
    exact ⟨by rw [if_pos hw0], hf⟩
theorem c8_matched_54_x0 (d : Nat) (σ t : sMem) (N P S G : Nat) (h : HR σ t 54 N P S G) (x : Int32) (h0 : ¬ (0 ≤ x ∧ x ≤ nI S - 1)) : yMet l D0 b0 ty ad av lay (d + 7) 1 mX8_matched [aR 34, aI (x)] σ (fun _ _ => False) (fun e σ' => e = yNSE ∧ σ' = σ) := by
  refine yMet_intro lay_nd kX8_matched xX8_ok (yY8_ok _) (by decide +kernel) rfl ?_
  intro K hK
  have hN := h.2.2.1.1.1.1.1
  have hP := h.2.2.1.1.1.2.2.2.1.2
  have hS8 := h.2.2.1.1.1.2.2.2.2.1.2
  iterate 3 refine hK _ _ _ _ _ ?_
  refine Or.inr (Or.inr ⟨0, 1, rfl, yDX (c8_checkStranger_54_x _ _ S (by omega) h.1 h.2.1.2.2.1 x h0) (fun _ _ h => h.elim) ?_⟩)
  exact fun e σ' h => h
theorem c8_matched_54_ok (d : Nat) (σ t : sMem) (N P S G : Nat) (h : HR σ t 54 N P S G) (x : Nat) (hx : x < S) : yMet l D0 b0 ty ad av lay (d + 7) 0 mX8_matched [aR 34, aI (nI x)] σ (fun r σ' => r = [aI (oI (mtO (lsO t) P S x (mtH (lsO t) P S x)))] ∧ ∀ i, i < 90 ∨ 93 < i → σ' i = σ i) (fun _ _ => False) := by
  refine yMet_intro lay_nd kX8_matched xX8_ok (yY8_ok _) (by decide +kernel) rfl ?_
  intro K hK
  have hN := h.2.2.1.1.1.1.1
  have hP := h.2.2.1.1.1.2.2.2.1.2
  have hS8 := h.2.2.1.1.1.2.2.2.2.1.2
  iterate 3 refine hK _ _ _ _ _ ?_
  refine Or.inl (calD (c8_checkStranger_54_ok _ _ S (by omega) h.1 h.2.1.2.2.1 (nI x) (nI_isIn (by omega) hx)) ?_)
  rintro r σ' ⟨rfl, hσ⟩
  subst σ'
  show K 0 5 [some (aR 34), some (aI (nI x))] [] σ
  iterate 4 refine hK _ _ _ _ _ ?_
  show K _ _ _ _ _
  rw [show σ 34 0 3 = nI 54 from h.1]
  show K _ _ _ _ _
  rw [show (nI 54).toNatClampNeg = 54 from rfl]
  refine hK _ _ _ _ _ ?_
  refine Or.inr (Or.inl (yD0 (c3_pair_54 _ σ t N P S G h.2.1 h.2.2.1) ?_))
  rintro r μ ⟨rfl, hf, hd, h3, h4⟩
  show K 0 16 [some (aR 34), some (aI (nI x))] [] μ
  iterate 5 refine hK _ _ _ _ _ ?_
  refine And.intro (vp_in_nI (n := x) (by omega) (by decide)) ?_
  rw [nI_clamp (show x < 2 ^ 31 by omega)]
  rw [show μ 93 0 x = oI (mtO (lsO t) P S x (mtH (lsO t) P S x)) from hd x hx]
  refine hK _ _ _ _ _ ?_
  exact ⟨rfl, hf⟩
end
