/-! THE REFERENCE: match, matched -/
section
variable {l : Launch} {D : va_G} {b0 : Nat} {ty : Nat → ClassId}
theorem c9_losesO (d : Nat) (σ t : sMem) (N P S : Nat) (hT : TD σ N P S) (hm : MC t N P S) (h6 : σ 6 = t 6) (h8 : σ 8 = t 8) (h14 : σ 14 = t 14) (p s : Nat) (hp : p < P) (hs : s < S) : sMet l D b0 ty lay (d + 1) mX9_losesBy [aR 0, aI (nI p), aI (nI s)] σ (fun r σ' => r = [aI (oF (lsO t s p))] ∧ σ' = σ) := by
  have h := c9_losesBy (l := l) (D := D) (b0 := b0) (ty := ty) d σ N P S hT p s hp hs
  rw [lsB_cg h6 h8 h14, lsB_lsO hm hs hp] at h
  exact h
theorem c9_layMatch (d : Nat) (σ t : sMem) (N P S : Nat) (hT : TD σ N P S) (hm : MC t N P S) (g6 : σ 6 = t 6) (g8 : σ 8 = t 8) (g14 : σ 14 = t 14) : sMet l D b0 ty lay (d + 2) mX9_layMatch [aR 0] σ (fun r σ' => r = [] ∧ (∀ i, i ≠ 30 → i ≠ 31 → σ' i = σ i) ∧ ∀ s U, s ≤ S → U < 2 ^ P → σ' 30 s U = nI (mtA (lsO t) P S s U).1 ∧ σ' 31 s U = nI (mtA (lsO t) P S s U).2) := by
  refine sMet_intro lay_nd kX9_layMatch xX9_ok (by decide +kernel) rfl ?_
  intro K hK
  have hP := hT.2.2.2.1.2
  have hS8 := hT.2.2.2.2.1.2
  have h2P : 2 ^ P ≤ 1024 := Nat.pow_le_pow_right (n := 2) (j := 10) (by decide) hP
  have hPs : (Int32.ofInt 1 <<< (nI P &&& 31)) = nI (2 ^ P) := nI_shl P (by omega)
  have hLk : ∀ s p k, s < S → p < P → lsO t s p = some k → k ≤ 200000 := fun s p k hs hp hk => lsO_le hm hs hp hk
  have t1 := hT.2.2.2.1.1
  have t2 := hT.2.2.2.2.1.1
  iterate 4 refine hK _ _ _ _ ?_
  refine And.intro (vp_in_nI (n := 2) (by decide) (by decide)) ?_
  rw [show (Int32.ofInt 2).toNatClampNeg = 2 from rfl]
  rw [show σ 3 0 2 = nI S from t2]
  refine hK _ _ _ _ ?_
  have L7 : ∀ (f : Nat) (y : Int32) (e2 e3 e4 e5 : Option AV) (μ : sMem), f ≤ S + 1 → y = nI f - Int32.ofInt 1 → (∀ i, i ≠ 30 → i ≠ 31 → μ i = σ i) → (∀ s U, f ≤ s → s ≤ S → U < 2 ^ P → μ 30 s U = nI (mtA (lsO t) P S s U).1 ∧ μ 31 s U = nI (mtA (lsO t) P S s U).2) → K 7 [some (aR 0), some (aI (y)), e2, e3, e4, e5] [] μ := by
    intro f
    induction f with
    | zero =>
      intro y e2 e3 e4 e5 μ hfS hy hf hB
      iterate 2 refine hK _ _ _ _ ?_
      refine And.intro (fun _ => ?_) (fun h9 => absurd (by rw [hy]; decide) h9)
      refine hK _ _ _ _ ?_
      exact ⟨rfl, hf, fun s U a b => hB s U (Nat.zero_le _) a b⟩
    | succ f ih =>
      intro y e2 e3 e4 e5 μ hfS hy hf hB
      have t1_μ : μ 3 0 1 = nI P := by rw [hf 3 (by decide) (by decide)]; exact t1
      have t2_μ : μ 3 0 2 = nI S := by rw [hf 3 (by decide) (by decide)]; exact t2
      have hy2 : y = nI f := hy.trans (nIm (b := 1) (by omega))
      subst hy2
      iterate 2 refine hK _ _ _ _ ?_
      refine And.intro (fun h9 => absurd h9 (nI_pos (by omega))) (fun _ => ?_)
      iterate 2 refine hK _ _ _ _ ?_
      have L13 : ∀ (f2 : Nat) (T : Nat) (e3 e4 e5 : Option AV) (ν : sMem), T + f2 = 2 ^ P → (∀ i, i ≠ 30 → i ≠ 31 → ν i = σ i) → (∀ s U, f ≤ s → s ≤ S → U < 2 ^ P → (f < s ∨ U < T) → ν 30 s U = nI (mtA (lsO t) P S s U).1 ∧ ν 31 s U = nI (mtA (lsO t) P S s U).2) → K 13 [some (aR 0), some (aI (nI f)), some (aI (nI T)), e3, e4, e5] [] ν := by
        intro f2
        induction f2 with
        | zero =>
          intro T e3 e4 e5 ν hT9 hf2 hB2
          have t1_ν : ν 3 0 1 = nI P := by rw [hf2 3 (by decide) (by decide)]; exact t1
          have t2_ν : ν 3 0 2 = nI S := by rw [hf2 3 (by decide) (by decide)]; exact t2
          iterate 6 refine hK _ _ _ _ ?_
          refine And.intro (vp_in_nI (n := 1) (by decide) (by decide)) ?_
          rw [show (Int32.ofInt 1).toNatClampNeg = 1 from rfl]
          rw [show ν 3 0 1 = nI P from t1_ν]
          refine hK _ _ _ _ ?_
          show K _ _ _ _
          rw [hPs]
          refine hK _ _ _ _ ?_
          refine And.intro (fun _ => ?_) (fun h9 => absurd ((nI_leI (by omega) (by omega)).mpr (by omega)) h9)
          iterate 2 refine hK _ _ _ _ ?_
          exact ih _ _ _ _ _ ν (by omega) (x1 _) hf2 (fun s U a b c => hB2 s U (by omega) b c (by omega))
        | succ f2 ih2 =>
          intro T e3 e4 e5 ν hT9 hf2 hB2
          have t1_ν : ν 3 0 1 = nI P := by rw [hf2 3 (by decide) (by decide)]; exact t1
          have t2_ν : ν 3 0 2 = nI S := by rw [hf2 3 (by decide) (by decide)]; exact t2
          iterate 6 refine hK _ _ _ _ ?_
          refine And.intro (vp_in_nI (n := 1) (by decide) (by decide)) ?_
          rw [show (Int32.ofInt 1).toNatClampNeg = 1 from rfl]
          rw [show ν 3 0 1 = nI P from t1_ν]
          refine hK _ _ _ _ ?_
          show K _ _ _ _
          rw [hPs]
          refine hK _ _ _ _ ?_
          refine And.intro (fun h9 => absurd ((nI_leI (by omega) (by omega)).mp h9) (by omega)) (fun _ => ?_)
          by_cases e : f = S
          · subst e
            iterate 4 refine hK _ _ _ _ ?_
            refine And.intro (vp_in_nI (n := f) (by omega) (by decide)) ?_
            rw [nI_clamp (show f < 2 ^ 31 by omega)]
            iterate 6 refine hK _ _ _ _ ?_
            refine And.intro (vp_in_nI (n := 2) (by decide) (by decide)) ?_
            rw [show (Int32.ofInt 2).toNatClampNeg = 2 from rfl]
            rw [show ν 3 0 2 = nI f from t2_ν]
            refine hK _ _ _ _ ?_
            refine And.intro (fun h9 => absurd rfl h9) (fun _ => ?_)
            iterate 3 refine hK _ _ _ _ ?_
            refine And.intro (by first | omega | (rw [nI_clamp (by omega)]; omega)) (And.intro (vp_in_nI (n := T) (by omega) (by decide)) ?_)
            rw [nI_clamp (show T < 2 ^ 31 by omega)]
            iterate 4 refine hK _ _ _ _ ?_
            refine And.intro (vp_in_nI (n := f) (by omega) (by decide)) ?_
            rw [nI_clamp (show f < 2 ^ 31 by omega)]
            iterate 6 refine hK _ _ _ _ ?_
            refine And.intro (vp_in_nI (n := 2) (by decide) (by decide)) ?_
            rw [show (Int32.ofInt 2).toNatClampNeg = 2 from rfl]
            rw [sUp_off (by decide), show ν 3 0 2 = nI f from t2_ν]
            refine hK _ _ _ _ ?_
            refine And.intro (fun h9 => absurd rfl h9) (fun _ => ?_)
            iterate 3 refine hK _ _ _ _ ?_
            refine And.intro (by first | omega | (rw [nI_clamp (by omega)]; omega)) (And.intro (vp_in_nI (n := T) (by omega) (by decide)) ?_)
            rw [nI_clamp (show T < 2 ^ 31 by omega)]
            have hn : ∀ s U, f ≤ s → s ≤ f → U < 2 ^ P → (f < s ∨ U < T + 1) → sUp (sUp ν 30 f T (Int32.ofInt 0)) 31 f T (Int32.ofInt 0) 30 s U = nI (mtA (lsO t) P f s U).1 ∧ sUp (sUp ν 30 f T (Int32.ofInt 0)) 31 f T (Int32.ofInt 0) 31 s U = nI (mtA (lsO t) P f s U).2 := by
              intro s U a b c e
              have es : s = f := by omega
              subst es
              rw [sUp_off (by decide), mtA_S]
              by_cases q2 : U = T
              · subst q2; rw [sUp_at, sUp_at]; exact ⟨rfl, rfl⟩
              · rw [sUp_k q2, sUp_k q2, sUp_off (by decide)]
                have := hB2 s U a b c (by omega)
                rw [mtA_S] at this
                exact this
            have hfn : ∀ i, i ≠ 30 → i ≠ 31 → sUp (sUp ν 30 f T (Int32.ofInt 0)) 31 f T (Int32.ofInt 0) i = σ i := fun i a b => by rw [sUp_off b, sUp_off a]; exact hf2 i a b
            have t1_n : sUp (sUp ν 30 f T (Int32.ofInt 0)) 31 f T (Int32.ofInt 0) 3 0 1 = nI P := by rw [hfn 3 (by decide) (by decide)]; exact t1
            have t2_n : sUp (sUp ν 30 f T (Int32.ofInt 0)) 31 f T (Int32.ofInt 0) 3 0 2 = nI f := by rw [hfn 3 (by decide) (by decide)]; exact t2
            show K _ _ _ (sUp (sUp ν 30 f T (Int32.ofInt 0)) 31 f T (Int32.ofInt 0))
            generalize sUp (sUp ν 30 f T (Int32.ofInt 0)) 31 f T (Int32.ofInt 0) = κ at hn hfn t1_n t2_n ⊢
            iterate 2 refine hK _ _ _ _ ?_
            have l243 : ∀ (e3 : Option AV), K 243 [some (aR 0), some (aI (nI f)), some (aI (nI T)), e3, e4, e5] [] κ := by
              intro e3
              refine hK _ _ _ _ ?_
              show K _ _ _ _
              rw [show nI T + Int32.ofInt 1 = nI (T + 1) from nIs _]
              refine hK _ _ _ _ ?_
              exact ih2 (T + 1) _ _ _ κ (by omega) hfn hn
            iterate 5 refine hK _ _ _ _ ?_
            refine And.intro (vp_in_nI (n := 1) (by decide) (by decide)) ?_
            rw [show (Int32.ofInt 1).toNatClampNeg = 1 from rfl]
            rw [show κ 3 0 1 = nI P from t1_n]
            refine hK _ _ _ _ ?_
            refine And.intro (fun h8 => l243 _) (fun h8 => ?_)
            iterate 5 refine hK _ _ _ _ ?_
            refine And.intro (vp_in_nI (n := 2) (by decide) (by decide)) ?_
            rw [show (Int32.ofInt 2).toNatClampNeg = 2 from rfl]
            rw [show κ 3 0 2 = nI f from t2_n]
            refine hK _ _ _ _ ?_
            refine And.intro (fun _ => ?_) (fun h7 => absurd (Int32.le_refl _) h7)
            exact l243 _
          · have hfS : f < S := by omega
            obtain ⟨v1, v2⟩ := hB2 (f + 1) T (by omega) (by omega) (by omega) (by omega)
            iterate 4 refine hK _ _ _ _ ?_
            refine And.intro (vp_in_nI (n := f) (by omega) (by decide)) ?_
            rw [nI_clamp (show f < 2 ^ 31 by omega)]
            iterate 6 refine hK _ _ _ _ ?_
            refine And.intro (vp_in_nI (n := 2) (by decide) (by decide)) ?_
            rw [show (Int32.ofInt 2).toNatClampNeg = 2 from rfl]
            rw [show ν 3 0 2 = nI S from t2_ν]
            refine hK _ _ _ _ ?_
            refine And.intro (fun _ => ?_) (fun h9 => absurd ((nI_eq (by omega) (by omega)).mp h9) e)
            iterate 5 refine hK _ _ _ _ ?_
            show K _ _ _ _
            rw [show nI f + Int32.ofInt 1 = nI (f + 1) from nIs _]
            refine hK _ _ _ _ ?_
            refine And.intro (vp_in_nI (n := (f + 1)) (by omega) (by decide)) ?_
            rw [nI_clamp (show (f + 1) < 2 ^ 31 by omega)]
            iterate 2 refine hK _ _ _ _ ?_
            refine And.intro (by first | omega | (rw [nI_clamp (by omega)]; omega)) (And.intro (vp_in_nI (n := T) (by omega) (by decide)) ?_)
            rw [nI_clamp (show T < 2 ^ 31 by omega)]
            rw [show ν 30 (f + 1) T = nI (mtA (lsO t) P S (f + 1) T).1 from v1]
            refine hK _ _ _ _ ?_
            refine And.intro (by first | omega | (rw [nI_clamp (by omega)]; omega)) (And.intro (vp_in_nI (n := T) (by omega) (by decide)) ?_)
            rw [nI_clamp (show T < 2 ^ 31 by omega)]
            iterate 4 refine hK _ _ _ _ ?_
            refine And.intro (vp_in_nI (n := f) (by omega) (by decide)) ?_
            rw [nI_clamp (show f < 2 ^ 31 by omega)]
            iterate 6 refine hK _ _ _ _ ?_
            refine And.intro (vp_in_nI (n := 2) (by decide) (by decide)) ?_
            rw [show (Int32.ofInt 2).toNatClampNeg = 2 from rfl]
            rw [sUp_off (by decide), show ν 3 0 2 = nI S from t2_ν]
            refine hK _ _ _ _ ?_
            refine And.intro (fun _ => ?_) (fun h9 => absurd ((nI_eq (by omega) (by omega)).mp h9) e)
            iterate 5 refine hK _ _ _ _ ?_
            show K _ _ _ _
            rw [show nI f + Int32.ofInt 1 = nI (f + 1) from nIs _]
            refine hK _ _ _ _ ?_
            refine And.intro (vp_in_nI (n := (f + 1)) (by omega) (by decide)) ?_
            rw [nI_clamp (show (f + 1) < 2 ^ 31 by omega)]
            iterate 2 refine hK _ _ _ _ ?_
            refine And.intro (by first | omega | (rw [nI_clamp (by omega)]; omega)) (And.intro (vp_in_nI (n := T) (by omega) (by decide)) ?_)
            rw [nI_clamp (show T < 2 ^ 31 by omega)]
            rw [sUp_off (by decide), show ν 31 (f + 1) T = nI (mtA (lsO t) P S (f + 1) T).2 from v2]
            refine hK _ _ _ _ ?_
            refine And.intro (by first | omega | (rw [nI_clamp (by omega)]; omega)) (And.intro (vp_in_nI (n := T) (by omega) (by decide)) ?_)
            rw [nI_clamp (show T < 2 ^ 31 by omega)]
            have hQ : ∀ U, mOK (S - (f + 1)) (mtA (lsO t) P S (f + 1) U) := fun U => mtA_ok hLk (f + 1) U
            have hst : ∀ p, mtP (lsO t f) (mtA (lsO t) P S (f + 1)) T (p + 1) = mtC (lsO t f p) (T.testBit p) (mtA (lsO t) P S (f + 1) (T ||| 2 ^ p)) (mtP (lsO t f) (mtA (lsO t) P S (f + 1)) T p) := fun p => rfl
            iterate 2 refine hK _ _ _ _ ?_
            have L91 : ∀ (f3 : Nat) (p : Nat) (e4 e5 : Option AV) (ac : Nat × Nat) (κ : sMem), p + f3 = P → ac = mtP (lsO t f) (mtA (lsO t) P S (f + 1)) T p → (∀ i, i ≠ 30 → i ≠ 31 → κ i = σ i) → κ 30 f T = nI ac.1 ∧ κ 31 f T = nI ac.2 → (∀ s U, f ≤ s → s ≤ S → U < 2 ^ P → (f < s ∨ U < T) → κ 30 s U = nI (mtA (lsO t) P S s U).1 ∧ κ 31 s U = nI (mtA (lsO t) P S s U).2) → K 91 [some (aR 0), some (aI (nI f)), some (aI (nI T)), some (aI (nI p)), e4, e5] [] κ := by
              intro f3
              induction f3 with
              | zero =>
                intro p e4 e5 ac κ hp hac hf3 hv hB3
                have t1_κ : κ 3 0 1 = nI P := by rw [hf3 3 (by decide) (by decide)]; exact t1
                have t2_κ : κ 3 0 2 = nI S := by rw [hf3 3 (by decide) (by decide)]; exact t2
                have c1 := hv.1
                have c2 := hv.2
                iterate 5 refine hK _ _ _ _ ?_
                refine And.intro (vp_in_nI (n := 1) (by decide) (by decide)) ?_
                rw [show (Int32.ofInt 1).toNatClampNeg = 1 from rfl]
                rw [show κ 3 0 1 = nI P from t1_κ]
                refine hK _ _ _ _ ?_
                refine And.intro (fun _ => ?_) (fun h9 => absurd ((nI_leI (by omega) (by omega)).mpr (by omega)) h9)
                refine hK _ _ _ _ ?_
                show K _ _ _ _
                rw [show nI T + Int32.ofInt 1 = nI (T + 1) from nIs _]
                refine hK _ _ _ _ ?_
                refine ih2 (T + 1) _ _ _ κ (by omega) hf3 (fun s U a b c e => ?_)
                by_cases q : s = f ∧ U = T
                · obtain ⟨rfl, rfl⟩ := q
                  rw [mtA_s hfS]
                  rw [show p = P by omega] at hac
                  rw [← hac]
                  exact hv
                · exact hB3 s U a b c (by omega)
              | succ f3 ih3 =>
                intro p e4 e5 ac κ hp hac hf3 hv hB3
                have t1_κ : κ 3 0 1 = nI P := by rw [hf3 3 (by decide) (by decide)]; exact t1
                have t2_κ : κ 3 0 2 = nI S := by rw [hf3 3 (by decide) (by decide)]; exact t2
                have c1 := hv.1
                have c2 := hv.2
                have hok : mOK (S - (f + 1) + 1) ac := by rw [hac]; exact mtP_ok (P := P) (fun p k hp hk => hLk f p k hfS hp hk) hQ p (by omega)
                have hs9 := hst p
                rw [← hac] at hs9
                have hT3 : TD κ N P S := hT.congr (hf3 3 (by decide) (by decide)) (hf3 6 (by decide) (by decide)) (hf3 8 (by decide) (by decide)) (hf3 13 (by decide) (by decide)) (hf3 14 (by decide) (by decide)) (hf3 15 (by decide) (by decide))
                iterate 5 refine hK _ _ _ _ ?_
                refine And.intro (vp_in_nI (n := 1) (by decide) (by decide)) ?_
                rw [show (Int32.ofInt 1).toNatClampNeg = 1 from rfl]
                rw [show κ 3 0 1 = nI P from t1_κ]
                refine hK _ _ _ _ ?_
                refine And.intro (fun h9 => absurd ((nI_leI (by omega) (by omega)).mp h9) (by omega)) (fun _ => ?_)
                iterate 5 refine hK _ _ _ _ ?_
                refine And.intro (vp_in_nI (n := 2) (by decide) (by decide)) ?_
                rw [show (Int32.ofInt 2).toNatClampNeg = 2 from rfl]
                rw [show κ 3 0 2 = nI S from t2_κ]
                refine hK _ _ _ _ ?_
                refine And.intro (fun h9 => absurd ((nI_leI (by omega) (by omega)).mp h9) (by omega)) (fun _ => ?_)
                iterate 7 refine hK _ _ _ _ ?_
                refine And.intro (fun h8 => ?_) (fun h8 => ?_)
                · have cb : T.testBit p = true := by rw [← bt_nI T p (by omega)]; exact decide_eq_true h8
                  refine hK _ _ _ _ ?_
                  show K _ _ _ _
                  rw [show nI p + Int32.ofInt 1 = nI (p + 1) from nIs _]
                  refine hK _ _ _ _ ?_
                  exact ih3 (p + 1) _ _ ac κ (by omega) (by rw [hs9, cb]; cases lsO t f p <;> rfl) hf3 hv hB3
                · have cb : T.testBit p = false := by rw [← bt_nI T p (by omega)]; exact decide_eq_false h8
                  iterate 4 refine hK _ _ _ _ ?_
                  refine calD (c9_losesO _ κ t N P S hT3 hm ((hf3 6 (by decide) (by decide)).trans g6) ((hf3 8 (by decide) (by decide)).trans g8) ((hf3 14 (by decide) (by decide)).trans g14) p f (by omega) hfS) ?_
                  rintro r σ' ⟨rfl, hσ⟩
                  subst σ'
                  show K 126 [some (aR 0), some (aI (nI f)), some (aI (nI T)), some (aI (nI p)), e4, e5] [aI (oF (lsO t f p))] κ
                  rcases ho : lsO t f p with _ | k
                  · rw [ho] at hs9
                    have hs9 : mtP (lsO t f) (mtA (lsO t) P S (f + 1)) T (p + 1) = ac := hs9
                    show K _ _ _ _
                    iterate 2 refine hK _ _ _ _ ?_
                    refine And.intro (fun h7 => absurd rfl h7) (fun _ => ?_)
                    iterate 2 refine hK _ _ _ _ ?_
                    show K _ _ _ _
                    rw [show nI p + Int32.ofInt 1 = nI (p + 1) from nIs _]
                    refine hK _ _ _ _ ?_
                    exact ih3 (p + 1) _ _ ac κ (by omega) hs9.symm hf3 hv hB3
                  · have hk := hLk f p k hfS (by omega) ho
                    have hne : ¬ nI k = (1000000 : Int32) := fun e => by have := (oF_ne (o := some k) (fun j hj => by cases hj; exact hk)).mp e; cases this
                    obtain ⟨w1, w2⟩ := hB3 (f + 1) (T ||| 2 ^ p) (by omega) (by omega) (or_lt (by omega) (by omega)) (by omega)
                    have hO : T ||| 2 ^ p < 1024 := Nat.lt_of_lt_of_le (or_lt (P := P) (by omega) (by omega)) h2P
                    have q1 := (hQ (T ||| 2 ^ p)).1
                    have q2 := (hQ (T ||| 2 ^ p)).2
                    have a1 := hok.1
                    have a2 := hok.2
                    have hs9 : mtP (lsO t f) (mtA (lsO t) P S (f + 1)) T (p + 1) = if 1 + (mtA (lsO t) P S (f + 1) (T ||| 2 ^ p)).1 < ac.1 ∨ (1 + (mtA (lsO t) P S (f + 1) (T ||| 2 ^ p)).1 = ac.1 ∧ ac.2 ≤ k + (mtA (lsO t) P S (f + 1) (T ||| 2 ^ p)).2) then ac else (1 + (mtA (lsO t) P S (f + 1) (T ||| 2 ^ p)).1, k + (mtA (lsO t) P S (f + 1) (T ||| 2 ^ p)).2) := by rw [hs9, ho, cb]; rfl
                    generalize (mtA (lsO t) P S (f + 1) (T ||| 2 ^ p)) = qq at w1 w2 q1 q2 hs9
                    show K _ _ _ _
                    iterate 2 refine hK _ _ _ _ ?_
                    refine And.intro (fun _ => ?_) (fun h7 => absurd h7 hne)
                    iterate 6 refine hK _ _ _ _ ?_
                    show K _ _ _ _
                    rw [show nI f + Int32.ofInt 1 = nI (f + 1) from nIs _]
                    refine hK _ _ _ _ ?_
                    refine And.intro (vp_in_nI (n := (f + 1)) (by omega) (by decide)) ?_
                    rw [nI_clamp (show (f + 1) < 2 ^ 31 by omega)]
                    iterate 5 refine hK _ _ _ _ ?_
                    show K _ _ _ _
                    rw [show nI T ||| (Int32.ofInt 1 <<< (nI p &&& 31)) = nI (T ||| 2 ^ p) from nI_orp _ _ (by omega)]
                    refine hK _ _ _ _ ?_
                    refine And.intro (by first | omega | (rw [nI_clamp (by omega)]; omega)) (And.intro (vp_in_nI (n := (T ||| 2 ^ p)) (by omega) (by decide)) ?_)
                    rw [nI_clamp (show (T ||| 2 ^ p) < 2 ^ 31 by omega)]
                    rw [show κ 30 (f + 1) (T ||| 2 ^ p) = nI qq.1 from w1]
                    refine hK _ _ _ _ ?_
                    show K _ _ _ _
                    rw [show Int32.ofInt 1 + nI qq.1 = nI (1 + qq.1) from nIa 1 _]
                    iterate 5 refine hK _ _ _ _ ?_
                    refine calD (c9_losesO _ κ t N P S hT3 hm ((hf3 6 (by decide) (by decide)).trans g6) ((hf3 8 (by decide) (by decide)).trans g8) ((hf3 14 (by decide) (by decide)).trans g14) p f (by omega) hfS) ?_
                    rintro r σ' ⟨rfl, hσ⟩
                    subst σ'
                    show K 158 [some (aR 0), some (aI (nI f)), some (aI (nI T)), some (aI (nI p)), some (aI (nI (1 + qq.1))), e5] [aI (oF (lsO t f p))] κ
                    rw [ho]
                    iterate 5 refine hK _ _ _ _ ?_
                    show K _ _ _ _
                    rw [show nI f + Int32.ofInt 1 = nI (f + 1) from nIs _]
                    refine hK _ _ _ _ ?_
                    refine And.intro (vp_in_nI (n := (f + 1)) (by omega) (by decide)) ?_
                    rw [nI_clamp (show (f + 1) < 2 ^ 31 by omega)]
                    iterate 5 refine hK _ _ _ _ ?_
                    show K _ _ _ _
                    rw [show nI T ||| (Int32.ofInt 1 <<< (nI p &&& 31)) = nI (T ||| 2 ^ p) from nI_orp _ _ (by omega)]
                    refine hK _ _ _ _ ?_
                    refine And.intro (by first | omega | (rw [nI_clamp (by omega)]; omega)) (And.intro (vp_in_nI (n := (T ||| 2 ^ p)) (by omega) (by decide)) ?_)
                    rw [nI_clamp (show (T ||| 2 ^ p) < 2 ^ 31 by omega)]
                    rw [show κ 31 (f + 1) (T ||| 2 ^ p) = nI qq.2 from w2]
                    refine hK _ _ _ _ ?_
                    show K _ _ _ _
                    rw [show oF (some k) + nI qq.2 = nI (k + qq.2) from nIa _ _]
                    iterate 6 refine hK _ _ _ _ ?_
                    refine And.intro (vp_in_nI (n := f) (by omega) (by decide)) ?_
                    rw [nI_clamp (show f < 2 ^ 31 by omega)]
                    iterate 2 refine hK _ _ _ _ ?_
                    refine And.intro (by first | omega | (rw [nI_clamp (by omega)]; omega)) (And.intro (vp_in_nI (n := T) (by omega) (by decide)) ?_)
                    rw [nI_clamp (show T < 2 ^ 31 by omega)]
                    rw [show κ 30 f T = nI ac.1 from c1]
                    refine hK _ _ _ _ ?_
                    have l237 : (1 + qq.1 < ac.1 ∨ (1 + qq.1 = ac.1 ∧ ac.2 ≤ k + qq.2)) → K 237 [some (aR 0), some (aI (nI f)), some (aI (nI T)), some (aI (nI p)), some (aI (nI (1 + qq.1))), some (aI (nI (k + qq.2)))] [] κ := by
                      intro hc
                      rw [if_pos hc] at hs9
                      refine hK _ _ _ _ ?_
                      show K _ _ _ _
                      rw [show nI p + Int32.ofInt 1 = nI (p + 1) from nIs _]
                      refine hK _ _ _ _ ?_
                      exact ih3 (p + 1) _ _ ac κ (by omega) hs9.symm hf3 hv hB3
                    have l217 : ¬ (1 + qq.1 < ac.1 ∨ (1 + qq.1 = ac.1 ∧ ac.2 ≤ k + qq.2)) → K 217 [some (aR 0), some (aI (nI f)), some (aI (nI T)), some (aI (nI p)), some (aI (nI (1 + qq.1))), some (aI (nI (k + qq.2)))] [] κ := by
                      intro hc
                      rw [if_neg hc] at hs9
                      iterate 4 refine hK _ _ _ _ ?_
                      refine And.intro (vp_in_nI (n := f) (by omega) (by decide)) ?_
                      rw [nI_clamp (show f < 2 ^ 31 by omega)]
                      iterate 3 refine hK _ _ _ _ ?_
                      refine And.intro (by first | omega | (rw [nI_clamp (by omega)]; omega)) (And.intro (vp_in_nI (n := T) (by omega) (by decide)) ?_)
                      rw [nI_clamp (show T < 2 ^ 31 by omega)]
                      iterate 4 refine hK _ _ _ _ ?_
                      refine And.intro (vp_in_nI (n := f) (by omega) (by decide)) ?_
                      rw [nI_clamp (show f < 2 ^ 31 by omega)]
                      iterate 3 refine hK _ _ _ _ ?_
                      refine And.intro (by first | omega | (rw [nI_clamp (by omega)]; omega)) (And.intro (vp_in_nI (n := T) (by omega) (by decide)) ?_)
                      rw [nI_clamp (show T < 2 ^ 31 by omega)]
                      refine hK _ _ _ _ ?_
                      show K _ _ _ _
                      rw [show nI p + Int32.ofInt 1 = nI (p + 1) from nIs _]
                      refine hK _ _ _ _ ?_
                      refine ih3 (p + 1) _ _ (1 + qq.1, k + qq.2) _ (by omega) hs9.symm (fun i a b => by rw [sUp_off b, sUp_off a]; exact hf3 i a b) ⟨by rw [sUp_off (by decide), sUp_at], by rw [sUp_at]⟩ (fun s U a b c e => ?_)
                      have hh := hB3 s U a b c e
                      rw [sUp_off (by decide)]
                      by_cases q1 : s = f
                      · subst q1
                        have q2 : U ≠ T := by omega
                        rw [sUp_k q2, sUp_k q2, sUp_off (by decide)]
                        exact hh
                      · rw [sUp_rowne q1, sUp_rowne q1, sUp_off (by decide)]
                        exact hh
                    refine And.intro (fun h6 => l237 (Or.inl ((nI_ltI (by omega) (by omega)).mp h6))) (fun h6 => ?_)
                    have g6 : ¬ 1 + qq.1 < ac.1 := fun q => h6 ((nI_ltI (by omega) (by omega)).mpr q)
                    iterate 5 refine hK _ _ _ _ ?_
                    refine And.intro (vp_in_nI (n := f) (by omega) (by decide)) ?_
                    rw [nI_clamp (show f < 2 ^ 31 by omega)]
                    iterate 2 refine hK _ _ _ _ ?_
                    refine And.intro (by first | omega | (rw [nI_clamp (by omega)]; omega)) (And.intro (vp_in_nI (n := T) (by omega) (by decide)) ?_)
                    rw [nI_clamp (show T < 2 ^ 31 by omega)]
                    rw [show κ 30 f T = nI ac.1 from c1]
                    refine hK _ _ _ _ ?_
                    refine And.intro (fun h5 => l217 (fun q => q.elim g6 (fun q => h5 (by rw [q.1])))) (fun h5 => ?_)
                    have g5 : 1 + qq.1 = ac.1 := (nI_eq (by omega) (by omega)).mp h5
                    iterate 5 refine hK _ _ _ _ ?_
                    refine And.intro (vp_in_nI (n := f) (by omega) (by decide)) ?_
                    rw [nI_clamp (show f < 2 ^ 31 by omega)]
                    iterate 2 refine hK _ _ _ _ ?_
                    refine And.intro (by first | omega | (rw [nI_clamp (by omega)]; omega)) (And.intro (vp_in_nI (n := T) (by omega) (by decide)) ?_)
                    rw [nI_clamp (show T < 2 ^ 31 by omega)]
                    rw [show κ 31 f T = nI ac.2 from c2]
                    refine hK _ _ _ _ ?_
                    refine And.intro (fun h4 => l217 (fun q => q.elim g6 (fun q => absurd ((nI_ltI (by omega) (by omega)).mp h4) (by omega)))) (fun h4 => ?_)
                    refine hK _ _ _ _ ?_
                    exact l237 (Or.inr ⟨g5, Decidable.byContradiction fun q => h4 ((nI_ltI (by omega) (by omega)).mpr (by omega))⟩)
            refine L91 P 0 _ _ _ _ (by omega) rfl (fun i a b => by rw [sUp_off b, sUp_off a]; exact hf2 i a b) ⟨by rw [sUp_off (by decide), sUp_at]; rfl, by rw [sUp_at]; rfl⟩ (fun s U a b c e => ?_)
            have hh := hB2 s U a b c e
            rw [sUp_off (by decide)]
            by_cases q1 : s = f
            · subst q1
              have q2 : U ≠ T := by omega
              rw [sUp_k q2, sUp_k q2, sUp_off (by decide)]
              exact hh
            · rw [sUp_rowne q1, sUp_rowne q1, sUp_off (by decide)]
              exact hh
      exact L13 (2 ^ P) 0 _ _ _ μ (by omega) hf (fun s U a b c e => hB s U (by omega) b c)
  exact L7 (S + 1) _ none none none none σ (Nat.le_refl _) (by rw [show Int32.ofInt 1 = nI 1 from rfl, nIm (by omega)]; rfl) (fun _ _ _ => rfl) (fun s U a b c => absurd a (by omega))
theorem c9_match (d : Nat) (σ : sMem) (N P S G : Nat) (hJ : MJ σ N P S G) (w : Int32) (t : sMem) (hm : MC t N P S) (g6 : σ 6 = t 6) (g8 : σ 8 = t 8) (g14 : σ 14 = t 14) : sMet l D b0 ty lay (d + 4) mX9_match [aR 0, aI (w)] σ (fun r σ' => ((0 ≤ w ∧ w ≤ 1) → r = [aI (nI (if w = 0 then (mtA (lsO t) P S 0 0).1 else (mtA (lsO t) P S 0 0).2))] ∧ (∀ i, i ≠ 30 → i ≠ 31 → σ' i = sUp σ 0 0 0 0 i)) ∧ (¬ (0 ≤ w ∧ w ≤ 1) → r = [aI 0] ∧ σ' = sUp σ 0 0 0 1)) := by
  refine sMet_intro lay_nd kX9_match xX9_ok (by decide +kernel) rfl ?_
  intro K hK
  have hN := hJ.1.1.1
  have hN2 := hJ.1.2.1
  have hP := hJ.1.2.2.2.1.2
  have hS := hJ.1.2.2.2.2.1.2
  have hG4 := hJ.2.2.2.2.2
  iterate 3 refine hK _ _ _ _ ?_
  show K _ _ _ (sUp σ 0 0 0 0)
  have hJz := hJ.z0 0 0
  have z0 : sUp σ 0 0 0 0 0 0 0 = 0 := sUp_at _ _ _ _ _
  generalize hz : sUp σ 0 0 0 0 = z at hJz z0 ⊢
  iterate 5 refine hK _ _ _ _ ?_
  refine calD (c9_in _ _ _ _ _) ?_
  rintro r σ' ⟨rfl, hσ⟩
  subst σ'
  show K 12 [some (aR 0), some (aI (w))] [aI (if (0 ≤ w ∧ w ≤ 1) then 1 else 0), aR 0] z
  refine hK _ _ _ _ ?_
  refine And.intro (fun h00 => ?_) (fun h00 => ?_)
  · have hg0 : (0 ≤ w ∧ w ≤ 1) := ite_ne h00
    iterate 3 refine hK _ _ _ _ ?_
    refine calD (c9_bad0 _ _ _ z0) ?_
    rintro r σ' ⟨rfl, hσ⟩
    subst σ'
    show K 24 [some (aR 0), some (aI (w))] [aI (0)] z
    refine hK _ _ _ _ ?_
    refine And.intro (fun _ => ?_) (fun h => absurd rfl h)
    iterate 2 refine hK _ _ _ _ ?_
    have hmz : MC t N P S := hm
    have e6 : z 6 = t 6 := by rw [← hz, sUp_off (by decide)]; exact g6
    have e8 : z 8 = t 8 := by rw [← hz, sUp_off (by decide)]; exact g8
    have e14 : z 14 = t 14 := by rw [← hz, sUp_off (by decide)]; exact g14
    refine calD (c9_layMatch _ z t N P S hJz.1 hm e6 e8 e14) ?_
    rintro r μ ⟨rfl, hf, hB⟩
    show K 33 [some (aR 0), some (aI (w))] [] μ
    obtain ⟨v1, v2⟩ := hB 0 0 (Nat.zero_le _) (Nat.two_pow_pos P)
    iterate 2 refine hK _ _ _ _ ?_
    refine And.intro (fun h8 => ?_) (fun h8 => ?_)
    · iterate 4 refine hK _ _ _ _ ?_
      refine And.intro (vp_in_nI (n := 0) (by decide) (by decide)) ?_
      rw [show (Int32.ofInt 0).toNatClampNeg = 0 from rfl]
      iterate 2 refine hK _ _ _ _ ?_
      refine And.intro (by first | omega | (rw [nI_clamp (by omega)]; omega)) (And.intro (vp_in_nI (n := 0) (by decide) (by decide)) ?_)
      rw [show (Int32.ofInt 0).toNatClampNeg = 0 from rfl]
      rw [show μ 31 0 0 = nI (mtA (lsO t) P S 0 0).2 from v2]
      refine hK _ _ _ _ ?_
      refine ⟨fun _ => ?_, fun n => absurd hg0 n⟩
      exact ⟨by rw [if_neg h8], by rw [hz]; exact hf⟩
    · iterate 4 refine hK _ _ _ _ ?_
      refine And.intro (vp_in_nI (n := 0) (by decide) (by decide)) ?_
      rw [show (Int32.ofInt 0).toNatClampNeg = 0 from rfl]
      iterate 2 refine hK _ _ _ _ ?_
      refine And.intro (by first | omega | (rw [nI_clamp (by omega)]; omega)) (And.intro (vp_in_nI (n := 0) (by decide) (by decide)) ?_)
      rw [show (Int32.ofInt 0).toNatClampNeg = 0 from rfl]
      rw [show μ 30 0 0 = nI (mtA (lsO t) P S 0 0).1 from v1]
      iterate 2 refine hK _ _ _ _ ?_
      refine ⟨fun _ => ?_, fun n => absurd hg0 n⟩
      exact ⟨by rw [if_pos h8], by rw [hz]; exact hf⟩
  · have hn : ¬ (0 ≤ w ∧ w ≤ 1) := ite_eq h00
    iterate 4 refine hK _ _ _ _ ?_
    refine calD (c9_bad1 _ _ _ z0 (by decide)) ?_
    rintro r σ' ⟨rfl, rfl⟩
    show K 24 [some (aR 0), some (aI (w))] [aI (1)] (sUp z 0 0 0 1)
    refine hK _ _ _ _ ?_
    refine And.intro (fun h => absurd h (by decide)) (fun _ => ?_)
    iterate 2 refine hK _ _ _ _ ?_
    exact ⟨fun q0 => absurd q0 hn, fun _ => ⟨rfl, by rw [← hz, sUp_twice]; try rfl⟩⟩
theorem c9_matched (d : Nat) (σ : sMem) (N P S G : Nat) (hJ : MJ σ N P S G) (x : Int32) (t : sMem) (hm : MC t N P S) (g6 : σ 6 = t 6) (g8 : σ 8 = t 8) (g14 : σ 14 = t 14) : sMet l D b0 ty lay (d + 4) mX9_matched [aR 0, aI (x)] σ (fun r σ' => ((0 ≤ x ∧ x ≤ nI S - 1) → r = [aI (oI (mtO (lsO t) P S x.toNatClampNeg (mtH (lsO t) P S x.toNatClampNeg)))] ∧ (∀ i, i ≠ 30 → i ≠ 31 → σ' i = sUp σ 0 0 0 0 i)) ∧ (¬ (0 ≤ x ∧ x ≤ nI S - 1) → r = [aI 0] ∧ σ' = sUp σ 0 0 0 1)) := by
  refine sMet_intro lay_nd kX9_matched xX9_ok (by decide +kernel) rfl ?_
  intro K hK
  have hN := hJ.1.1.1
  have hN2 := hJ.1.2.1
  have hP := hJ.1.2.2.2.1.2
  have hS := hJ.1.2.2.2.2.1.2
  have hG4 := hJ.2.2.2.2.2
  iterate 3 refine hK _ _ _ _ ?_
  show K _ _ _ (sUp σ 0 0 0 0)
  have hJz := hJ.z0 0 0
  have z0 : sUp σ 0 0 0 0 0 0 0 = 0 := sUp_at _ _ _ _ _
  generalize hz : sUp σ 0 0 0 0 = z at hJz z0 ⊢
  iterate 4 refine hK _ _ _ _ ?_
  refine calD (c9_isStranger _ _ _) ?_
  rintro r σ' ⟨rfl, hσ⟩
  subst σ'
  show K 11 [some (aR 0), some (aI (x)), none, none, none, none] [aI (if (0 ≤ x ∧ x ≤ z 3 0 2 - 1) then 1 else 0), aR 0] z
  rw [show z 3 0 2 = nI S from hJz.1.2.2.2.2.1.1]
  refine hK _ _ _ _ ?_
  refine And.intro (fun h00 => ?_) (fun h00 => ?_)
  · have hg0 : (0 ≤ x ∧ x ≤ nI S - 1) := ite_ne h00
    iterate 3 refine hK _ _ _ _ ?_
    refine calD (c9_bad0 _ _ _ z0) ?_
    rintro r σ' ⟨rfl, hσ⟩
    subst σ'
    show K 23 [some (aR 0), some (aI (x)), none, none, none, none] [aI (0)] z
    refine hK _ _ _ _ ?_
    refine And.intro (fun _ => ?_) (fun h => absurd rfl h)
    obtain ⟨n, hn, rfl⟩ := inN hg0 (by omega)
    have e6 : z 6 = t 6 := by rw [← hz, sUp_off (by decide)]; exact g6
    have e8 : z 8 = t 8 := by rw [← hz, sUp_off (by decide)]; exact g8
    have e14 : z 14 = t 14 := by rw [← hz, sUp_off (by decide)]; exact g14
    have h2P : 2 ^ P ≤ 1024 := Nat.pow_le_pow_right (n := 2) (j := 10) (by decide) hP
    have hLk : ∀ s p k, s < S → p < P → lsO t s p = some k → k ≤ 200000 := fun s p k hs hp hk => lsO_le hm hs hp hk
    iterate 2 refine hK _ _ _ _ ?_
    refine calD (c9_layMatch _ z t N P S hJz.1 hm e6 e8 e14) ?_
    rintro r μ ⟨rfl, hf, hB⟩
    show K 32 [some (aR 0), some (aI (nI n)), none, none, none, none] [] μ
    have t1 : μ 3 0 1 = nI P := by rw [hf 3 (by decide) (by decide)]; exact hJz.1.2.2.2.1.1
    have hT3 : TD μ N P S := hJz.1.congr (hf 3 (by decide) (by decide)) (hf 6 (by decide) (by decide)) (hf 8 (by decide) (by decide)) (hf 13 (by decide) (by decide)) (hf 14 (by decide) (by decide)) (hf 15 (by decide) (by decide))
    rw [nI_clamp (show n < 2 ^ 31 by omega)] at hK
    iterate 6 refine hK _ _ _ _ ?_
    have L39 : ∀ (f : Nat) (k : Nat) (h : Int32) (e5 : Option AV) (x : Option Nat), k + f = n + 1 → h = nI (mtH (lsO t) P S k) → (∀ j, k = j + 1 → oI x = oI (mtO (lsO t) P S j (mtH (lsO t) P S j))) → K 39 [some (aR 0), some (aI (nI n)), some (aI (h)), some (aI (oI x)), some (aI (nI k)), e5] [] μ := by
      intro f
      induction f with
      | zero =>
        intro k h e5 x hk hh hw
        iterate 3 refine hK _ _ _ _ ?_
        refine And.intro (fun _ => ?_) (fun h9 => absurd ((nI_ltI (by omega) (by omega)).mpr (by omega)) h9)
        iterate 2 refine hK _ _ _ _ ?_
        refine ⟨fun _ => ?_, fun n => absurd hg0 n⟩
        refine ⟨?_, by rw [hz]; exact hf⟩
        rw [hw n (by omega)]
      | succ f ih =>
        intro k h e5 x hk hh hw
        subst hh
        have hlt := mtH_lt (L := lsO t) (P := P) (S := S) k
        have hkS : k < S := by omega
        iterate 3 refine hK _ _ _ _ ?_
        refine And.intro (fun h9 => absurd ((nI_ltI (by omega) (by omega)).mp h9) (by omega)) (fun _ => ?_)
        iterate 6 refine hK _ _ _ _ ?_
        refine And.intro (vp_in_nI (n := 1) (by decide) (by decide)) ?_
        rw [show (Int32.ofInt 1).toNatClampNeg = 1 from rfl]
        rw [show μ 3 0 1 = nI P from t1]
        iterate 3 refine hK _ _ _ _ ?_
        have hQ : ∀ U, mOK (S - (k + 1)) (mtA (lsO t) P S (k + 1) U) := fun U => mtA_ok hLk (k + 1) U
        have hQk := mtA_ok hLk k (mtH (lsO t) P S k)
        have hH : mtH (lsO t) P S (k + 1) = hdO (mtH (lsO t) P S k) (mtO (lsO t) P S k (mtH (lsO t) P S k)) := rfl
        have hO : mtO (lsO t) P S k (mtH (lsO t) P S k) = mtW (lsO t k) (mtA (lsO t) P S (k + 1)) (mtA (lsO t) P S k (mtH (lsO t) P S k)) (mtH (lsO t) P S k) P 0 := rfl
        obtain ⟨u1, u2⟩ := hB k (mtH (lsO t) P S k) (by omega) hlt.1
        have L57 : ∀ (p : Nat) (y : Int32) (x : Option Nat), p ≤ P → y = nI p - Int32.ofInt 1 → x = mtW (lsO t k) (mtA (lsO t) P S (k + 1)) (mtA (lsO t) P S k (mtH (lsO t) P S k)) (mtH (lsO t) P S k) (P - p) p → K 57 [some (aR 0), some (aI (nI n)), some (aI (nI (mtH (lsO t) P S k))), some (aI (oI x)), some (aI (nI k)), some (aI (y))] [] μ := by
          intro p
          induction p with
          | zero =>
            intro y x hp hy hx9
            iterate 2 refine hK _ _ _ _ ?_
            refine And.intro (fun _ => ?_) (fun h9 => absurd (by rw [hy]; decide) h9)
            have hx : x = mtO (lsO t) P S k (mtH (lsO t) P S k) := by rw [hO, hx9, show P - 0 = P from rfl]
            rcases x with _ | p
            · iterate 4 refine hK _ _ _ _ ?_
              refine And.intro (fun h8 => absurd rfl h8) (fun _ => ?_)
              iterate 5 refine hK _ _ _ _ ?_
              show K _ _ _ _
              rw [show nI k + Int32.ofInt 1 = nI (k + 1) from nIs _]
              refine hK _ _ _ _ ?_
              exact ih (k + 1) _ _ none (by omega) (by rw [hH, ← hx]; exact (nI_or _ 0).trans (by rw [Nat.or_zero]; rfl)) (fun j hj => by cases (show k = j by omega); exact congrArg oI hx)
            · have hpP := (mtO_some hx.symm).1
              rw [oI_some]
              iterate 4 refine hK _ _ _ _ ?_
              refine And.intro (fun _ => ?_) (fun h8 => absurd h8 (nI_ne (by omega)))
              iterate 4 refine hK _ _ _ _ ?_
              show K _ _ _ _
              rw [show nI (mtH (lsO t) P S k) ||| (Int32.ofInt 1 <<< (nI p &&& 31)) = nI ((mtH (lsO t) P S k) ||| 2 ^ p) from nI_orp _ _ (by omega)]
              iterate 2 refine hK _ _ _ _ ?_
              show K _ _ _ _
              rw [show nI k + Int32.ofInt 1 = nI (k + 1) from nIs _]
              refine hK _ _ _ _ ?_
              exact ih (k + 1) _ _ (some p) (by omega) (by rw [hH, ← hx]; rfl) (fun j hj => by cases (show k = j by omega); exact congrArg oI hx)
          | succ p ih3 =>
            intro y x hp hy hx9
            have hy2 : y = nI p := hy.trans (nIm (b := 1) (by omega))
            subst hy2
            have hpP : p < P := by omega
            have hst : mtW (lsO t k) (mtA (lsO t) P S (k + 1)) (mtA (lsO t) P S k (mtH (lsO t) P S k)) (mtH (lsO t) P S k) (P - p) p = if mtT (lsO t k p) ((mtH (lsO t) P S k).testBit p) (mtA (lsO t) P S (k + 1) ((mtH (lsO t) P S k) ||| 2 ^ p)) (mtA (lsO t) P S k (mtH (lsO t) P S k)) = true then some p else mtW (lsO t k) (mtA (lsO t) P S (k + 1)) (mtA (lsO t) P S k (mtH (lsO t) P S k)) (mtH (lsO t) P S k) (P - (p + 1)) (p + 1) := by
              rw [show P - p = (P - (p + 1)) + 1 by omega]; rfl
            rw [← hx9] at hst
            iterate 2 refine hK _ _ _ _ ?_
            refine And.intro (fun h9 => absurd h9 (nI_pos (by omega))) (fun _ => ?_)
            iterate 7 refine hK _ _ _ _ ?_
            refine And.intro (fun h8 => ?_) (fun h8 => ?_)
            · have cb : (mtH (lsO t) P S k).testBit p = true := by rw [← bt_nI _ p (by omega)]; exact decide_eq_true h8
              rw [if_neg (fun h => by obtain ⟨_, _, h1, _⟩ := mtT_iff.mp h; rw [cb] at h1; cases h1)] at hst
              iterate 2 refine hK _ _ _ _ ?_
              exact ih3 _ _ (by omega) (x1 _) hst.symm
            · have cb : (mtH (lsO t) P S k).testBit p = false := by rw [← bt_nI _ p (by omega)]; exact decide_eq_false h8
              iterate 4 refine hK _ _ _ _ ?_
              refine calD (c9_losesO _ μ t N P S hT3 hm ((hf 6 (by decide) (by decide)).trans e6) ((hf 8 (by decide) (by decide)).trans e8) ((hf 14 (by decide) (by decide)).trans e14) p k (by omega) hkS) ?_
              rintro r σ' ⟨rfl, hσ⟩
              subst σ'
              show K 80 [some (aR 0), some (aI (nI n)), some (aI (nI (mtH (lsO t) P S k))), some (aI (oI x)), some (aI (nI k)), some (aI (nI p))] [aI (oF (lsO t k p))] μ
              rcases ho : lsO t k p with _ | c
              · rw [if_neg (fun h => by obtain ⟨_, h1, _⟩ := mtT_iff.mp h; rw [ho] at h1; cases h1)] at hst
                show K _ _ _ _
                iterate 2 refine hK _ _ _ _ ?_
                refine And.intro (fun h7 => absurd rfl h7) (fun _ => ?_)
                iterate 3 refine hK _ _ _ _ ?_
                exact ih3 _ _ (by omega) (x1 _) hst.symm
              · have hk := hLk k p c hkS (by omega) ho
                have hne : ¬ nI c = (1000000 : Int32) := fun e => by have := (oF_ne (o := some c) (fun j hj => by cases hj; exact hk)).mp e; cases this
                obtain ⟨w1, w2⟩ := hB (k + 1) ((mtH (lsO t) P S k) ||| 2 ^ p) (by omega) (or_lt hlt.1 (by omega))
                have hO9 : (mtH (lsO t) P S k) ||| 2 ^ p < 1024 := Nat.lt_of_lt_of_le (or_lt (P := P) hlt.1 (by omega)) h2P
                have hl9 : (mtH (lsO t) P S k) < 1024 := Nat.lt_of_lt_of_le hlt.1 h2P
                have q1 := (hQ ((mtH (lsO t) P S k) ||| 2 ^ p)).1
                have q2 := (hQ ((mtH (lsO t) P S k) ||| 2 ^ p)).2
                have a1 := hQk.1
                have a2 := hQk.2
                show K _ _ _ _
                iterate 2 refine hK _ _ _ _ ?_
                refine And.intro (fun _ => ?_) (fun h7 => absurd h7 hne)
                iterate 6 refine hK _ _ _ _ ?_
                show K _ _ _ _
                rw [show nI k + Int32.ofInt 1 = nI (k + 1) from nIs _]
                refine hK _ _ _ _ ?_
                refine And.intro (vp_in_nI (n := (k + 1)) (by omega) (by decide)) ?_
                rw [nI_clamp (show (k + 1) < 2 ^ 31 by omega)]
                iterate 5 refine hK _ _ _ _ ?_
                show K _ _ _ _
                rw [show nI (mtH (lsO t) P S k) ||| (Int32.ofInt 1 <<< (nI p &&& 31)) = nI ((mtH (lsO t) P S k) ||| 2 ^ p) from nI_orp _ _ (by omega)]
                refine hK _ _ _ _ ?_
                refine And.intro (by first | omega | (rw [nI_clamp (by omega)]; omega)) (And.intro (vp_in_nI (n := ((mtH (lsO t) P S k) ||| 2 ^ p)) (by omega) (by decide)) ?_)
                rw [nI_clamp (show ((mtH (lsO t) P S k) ||| 2 ^ p) < 2 ^ 31 by omega)]
                rw [show μ 30 (k + 1) ((mtH (lsO t) P S k) ||| 2 ^ p) = nI (mtA (lsO t) P S (k + 1) ((mtH (lsO t) P S k) ||| 2 ^ p)).1 from w1]
                refine hK _ _ _ _ ?_
                show K _ _ _ _
                rw [show Int32.ofInt 1 + nI (mtA (lsO t) P S (k + 1) ((mtH (lsO t) P S k) ||| 2 ^ p)).1 = nI (1 + (mtA (lsO t) P S (k + 1) ((mtH (lsO t) P S k) ||| 2 ^ p)).1) from nIa 1 _]
                iterate 4 refine hK _ _ _ _ ?_
                refine And.intro (vp_in_nI (n := k) (by omega) (by decide)) ?_
                rw [nI_clamp (show k < 2 ^ 31 by omega)]
                iterate 2 refine hK _ _ _ _ ?_
                refine And.intro (by first | omega | (rw [nI_clamp (by omega)]; omega)) (And.intro (vp_in_nI (n := (mtH (lsO t) P S k)) (by omega) (by decide)) ?_)
                rw [nI_clamp (show (mtH (lsO t) P S k) < 2 ^ 31 by omega)]
                rw [show μ 30 k (mtH (lsO t) P S k) = nI (mtA (lsO t) P S k (mtH (lsO t) P S k)).1 from u1]
                refine hK _ _ _ _ ?_
                refine And.intro (fun h6 => ?_) (fun h6 => ?_)
                · rw [if_neg (fun h => by obtain ⟨j, h1, _, h3⟩ := mtT_iff.mp h; rw [ho] at h1; cases h1; exact h6 (by rw [← h3]))] at hst
                  iterate 2 refine hK _ _ _ _ ?_
                  exact ih3 _ _ (by omega) (x1 _) hst.symm
                · have g6 : 1 + (mtA (lsO t) P S (k + 1) ((mtH (lsO t) P S k) ||| 2 ^ p)).1 = (mtA (lsO t) P S k (mtH (lsO t) P S k)).1 := (nI_eq (by omega) (by omega)).mp h6
                  iterate 4 refine hK _ _ _ _ ?_
                  refine calD (c9_losesO _ μ t N P S hT3 hm ((hf 6 (by decide) (by decide)).trans e6) ((hf 8 (by decide) (by decide)).trans e8) ((hf 14 (by decide) (by decide)).trans e14) p k (by omega) hkS) ?_
                  rintro r σ' ⟨rfl, hσ⟩
                  subst σ'
                  show K 126 [some (aR 0), some (aI (nI n)), some (aI (nI (mtH (lsO t) P S k))), some (aI (oI x)), some (aI (nI k)), some (aI (nI p))] [aI (oF (lsO t k p))] μ
                  rw [ho]
                  iterate 5 refine hK _ _ _ _ ?_
                  show K _ _ _ _
                  rw [show nI k + Int32.ofInt 1 = nI (k + 1) from nIs _]
                  refine hK _ _ _ _ ?_
                  refine And.intro (vp_in_nI (n := (k + 1)) (by omega) (by decide)) ?_
                  rw [nI_clamp (show (k + 1) < 2 ^ 31 by omega)]
                  iterate 5 refine hK _ _ _ _ ?_
                  show K _ _ _ _
                  rw [show nI (mtH (lsO t) P S k) ||| (Int32.ofInt 1 <<< (nI p &&& 31)) = nI ((mtH (lsO t) P S k) ||| 2 ^ p) from nI_orp _ _ (by omega)]
                  refine hK _ _ _ _ ?_
                  refine And.intro (by first | omega | (rw [nI_clamp (by omega)]; omega)) (And.intro (vp_in_nI (n := ((mtH (lsO t) P S k) ||| 2 ^ p)) (by omega) (by decide)) ?_)
                  rw [nI_clamp (show ((mtH (lsO t) P S k) ||| 2 ^ p) < 2 ^ 31 by omega)]
                  rw [show μ 31 (k + 1) ((mtH (lsO t) P S k) ||| 2 ^ p) = nI (mtA (lsO t) P S (k + 1) ((mtH (lsO t) P S k) ||| 2 ^ p)).2 from w2]
                  refine hK _ _ _ _ ?_
                  show K _ _ _ _
                  rw [show oF (some c) + nI (mtA (lsO t) P S (k + 1) ((mtH (lsO t) P S k) ||| 2 ^ p)).2 = nI (c + (mtA (lsO t) P S (k + 1) ((mtH (lsO t) P S k) ||| 2 ^ p)).2) from nIa _ _]
                  iterate 4 refine hK _ _ _ _ ?_
                  refine And.intro (vp_in_nI (n := k) (by omega) (by decide)) ?_
                  rw [nI_clamp (show k < 2 ^ 31 by omega)]
                  iterate 2 refine hK _ _ _ _ ?_
                  refine And.intro (by first | omega | (rw [nI_clamp (by omega)]; omega)) (And.intro (vp_in_nI (n := (mtH (lsO t) P S k)) (by omega) (by decide)) ?_)
                  rw [nI_clamp (show (mtH (lsO t) P S k) < 2 ^ 31 by omega)]
                  rw [show μ 31 k (mtH (lsO t) P S k) = nI (mtA (lsO t) P S k (mtH (lsO t) P S k)).2 from u2]
                  refine hK _ _ _ _ ?_
                  refine And.intro (fun h5 => ?_) (fun h5 => ?_)
                  · rw [if_neg (fun h => by obtain ⟨j, h1, _, h3⟩ := mtT_iff.mp h; rw [ho] at h1; cases h1; exact h5 (by rw [← h3]))] at hst
                    iterate 2 refine hK _ _ _ _ ?_
                    exact ih3 _ _ (by omega) (x1 _) hst.symm
                  · have g5 : c + (mtA (lsO t) P S (k + 1) ((mtH (lsO t) P S k) ||| 2 ^ p)).2 = (mtA (lsO t) P S k (mtH (lsO t) P S k)).2 := (nI_eq (by omega) (by omega)).mp h5
                    rw [if_pos (mtT_iff.mpr ⟨c, ho, cb, Prod.ext g6 g5⟩)] at hst
                    iterate 4 refine hK _ _ _ _ ?_
                    exact ih3 _ (some p) (by omega) (x1 _) hst.symm
        exact L57 P _ none (Nat.le_refl _) rfl (by rw [Nat.sub_self]; rfl)
    exact L39 (n + 1) 0 _ none none (by omega) rfl (fun j hj => by omega)
  · have hn : ¬ (0 ≤ x ∧ x ≤ nI S - 1) := ite_eq h00
    iterate 4 refine hK _ _ _ _ ?_
    refine calD (c9_bad1 _ _ _ z0 (by decide)) ?_
    rintro r σ' ⟨rfl, rfl⟩
    show K 23 [some (aR 0), some (aI (x)), none, none, none, none] [aI (1)] (sUp z 0 0 0 1)
    refine hK _ _ _ _ ?_
    refine And.intro (fun h => absurd h (by decide)) (fun _ => ?_)
    iterate 2 refine hK _ _ _ _ ?_
    exact ⟨fun q0 => absurd q0 hn, fun _ => ⟨rfl, by rw [← hz, sUp_twice]; try rfl⟩⟩
end
