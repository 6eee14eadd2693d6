/-! THE JOINS of the calls, on -/
section
variable {l : Launch} {D : va_G} {b0 : Nat} {ty : Nat → ClassId} {ad av : Nat → Nat}
theorem legs40 {σ z : sMem} {N P S G : Nat} (hT : HT σ) (hM : MI σ N P S G) (h : SM σ z G) {kd : Nat} (hk : kd ≤ 4) : ∀ s, s < S → ∃ k : Nat, goM z (nI kd) P S 28 0 s = nI k ∧ k ≤ 40 := by
  obtain ⟨hO, hV, hL, hR⟩ := dayF hT hM h hk
  intro s hs
  refine ⟨_, (hR.2.2.1 s hs).2.2.2.1, ?_⟩
  have := (hV.2.1 s hs).2.2.2.2.2.1
  omega
theorem jw_match (σ : sMem) (hJ : JR σ) (w : Int32) : JW l D b0 ty ad av mX8_match mX9_match (cd1 yIAE) [aI w] σ := by
  obtain ⟨v, N, P, S, G, T, m, hJ⟩ := hJ
  have hH := hJ.2.1
  have hT := hJ.2.2.1
  have hM := hH.2.2.1
  have hN := hM.1.1.1.1
  have hP10 := hM.1.1.2.2.2.1.2
  have hS8 := hM.1.1.2.2.2.2.1.2
  have hzM : ∀ z : sMem, (∀ i, i < 74 → z i = σ i) → MJ z N P S G := fun z hz => hM.1.cg (fun a ha => hz a (by omega))
  have hzI : ∀ z : sMem, (∀ i, i < 74 → z i = σ i) → MI z N P S G := fun z hz => hM.cg (fun a ha => hz a (by omega))
  have hzS : ∀ z : sMem, (∀ i, i < 74 → z i = σ i) → SM σ (sUp z 0 0 0 0) G := fun z hz => (SM.low (fun a ha => hz a (by omega))).trans (SM.z0 0 0 ⟨by decide, by decide, by decide⟩)
  by_cases c0 : 0 ≤ w ∧ w ≤ 1
  rotate_left
  · have h8 : yMet l D b0 ty ad av lay 200 1 mX8_match [aR 34, aI w] σ (fun _ _ => False) (fun e σ' => e = yIAE ∧ σ' = σ) := by
      rcases hJ.1 with e | e
      · subst e
        exact c8_match_36_x0 193 σ σ N P S G hH w c0
      · subst e
        exact c8_match_54_x0 193 σ σ N P S G hH w c0
    exact JW_x hJ (E := yIAE) (k := 1) (by decide +kernel) (by decide) h8 (R9.s (c9_match 197 σ N P S G (hzM σ (fun _ _ => rfl)) w σ (MC_of hM) rfl rfl rfl) (fun r σ' h => h.2 c0))
  obtain ⟨k, rfl, hk⟩ := in_le (m := 1) (by decide) rfl c0
  have h8 : yMet l D b0 ty ad av lay 200 0 mX8_match [aR 34, aI (nI k)] σ (fun r σ' => r = [aI (nI (if k = 0 then (mtA (lsO σ) P S 0 0).1 else (mtA (lsO σ) P S 0 0).2))] ∧ ∀ i, i < 90 ∨ 93 < i → σ' i = σ i) (fun _ _ => False) := by
    rcases hJ.1 with e | e
    · subst e
      exact c8_match_36_ok 193 σ σ N P S G hH k hk
    · subst e
      exact c8_match_54_ok 193 σ σ N P S G hH k hk
  refine JW_ok hJ (A := nI (if k = 0 then (mtA (lsO σ) P S 0 0).1 else (mtA (lsO σ) P S 0 0).2)) h8 (fun r σ' h => ⟨h.1, fun i hi => h.2 i (Or.inl (by omega))⟩) (fun z hz => R9.s (c9_match 197 z N P S G (hzM z hz) (nI k) σ (MC_of hM) (hz 6 (by decide)) (hz 8 (by decide)) (hz 14 (by decide))) (fun r σ' h => ?_))
  obtain ⟨hr, hs⟩ := h.1 c0
  refine ⟨?_, KP.of (fun a h1 h2 => hs a (by omega) (by omega)) (fun k _ _ _ _ => by rw [hs 0 (by decide) (by decide)])⟩
  have hk0 : (nI k = 0) = (k = 0) := propext (nI_eq (b := 0) (by omega) (by decide))
  rw [hr]
  simp only [hk0]
theorem jw_matched (σ : sMem) (hJ : JR σ) (x : Int32) : JW l D b0 ty ad av mX8_matched mX9_matched (cd1 yNSE) [aI x] σ := by
  obtain ⟨v, N, P, S, G, T, m, hJ⟩ := hJ
  have hH := hJ.2.1
  have hT := hJ.2.2.1
  have hM := hH.2.2.1
  have hN := hM.1.1.1.1
  have hP10 := hM.1.1.2.2.2.1.2
  have hS8 := hM.1.1.2.2.2.2.1.2
  have hzM : ∀ z : sMem, (∀ i, i < 74 → z i = σ i) → MJ z N P S G := fun z hz => hM.1.cg (fun a ha => hz a (by omega))
  have hzI : ∀ z : sMem, (∀ i, i < 74 → z i = σ i) → MI z N P S G := fun z hz => hM.cg (fun a ha => hz a (by omega))
  have hzS : ∀ z : sMem, (∀ i, i < 74 → z i = σ i) → SM σ (sUp z 0 0 0 0) G := fun z hz => (SM.low (fun a ha => hz a (by omega))).trans (SM.z0 0 0 ⟨by decide, by decide, by decide⟩)
  by_cases c0 : 0 ≤ x ∧ x ≤ nI S - 1
  rotate_left
  · have h8 : yMet l D b0 ty ad av lay 200 1 mX8_matched [aR 34, aI x] σ (fun _ _ => False) (fun e σ' => e = yNSE ∧ σ' = σ) := by
      rcases hJ.1 with e | e
      · subst e
        exact c8_matched_36_x0 193 σ σ N P S G hH x c0
      · subst e
        exact c8_matched_54_x0 193 σ σ N P S G hH x c0
    exact JW_x hJ (E := yNSE) (k := 1) (by decide +kernel) (by decide) h8 (R9.s (c9_matched 197 σ N P S G (hzM σ (fun _ _ => rfl)) x σ (MC_of hM) rfl rfl rfl) (fun r σ' h => h.2 c0))
  obtain ⟨q, rfl, hq⟩ := in_nI (n := S) (by omega) c0
  have h8 : yMet l D b0 ty ad av lay 200 0 mX8_matched [aR 34, aI (nI q)] σ (fun r σ' => r = [aI (oI (mtO (lsO σ) P S q (mtH (lsO σ) P S q)))] ∧ ∀ i, i < 90 ∨ 93 < i → σ' i = σ i) (fun _ _ => False) := by
    rcases hJ.1 with e | e
    · subst e
      exact c8_matched_36_ok 193 σ σ N P S G hH q hq
    · subst e
      exact c8_matched_54_ok 193 σ σ N P S G hH q hq
  refine JW_ok hJ (A := oI (mtO (lsO σ) P S q (mtH (lsO σ) P S q))) h8 (fun r σ' h => ⟨h.1, fun i hi => h.2 i (Or.inl (by omega))⟩) (fun z hz => R9.s (c9_matched 197 z N P S G (hzM z hz) (nI q) σ (MC_of hM) (hz 6 (by decide)) (hz 8 (by decide)) (hz 14 (by decide))) (fun r σ' h => ?_))
  obtain ⟨hr, hs⟩ := h.1 c0
  refine ⟨?_, KP.of (fun a h1 h2 => hs a (by omega) (by omega)) (fun k _ _ _ _ => by rw [hs 0 (by decide) (by decide)])⟩
  rw [hr, nI_clamp (by omega)]
theorem jd_bound (σ : sMem) (hJ : JR σ) : JD l D b0 ty ad av mX8_bound mX9_bound [] σ := by
  obtain ⟨v, N, P, S, G, T, m, hJ⟩ := hJ
  have hH := hJ.2.1
  have hT := hJ.2.2.1
  have hM := hH.2.2.1
  have hN := hM.1.1.1.1
  have hP10 := hM.1.1.2.2.2.1.2
  have hS8 := hM.1.1.2.2.2.2.1.2
  have hzM : ∀ z : sMem, (∀ i, i < 74 → z i = σ i) → MJ z N P S G := fun z hz => hM.1.cg (fun a ha => hz a (by omega))
  have hzI : ∀ z : sMem, (∀ i, i < 74 → z i = σ i) → MI z N P S G := fun z hz => hM.cg (fun a ha => hz a (by omega))
  have hzS : ∀ z : sMem, (∀ i, i < 74 → z i = σ i) → SM σ (sUp z 0 0 0 0) G := fun z hz => (SM.low (fun a ha => hz a (by omega))).trans (SM.z0 0 0 ⟨by decide, by decide, by decide⟩)
  have h8 : yMet l D b0 ty ad av lay 201 0 mX8_bound [aR 34] σ (fun r σ' => r = [aI (nI (bdT (lsO σ) P S))] ∧ ∀ i, i ≠ 92 → σ' i = σ i) (fun _ _ => False) := by
    rcases hJ.1 with e | e
    · subst e
      exact c8_bound_36 196 σ σ N P S G hH 
    · subst e
      exact c8_bound_54 196 σ σ N P S G hH 
  refine JD_ok hJ (A := nI (bdT (lsO σ) P S)) h8 (fun r σ' h => ⟨h.1, fun i hi => h.2 i (by omega)⟩) (fun z hz => R9.s (c9_bound 199 z N P S (hzM z hz).1) (fun r σ' h => ?_))
  obtain ⟨hr, hs⟩ := h
  refine ⟨?_, by rw [hs]; exact KP.rfl'⟩
  have e6 : sUp z 0 0 0 0 6 = σ 6 := by rw [sUp_off (by decide)]; exact hz 6 (by decide)
  have e8 : sUp z 0 0 0 0 8 = σ 8 := by rw [sUp_off (by decide)]; exact hz 8 (by decide)
  have e14 : sUp z 0 0 0 0 14 = σ 14 := by rw [sUp_off (by decide)]; exact hz 14 (by decide)
  rw [hr, bdS_eq (MC_of ((hzI z hz).cg (fun a ha => sUp_off (by omega)))) S (Nat.le_refl _), lsO_cg e6 e8 e14]
theorem jw_saves (σ : sMem) (hJ : JR σ) (x : Int32) : JW l D b0 ty ad av mX8_saves mX9_saves (cd1 yIOE) [aI x] σ := by
  obtain ⟨v, N, P, S, G, T, m, hJ⟩ := hJ
  have hH := hJ.2.1
  have hT := hJ.2.2.1
  have hM := hH.2.2.1
  have hN := hM.1.1.1.1
  have hP10 := hM.1.1.2.2.2.1.2
  have hS8 := hM.1.1.2.2.2.2.1.2
  have hzM : ∀ z : sMem, (∀ i, i < 74 → z i = σ i) → MJ z N P S G := fun z hz => hM.1.cg (fun a ha => hz a (by omega))
  have hzI : ∀ z : sMem, (∀ i, i < 74 → z i = σ i) → MI z N P S G := fun z hz => hM.cg (fun a ha => hz a (by omega))
  have hzS : ∀ z : sMem, (∀ i, i < 74 → z i = σ i) → SM σ (sUp z 0 0 0 0) G := fun z hz => (SM.low (fun a ha => hz a (by omega))).trans (SM.z0 0 0 ⟨by decide, by decide, by decide⟩)
  by_cases c0 : 0 ≤ x ∧ x ≤ nI N - 1
  rotate_left
  · have h8 : yMet l D b0 ty ad av lay 200 1 mX8_saves [aR 34, aI x] σ (fun _ _ => False) (fun e σ' => e = yIOE ∧ σ' = σ) := by
      rcases hJ.1 with e | e
      · subst e
        exact c8_saves_36_x0 193 σ σ N P S G hH x c0
      · subst e
        exact c8_saves_54_x0 193 σ σ N P S G hH x c0
    exact JW_x hJ (E := yIOE) (k := 1) (by decide +kernel) (by decide) h8 (R9.s (c9_saves 193 σ N P S G (hzM σ (fun _ _ => rfl)) x) (fun r σ' h => h.2 c0))
  obtain ⟨p, rfl, hp⟩ := in_nI (n := N) (by omega) c0
  have h8 : yMet l D b0 ty ad av lay 200 0 mX8_saves [aR 34, aI (nI p)] σ (fun r σ' => r = [aI (cFi σ P S G - cSg σ P S G p)] ∧ FR σ σ') (fun _ _ => False) := by
    rcases hJ.1 with e | e
    · subst e
      exact c8_saves_36_ok 193 σ σ N P S G hH hT p hp
    · subst e
      exact c8_saves_54_ok 193 σ σ N P S G hH hT p hp
  refine JW_ok hJ (A := cFi σ P S G - cSg σ P S G p) h8 (fun r σ' h => ⟨h.1, fun i hi => h.2 i (Or.inl (by omega))⟩) (fun z hz => R9.s (c9_saves 193 z N P S G (hzM z hz) (nI p)) (fun r σ' h => ?_))
  obtain ⟨hr, hs⟩ := h.1 c0
  have hk := goM_KP G (sUp z 0 0 0 0) 0 P S
  have h29 : goM (sUp z 0 0 0 0) 0 P S 0 0 29 = -1 := by rw [hk.2.2 29 (by decide) (by decide) (by decide) (by decide), sUp_k (by decide), hz 0 (by decide)]; exact hT.2.1
  refine ⟨?_, by rw [hs]; exact hk.trans (sgM_KP h29 _ _ _)⟩
  rw [hr, fc_eq hT hM (hzS z hz), sg_eq hT hM ((hzS z hz).trans hk.SM)]
theorem jd_which (σ : sMem) (hJ : JR σ) : JD l D b0 ty ad av mX8_which mX9_which [] σ := by
  obtain ⟨v, N, P, S, G, T, m, hJ⟩ := hJ
  have hH := hJ.2.1
  have hT := hJ.2.2.1
  have hM := hH.2.2.1
  have hN := hM.1.1.1.1
  have hP10 := hM.1.1.2.2.2.1.2
  have hS8 := hM.1.1.2.2.2.2.1.2
  have hzM : ∀ z : sMem, (∀ i, i < 74 → z i = σ i) → MJ z N P S G := fun z hz => hM.1.cg (fun a ha => hz a (by omega))
  have hzI : ∀ z : sMem, (∀ i, i < 74 → z i = σ i) → MI z N P S G := fun z hz => hM.cg (fun a ha => hz a (by omega))
  have hzS : ∀ z : sMem, (∀ i, i < 74 → z i = σ i) → SM σ (sUp z 0 0 0 0) G := fun z hz => (SM.low (fun a ha => hz a (by omega))).trans (SM.z0 0 0 ⟨by decide, by decide, by decide⟩)
  have h8 : yMet l D b0 ty ad av lay 201 0 mX8_which [aR 34] σ (fun r σ' => r = [aI (nI (whL (cSg σ P S G) (N - 1) 1 0))] ∧ FR σ σ') (fun _ _ => False) := by
    rcases hJ.1 with e | e
    · subst e
      exact c8_which_36_ok 194 σ σ N P S G hH hT
    · subst e
      exact c8_which_54_ok 194 σ σ N P S G hH hT
  refine JD_ok hJ (A := nI (whL (cSg σ P S G) (N - 1) 1 0)) h8 (fun r σ' h => ⟨h.1, fun i hi => h.2 i (Or.inl (by omega))⟩) (fun z hz => R9.s (c9_which 193 z N P S G (hzM z hz) (by rw [hz 0 (by decide)]; exact hT.2.1) (cSg σ P S G) (fun τ p hk hp => sg_eq hT hM ((hzS z hz).trans hk.SM) p)) (fun r σ' h => ?_))
  exact h
theorem jd_other (σ : sMem) (hJ : JR σ) : JD l D b0 ty ad av mX8_other mX9_other [] σ := by
  obtain ⟨v, N, P, S, G, T, m, hJ⟩ := hJ
  have hH := hJ.2.1
  have hT := hJ.2.2.1
  have hM := hH.2.2.1
  have hN := hM.1.1.1.1
  have hP10 := hM.1.1.2.2.2.1.2
  have hS8 := hM.1.1.2.2.2.2.1.2
  have hzM : ∀ z : sMem, (∀ i, i < 74 → z i = σ i) → MJ z N P S G := fun z hz => hM.1.cg (fun a ha => hz a (by omega))
  have hzI : ∀ z : sMem, (∀ i, i < 74 → z i = σ i) → MI z N P S G := fun z hz => hM.cg (fun a ha => hz a (by omega))
  have hzS : ∀ z : sMem, (∀ i, i < 74 → z i = σ i) → SM σ (sUp z 0 0 0 0) G := fun z hz => (SM.low (fun a ha => hz a (by omega))).trans (SM.z0 0 0 ⟨by decide, by decide, by decide⟩)
  have h8 : yMet l D b0 ty ad av lay 201 0 mX8_other [aR 34] σ (fun r σ' => r = [aI (nI (whL (cLw σ P S G) 9 1 0))] ∧ FR σ σ') (fun _ _ => False) := by
    rcases hJ.1 with e | e
    · subst e
      exact c8_other_36_ok 194 σ σ N P S G hH hT
    · subst e
      exact c8_other_54_ok 194 σ σ N P S G hH hT
  refine JD_ok hJ (A := nI (whL (cLw σ P S G) 9 1 0)) h8 (fun r σ' h => ⟨h.1, fun i hi => h.2 i (Or.inl (by omega))⟩) (fun z hz => R9.s (c9_other 195 z N P S G (hzM z hz) (by rw [hz 0 (by decide)]; exact hT.2.1) (cLw σ P S G) (fun τ p hk hp => co_eq hT hM ((hzS z hz).trans hk.SM) (by omega))) (fun r σ' h => ?_))
  exact h
theorem jw_where (σ : sMem) (hJ : JR σ) (x w : Int32) : JW l D b0 ty ad av mX8_where mX9_where (cd1 yIAE) [aI x, aI w] σ := by
  obtain ⟨v, N, P, S, G, T, m, hJ⟩ := hJ
  have hH := hJ.2.1
  have hT := hJ.2.2.1
  have hM := hH.2.2.1
  have hN := hM.1.1.1.1
  have hP10 := hM.1.1.2.2.2.1.2
  have hS8 := hM.1.1.2.2.2.2.1.2
  have hzM : ∀ z : sMem, (∀ i, i < 74 → z i = σ i) → MJ z N P S G := fun z hz => hM.1.cg (fun a ha => hz a (by omega))
  have hzI : ∀ z : sMem, (∀ i, i < 74 → z i = σ i) → MI z N P S G := fun z hz => hM.cg (fun a ha => hz a (by omega))
  have hzS : ∀ z : sMem, (∀ i, i < 74 → z i = σ i) → SM σ (sUp z 0 0 0 0) G := fun z hz => (SM.low (fun a ha => hz a (by omega))).trans (SM.z0 0 0 ⟨by decide, by decide, by decide⟩)
  by_cases c0 : 0 ≤ x ∧ x ≤ 9
  rotate_left
  · have h8 : yMet l D b0 ty ad av lay 200 1 mX8_where [aR 34, aI x, aI w] σ (fun _ _ => False) (fun e σ' => e = yIAE ∧ σ' = σ) := by
      rcases hJ.1 with e | e
      · subst e
        exact c8_where_36_x0 193 σ σ N P S G hH x w c0
      · subst e
        exact c8_where_54_x0 193 σ σ N P S G hH x w c0
    exact JW_x hJ (E := yIAE) (k := 1) (by decide +kernel) (by decide) h8 (R9.s (c9_where_x 193 σ N P S G hM.1 x w (fun q => c0 q.1)) (fun r σ' h => h))
  by_cases c1 : 0 ≤ w ∧ w ≤ 1
  rotate_left
  · have h8 : yMet l D b0 ty ad av lay 200 1 mX8_where [aR 34, aI x, aI w] σ (fun _ _ => False) (fun e σ' => e = yIAE ∧ σ' = σ) := by
      rcases hJ.1 with e | e
      · subst e
        exact c8_where_36_x1 193 σ σ N P S G hH x w c0 c1
      · subst e
        exact c8_where_54_x1 193 σ σ N P S G hH x w c0 c1
    exact JW_x hJ (E := yIAE) (k := 1) (by decide +kernel) (by decide) h8 (R9.s (c9_where_x 193 σ N P S G hM.1 x w (fun q => c1 q.2)) (fun r σ' h => h))
  obtain ⟨f, rfl, hf⟩ := in_le (m := 9) (by decide) rfl c0
  obtain ⟨k, rfl, hk⟩ := in_le (m := 1) (by decide) rfl c1
  have h8 : yMet l D b0 ty ad av lay 200 0 mX8_where [aR 34, aI (nI f), aI (nI k)] σ (fun r σ' => r = [aI (if nI k = 0 then nI (whL (fun p => cG1 σ P S G p f) (N - 1) 1 0) else (fun p => cG1 σ P S G p f) (whL (fun p => cG1 σ P S G p f) (N - 1) 1 0))] ∧ FR σ σ') (fun _ _ => False) := by
    rcases hJ.1 with e | e
    · subst e
      exact c8_where_36_ok 193 σ σ N P S G hH hT f k hf hk
    · subst e
      exact c8_where_54_ok 193 σ σ N P S G hH hT f k hf hk
  refine JW_ok hJ (A := if nI k = 0 then nI (whL (fun p => cG1 σ P S G p f) (N - 1) 1 0) else (fun p => cG1 σ P S G p f) (whL (fun p => cG1 σ P S G p f) (N - 1) 1 0)) h8 (fun r σ' h => ⟨h.1, fun i hi => h.2 i (Or.inl (by omega))⟩) (fun z hz => R9.s (c9_where 193 z N P S G (hzM z hz) (nI f) (nI k) (fun p => cG1 σ P S G p f) (fun τ p hk hp => g1_eq hT hM ((hzS z hz).trans hk.SM) hp hf)) (fun r σ' h => ?_))
  exact h.1 ⟨c0, c1⟩
theorem jw_corner (σ : sMem) (hJ : JR σ) (x : Int32) : JW l D b0 ty ad av mX8_corner mX9_corner (cd1 yIAE) [aI x] σ := by
  obtain ⟨v, N, P, S, G, T, m, hJ⟩ := hJ
  have hH := hJ.2.1
  have hT := hJ.2.2.1
  have hM := hH.2.2.1
  have hN := hM.1.1.1.1
  have hP10 := hM.1.1.2.2.2.1.2
  have hS8 := hM.1.1.2.2.2.2.1.2
  have hzM : ∀ z : sMem, (∀ i, i < 74 → z i = σ i) → MJ z N P S G := fun z hz => hM.1.cg (fun a ha => hz a (by omega))
  have hzI : ∀ z : sMem, (∀ i, i < 74 → z i = σ i) → MI z N P S G := fun z hz => hM.cg (fun a ha => hz a (by omega))
  have hzS : ∀ z : sMem, (∀ i, i < 74 → z i = σ i) → SM σ (sUp z 0 0 0 0) G := fun z hz => (SM.low (fun a ha => hz a (by omega))).trans (SM.z0 0 0 ⟨by decide, by decide, by decide⟩)
  by_cases c0 : 0 ≤ x ∧ x ≤ 9
  rotate_left
  · have h8 : yMet l D b0 ty ad av lay 200 1 mX8_corner [aR 34, aI x] σ (fun _ _ => False) (fun e σ' => e = yIAE ∧ σ' = σ) := by
      rcases hJ.1 with e | e
      · subst e
        exact c8_corner_36_x0 193 σ σ N P S G hH x c0
      · subst e
        exact c8_corner_54_x0 193 σ σ N P S G hH x c0
    exact JW_x hJ (E := yIAE) (k := 1) (by decide +kernel) (by decide) h8 (R9.s (c9_corner 194 σ N P S G (hzM σ (fun _ _ => rfl)) x) (fun r σ' h => h.2 c0))
  obtain ⟨k, rfl, hk⟩ := in_le (m := 9) (by decide) rfl c0
  have h8 : yMet l D b0 ty ad av lay 200 0 mX8_corner [aR 34, aI (nI k)] σ (fun r σ' => r = [aI (cLw σ P S G k)] ∧ FR σ σ') (fun _ _ => False) := by
    rcases hJ.1 with e | e
    · subst e
      exact c8_corner_36_ok 193 σ σ N P S G hH hT k hk
    · subst e
      exact c8_corner_54_ok 193 σ σ N P S G hH hT k hk
  refine JW_ok hJ (A := cLw σ P S G k) h8 (fun r σ' h => ⟨h.1, fun i hi => h.2 i (Or.inl (by omega))⟩) (fun z hz => R9.s (c9_corner 194 z N P S G (hzM z hz) (nI k)) (fun r σ' h => ?_))
  obtain ⟨hr, hs⟩ := h.1 c0
  exact ⟨by rw [hr, co_eq hT hM (hzS z hz) hk], by rw [hs]; exact coM_KP _ _ _ _ _⟩
theorem jw_rest (σ : sMem) (hJ : JR σ) (x : Int32) : JW l D b0 ty ad av mX8_rest mX9_rest (cd1 yNSE) [aI x] σ := by
  obtain ⟨v, N, P, S, G, T, m, hJ⟩ := hJ
  have hH := hJ.2.1
  have hT := hJ.2.2.1
  have hM := hH.2.2.1
  have hN := hM.1.1.1.1
  have hP10 := hM.1.1.2.2.2.1.2
  have hS8 := hM.1.1.2.2.2.2.1.2
  have hzM : ∀ z : sMem, (∀ i, i < 74 → z i = σ i) → MJ z N P S G := fun z hz => hM.1.cg (fun a ha => hz a (by omega))
  have hzI : ∀ z : sMem, (∀ i, i < 74 → z i = σ i) → MI z N P S G := fun z hz => hM.cg (fun a ha => hz a (by omega))
  have hzS : ∀ z : sMem, (∀ i, i < 74 → z i = σ i) → SM σ (sUp z 0 0 0 0) G := fun z hz => (SM.low (fun a ha => hz a (by omega))).trans (SM.z0 0 0 ⟨by decide, by decide, by decide⟩)
  by_cases c0 : 0 ≤ x ∧ x ≤ nI P - 1
  rotate_left
  · have h8 : yMet l D b0 ty ad av lay 200 1 mX8_rest [aR 34, aI x] σ (fun _ _ => False) (fun e σ' => e = yNSE ∧ σ' = σ) := by
      rcases hJ.1 with e | e
      · subst e
        exact c8_rest_36_x0 193 σ σ N P S G hH x c0
      · subst e
        exact c8_rest_54_x0 193 σ σ N P S G hH x c0
    exact JW_x hJ (E := yNSE) (k := 1) (by decide +kernel) (by decide) h8 (R9.s (c9_rest 194 σ N P S G (hzM σ (fun _ _ => rfl)) x) (fun r σ' h => h.2 c0))
  obtain ⟨p, rfl, hp⟩ := in_nI (n := P) (by omega) c0
  have h8 : yMet l D b0 ty ad av lay 200 0 mX8_rest [aR 34, aI (nI p)] σ (fun r σ' => r = [aI ((cFi σ P S G - nI (losP (cP σ G) (daA (cP σ G) aT P G S 0) p)) - cRe σ P S G p)] ∧ FR σ σ') (fun _ _ => False) := by
    rcases hJ.1 with e | e
    · subst e
      exact c8_rest_36_ok 193 σ σ N P S G hH hT p hp
    · subst e
      exact c8_rest_54_ok 193 σ σ N P S G hH hT p hp
  refine JW_ok hJ (A := (cFi σ P S G - nI (losP (cP σ G) (daA (cP σ G) aT P G S 0) p)) - cRe σ P S G p) h8 (fun r σ' h => ⟨h.1, fun i hi => h.2 i (Or.inl (by omega))⟩) (fun z hz => R9.s (c9_rest 194 z N P S G (hzM z hz) (nI p)) (fun r σ' h => ?_))
  obtain ⟨hr, hs⟩ := h.1 c0
  obtain ⟨hO, hV, hL, hR⟩ := dayF hT hM (hzS z hz) (kd := 0) (by decide)
  have hk := goM_KP G (sUp z 0 0 0 0) 0 P S
  have h28 : goM (sUp z 0 0 0 0) 0 P S 0 0 28 = -1 := by rw [hk.2.2 28 (by decide) (by decide) (by decide) (by decide), sUp_k (by decide), hz 0 (by decide)]; exact hT.1
  refine ⟨?_, ?_⟩
  · have e1 : loR (goM (sUp z 0 0 0 0) 0 P S) p = nI (losP (cP σ G) (daA (cP σ G) aT P G S 0) p) := by unfold loR; exact los_RA hO.1 hV hL hR hp
    rw [hr, nI_clamp (by omega), fc_eq hT hM (hzS z hz), e1, re_eq hT hM ((hzS z hz).trans hk.SM)]
  · rw [hs]
    generalize goM (sUp z 0 0 0 0) 0 P S = τ at hk h28
    have hk2 := goM_KP G (sUp τ 0 0 28 (nI p)) 0 P S
    refine hk.trans ⟨fun a h1 h2 h3 => ?_, fun g j hg => ?_, fun k h1 h2 h3 h4 => ?_⟩
    · rw [sUp_off h1, hk2.1 a h1 h2 h3, sUp_off h1]
    · rw [sUp_off (by decide), hk2.2.1 g j hg, sUp_off (by decide)]
    · by_cases e : k = 28
      · subst e; rw [sUp_at, h28]
      · rw [sUp_k e, hk2.2.2 k h1 h2 h3 h4, sUp_k e]
end
