/-! THE JOINS of the calls, one by one -/
theorem in_le {m : Nat} {c : Int32} (hm : m < 1000) (hc : nI (m + 1) - 1 = c) {x : Int32} (h : 0 ≤ x ∧ x ≤ c) : ∃ k : Nat, x = nI k ∧ k ≤ m := by
  rw [← hc] at h
  obtain ⟨k, h1, h2⟩ := in_nI (by omega) h
  exact ⟨k, h1, by omega⟩
theorem wyS_cg {z σ : sMem} (h : ∀ i, i < 74 → z i = σ i) (b : Nat) : ∀ n a, wyS z b n a = wyS σ b n a
  | 0, a => by simp only [wyS]
  | n + 1, a => by simp only [wyS, h 15 (by decide), h 13 (by decide), h 14 (by decide), wyS_cg h b n]
/-- a day of the reference, by numbers -/
theorem dayF {σ z : sMem} {N P S G : Nat} (hT : HT σ) (hM : MI σ N P S G) (h : SM σ z G) {kd : Nat} (hk : kd ≤ 4) : OK σ N P S G ∧ DV (cP σ G) N P S 8000 (daA (cP σ G) aT P G S kd) ∧ DLo (cP σ G) P (daA (cP σ G) aT P G S kd) ∧ RA (cP σ G) (goM z (nI kd) P S) P S G (daA (cP σ G) aT P G S kd) := by
  have hO := (uP_0 hT hM).OK hM
  exact ⟨hO, (daA_DV hO.1 hO.2 1000 (Nat.le_refl _)).mono (by have := hO.1.2.2.2.1; omega), da_DLo hO.1 hO.2 1000 (Nat.le_refl _), go_RA hM rfl hO h (hT.cm h) (by omega)⟩
section
variable {l : Launch} {D : va_G} {b0 : Nat} {ty : Nat → ClassId} {ad av : Nat → Nat}
theorem jw_told (σ : sMem) (hJ : JR σ) (w : Int32) : JW l D b0 ty ad av mX8_told mX9_told (cd1 yIAE) [aI w] σ := by
  obtain ⟨v, N, P, S, G, T, m, hJ⟩ := hJ
  have hH := hJ.2.1
  have hT := hJ.2.2.1
  have hM := hH.2.2.1
  have hN := hM.1.1.1.1
  have hP10 := hM.1.1.2.2.2.1.2
  have hS8 := hM.1.1.2.2.2.2.1.2
  have hzM : ∀ z : sMem, (∀ i, i < 74 → z i = σ i) → MJ z N P S G := fun z hz => hM.1.cg (fun a ha => hz a (by omega))
  have hzI : ∀ z : sMem, (∀ i, i < 74 → z i = σ i) → MI z N P S G := fun z hz => hM.cg (fun a ha => hz a (by omega))
  have hzS : ∀ z : sMem, (∀ i, i < 74 → z i = σ i) → SM σ (sUp z 0 0 0 0) G := fun z hz => (SM.low (fun a ha => hz a (by omega))).trans (SM.z0 0 0 ⟨by decide, by decide, by decide⟩)
  by_cases c0 : 0 ≤ w ∧ w ≤ 4
  rotate_left
  · have h8 : yMet l D b0 ty ad av lay 200 1 mX8_told [aR 34, aI w] σ (fun _ _ => False) (fun e σ' => e = yIAE ∧ σ' = σ) := by
      rcases hJ.1 with e | e
      · subst e
        exact c8_told_36_x0 193 σ σ N P S G hH w c0
      · subst e
        exact c8_told_54_x0 193 σ σ N P S G hH w c0
    exact JW_x hJ (E := yIAE) (k := 1) (by decide +kernel) (by decide) h8 (R9.s (c9_told 200 σ  w) (fun r σ' h => h.2 c0))
  obtain ⟨k, rfl, hk⟩ := in_le (m := 4) (by decide) rfl c0
  have h8 : yMet l D b0 ty ad av lay 200 0 mX8_told [aR 34, aI (nI k)] σ (fun r σ' => r = [aI (σ 3 0 k)] ∧ σ' = σ) (fun _ _ => False) := by
    rcases hJ.1 with e | e
    · subst e
      exact y_of_s (c8_told_36_ok 200 σ σ N P S G hH k hk)
    · subst e
      exact y_of_s (c8_told_54_ok 200 σ σ N P S G hH k hk)
  refine JW_ok hJ (A := σ 3 0 k) h8 (fun r σ' h => ⟨h.1, fun i hi => by rw [h.2]⟩) (fun z hz => R9.s (c9_told 200 z  (nI k)) (fun r σ' h => ?_))
  obtain ⟨hr, hs⟩ := h.1 c0
  refine ⟨?_, by rw [hs]; exact KP.rfl'⟩
  rw [hr, nI_clamp (by omega), hz 3 (by decide)]
theorem jw_far (σ : sMem) (hJ : JR σ) (x y : Int32) : JW l D b0 ty ad av mX8_far mX9_far (cd1 yIOE) [aI x, aI y] σ := by
  obtain ⟨v, N, P, S, G, T, m, hJ⟩ := hJ
  have hH := hJ.2.1
  have hT := hJ.2.2.1
  have hM := hH.2.2.1
  have hN := hM.1.1.1.1
  have hP10 := hM.1.1.2.2.2.1.2
  have hS8 := hM.1.1.2.2.2.2.1.2
  have hzM : ∀ z : sMem, (∀ i, i < 74 → z i = σ i) → MJ z N P S G := fun z hz => hM.1.cg (fun a ha => hz a (by omega))
  have hzI : ∀ z : sMem, (∀ i, i < 74 → z i = σ i) → MI z N P S G := fun z hz => hM.cg (fun a ha => hz a (by omega))
  have hzS : ∀ z : sMem, (∀ i, i < 74 → z i = σ i) → SM σ (sUp z 0 0 0 0) G := fun z hz => (SM.low (fun a ha => hz a (by omega))).trans (SM.z0 0 0 ⟨by decide, by decide, by decide⟩)
  by_cases c0 : 0 ≤ x ∧ x ≤ nI N - 1
  rotate_left
  · have h8 : yMet l D b0 ty ad av lay 200 1 mX8_far [aR 34, aI x, aI y] σ (fun _ _ => False) (fun e σ' => e = yIOE ∧ σ' = σ) := by
      rcases hJ.1 with e | e
      · subst e
        exact c8_far_36_x0 193 σ σ N P S G hH x y c0
      · subst e
        exact c8_far_54_x0 193 σ σ N P S G hH x y c0
    exact JW_x hJ (E := yIOE) (k := 1) (by decide +kernel) (by decide) h8 (R9.s (c9_far 199 σ N (hzM σ (fun _ _ => rfl)).1.1 (hzM σ (fun _ _ => rfl)).1.2.2.1 x y) (fun r σ' h => h.2 (fun q => c0 q.1)))
  by_cases c1 : 0 ≤ y ∧ y ≤ nI N - 1
  rotate_left
  · have h8 : yMet l D b0 ty ad av lay 200 1 mX8_far [aR 34, aI x, aI y] σ (fun _ _ => False) (fun e σ' => e = yIOE ∧ σ' = σ) := by
      rcases hJ.1 with e | e
      · subst e
        exact c8_far_36_x1 193 σ σ N P S G hH x y c0 c1
      · subst e
        exact c8_far_54_x1 193 σ σ N P S G hH x y c0 c1
    exact JW_x hJ (E := yIOE) (k := 1) (by decide +kernel) (by decide) h8 (R9.s (c9_far 199 σ N (hzM σ (fun _ _ => rfl)).1.1 (hzM σ (fun _ _ => rfl)).1.2.2.1 x y) (fun r σ' h => h.2 (fun q => c1 q.2)))
  obtain ⟨a, rfl, ha⟩ := in_nI (n := N) (by omega) c0
  obtain ⟨b, rfl, hb9⟩ := in_nI (n := N) (by omega) c1
  have h8 : yMet l D b0 ty ad av lay 200 0 mX8_far [aR 34, aI (nI a), aI (nI b)] σ (fun r σ' => r = [aI (if fN σ a b < 1000000 then σ 14 a b else -1)] ∧ σ' = σ) (fun _ _ => False) := by
    rcases hJ.1 with e | e
    · subst e
      exact y_of_s (c8_far_36_ok 199 σ σ N P S G hH a b ha hb9)
    · subst e
      exact y_of_s (c8_far_54_ok 199 σ σ N P S G hH a b ha hb9)
  refine JW_ok hJ (A := if fN σ a b < 1000000 then σ 14 a b else -1) h8 (fun r σ' h => ⟨h.1, fun i hi => by rw [h.2]⟩) (fun z hz => R9.s (c9_far 199 z N (hzM z hz).1.1 (hzM z hz).1.2.2.1 (nI a) (nI b)) (fun r σ' h => ?_))
  obtain ⟨hr, hs⟩ := h.1 ⟨c0, c1⟩
  refine ⟨?_, by rw [hs]; exact KP.rfl'⟩
  obtain ⟨f1, f2⟩ := hM.far ha hb9
  rw [hr, nI_clamp (by omega), nI_clamp (by omega), hz 14 (by decide)]
  have hc : (σ 14 a b < 1000000) = (fN σ a b < 1000000) := by rw [f1]; exact propext (nI_lt1 f2)
  simp only [hc]
theorem jw_way (σ : sMem) (hJ : JR σ) (x y i : Int32) : JW l D b0 ty ad av mX8_way mX9_way (cd1 yIOE) [aI x, aI y, aI i] σ := by
  obtain ⟨v, N, P, S, G, T, m, hJ⟩ := hJ
  have hH := hJ.2.1
  have hT := hJ.2.2.1
  have hM := hH.2.2.1
  have hN := hM.1.1.1.1
  have hP10 := hM.1.1.2.2.2.1.2
  have hS8 := hM.1.1.2.2.2.2.1.2
  have hzM : ∀ z : sMem, (∀ i, i < 74 → z i = σ i) → MJ z N P S G := fun z hz => hM.1.cg (fun a ha => hz a (by omega))
  have hzI : ∀ z : sMem, (∀ i, i < 74 → z i = σ i) → MI z N P S G := fun z hz => hM.cg (fun a ha => hz a (by omega))
  have hzS : ∀ z : sMem, (∀ i, i < 74 → z i = σ i) → SM σ (sUp z 0 0 0 0) G := fun z hz => (SM.low (fun a ha => hz a (by omega))).trans (SM.z0 0 0 ⟨by decide, by decide, by decide⟩)
  by_cases c0 : 0 ≤ x ∧ x ≤ nI N - 1
  rotate_left
  · have h8 : yMet l D b0 ty ad av lay 200 1 mX8_way [aR 34, aI x, aI y, aI i] σ (fun _ _ => False) (fun e σ' => e = yIOE ∧ σ' = σ) := by
      rcases hJ.1 with e | e
      · subst e
        exact c8_way_36_x0 193 σ σ N P S G hH x y i c0
      · subst e
        exact c8_way_54_x0 193 σ σ N P S G hH x y i c0
    exact JW_x hJ (E := yIOE) (k := 1) (by decide +kernel) (by decide) h8 (R9.s (c9_way 199 σ N (hzM σ (fun _ _ => rfl)).1.1 (hzM σ (fun _ _ => rfl)).1.2.2.1 x y i) (fun r σ' h => h.2 (fun q => c0 q.1)))
  by_cases c1 : 0 ≤ y ∧ y ≤ nI N - 1
  rotate_left
  · have h8 : yMet l D b0 ty ad av lay 200 1 mX8_way [aR 34, aI x, aI y, aI i] σ (fun _ _ => False) (fun e σ' => e = yIOE ∧ σ' = σ) := by
      rcases hJ.1 with e | e
      · subst e
        exact c8_way_36_x1 193 σ σ N P S G hH x y i c0 c1
      · subst e
        exact c8_way_54_x1 193 σ σ N P S G hH x y i c0 c1
    exact JW_x hJ (E := yIOE) (k := 1) (by decide +kernel) (by decide) h8 (R9.s (c9_way 199 σ N (hzM σ (fun _ _ => rfl)).1.1 (hzM σ (fun _ _ => rfl)).1.2.2.1 x y i) (fun r σ' h => h.2 (fun q => c1 q.2)))
  obtain ⟨a, rfl, ha⟩ := in_nI (n := N) (by omega) c0
  obtain ⟨b, rfl, hb9⟩ := in_nI (n := N) (by omega) c1
  have h8 : yMet l D b0 ty ad av lay 200 0 mX8_way [aR 34, aI (nI a), aI (nI b), aI (i)] σ (fun r σ' => r = [aI (wyR σ a b i)] ∧ σ' = σ) (fun _ _ => False) := by
    rcases hJ.1 with e | e
    · subst e
      exact y_of_s (c8_way_36_ok 199 σ σ N P S G hH a b i ha hb9)
    · subst e
      exact y_of_s (c8_way_54_ok 199 σ σ N P S G hH a b i ha hb9)
  refine JW_ok hJ (A := wyR σ a b i) h8 (fun r σ' h => ⟨h.1, fun i hi => by rw [h.2]⟩) (fun z hz => R9.s (c9_way 199 z N (hzM z hz).1.1 (hzM z hz).1.2.2.1 (nI a) (nI b) (i)) (fun r σ' h => ?_))
  obtain ⟨hr, hs⟩ := h.1 ⟨c0, c1⟩
  refine ⟨?_, by rw [hs]; exact KP.rfl'⟩
  obtain ⟨f1, f2⟩ := hM.far ha hb9
  rw [hr, nI_clamp (by omega), nI_clamp (by omega), hz 14 (by decide), wyS_cg hz]
  have hc : (σ 14 a b < 1000000) = (fN σ a b < 1000000) := by rw [f1]; exact propext (nI_lt1 f2)
  unfold wyR
  simp only [hc]
theorem jw_person (σ : sMem) (hJ : JR σ) (x w : Int32) : JW l D b0 ty ad av mX8_person mX9_person cd2 [aI x, aI w] σ := by
  obtain ⟨v, N, P, S, G, T, m, hJ⟩ := hJ
  have hH := hJ.2.1
  have hT := hJ.2.2.1
  have hM := hH.2.2.1
  have hN := hM.1.1.1.1
  have hP10 := hM.1.1.2.2.2.1.2
  have hS8 := hM.1.1.2.2.2.2.1.2
  have hzM : ∀ z : sMem, (∀ i, i < 74 → z i = σ i) → MJ z N P S G := fun z hz => hM.1.cg (fun a ha => hz a (by omega))
  have hzI : ∀ z : sMem, (∀ i, i < 74 → z i = σ i) → MI z N P S G := fun z hz => hM.cg (fun a ha => hz a (by omega))
  have hzS : ∀ z : sMem, (∀ i, i < 74 → z i = σ i) → SM σ (sUp z 0 0 0 0) G := fun z hz => (SM.low (fun a ha => hz a (by omega))).trans (SM.z0 0 0 ⟨by decide, by decide, by decide⟩)
  by_cases c0 : 0 ≤ x ∧ x ≤ nI P - 1
  rotate_left
  · have h8 : yMet l D b0 ty ad av lay 200 1 mX8_person [aR 34, aI x, aI w] σ (fun _ _ => False) (fun e σ' => e = yNSE ∧ σ' = σ) := by
      rcases hJ.1 with e | e
      · subst e
        exact c8_person_36_x0 193 σ σ N P S G hH x w c0
      · subst e
        exact c8_person_54_x0 193 σ σ N P S G hH x w c0
    exact JW_x hJ (E := yNSE) (k := 1) (by decide +kernel) (by decide) h8 (R9.s (c9_person 199 σ N P S G (hzM σ (fun _ _ => rfl)) x w) (fun r σ' h => h.2.1 c0))
  by_cases c1 : 0 ≤ w ∧ w ≤ 5
  rotate_left
  · have h8 : yMet l D b0 ty ad av lay 200 1 mX8_person [aR 34, aI x, aI w] σ (fun _ _ => False) (fun e σ' => e = yIAE ∧ σ' = σ) := by
      rcases hJ.1 with e | e
      · subst e
        exact c8_person_36_x1 193 σ σ N P S G hH x w c0 c1
      · subst e
        exact c8_person_54_x1 193 σ σ N P S G hH x w c0 c1
    exact JW_x hJ (E := yIAE) (k := 2) (by decide +kernel) (by decide) h8 (R9.s (c9_person 199 σ N P S G (hzM σ (fun _ _ => rfl)) x w) (fun r σ' h => h.2.2 c0 c1))
  obtain ⟨p, rfl, hp⟩ := in_nI (n := P) (by omega) c0
  obtain ⟨k, rfl, hk⟩ := in_le (m := 5) (by decide) rfl c1
  have h8 : yMet l D b0 ty ad av lay 200 0 mX8_person [aR 34, aI (nI p), aI (nI k)] σ (fun r σ' => r = [aI (peA σ p k)] ∧ σ' = σ) (fun _ _ => False) := by
    rcases hJ.1 with e | e
    · subst e
      exact y_of_s (c8_person_36_ok 198 σ σ N P S G hH p k hp hk)
    · subst e
      exact y_of_s (c8_person_54_ok 198 σ σ N P S G hH p k hp hk)
  refine JW_ok hJ (A := peA σ p k) h8 (fun r σ' h => ⟨h.1, fun i hi => by rw [h.2]⟩) (fun z hz => R9.s (c9_person 199 z N P S G (hzM z hz) (nI p) (nI k)) (fun r σ' h => ?_))
  obtain ⟨hr, hs⟩ := h.1 c0 c1
  refine ⟨?_, by rw [hs]; exact KP.rfl'⟩
  obtain ⟨⟨f6, ha⟩, ⟨f7, hq9⟩, -, -⟩ := (MC_of hM).2.2.2.2.1 p hp
  obtain ⟨f1, f2⟩ := hM.far ha hq9
  rw [hr, nI_clamp (by omega), nI_clamp (by omega), sUp_off (by decide), sUp_off (by decide), hz 6 (by decide), hz 14 (by decide)]
  have hc : (σ 14 (σ 6 p 0).toNatClampNeg (σ 6 p 1).toNatClampNeg < 1000000) = (fN σ (σ 6 p 0).toNatClampNeg (σ 6 p 1).toNatClampNeg < 1000000) := by
    have f1' : σ 14 (σ 6 p 0).toNatClampNeg (σ 6 p 1).toNatClampNeg = nI (fN σ (pP σ p) (pQ σ p)) := f1
    rw [f1']; exact propext (nI_lt1 f2)
  unfold peA
  simp only [hc]
theorem jw_stranger (σ : sMem) (hJ : JR σ) (x w : Int32) : JW l D b0 ty ad av mX8_stranger mX9_stranger cd2 [aI x, aI w] σ := by
  obtain ⟨v, N, P, S, G, T, m, hJ⟩ := hJ
  have hH := hJ.2.1
  have hT := hJ.2.2.1
  have hM := hH.2.2.1
  have hN := hM.1.1.1.1
  have hP10 := hM.1.1.2.2.2.1.2
  have hS8 := hM.1.1.2.2.2.2.1.2
  have hzM : ∀ z : sMem, (∀ i, i < 74 → z i = σ i) → MJ z N P S G := fun z hz => hM.1.cg (fun a ha => hz a (by omega))
  have hzI : ∀ z : sMem, (∀ i, i < 74 → z i = σ i) → MI z N P S G := fun z hz => hM.cg (fun a ha => hz a (by omega))
  have hzS : ∀ z : sMem, (∀ i, i < 74 → z i = σ i) → SM σ (sUp z 0 0 0 0) G := fun z hz => (SM.low (fun a ha => hz a (by omega))).trans (SM.z0 0 0 ⟨by decide, by decide, by decide⟩)
  by_cases c0 : 0 ≤ x ∧ x ≤ nI S - 1
  rotate_left
  · have h8 : yMet l D b0 ty ad av lay 200 1 mX8_stranger [aR 34, aI x, aI w] σ (fun _ _ => False) (fun e σ' => e = yNSE ∧ σ' = σ) := by
      rcases hJ.1 with e | e
      · subst e
        exact c8_stranger_36_x0 193 σ σ N P S G hH x w c0
      · subst e
        exact c8_stranger_54_x0 193 σ σ N P S G hH x w c0
    exact JW_x hJ (E := yNSE) (k := 1) (by decide +kernel) (by decide) h8 (R9.s (c9_stranger 199 σ N P S G (hzM σ (fun _ _ => rfl)) x w) (fun r σ' h => h.2.1 c0))
  by_cases c1 : 0 ≤ w ∧ w ≤ 4
  rotate_left
  · have h8 : yMet l D b0 ty ad av lay 200 1 mX8_stranger [aR 34, aI x, aI w] σ (fun _ _ => False) (fun e σ' => e = yIAE ∧ σ' = σ) := by
      rcases hJ.1 with e | e
      · subst e
        exact c8_stranger_36_x1 193 σ σ N P S G hH x w c0 c1
      · subst e
        exact c8_stranger_54_x1 193 σ σ N P S G hH x w c0 c1
    exact JW_x hJ (E := yIAE) (k := 2) (by decide +kernel) (by decide) h8 (R9.s (c9_stranger 199 σ N P S G (hzM σ (fun _ _ => rfl)) x w) (fun r σ' h => h.2.2 c0 c1))
  obtain ⟨q, rfl, hq⟩ := in_nI (n := S) (by omega) c0
  obtain ⟨k, rfl, hk⟩ := in_le (m := 4) (by decide) rfl c1
  have h8 : yMet l D b0 ty ad av lay 200 0 mX8_stranger [aR 34, aI (nI q), aI (nI k)] σ (fun r σ' => r = [aI (σ 8 q k)] ∧ σ' = σ) (fun _ _ => False) := by
    rcases hJ.1 with e | e
    · subst e
      exact y_of_s (c8_stranger_36_ok 198 σ σ N P S G hH q k hq hk)
    · subst e
      exact y_of_s (c8_stranger_54_ok 198 σ σ N P S G hH q k hq hk)
  refine JW_ok hJ (A := σ 8 q k) h8 (fun r σ' h => ⟨h.1, fun i hi => by rw [h.2]⟩) (fun z hz => R9.s (c9_stranger 199 z N P S G (hzM z hz) (nI q) (nI k)) (fun r σ' h => ?_))
  obtain ⟨hr, hs⟩ := h.1 c0 c1
  refine ⟨?_, by rw [hs]; exact KP.rfl'⟩
  rw [hr, nI_clamp (by omega), nI_clamp (by omega), sUp_off (by decide), hz 8 (by decide)]
theorem jw_day (σ : sMem) (hJ : JR σ) (kd w : Int32) : JW l D b0 ty ad av mX8_day mX9_day (cd1 yIAE) [aI kd, aI w] σ := by
  obtain ⟨v, N, P, S, G, T, m, hJ⟩ := hJ
  have hH := hJ.2.1
  have hT := hJ.2.2.1
  have hM := hH.2.2.1
  have hN := hM.1.1.1.1
  have hP10 := hM.1.1.2.2.2.1.2
  have hS8 := hM.1.1.2.2.2.2.1.2
  have hzM : ∀ z : sMem, (∀ i, i < 74 → z i = σ i) → MJ z N P S G := fun z hz => hM.1.cg (fun a ha => hz a (by omega))
  have hzI : ∀ z : sMem, (∀ i, i < 74 → z i = σ i) → MI z N P S G := fun z hz => hM.cg (fun a ha => hz a (by omega))
  have hzS : ∀ z : sMem, (∀ i, i < 74 → z i = σ i) → SM σ (sUp z 0 0 0 0) G := fun z hz => (SM.low (fun a ha => hz a (by omega))).trans (SM.z0 0 0 ⟨by decide, by decide, by decide⟩)
  by_cases c0 : 0 ≤ kd ∧ kd ≤ 4
  rotate_left
  · have h8 : yMet l D b0 ty ad av lay 200 1 mX8_day [aR 34, aI kd, aI w] σ (fun _ _ => False) (fun e σ' => e = yIAE ∧ σ' = σ) := by
      rcases hJ.1 with e | e
      · subst e
        exact c8_day_36_x0 193 σ σ N P S G hH kd w c0
      · subst e
        exact c8_day_54_x0 193 σ σ N P S G hH kd w c0
    exact JW_x hJ (E := yIAE) (k := 1) (by decide +kernel) (by decide) h8 (R9.s (c9_day 195 σ N P S G (hzM σ (fun _ _ => rfl)) kd w) (fun r σ' h => h.2 (fun q => c0 q.1)))
  by_cases c1 : 0 ≤ w ∧ w ≤ 4
  rotate_left
  · have h8 : yMet l D b0 ty ad av lay 200 1 mX8_day [aR 34, aI kd, aI w] σ (fun _ _ => False) (fun e σ' => e = yIAE ∧ σ' = σ) := by
      rcases hJ.1 with e | e
      · subst e
        exact c8_day_36_x1 193 σ σ N P S G hH kd w c0 c1
      · subst e
        exact c8_day_54_x1 193 σ σ N P S G hH kd w c0 c1
    exact JW_x hJ (E := yIAE) (k := 1) (by decide +kernel) (by decide) h8 (R9.s (c9_day 195 σ N P S G (hzM σ (fun _ _ => rfl)) kd w) (fun r σ' h => h.2 (fun q => c1 q.2)))
  obtain ⟨a, rfl, ha⟩ := in_le (m := 4) (by decide) rfl c0
  obtain ⟨b, rfl, hb9⟩ := in_le (m := 4) (by decide) rfl c1
  have h8 : yMet l D b0 ty ad av lay 200 0 mX8_day [aR 34, aI (nI a), aI (nI b)] σ (fun r σ' => r = [aI (dyA (cP σ G) (daA (cP σ G) aT P G S a) P S (nI b))] ∧ FR σ σ') (fun _ _ => False) := by
    rcases hJ.1 with e | e
    · subst e
      exact c8_day_36_ok 193 σ σ N P S G hH hT a b ha hb9
    · subst e
      exact c8_day_54_ok 193 σ σ N P S G hH hT a b ha hb9
  refine JW_ok hJ (A := dyA (cP σ G) (daA (cP σ G) aT P G S a) P S (nI b)) h8 (fun r σ' h => ⟨h.1, fun i hi => h.2 i (Or.inl (by omega))⟩) (fun z hz => R9.s (c9_day 195 z N P S G (hzM z hz) (nI a) (nI b)) (fun r σ' h => ?_))
  obtain ⟨hr, hs⟩ := h.1 ⟨c0, c1⟩
  obtain ⟨hO, hV, hL, hR⟩ := dayF hT hM (hzS z hz) ha
  exact ⟨by rw [hr, dy_RA hO.1 hV hL hR], by rw [hs]; exact goM_KP _ _ _ _ _⟩
theorem jw_there (σ : sMem) (hJ : JR σ) (kd x : Int32) : JW l D b0 ty ad av mX8_there mX9_there cd2 [aI kd, aI x] σ := by
  obtain ⟨v, N, P, S, G, T, m, hJ⟩ := hJ
  have hH := hJ.2.1
  have hT := hJ.2.2.1
  have hM := hH.2.2.1
  have hN := hM.1.1.1.1
  have hP10 := hM.1.1.2.2.2.1.2
  have hS8 := hM.1.1.2.2.2.2.1.2
  have hzM : ∀ z : sMem, (∀ i, i < 74 → z i = σ i) → MJ z N P S G := fun z hz => hM.1.cg (fun a ha => hz a (by omega))
  have hzI : ∀ z : sMem, (∀ i, i < 74 → z i = σ i) → MI z N P S G := fun z hz => hM.cg (fun a ha => hz a (by omega))
  have hzS : ∀ z : sMem, (∀ i, i < 74 → z i = σ i) → SM σ (sUp z 0 0 0 0) G := fun z hz => (SM.low (fun a ha => hz a (by omega))).trans (SM.z0 0 0 ⟨by decide, by decide, by decide⟩)
  by_cases c0 : 0 ≤ x ∧ x ≤ nI S - 1
  rotate_left
  · have h8 : yMet l D b0 ty ad av lay 200 1 mX8_there [aR 34, aI kd, aI x] σ (fun _ _ => False) (fun e σ' => e = yNSE ∧ σ' = σ) := by
      rcases hJ.1 with e | e
      · subst e
        exact c8_there_36_x0 193 σ σ N P S G hH kd x c0
      · subst e
        exact c8_there_54_x0 193 σ σ N P S G hH kd x c0
    exact JW_x hJ (E := yNSE) (k := 1) (by decide +kernel) (by decide) h8 (R9.s (c9_there 195 σ N P S G (hzM σ (fun _ _ => rfl)) kd x) (fun r σ' h => h.2.1 c0))
  by_cases c1 : 0 ≤ kd ∧ kd ≤ 4
  rotate_left
  · have h8 : yMet l D b0 ty ad av lay 200 1 mX8_there [aR 34, aI kd, aI x] σ (fun _ _ => False) (fun e σ' => e = yIAE ∧ σ' = σ) := by
      rcases hJ.1 with e | e
      · subst e
        exact c8_there_36_x1 193 σ σ N P S G hH kd x c0 c1
      · subst e
        exact c8_there_54_x1 193 σ σ N P S G hH kd x c0 c1
    exact JW_x hJ (E := yIAE) (k := 2) (by decide +kernel) (by decide) h8 (R9.s (c9_there 195 σ N P S G (hzM σ (fun _ _ => rfl)) kd x) (fun r σ' h => h.2.2 c0 c1))
  obtain ⟨q, rfl, hq⟩ := in_nI (n := S) (by omega) c0
  obtain ⟨a, rfl, ha⟩ := in_le (m := 4) (by decide) rfl c1
  have h8 : yMet l D b0 ty ad av lay 200 0 mX8_there [aR 34, aI (nI a), aI (nI q)] σ (fun r σ' => r = [aI (oI ((daA (cP σ G) aT P G S a).2.1 q).2.2.1)] ∧ FR σ σ') (fun _ _ => False) := by
    rcases hJ.1 with e | e
    · subst e
      exact c8_there_36_ok 193 σ σ N P S G hH hT a q ha hq
    · subst e
      exact c8_there_54_ok 193 σ σ N P S G hH hT a q ha hq
  refine JW_ok hJ (A := oI ((daA (cP σ G) aT P G S a).2.1 q).2.2.1) h8 (fun r σ' h => ⟨h.1, fun i hi => h.2 i (Or.inl (by omega))⟩) (fun z hz => R9.s (c9_there 195 z N P S G (hzM z hz) (nI a) (nI q)) (fun r σ' h => ?_))
  obtain ⟨hr, hs⟩ := h.1 c0 c1
  obtain ⟨hO, hV, hL, hR⟩ := dayF hT hM (hzS z hz) ha
  refine ⟨?_, by rw [hs]; exact goM_KP _ _ _ _ _⟩
  rw [hr, nI_clamp (by omega), (hR.2.2.1 q hq).2.2.1]
theorem jw_lost (σ : sMem) (hJ : JR σ) (kd x : Int32) : JW l D b0 ty ad av mX8_lost mX9_lost cd2 [aI kd, aI x] σ := by
  obtain ⟨v, N, P, S, G, T, m, hJ⟩ := hJ
  have hH := hJ.2.1
  have hT := hJ.2.2.1
  have hM := hH.2.2.1
  have hN := hM.1.1.1.1
  have hP10 := hM.1.1.2.2.2.1.2
  have hS8 := hM.1.1.2.2.2.2.1.2
  have hzM : ∀ z : sMem, (∀ i, i < 74 → z i = σ i) → MJ z N P S G := fun z hz => hM.1.cg (fun a ha => hz a (by omega))
  have hzI : ∀ z : sMem, (∀ i, i < 74 → z i = σ i) → MI z N P S G := fun z hz => hM.cg (fun a ha => hz a (by omega))
  have hzS : ∀ z : sMem, (∀ i, i < 74 → z i = σ i) → SM σ (sUp z 0 0 0 0) G := fun z hz => (SM.low (fun a ha => hz a (by omega))).trans (SM.z0 0 0 ⟨by decide, by decide, by decide⟩)
  by_cases c0 : 0 ≤ x ∧ x ≤ nI P - 1
  rotate_left
  · have h8 : yMet l D b0 ty ad av lay 200 1 mX8_lost [aR 34, aI kd, aI x] σ (fun _ _ => False) (fun e σ' => e = yNSE ∧ σ' = σ) := by
      rcases hJ.1 with e | e
      · subst e
        exact c8_lost_36_x0 193 σ σ N P S G hH kd x c0
      · subst e
        exact c8_lost_54_x0 193 σ σ N P S G hH kd x c0
    exact JW_x hJ (E := yNSE) (k := 1) (by decide +kernel) (by decide) h8 (R9.s (c9_lost 195 σ N P S G (hzM σ (fun _ _ => rfl)) kd x) (fun r σ' h => h.2.1 c0))
  by_cases c1 : 0 ≤ kd ∧ kd ≤ 4
  rotate_left
  · have h8 : yMet l D b0 ty ad av lay 200 1 mX8_lost [aR 34, aI kd, aI x] σ (fun _ _ => False) (fun e σ' => e = yIAE ∧ σ' = σ) := by
      rcases hJ.1 with e | e
      · subst e
        exact c8_lost_36_x1 193 σ σ N P S G hH kd x c0 c1
      · subst e
        exact c8_lost_54_x1 193 σ σ N P S G hH kd x c0 c1
    exact JW_x hJ (E := yIAE) (k := 2) (by decide +kernel) (by decide) h8 (R9.s (c9_lost 195 σ N P S G (hzM σ (fun _ _ => rfl)) kd x) (fun r σ' h => h.2.2 c0 c1))
  obtain ⟨p, rfl, hp⟩ := in_nI (n := P) (by omega) c0
  obtain ⟨a, rfl, ha⟩ := in_le (m := 4) (by decide) rfl c1
  have h8 : yMet l D b0 ty ad av lay 200 0 mX8_lost [aR 34, aI (nI a), aI (nI p)] σ (fun r σ' => r = [aI (nI (losP (cP σ G) (daA (cP σ G) aT P G S a) p))] ∧ FR σ σ') (fun _ _ => False) := by
    rcases hJ.1 with e | e
    · subst e
      exact c8_lost_36_ok 193 σ σ N P S G hH hT a p ha hp
    · subst e
      exact c8_lost_54_ok 193 σ σ N P S G hH hT a p ha hp
  refine JW_ok hJ (A := nI (losP (cP σ G) (daA (cP σ G) aT P G S a) p)) h8 (fun r σ' h => ⟨h.1, fun i hi => h.2 i (Or.inl (by omega))⟩) (fun z hz => R9.s (c9_lost 195 z N P S G (hzM z hz) (nI a) (nI p)) (fun r σ' h => ?_))
  obtain ⟨hr, hs⟩ := h.1 c0 c1
  obtain ⟨hO, hV, hL, hR⟩ := dayF hT hM (hzS z hz) ha
  refine ⟨?_, by rw [hs]; exact goM_KP _ _ _ _ _⟩
  rw [hr, nI_clamp (by omega)]
  unfold loR
  rw [los_RA hO.1 hV hL hR hp]
theorem jw_fees (σ : sMem) (hJ : JR σ) (kd : Int32) : JW l D b0 ty ad av mX8_fees mX9_fees (cd1 yIAE) [aI kd] σ := by
  obtain ⟨v, N, P, S, G, T, m, hJ⟩ := hJ
  have hH := hJ.2.1
  have hT := hJ.2.2.1
  have hM := hH.2.2.1
  have hN := hM.1.1.1.1
  have hP10 := hM.1.1.2.2.2.1.2
  have hS8 := hM.1.1.2.2.2.2.1.2
  have hzM : ∀ z : sMem, (∀ i, i < 74 → z i = σ i) → MJ z N P S G := fun z hz => hM.1.cg (fun a ha => hz a (by omega))
  have hzI : ∀ z : sMem, (∀ i, i < 74 → z i = σ i) → MI z N P S G := fun z hz => hM.cg (fun a ha => hz a (by omega))
  have hzS : ∀ z : sMem, (∀ i, i < 74 → z i = σ i) → SM σ (sUp z 0 0 0 0) G := fun z hz => (SM.low (fun a ha => hz a (by omega))).trans (SM.z0 0 0 ⟨by decide, by decide, by decide⟩)
  by_cases c0 : 0 ≤ kd ∧ kd ≤ 4
  rotate_left
  · have h8 : yMet l D b0 ty ad av lay 200 1 mX8_fees [aR 34, aI kd] σ (fun _ _ => False) (fun e σ' => e = yIAE ∧ σ' = σ) := by
      rcases hJ.1 with e | e
      · subst e
        exact c8_fees_36_x0 193 σ σ N P S G hH kd c0
      · subst e
        exact c8_fees_54_x0 193 σ σ N P S G hH kd c0
    exact JW_x hJ (E := yIAE) (k := 1) (by decide +kernel) (by decide) h8 (R9.s (c9_fees 195 σ N P S G (hzM σ (fun _ _ => rfl)) kd) (fun r σ' h => h.2 c0))
  obtain ⟨a, rfl, ha⟩ := in_le (m := 4) (by decide) rfl c0
  have h8 : yMet l D b0 ty ad av lay 200 0 mX8_fees [aR 34, aI (nI a)] σ (fun r σ' => r = [aI (nI (daA (cP σ G) aT P G S a).2.2.2.1)] ∧ FR σ σ') (fun _ _ => False) := by
    rcases hJ.1 with e | e
    · subst e
      exact c8_fees_36_ok 193 σ σ N P S G hH hT a ha
    · subst e
      exact c8_fees_54_ok 193 σ σ N P S G hH hT a ha
  refine JW_ok hJ (A := nI (daA (cP σ G) aT P G S a).2.2.2.1) h8 (fun r σ' h => ⟨h.1, fun i hi => h.2 i (Or.inl (by omega))⟩) (fun z hz => R9.s (c9_fees 195 z N P S G (hzM z hz) (nI a)) (fun r σ' h => ?_))
  obtain ⟨hr, hs⟩ := h.1 c0
  obtain ⟨hO, hV, hL, hR⟩ := dayF hT hM (hzS z hz) ha
  exact ⟨by rw [hr, hR.2.2.2.2.1], by rw [hs]; exact goM_KP _ _ _ _ _⟩
theorem jw_judge (σ : sMem) (hJ : JR σ) (w : Int32) : JW l D b0 ty ad av mX8_judge mX9_judge (cd1 yIAE) [aI w] σ := by
  obtain ⟨v, N, P, S, G, T, m, hJ⟩ := hJ
  have hH := hJ.2.1
  have hT := hJ.2.2.1
  have hM := hH.2.2.1
  have hN := hM.1.1.1.1
  have hP10 := hM.1.1.2.2.2.1.2
  have hS8 := hM.1.1.2.2.2.2.1.2
  have hzM : ∀ z : sMem, (∀ i, i < 74 → z i = σ i) → MJ z N P S G := fun z hz => hM.1.cg (fun a ha => hz a (by omega))
  have hzI : ∀ z : sMem, (∀ i, i < 74 → z i = σ i) → MI z N P S G := fun z hz => hM.cg (fun a ha => hz a (by omega))
  have hzS : ∀ z : sMem, (∀ i, i < 74 → z i = σ i) → SM σ (sUp z 0 0 0 0) G := fun z hz => (SM.low (fun a ha => hz a (by omega))).trans (SM.z0 0 0 ⟨by decide, by decide, by decide⟩)
  by_cases c0 : 0 ≤ w ∧ w ≤ 1
  rotate_left
  · have h8 : yMet l D b0 ty ad av lay 200 1 mX8_judge [aR 34, aI w] σ (fun _ _ => False) (fun e σ' => e = yIAE ∧ σ' = σ) := by
      rcases hJ.1 with e | e
      · subst e
        exact c8_judge_36_x0 193 σ σ N P S G hH w c0
      · subst e
        exact c8_judge_54_x0 193 σ σ N P S G hH w c0
    exact JW_x hJ (E := yIAE) (k := 1) (by decide +kernel) (by decide) h8 (R9.s (c9_judge 195 σ N P S G (hzM σ (fun _ _ => rfl)) w) (fun r σ' h => h.2 c0))
  obtain ⟨k, rfl, hk⟩ := in_le (m := 1) (by decide) rfl c0
  have h8 : yMet l D b0 ty ad av lay 200 0 mX8_judge [aR 34, aI (nI k)] σ (fun r σ' => r = [aI (juA (cP σ G) (daA (cP σ G) aT P G S 4) (nI k) S 0)] ∧ FR σ σ') (fun _ _ => False) := by
    rcases hJ.1 with e | e
    · subst e
      exact c8_judge_36_ok 193 σ σ N P S G hH hT k hk
    · subst e
      exact c8_judge_54_ok 193 σ σ N P S G hH hT k hk
  refine JW_ok hJ (A := juA (cP σ G) (daA (cP σ G) aT P G S 4) (nI k) S 0) h8 (fun r σ' h => ⟨h.1, fun i hi => h.2 i (Or.inl (by omega))⟩) (fun z hz => R9.s (c9_judge 195 z N P S G (hzM z hz) (nI k)) (fun r σ' h => ?_))
  obtain ⟨hr, hs⟩ := h.1 c0
  obtain ⟨hO, hV, hL, hR⟩ := dayF hT hM (hzS z hz) (kd := 4) (by decide)
  exact ⟨by rw [hr]; exact congrArg (fun x => [aI x]) (ju_RA hO.1 hO.2 hV hR (nI k) S 0 (by omega)), by rw [hs]; exact goM_KP _ _ _ _ _⟩
end
