/-! THE JOINS of the calls, on and on -/
theorem many_eq {σ : sMem} {N P S G f k : Nat} (hT : HT σ) (hM : MI σ N P S G) (hf : f ≤ 9) (hk : k ≤ 1) : mnC (nI k) (cFi σ P S G) (onL (fun p => cG1 σ P S G p f) N 0 2000000000) (twL (fun a b => cG2 σ P S G a b f) N N 0 2000000000) = if nI k = 0 then (mnA (fun a b => cG2 σ P S G a b f) N N 0 (if (fun p => cG1 σ P S G p f) (whL (fun p => cG1 σ P S G p f) (N - 1) 1 0) < cFi σ P S G then (1, (fun p => cG1 σ P S G p f) (whL (fun p => cG1 σ P S G p f) (N - 1) 1 0)) else (0, cFi σ P S G))).1 else (mnA (fun a b => cG2 σ P S G a b f) N N 0 (if (fun p => cG1 σ P S G p f) (whL (fun p => cG1 σ P S G p f) (N - 1) 1 0) < cFi σ P S G then (1, (fun p => cG1 σ P S G p f) (whL (fun p => cG1 σ P S G p f) (N - 1) 1 0)) else (0, cFi σ P S G))).2 := by
  have hN2 : 2 ≤ N := hM.1.1.2.1
  have hO := (uP_0 hT hM).OK hM
  have hgp : ∀ p, p < N → (cG1 σ P S G p f).toInt ≤ 2000000000 := fun p hp => by
    obtain ⟨hU, -, -⟩ := uG_1 hT hM hp hf
    obtain ⟨w, hw, hw9⟩ := hM.2.2.1
    exact coD_le (UI.MC hM hU) (UI.SC hM hU hw hw9)
  have hf0 : (cFi σ P S G).toInt ≤ 2000000000 := coD_le hO.1 hO.2
  have hgq : ∀ p, p < N → ((fun p => cG1 σ P S G p f) p).toInt ≤ 2000000000 := hgp
  clear hgp
  generalize (fun p => cG1 σ P S G p f) = F at hgq ⊢
  rw [onL_all F (by omega) (hgq 0 (by omega))]
  have ho : (F (whL F (N - 1) 1 0)).toInt ≤ 2000000000 := hgq _ (whL_lt (N - 1) 1 0 N (by omega) (by omega))
  generalize F (whL F (N - 1) 1 0) = o9 at ho ⊢
  generalize cFi σ P S G = n9 at hf0 ⊢
  have hm : (if o9 < n9 then o9 else n9).toInt ≤ 2000000000 := by split <;> assumption
  have hq : (if o9 < n9 then ((1 : Int32), o9) else (0, n9)) = mnQ (if o9 < n9 then 1 else 0) (if o9 < n9 then o9 else n9) 2000000000 := by
    rw [mnQ_max _ hm]
    split <;> rfl
  rw [hq, mnA_eq]
  obtain ⟨m1, m0⟩ := mnC_eq n9 o9 (twL (fun a b => cG2 σ P S G a b f) N N 0 2000000000)
  rcases (show k = 0 ∨ k = 1 by omega) with rfl | rfl
  · rw [if_pos (show nI 0 = 0 from rfl)]; exact m0
  · rw [if_neg (show ¬ nI 1 = 0 by decide)]; exact m1
theorem avO_cg {z σ : sMem} (h : ∀ i, i < 74 → z i = σ i) {N S p : Nat} : avO z N S p = avO σ N S p := by
  have h1 : stN z = stN σ := by funext a b; unfold stN; rw [h 13 (by decide)]
  have h2 : ∀ s, blN z s = blN σ s := fun s => by
    induction s with
    | zero => rfl
    | succ s ih => show blN z s ||| 2 ^ sX z s = blN σ s ||| 2 ^ sX σ s; rw [ih]; unfold sX; rw [h 8 (by decide)]
  have h3 : avB z S = avB σ S := by funext x; unfold avB; rw [h2]
  unfold avO pP pQ
  rw [h1, h3, h 6 (by decide)]
section
variable {l : Launch} {D : va_G} {b0 : Nat} {ty : Nat → ClassId} {ad av : Nat → Nat}
theorem jw_leads (σ : sMem) (hJ : JR σ) (kd x i : Int32) : JW l D b0 ty ad av mX8_leads mX9_leads cd2 [aI kd, aI x, aI i] σ := by
  obtain ⟨v, N, P, S, G, T, m, hJ⟩ := hJ
  have hH := hJ.2.1
  have hT := hJ.2.2.1
  have hM := hH.2.2.1
  have hN := hM.1.1.1.1
  have hP10 := hM.1.1.2.2.2.1.2
  have hS8 := hM.1.1.2.2.2.2.1.2
  have hzM : ∀ z : sMem, (∀ i, i < 74 → z i = σ i) → MJ z N P S G := fun z hz => hM.1.cg (fun a ha => hz a (by omega))
  have hzI : ∀ z : sMem, (∀ i, i < 74 → z i = σ i) → MI z N P S G := fun z hz => hM.cg (fun a ha => hz a (by omega))
  have hzS : ∀ z : sMem, (∀ i, i < 74 → z i = σ i) → SM σ (sUp z 0 0 0 0) G := fun z hz => (SM.low (fun a ha => hz a (by omega))).trans (SM.z0 0 0 ⟨by decide, by decide, by decide⟩)
  by_cases c0 : 0 ≤ x ∧ x ≤ nI S - 1
  rotate_left
  · have h8 : yMet l D b0 ty ad av lay 200 1 mX8_leads [aR 34, aI kd, aI x, aI i] σ (fun _ _ => False) (fun e σ' => e = yNSE ∧ σ' = σ) := by
      rcases hJ.1 with e | e
      · subst e
        exact c8_leads_36_x0 193 σ σ N P S G hH kd x i c0
      · subst e
        exact c8_leads_54_x0 193 σ σ N P S G hH kd x i c0
    exact JW_x hJ (E := yNSE) (k := 1) (by decide +kernel) (by decide) h8 (R9.s (c9_leads_r 195 σ N P S G hM.1 kd x i (fun q => c0 q.1)) (fun r σ' h => h.2.1 c0))
  by_cases c1 : 0 ≤ kd ∧ kd ≤ 4
  rotate_left
  · have h8 : yMet l D b0 ty ad av lay 200 1 mX8_leads [aR 34, aI kd, aI x, aI i] σ (fun _ _ => False) (fun e σ' => e = yIAE ∧ σ' = σ) := by
      rcases hJ.1 with e | e
      · subst e
        exact c8_leads_36_x1 193 σ σ N P S G hH kd x i c0 c1
      · subst e
        exact c8_leads_54_x1 193 σ σ N P S G hH kd x i c0 c1
    exact JW_x hJ (E := yIAE) (k := 2) (by decide +kernel) (by decide) h8 (R9.s (c9_leads_r 195 σ N P S G hM.1 kd x i (fun q => c1 q.2)) (fun r σ' h => h.2.2 c0 c1))
  obtain ⟨q, rfl, hq⟩ := in_nI (n := S) (by omega) c0
  obtain ⟨a, rfl, ha⟩ := in_le (m := 4) (by decide) rfl c1
  have h8 : yMet l D b0 ty ad av lay 200 0 mX8_leads [aR 34, aI (nI a), aI (nI q), aI (i)] σ (fun r σ' => r = [aI (leA ((daA (cP σ G) aT P G S a).2.1 q).2.2.2 i)] ∧ FR σ σ') (fun _ _ => False) := by
    rcases hJ.1 with e | e
    · subst e
      exact c8_leads_36_ok 193 σ σ N P S G hH hT a q i ha hq
    · subst e
      exact c8_leads_54_ok 193 σ σ N P S G hH hT a q i ha hq
  refine JW_ok hJ (A := leA ((daA (cP σ G) aT P G S a).2.1 q).2.2.2 i) h8 (fun r σ' h => ⟨h.1, fun i hi => h.2 i (Or.inl (by omega))⟩) (fun z hz => R9.s (c9_leads 195 z N P S G (hzM z hz) (nI a) (nI q) i (legs40 hT hM (hzS z hz) ha)) (fun r σ' h => ?_))
  obtain ⟨hr, hs⟩ := h.1 c0 c1
  obtain ⟨hO, hV, hL, hR⟩ := dayF hT hM (hzS z hz) ha
  refine ⟨?_, by rw [hs]; exact goM_KP _ _ _ _ _⟩
  rw [hr, nI_clamp (by omega), le_RA hV hR hq i]
theorem jw_many (σ : sMem) (hJ : JR σ) (x w : Int32) : JW l D b0 ty ad av mX8_many mX9_many (cd1 yIAE) [aI x, aI w] σ := by
  obtain ⟨v, N, P, S, G, T, m, hJ⟩ := hJ
  have hH := hJ.2.1
  have hT := hJ.2.2.1
  have hM := hH.2.2.1
  have hN := hM.1.1.1.1
  have hP10 := hM.1.1.2.2.2.1.2
  have hS8 := hM.1.1.2.2.2.2.1.2
  have hzM : ∀ z : sMem, (∀ i, i < 74 → z i = σ i) → MJ z N P S G := fun z hz => hM.1.cg (fun a ha => hz a (by omega))
  have hzI : ∀ z : sMem, (∀ i, i < 74 → z i = σ i) → MI z N P S G := fun z hz => hM.cg (fun a ha => hz a (by omega))
  have hzS : ∀ z : sMem, (∀ i, i < 74 → z i = σ i) → SM σ (sUp z 0 0 0 0) G := fun z hz => (SM.low (fun a ha => hz a (by omega))).trans (SM.z0 0 0 ⟨by decide, by decide, by decide⟩)
  by_cases c0 : 0 ≤ x ∧ x ≤ 9
  rotate_left
  · have h8 : yMet l D b0 ty ad av lay 200 1 mX8_many [aR 34, aI x, aI w] σ (fun _ _ => False) (fun e σ' => e = yIAE ∧ σ' = σ) := by
      rcases hJ.1 with e | e
      · subst e
        exact c8_many_36_x0 193 σ σ N P S G hH x w c0
      · subst e
        exact c8_many_54_x0 193 σ σ N P S G hH x w c0
    exact JW_x hJ (E := yIAE) (k := 1) (by decide +kernel) (by decide) h8 (R9.s (c9_many_x 193 σ N P S G hM.1 x w (fun q => c0 q.1)) (fun r σ' h => h))
  by_cases c1 : 0 ≤ w ∧ w ≤ 1
  rotate_left
  · have h8 : yMet l D b0 ty ad av lay 200 1 mX8_many [aR 34, aI x, aI w] σ (fun _ _ => False) (fun e σ' => e = yIAE ∧ σ' = σ) := by
      rcases hJ.1 with e | e
      · subst e
        exact c8_many_36_x1 193 σ σ N P S G hH x w c0 c1
      · subst e
        exact c8_many_54_x1 193 σ σ N P S G hH x w c0 c1
    exact JW_x hJ (E := yIAE) (k := 1) (by decide +kernel) (by decide) h8 (R9.s (c9_many_x 193 σ N P S G hM.1 x w (fun q => c1 q.2)) (fun r σ' h => h))
  obtain ⟨f, rfl, hf⟩ := in_le (m := 9) (by decide) rfl c0
  obtain ⟨k, rfl, hk⟩ := in_le (m := 1) (by decide) rfl c1
  have h8 : yMet l D b0 ty ad av lay 200 0 mX8_many [aR 34, aI (nI f), aI (nI k)] σ (fun r σ' => r = [aI (mnC (nI k) (cFi σ P S G) (onL (fun p => cG1 σ P S G p f) N 0 2000000000) (twL (fun a b => cG2 σ P S G a b f) N N 0 2000000000))] ∧ FR σ σ') (fun _ _ => False) := by
    rcases hJ.1 with e | e
    · subst e
      exact c8_many_36_ok 193 σ σ N P S G hH hT f k hf hk
    · subst e
      exact c8_many_54_ok 193 σ σ N P S G hH hT f k hf hk
  refine JW_ok hJ (A := mnC (nI k) (cFi σ P S G) (onL (fun p => cG1 σ P S G p f) N 0 2000000000) (twL (fun a b => cG2 σ P S G a b f) N N 0 2000000000)) h8 (fun r σ' h => ⟨h.1, fun i hi => h.2 i (Or.inl (by omega))⟩) (fun z hz => R9.s (c9_many 193 z N P S G (hzM z hz) (nI f) (nI k) (cFi σ P S G) (fun p => cG1 σ P S G p f) (fun a b => cG2 σ P S G a b f) (fun τ hk => fc_eq hT hM ((hzS z hz).trans hk.SM)) (fun τ p hk hp => g1_eq hT hM ((hzS z hz).trans hk.SM) hp hf) (fun τ a b hk ha hb => g2_eq hT hM ((hzS z hz).trans hk.SM) ha hb hf)) (fun r σ' h => ?_))
  obtain ⟨hr, hs⟩ := h.1 ⟨c0, c1⟩
  refine ⟨?_, hs⟩
  rw [hr]
  exact congrArg (fun x => [aI x]) (many_eq hT hM hf hk).symm
theorem jw_avoid (σ : sMem) (hJ : JR σ) (x : Int32) : JW l D b0 ty ad av mX8_avoid mX9_avoid (cd1 yNSE) [aI x] σ := by
  obtain ⟨v, N, P, S, G, T, m, hJ⟩ := hJ
  have hH := hJ.2.1
  have hT := hJ.2.2.1
  have hM := hH.2.2.1
  have hN := hM.1.1.1.1
  have hP10 := hM.1.1.2.2.2.1.2
  have hS8 := hM.1.1.2.2.2.2.1.2
  have hzM : ∀ z : sMem, (∀ i, i < 74 → z i = σ i) → MJ z N P S G := fun z hz => hM.1.cg (fun a ha => hz a (by omega))
  have hzI : ∀ z : sMem, (∀ i, i < 74 → z i = σ i) → MI z N P S G := fun z hz => hM.cg (fun a ha => hz a (by omega))
  have hzS : ∀ z : sMem, (∀ i, i < 74 → z i = σ i) → SM σ (sUp z 0 0 0 0) G := fun z hz => (SM.low (fun a ha => hz a (by omega))).trans (SM.z0 0 0 ⟨by decide, by decide, by decide⟩)
  by_cases c0 : 0 ≤ x ∧ x ≤ nI P - 1
  rotate_left
  · have h8 : yMet l D b0 ty ad av lay 200 1 mX8_avoid [aR 34, aI x] σ (fun _ _ => False) (fun e σ' => e = yNSE ∧ σ' = σ) := by
      rcases hJ.1 with e | e
      · subst e
        exact c8_avoid_36_x0 193 σ σ N P S G hH x c0
      · subst e
        exact c8_avoid_54_x0 193 σ σ N P S G hH x c0
    exact JW_x hJ (E := yNSE) (k := 1) (by decide +kernel) (by decide) h8 ⟨1, Nat.le_refl _, yMet_mono (c9_avoid 199 σ N P S G hM x) (fun r σ' h => h.2 c0) (fun _ _ h => h)⟩
  obtain ⟨p, rfl, hp⟩ := in_nI (n := P) (by omega) c0
  have h8 : yMet l D b0 ty ad av lay 200 0 mX8_avoid [aR 34, aI (nI p)] σ (fun r σ' => r = [aI (avO σ N S p)] ∧ ∀ i, i ≠ 99 → σ' i = σ i) (fun _ _ => False) := by
    rcases hJ.1 with e | e
    · subst e
      exact c8_avoid_36_ok 193 σ σ N P S G hH p hp
    · subst e
      exact c8_avoid_54_ok 193 σ σ N P S G hH p hp
  refine JW_ok hJ (A := avO σ N S p) h8 (fun r σ' h => ⟨h.1, fun i hi => h.2 i (by omega)⟩) (fun z hz => ⟨1, Nat.le_refl _, yMet_mono (c9_avoid 199 z N P S G (hzI z hz) (nI p)) (fun r σ' h => ?_) (fun _ _ h => h)⟩)
  obtain ⟨hr, hs⟩ := h.1 c0
  refine ⟨?_, by rw [hs]; exact KP.rfl'⟩
  rw [hr, nI_clamp (by omega), avO_cg hz]
theorem jw_learn (σ : sMem) (hJ : JR σ) (x : Int32) : JW l D b0 ty ad av mX8_learn mX9_learn (cd1 yIAE) [aI x] σ := by
  obtain ⟨v, N, P, S, G, T, m, hJ⟩ := hJ
  have hH := hJ.2.1
  have hT := hJ.2.2.1
  have hM := hH.2.2.1
  have hN := hM.1.1.1.1
  have hP10 := hM.1.1.2.2.2.1.2
  have hS8 := hM.1.1.2.2.2.2.1.2
  have hzM : ∀ z : sMem, (∀ i, i < 74 → z i = σ i) → MJ z N P S G := fun z hz => hM.1.cg (fun a ha => hz a (by omega))
  have hzI : ∀ z : sMem, (∀ i, i < 74 → z i = σ i) → MI z N P S G := fun z hz => hM.cg (fun a ha => hz a (by omega))
  have hzS : ∀ z : sMem, (∀ i, i < 74 → z i = σ i) → SM σ (sUp z 0 0 0 0) G := fun z hz => (SM.low (fun a ha => hz a (by omega))).trans (SM.z0 0 0 ⟨by decide, by decide, by decide⟩)
  by_cases c0 : 0 ≤ x ∧ x ≤ 99
  rotate_left
  · have h8 : yMet l D b0 ty ad av lay 200 1 mX8_learn [aR 34, aI x] σ (fun _ _ => False) (fun e σ' => e = yIAE ∧ σ' = σ) := by
      rcases hJ.1 with e | e
      · subst e
        exact c8_learn_36_x0 193 σ σ N P S G hH x c0
      · subst e
        exact c8_learn_54_x0 193 σ σ N P S G hH x c0
    exact JW_x hJ (E := yIAE) (k := 1) (by decide +kernel) (by decide) h8 (R9.s (c9_learn 197 σ N P S G (hzM σ (fun _ _ => rfl)) x hM) (fun r σ' h => h.2 c0))
  obtain ⟨k, rfl, hk⟩ := in_le (m := 99) (by decide) rfl c0
  have h8 : yMet l D b0 ty ad av lay 200 0 mX8_learn [aR 34, aI (nI k)] σ (fun r σ' => r = [aI (nI (smK (lnI N P (kwN σ) k) P))] ∧ ∀ i, i < 96 ∨ 98 < i → σ' i = σ i) (fun _ _ => False) := by
    rcases hJ.1 with e | e
    · subst e
      exact c8_learn_36_ok 193 σ σ N P S G hH k hk
    · subst e
      exact c8_learn_54_ok 193 σ σ N P S G hH k hk
  refine JW_ok hJ (A := nI (smK (lnI N P (kwN σ) k) P)) h8 (fun r σ' h => ⟨h.1, fun i hi => h.2 i (Or.inl (by omega))⟩) (fun z hz => R9.s (c9_learn 197 z N P S G (hzM z hz) (nI k) (hzI z hz)) (fun r σ' h => ?_))
  obtain ⟨hr, hs⟩ := h.1 c0
  have ek : kwN z = kwN σ := by funext p; unfold kwN; rw [hz 6 (by decide)]
  exact ⟨by rw [hr, nI_clamp (by omega), ek], hs⟩
theorem jd_soon (σ : sMem) (hJ : JR σ) : JD l D b0 ty ad av mX8_soon mX9_soon [] σ := by
  obtain ⟨v, N, P, S, G, T, m, hJ⟩ := hJ
  have hH := hJ.2.1
  have hT := hJ.2.2.1
  have hM := hH.2.2.1
  have hN := hM.1.1.1.1
  have hP10 := hM.1.1.2.2.2.1.2
  have hS8 := hM.1.1.2.2.2.2.1.2
  have hzM : ∀ z : sMem, (∀ i, i < 74 → z i = σ i) → MJ z N P S G := fun z hz => hM.1.cg (fun a ha => hz a (by omega))
  have hzI : ∀ z : sMem, (∀ i, i < 74 → z i = σ i) → MI z N P S G := fun z hz => hM.cg (fun a ha => hz a (by omega))
  have hzS : ∀ z : sMem, (∀ i, i < 74 → z i = σ i) → SM σ (sUp z 0 0 0 0) G := fun z hz => (SM.low (fun a ha => hz a (by omega))).trans (SM.z0 0 0 ⟨by decide, by decide, by decide⟩)
  have h8 : yMet l D b0 ty ad av lay 201 0 mX8_soon [aR 34] σ (fun r σ' => r = [aI (soF N P 120 0 (kwN σ))] ∧ ∀ i, i < 96 ∨ 98 < i → σ' i = σ i) (fun _ _ => False) := by
    rcases hJ.1 with e | e
    · subst e
      exact c8_soon_36 194 σ σ N P S G hH 
    · subst e
      exact c8_soon_54 194 σ σ N P S G hH 
  refine JD_ok hJ (A := soF N P 120 0 (kwN σ)) h8 (fun r σ' h => ⟨h.1, fun i hi => h.2 i (Or.inl (by omega))⟩) (fun z hz => R9.s (c9_soon 197 z N P S G (hzM z hz) (hzI z hz)) (fun r σ' h => ?_))
  have ek : kwN z = kwN σ := by funext p; unfold kwN; rw [hz 6 (by decide)]
  exact ⟨by rw [h.1, ek], h.2⟩
theorem csM_z0 (τ : sMem) {k : Nat} (hk : k ≠ 44) (v : Int32) : ∀ P, csM (sUp τ 0 0 k v) P = csM τ P
  | 0 => by
    simp only [csM]
    rw [sUp_k (Ne.symm hk)]
  | P + 1 => by
    simp only [csM, csM_z0 τ hk v P]
    simp only [sUp_off (show (6 : Nat) ≠ 0 by decide), sUp_off (show (22 : Nat) ≠ 0 by decide), sUp_off (show (23 : Nat) ≠ 0 by decide)]
theorem lfN_z0 (τ : sMem) (k : Nat) (v : Int32) : ∀ S, lfN (sUp τ 0 0 k v) S = lfN τ S
  | 0 => rfl
  | S + 1 => by
    simp only [lfN, lfN_z0 τ k v S]
    simp only [sUp_off (show (26 : Nat) ≠ 0 by decide), sUp_off (show (27 : Nat) ≠ 0 by decide)]
theorem lot_SM {σ z : sMem} {G : Nat} (sd : Int32) (h : SM σ z G) : SM (tLo σ sd) (sUp (sUp z 0 0 31 1) 0 0 30 sd) G := by
  unfold tLo
  exact (h.up 31 1).up 30 sd
theorem jw_seed (σ : sMem) (hJ : JR σ) (kd sd w : Int32) : JW l D b0 ty ad av mX8_seed mX9_seed (cd1 yIAE) [aI kd, aI sd, aI w] σ := by
  obtain ⟨v, N, P, S, G, T, m, hJ⟩ := hJ
  have hH := hJ.2.1
  have hT := hJ.2.2.1
  have hM := hH.2.2.1
  have hN := hM.1.1.1.1
  have hP10 := hM.1.1.2.2.2.1.2
  have hS8 := hM.1.1.2.2.2.2.1.2
  have hzM : ∀ z : sMem, (∀ i, i < 74 → z i = σ i) → MJ z N P S G := fun z hz => hM.1.cg (fun a ha => hz a (by omega))
  have hzI : ∀ z : sMem, (∀ i, i < 74 → z i = σ i) → MI z N P S G := fun z hz => hM.cg (fun a ha => hz a (by omega))
  have hzS : ∀ z : sMem, (∀ i, i < 74 → z i = σ i) → SM σ (sUp z 0 0 0 0) G := fun z hz => (SM.low (fun a ha => hz a (by omega))).trans (SM.z0 0 0 ⟨by decide, by decide, by decide⟩)
  by_cases c0 : 0 ≤ kd ∧ kd ≤ 4
  rotate_left
  · have h8 : yMet l D b0 ty ad av lay 200 1 mX8_seed [aR 34, aI kd, aI sd, aI w] σ (fun _ _ => False) (fun e σ' => e = yIAE ∧ σ' = σ) := by
      rcases hJ.1 with e | e
      · subst e
        exact c8_seed_36_x0 193 σ σ N P S G hH kd sd w c0
      · subst e
        exact c8_seed_54_x0 193 σ σ N P S G hH kd sd w c0
    exact JW_x hJ (E := yIAE) (k := 1) (by decide +kernel) (by decide) h8 (R9.s (c9_seed 195 σ N P S G (hzM σ (fun _ _ => rfl)) kd sd w) (fun r σ' h => h.2 (fun q => c0 q.1)))
  by_cases c1 : 0 ≤ w ∧ w ≤ 2
  rotate_left
  · have h8 : yMet l D b0 ty ad av lay 200 1 mX8_seed [aR 34, aI kd, aI sd, aI w] σ (fun _ _ => False) (fun e σ' => e = yIAE ∧ σ' = σ) := by
      rcases hJ.1 with e | e
      · subst e
        exact c8_seed_36_x1 193 σ σ N P S G hH kd sd w c0 c1
      · subst e
        exact c8_seed_54_x1 193 σ σ N P S G hH kd sd w c0 c1
    exact JW_x hJ (E := yIAE) (k := 1) (by decide +kernel) (by decide) h8 (R9.s (c9_seed 195 σ N P S G (hzM σ (fun _ _ => rfl)) kd sd w) (fun r σ' h => h.2 (fun q => c1 q.2)))
  obtain ⟨a, rfl, ha⟩ := in_le (m := 4) (by decide) rfl c0
  obtain ⟨b, rfl, hb9⟩ := in_le (m := 2) (by decide) rfl c1
  have h8 : yMet l D b0 ty ad av lay 200 0 mX8_seed [aR 34, aI (nI a), aI (sd), aI (nI b)] σ (fun r σ' => r = [aI (if nI b = 0 then coD (cP (tLo σ sd) G) (cmF (uP (tLo σ sd))) P S G a else if nI b = 1 then nI (cnA (lefA (daA (cP (tLo σ sd) G) (cmF (uP (tLo σ sd))) P G S a)) S) else nI (cnA (cmF (uP (tLo σ sd))) S))] ∧ FR σ σ') (fun _ _ => False) := by
    rcases hJ.1 with e | e
    · subst e
      exact c8_seed_36_ok 193 σ σ N P S G hH hT a b sd ha hb9
    · subst e
      exact c8_seed_54_ok 193 σ σ N P S G hH hT a b sd ha hb9
  refine JW_ok hJ (A := if nI b = 0 then coD (cP (tLo σ sd) G) (cmF (uP (tLo σ sd))) P S G a else if nI b = 1 then nI (cnA (lefA (daA (cP (tLo σ sd) G) (cmF (uP (tLo σ sd))) P G S a)) S) else nI (cnA (cmF (uP (tLo σ sd))) S)) h8 (fun r σ' h => ⟨h.1, fun i hi => h.2 i (Or.inl (by omega))⟩) (fun z hz => R9.s (c9_seed 195 z N P S G (hzM z hz) (nI a) (sd) (nI b)) (fun r σ' h => ?_))
  obtain ⟨hr, hs⟩ := h.1 ⟨c0, c1⟩
  obtain ⟨hO, hR, h47⟩ := lo_RA hT hM (lot_SM sd (hzS z hz)) (sUp_at _ _ _ _ _) (kd := a) (by omega)
  have hV := (daA_DV (kd := a) (cm := cmF (uP (tLo σ sd))) hO.1 hO.2 1000 (Nat.le_refl _))
  have hL := da_DLo (kd := a) (cm := cmF (uP (tLo σ sd))) hO.1 hO.2 1000 (Nat.le_refl _)
  have hk := goM_KP G (sUp (sUp (sUp z 0 0 0 0) 0 0 31 1) 0 0 30 sd) (nI a) P S
  have h31 : sUp z 0 0 0 0 0 0 31 = 0 := by rw [sUp_k (by decide), hz 0 (by decide)]; exact hT.2.2
  have e47 : sdM (sUp z 0 0 0 0) (nI a) sd P S 0 0 47 = goM (sUp (sUp (sUp z 0 0 0 0) 0 0 31 1) 0 0 30 sd) (nI a) P S 0 0 47 := by unfold sdM; rw [sUp_k (by decide)]
  have hcs : csM (sdM (sUp z 0 0 0 0) (nI a) sd P S) P = csM (goM (sUp (sUp (sUp z 0 0 0 0) 0 0 31 1) 0 0 30 sd) (nI a) P S) P := csM_z0 _ (by decide) _ _
  have hlf : lfN (sdM (sUp z 0 0 0 0) (nI a) sd P S) S = lfN (goM (sUp (sUp (sUp z 0 0 0 0) 0 0 31 1) 0 0 30 sd) (nI a) P S) S := lfN_z0 _ _ _ _
  refine ⟨?_, ?_⟩
  · rw [hr, hcs, hlf, e47, cs_RA hO.1 hV hL hR P (Nat.le_refl _), lf_RA hV hR S (Nat.le_refl _), h47]
    rfl
  · rw [hs]
    unfold sdM
    generalize goM (sUp (sUp (sUp z 0 0 0 0) 0 0 31 1) 0 0 30 sd) (nI a) P S = τ at hk
    refine ⟨fun x h1 h2 h3 => ?_, fun g j hg => ?_, fun k h1 h2 h3 h4 => ?_⟩
    · rw [sUp_off h1, hk.1 x h1 h2 h3, sUp_off h1, sUp_off h1]
    · rw [sUp_off (by decide), hk.2.1 g j hg, sUp_off (by decide), sUp_off (by decide)]
    · by_cases e : k = 31
      · subst e; rw [sUp_at, h31]
      · rw [sUp_k e, hk.2.2 k h1 h2 h3 h4, sUp_k h3, sUp_k e]
theorem jw_mean (σ : sMem) (hJ : JR σ) (sd w : Int32) : JW l D b0 ty ad av mX8_mean mX9_mean (cd1 yIAE) [aI sd, aI w] σ := by
  obtain ⟨v, N, P, S, G, T, m, hJ⟩ := hJ
  have hH := hJ.2.1
  have hT := hJ.2.2.1
  have hM := hH.2.2.1
  have hN := hM.1.1.1.1
  have hP10 := hM.1.1.2.2.2.1.2
  have hS8 := hM.1.1.2.2.2.2.1.2
  have hzM : ∀ z : sMem, (∀ i, i < 74 → z i = σ i) → MJ z N P S G := fun z hz => hM.1.cg (fun a ha => hz a (by omega))
  have hzI : ∀ z : sMem, (∀ i, i < 74 → z i = σ i) → MI z N P S G := fun z hz => hM.cg (fun a ha => hz a (by omega))
  have hzS : ∀ z : sMem, (∀ i, i < 74 → z i = σ i) → SM σ (sUp z 0 0 0 0) G := fun z hz => (SM.low (fun a ha => hz a (by omega))).trans (SM.z0 0 0 ⟨by decide, by decide, by decide⟩)
  have hF : ∀ z : sMem, (∀ i, i < 74 → z i = σ i) → ∀ τ k, KP G (sUp (sUp z 0 0 0 0) 0 0 31 1) τ → k < w.toNatClampNeg → fcC (sUp τ 0 0 30 (sd + nI k)) P S = cLo σ P S G (sd + nI k) := fun z hz τ k hk _ => by
    refine lo_cost hT hM ?_ (sUp_at _ _ _ _ _)
    unfold tLo
    exact SM.up (((hzS z hz).up 31 1).trans hk.SM) 30 _
  have h31 : ∀ z : sMem, (∀ i, i < 74 → z i = σ i) → z 0 0 31 = 0 := fun z hz => by rw [hz 0 (by decide)]; exact hT.2.2
  by_cases c0 : 1 ≤ w ∧ w ≤ 99
  rotate_left
  · have h8 : yMet l D b0 ty ad av lay 200 1 mX8_mean [aR 34, aI sd, aI w] σ (fun _ _ => False) (fun e σ' => e = yIAE ∧ σ' = σ) := by
      rcases hJ.1 with e | e
      · subst e
        exact c8_mean_36_x0 193 σ σ N P S G hH sd w c0
      · subst e
        exact c8_mean_54_x0 193 σ σ N P S G hH sd w c0
    exact JW_x hJ (E := yIAE) (k := 1) (by decide +kernel) (by decide) h8 (R9.s (c9_mean 194 σ N P S G hM.1 sd w (h31 σ (fun _ _ => rfl)) (fun k => cLo σ P S G (sd + nI k)) (hF σ (fun _ _ => rfl))) (fun r σ' h => h.2 c0))
  obtain ⟨k, rfl, hk⟩ := in_le (m := 99) (by decide) rfl ⟨Int32.le_trans (by decide) c0.1, c0.2⟩
  have hk1 : 1 ≤ k := (nI_leI (a := 1) (by decide) (by omega)).mp c0.1
  have h8 : yMet l D b0 ty ad av lay 200 0 mX8_mean [aR 34, aI (sd), aI (nI k)] σ (fun r σ' => r = [aI ((smL (fun k => cLo σ P S G (sd + nI k)) k / (nI k).toInt64).toInt32)] ∧ FR σ σ') (fun _ _ => False) := by
    rcases hJ.1 with e | e
    · subst e
      exact c8_mean_36_ok 193 σ σ N P S G hH hT sd k hk1 hk
    · subst e
      exact c8_mean_54_ok 193 σ σ N P S G hH hT sd k hk1 hk
  refine JW_ok hJ (A := (smL (fun k => cLo σ P S G (sd + nI k)) k / (nI k).toInt64).toInt32) h8 (fun r σ' h => ⟨h.1, fun i hi => h.2 i (Or.inl (by omega))⟩) (fun z hz => R9.s (c9_mean 194 z N P S G (hzM z hz) sd (nI k) (h31 z hz) (fun k => cLo σ P S G (sd + nI k)) (hF z hz)) (fun r σ' h => ?_))
  obtain ⟨hr, hs⟩ := h.1 c0
  rw [nI_clamp (by omega)] at hr
  exact ⟨hr, hs⟩
end
