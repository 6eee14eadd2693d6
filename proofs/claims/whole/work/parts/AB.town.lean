/-! TOWN on both sides -/
theorem lfM_off (N Q : Nat) (s : sMem) {a : Nat} (h : a ≠ 13 ∧ a ≠ 14 ∧ a ≠ 15) : lfM N Q s a = s a := by
  have u : ∀ (t : sMem) (i j k : Nat) (v : Int32), (i = 13 ∨ i = 14 ∨ i = 15) → t a = s a → sUp t i j k v a = s a := fun t i j k v hi ht => by rw [sUp_off (by omega)]; exact ht
  have f : ∀ {g : Nat → sMem → sMem} (n : Nat) (t : sMem), (∀ k r, r a = s a → g k r a = s a) → t a = s a → forM g t n a = s a := fun n t hg ht => forM_P (P := fun r => r a = s a) ht n (fun k r _ q => hg k r q)
  have h1 : lfA N s a = s a := f N s (fun x r q => f N r (fun y r q => u _ _ _ _ _ (by omega) (u _ _ _ _ _ (by omega) q)) q) rfl
  have h2 : lfB Q (lfA N s) a = s a := f Q _ (fun k r q => u _ _ _ _ _ (by omega) (u _ _ _ _ _ (by omega) q)) h1
  have h3 : lfC N (lfB Q (lfA N s)) a = s a := f N _ (fun x r q => f N r (fun y r q => u _ _ _ _ _ (by omega) q) q) h2
  have h4 : lfD N (lfC N (lfB Q (lfA N s))) a = s a := f N _ (fun m r q => f N r (fun x r q => f N r (fun y r q => by
    unfold lf4
    split
    · exact u _ _ _ _ _ (by omega) q
    · exact q) q) q) h3
  exact f N _ (fun x r q => f N r (fun y r q => by
    unfold lf5
    split
    · exact dnM_P (P := fun r => r a = s a) (fun k r q => by
        unfold lf5c
        split
        · exact u _ _ _ _ _ (by omega) q
        · exact q) N _ (u _ _ _ _ _ (by omega) q)
    · exact u _ _ _ _ _ (by omega) q) q) h4
theorem TWF.cg {σ σ' Z Z' : sMem} {w N P S G Q : Nat} (h : TWF σ Z w N P S G Q) (h1 : ∀ i, w ≤ i → i < w + 18 → σ' i = σ i) (h2 : ∀ i, i = 2 ∨ i = 4 ∨ i = 5 ∨ i = 7 ∨ i = 9 ∨ i = 11 → Z' i = Z i) : TWF σ' Z' w N P S G Q := by
  have eg : gN Z' Q = gN Z Q := by
    unfold gN
    rw [snM_cg Q (fun k _ => by rw [h2 4 (by omega)])]
  unfold TWF
  rw [eg]
  refine ⟨h.1.cg h1 h2, h.2.1.cg h2, ?_, ?_⟩
  · unfold RM; rw [h1 (w + 3) (by omega) (by omega)]; exact h.2.2.1
  · rw [h1 (w + 4) (by omega) (by omega)]; exact h.2.2.2
theorem tZ_cg {s s' : sMem} (h : EQ s s') (n : Nat) : EQ (tZ s n) (tZ s' n) := txL_cg 61 (bkM_cg (p0M_cg h n))
/-- the class's answer to 'town', for both of its towns -/
def TQ (σ : sMem) (v n : Nat) (r : List AV) (σ' : sMem) : Prop := (∀ i, i ≠ 34 → i ≠ 74 → i ≠ 72 → (i < 90 - v ∨ 90 - v + 18 ≤ i) → σ' i = σ i) ∧ σ' 34 0 1 = nI 0 ∧ σ' 34 0 2 = tZ σ n 0 0 6 ∧ (¬ tZ σ n 0 0 5 = 0 → r = [aI (tZ σ n 0 0 5 - 10)] ∧ σ' 72 = σ 72 ∧ σ' 34 0 3 = nI v ∧ σ' 34 0 4 = nI (90 - v) ∧ σ' 34 0 7 = σ 34 0 7) ∧ (tZ σ n 0 0 5 = 0 → σ' 34 0 3 = nI (90 - v) ∧ σ' 34 0 4 = nI v ∧ σ' 34 0 7 = nI 0 ∧ (∀ x, x < 8 → σ' 72 0 x = -1) ∧ ∃ N P S G Q, TWF σ' (tZ σ n) (90 - v) N P S G Q ∧ r = [aI (nI P)])
section
variable {l : Launch} {D : va_G} {b0 : Nat} {ty : Nat → ClassId} {ad av : Nat → Nat}
theorem jw_town (σ : sMem) (hJ : JR σ) (x : Int32) : JW l D b0 ty ad av mX8_town mX9_town (cd1 yIAE) [aI x] σ := by
  obtain ⟨v, N, P, S, G, T, m, hJ⟩ := hJ
  have hH := hJ.2.1
  have hT := hJ.2.2.1
  have hM := hH.2.2.1
  obtain ⟨hT6, e34, e0, hB⟩ := hJ.2.2.2.2.1
  by_cases c0 : 0 ≤ x ∧ x ≤ nI T
  rotate_left
  · exact JW_x hJ (E := yIAE) (k := 1) (by decide +kernel) (by decide) (c8_town_36_x0 193 σ T hT6 e34 x c0) (R9.s (c9_town_x 200 σ T e0 x c0) (fun r σ' h => h))
  obtain ⟨n, rfl, hn⟩ := in_le (m := T) (by omega) (c := nI T) (by rw [← nIs]; exact Int32.add_sub_cancel _ _) c0
  have h8 : yMet l D b0 ty ad av lay 200 0 mX8_town [aR 34, aI (nI n)] σ (TQ σ v n) (fun _ _ => False) := by
    rcases hJ.1 with e | e
    · subst e
      exact c8_town_36_ok 191 (j_JST l ad av) σ σ T n hT6 e34 hn hH.1 hJ.2.2.2.1 (fun j hj => hB j (by omega))
    · subst e
      exact c8_town_54_ok 191 (j_JST l ad av) σ σ T n hT6 e34 hn hH.1 hJ.2.2.2.1 (fun j hj => hB j (by omega))
  refine ⟨0, _, _, by decide, h8, ?_, fun _ _ h => h.elim, ?_, fun _ _ _ h => h.elim⟩
  · rintro r σ' ⟨-, -, -, h1, h2⟩
    by_cases hf : tZ σ n 0 0 5 = 0
    · obtain ⟨-, -, -, -, N', P', S', G', Q', -, hr⟩ := h2 hf
      exact ⟨_, hr⟩
    · exact ⟨_, (h1 hf).1⟩
  rintro a σ1 ⟨q1, q2, q3, h1, h2⟩
  have hv := hJ.1
  have hz : ∀ i, i ≠ 100 → sUp σ1 100 0 0 a i = σ1 i := fun i hi => sUp_off hi
  have z100 : sUp σ1 100 0 0 a 100 0 0 = a := sUp_at _ _ _ _ _
  generalize sUp σ1 100 0 0 a = z at hz z100
  have hzl : EQ z σ := fun i hi => by rw [hz i (by omega)]; exact q1 i (by omega) (by omega) (by omega) (by omega)
  have hZ : EQ (tZ z n) (tZ σ n) := tZ_cg hzl n
  obtain ⟨-, -, k1, k2, k3, k4, k5⟩ := tZ_K z (n := n) (by omega)
  have e05 : tZ z n 0 0 5 = tZ σ n 0 0 5 := by rw [hZ 0 (by decide)]
  have e06 : tZ z n 0 0 6 = tZ σ n 0 0 6 := by rw [hZ 0 (by decide)]
  have hZ0 : ∀ k, 8 ≤ k → tZ z n 0 0 k = σ 0 0 k := fun k hk => by rw [k2 k hk, hzl 0 (by decide)]
  by_cases hf : tZ σ n 0 0 5 = 0
  rotate_left
  · obtain ⟨hr, g72, g3, g4, g7⟩ := h1 hf
    have ha : a = tZ σ n 0 0 5 - 10 := by simpa using hr
    refine R9.s (c9_town_ok 195 z T n 0 0 0 0 0 hT6 (by rw [hzl 0 (by decide)]; exact e0) hn (fun h => absurd (e05.symm.trans h) hf)) (fun r σ' h => ?_)
    obtain ⟨hr', hs⟩ := h.1 (by rw [e05]; exact hf)
    rw [e05, ← ha] at hr'
    have w1 : ∀ i, i ≠ 0 → i ≠ 2 → i ≠ 4 → i ≠ 5 → i ≠ 7 → i ≠ 9 → i ≠ 11 → σ' i = z i := fun i x0 x1 x2 x3 x4 x5 x6 => by rw [hs, sUp_off x0]; exact k1 i x0 x1 x2 x3 x4 x5 x6
    have wl : ∀ i, i = 1 ∨ i = 3 ∨ i = 6 ∨ i = 8 ∨ i = 10 ∨ (12 ≤ i ∧ i < 18) → σ' i = σ i := fun i hi => by rw [w1 i (by omega) (by omega) (by omega) (by omega) (by omega) (by omega) (by omega)]; exact hzl i (by omega)
    have wh : ∀ i, 34 ≤ i → i < 74 → σ' i = σ1 i := fun i x0 x1 => by rw [w1 i (by omega) (by omega) (by omega) (by omega) (by omega) (by omega) (by omega)]; exact hz i (by omega)
    have w0 : ∀ k, 8 ≤ k → σ' 0 0 k = σ 0 0 k := fun k hk => by rw [hs, sUp_k (by omega)]; exact hZ0 k hk
    have e3 : σ' 0 0 3 = tZ σ n 0 0 6 := by rw [hs, sUp_at, e06]
    refine ⟨hr', by rw [hs, sUp_k (by decide)]; exact k3, by rw [w1 100 (by decide) (by decide) (by decide) (by decide) (by decide) (by decide) (by decide)]; exact z100, v, N, P, S, G, 0, m, hJ.1, hH.new ?_ ?_ (fun a ha => wl a (by omega)) (fun g j _ => by rw [wl 10 (by omega)]) ?_ (fun s hs => ?_), ⟨?_, ?_, ?_⟩, ?_, ⟨by decide, ?_, ?_, fun j hj => absurd hj (Nat.not_lt_zero _)⟩, ⟨hJ.2.2.2.2.2.1.1, ?_, ?_, fun i hi => ?_⟩, ?_⟩
    · rw [wh 34 (by decide) (by decide)]; exact g3
    · intro i x0 x1; rw [wh i (by omega) (by omega)]; exact q1 i (by omega) (by omega) (by omega) (by omega)
    · unfold TF; rw [wl 16 (by omega)]; exact hM.1.2.2.2.1
    · rw [wl 16 (by omega), wh 72 (by decide) (by decide), g72]; exact hH.2.2.2 s hs
    · rw [w0 28 (by decide)]; exact hT.1
    · rw [w0 29 (by decide)]; exact hT.2.1
    · rw [w0 31 (by decide)]; exact hT.2.2
    · rw [wh 34 (by decide) (by decide)]; exact g4
    · rw [wh 34 (by decide) (by decide)]; exact q2
    · rw [hs, sUp_k (by decide)]; exact k4
    · rw [wh 34 (by decide) (by decide), g7]; exact hJ.2.2.2.2.2.1.2.1
    · rw [w0 25 (by decide)]; exact hJ.2.2.2.2.2.1.2.2.1
    · rw [wh 73 (by decide) (by decide), q1 73 (by decide) (by decide) (by decide) (by omega), wl 17 (by omega)]; exact hJ.2.2.2.2.2.1.2.2.2 i hi
    · rw [wh 34 (by decide) (by decide), q3, e3]
  · obtain ⟨g3, g4, g7, g72, N', P', S', G', Q', hW, hr⟩ := h2 hf
    have ha : a = nI P' := by simpa using hr
    have hWz : RVN (tZ z n) N' P' S' G' Q' := hW.2.1.cg (fun i hi => hZ i (by omega))
    refine R9.s (c9_town_ok 195 z T n N' P' S' G' Q' hT6 (by rw [hzl 0 (by decide)]; exact e0) hn (fun _ => hWz)) (fun r σ' h => ?_)
    obtain ⟨hr', Y, hs, hC, hY⟩ := h.2 (by rw [e05]; exact hf)
    rw [← ha] at hr'
    have hMI := MI_town hWz hC
    rw [← hs] at hMI
    have hl : ∀ i, i ≠ 13 → i ≠ 14 → i ≠ 15 → σ' i = Y i := fun i x0 x1 x2 => by rw [hs]; exact lfM_off _ _ _ (by omega)
    have wh : ∀ i, 34 ≤ i → i < 74 → σ' i = σ1 i := fun i x0 x1 => by rw [hl i (by omega) (by omega) (by omega), hC.1 i (by omega) (by omega) (by omega) (by omega) (by omega) (by omega) (by omega), k1 i (by omega) (by omega) (by omega) (by omega) (by omega) (by omega) (by omega)]; exact hz i (by omega)
    have w100 : σ' 100 0 0 = a := by rw [hl 100 (by decide) (by decide) (by decide), hC.1 100 (by decide) (by decide) (by decide) (by decide) (by decide) (by decide) (by decide), k1 100 (by decide) (by decide) (by decide) (by decide) (by decide) (by decide) (by decide)]; exact z100
    have w0 : ∀ k, k ≠ 3 → k ≠ 25 → σ' 0 0 k = tZ z n 0 0 k := fun k x0 x1 => by rw [hl 0 (by decide) (by decide) (by decide)]; exact hC.2.1 k x0 x1
    have e16 : ∀ s, s < 8 → σ' 16 0 s = -1 := fun s hs9 => by rw [hl 16 (by decide) (by decide) (by decide)]; exact hC.2.2.2.2.2.2.2.2 s hs9
    have hCT : CT σ' σ' (90 - v) N' P' S' G' := by
      have := CT_town (v := 90 - v) (hW.cg (σ' := σ') (Z' := tZ z n) (fun i x0 x1 => wh i (by omega) (by omega)) (fun i hi => hZ i (by omega))) hC
      rw [← hs] at this
      exact this
    refine ⟨hr', by rw [w0 0 (by decide) (by decide)]; exact k3, w100, 90 - v, N', P', S', G', 0, 0, by omega, ⟨?_, hCT, hMI, fun s hs9 => ?_⟩, ⟨?_, ?_, ?_⟩, ?_, ⟨by decide, ?_, ?_, fun j hj => absurd hj (Nat.not_lt_zero _)⟩, ⟨by decide, ?_, ?_, fun i hi => absurd hi (Nat.not_lt_zero _)⟩, ?_⟩
    · rw [wh 34 (by decide) (by decide)]; exact g3
    · rw [e16 s hs9, wh 72 (by decide) (by decide)]; exact g72 s hs9
    · rw [w0 28 (by decide) (by decide), hZ0 28 (by decide)]; exact hT.1
    · rw [w0 29 (by decide) (by decide), hZ0 29 (by decide)]; exact hT.2.1
    · rw [w0 31 (by decide) (by decide), hZ0 31 (by decide)]; exact hT.2.2
    · rw [wh 34 (by decide) (by decide), g4, show 90 - (90 - v) = v by omega]
    · rw [wh 34 (by decide) (by decide)]; exact q2
    · rw [w0 1 (by decide) (by decide)]; exact k4
    · rw [wh 34 (by decide) (by decide)]; exact g7
    · rw [hl 0 (by decide) (by decide) (by decide)]; exact hY
    · rw [wh 34 (by decide) (by decide), q3, hl 0 (by decide) (by decide) (by decide), hC.2.2.1, e06]
end
