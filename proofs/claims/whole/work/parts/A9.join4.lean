/-! THE JOINS of the calls that change what was told, of images, of handing on -/
theorem MI.tf {t t' : sMem} {N P S G : Nat} (h : MI t N P S G) (hh : ∀ a, a = 3 ∨ a = 6 ∨ a = 8 ∨ a = 12 ∨ a = 13 ∨ a = 14 ∨ a = 15 → t' a = t a) (hg : ∀ g j, g < G → t' 10 g j = t 10 g j) (hF : TF t' P S) : MI t' N P S G := by
  refine ⟨⟨h.1.1.cg (fun a ha => hh a (by omega)), ?_, ?_, hF, ?_, h.1.2.2.2.2.2⟩, ?_⟩
  · unfold TR fN; rw [hh 14 (by omega)]; exact h.1.2.1
  · unfold NX; rw [hh 15 (by omega)]; exact h.1.2.2.1
  · rw [hh 3 (by omega)]; exact h.1.2.2.2.2.1
  unfold WY fN
  rw [hh 3 (by omega), hh 6 (by omega), hh 8 (by omega), hh 12 (by omega), hh 13 (by omega), hh 14 (by omega), hh 15 (by omega)]
  refine ⟨⟨h.1.1.1.congr (hh 13 (by omega)) (hh 14 (by omega)) (hh 15 (by omega)), h.2.1.2⟩, h.2.2.1, h.2.2.2.1, h.2.2.2.2.1, h.2.2.2.2.2.1, h.2.2.2.2.2.2.1, fun g hgg => ?_, h.2.2.2.2.2.2.2.2⟩
  rw [hg g 0 hgg, hg g 1 hgg]
  exact h.2.2.2.2.2.2.2.1 g hgg
/-- the town stays, what was told may change -/
theorem HR.new {σ σ' : sMem} {v N P S G : Nat} (h : HR σ σ v N P S G) (h3 : σ' 34 0 3 = nI v) (hc : ∀ i, v ≤ i → i < v + 18 → σ' i = σ i) (hh : ∀ a, a = 3 ∨ a = 6 ∨ a = 8 ∨ a = 12 ∨ a = 13 ∨ a = 14 ∨ a = 15 → σ' a = σ a) (hg : ∀ g j, g < G → σ' 10 g j = σ 10 g j) (hF : TF σ' P S) (h72 : ∀ s, s < 8 → σ' 72 0 s = σ' 16 0 s) : HR σ' σ' v N P S G :=
  ⟨h3, (h.2.1.cg hc).tg hh hg, h.2.2.1.tf hh hg hF, h72⟩
theorem imM_at (z : sMem) (i : Nat) : (∀ a, a ≠ 17 → imM z i a = z a) ∧ (∀ r, r ≠ i → imM z i 17 r = z 17 r) ∧ ∀ s, s < 8 → imM z i 17 i s = z 16 0 s := by
  have h := forM_I (I := fun k t => (∀ a, a ≠ 17 → t a = z a) ∧ (∀ r, r ≠ i → t 17 r = z 17 r) ∧ ∀ s, s < k → t 17 i s = z 16 0 s) (f := fun s t => sUp t 17 i s (t 16 0 s)) (σ := z) ⟨fun _ _ => rfl, fun _ _ => rfl, fun s hs => absurd hs (Nat.not_lt_zero _)⟩ 8 (fun k t hk h => ⟨fun a ha => by rw [sUp_off ha]; exact h.1 a ha, fun r hr => by rw [sUp_rowne hr]; exact h.2.1 r hr, fun s hs => by
    by_cases e : s = k
    · subst e; rw [sUp_at, h.1 16 (by decide)]
    · rw [sUp_k e]; exact h.2.2 s (by omega)⟩)
  exact h
theorem reM_at (z : sMem) (i : Nat) : (∀ a, a ≠ 16 → reM z i a = z a) ∧ ∀ s, s < 8 → reM z i 16 0 s = z 17 i s := by
  have h := forM_I (I := fun k t => (∀ a, a ≠ 16 → t a = z a) ∧ ∀ s, s < k → t 16 0 s = z 17 i s) (f := fun s t => sUp t 16 0 s (t 17 i s)) (σ := z) ⟨fun _ _ => rfl, fun s hs => absurd hs (Nat.not_lt_zero _)⟩ 8 (fun k t hk h => ⟨fun a ha => by rw [sUp_off ha]; exact h.1 a ha, fun s hs => by
    by_cases e : s = k
    · subst e; rw [sUp_at, h.1 17 (by decide)]
    · rw [sUp_k e]; exact h.2 s (by omega)⟩)
  exact h
theorem cpy8 (f g : Nat → Int32) {s : Nat} (hs : s < 8) : va_cpy f g 0 0 8 s = f s := by
  unfold va_cpy
  rw [if_pos ⟨Nat.zero_le _, by omega⟩, Nat.zero_add, Nat.sub_zero]
section
variable {l : Launch} {D : va_G} {b0 : Nat} {ty : Nat → ClassId} {ad av : Nat → Nat}
theorem jd_fault (σ : sMem) (hJ : JR σ) : JD l D b0 ty ad av mX8_fault mX9_fault [] σ := by
  obtain ⟨v, N, P, S, G, T, m, hJ⟩ := hJ
  have hH := hJ.2.1
  have hT := hJ.2.2.1
  have hM := hH.2.2.1
  have hN := hM.1.1.1.1
  have hP10 := hM.1.1.2.2.2.1.2
  have hS8 := hM.1.1.2.2.2.2.1.2
  have hzM : ∀ z : sMem, (∀ i, i < 74 → z i = σ i) → MJ z N P S G := fun z hz => hM.1.cg (fun a ha => hz a (by omega))
  have hzI : ∀ z : sMem, (∀ i, i < 74 → z i = σ i) → MI z N P S G := fun z hz => hM.cg (fun a ha => hz a (by omega))
  have hzS : ∀ z : sMem, (∀ i, i < 74 → z i = σ i) → SM σ (sUp z 0 0 0 0) G := fun z hz => (SM.low (fun a ha => hz a (by omega))).trans (SM.z0 0 0 ⟨by decide, by decide, by decide⟩)
  refine JD_ok hJ (A := σ 34 0 2) (y_of_s (c8_fault 201 σ)) (fun r σ' h => ⟨h.1, fun i hi => by rw [h.2]⟩) (fun z hz => R9.s (c9_fault 201 z) (fun r σ' h => ⟨?_, by rw [h.2]; exact KP.rfl'⟩))
  rw [h.1, hz 0 (by decide), hJ.2.2.2.2.2.2]
theorem jd_count (σ : sMem) (hJ : JR σ) (w : Int32) : JD l D b0 ty ad av mX8_count mX9_count [aI w] σ := by
  obtain ⟨v, N, P, S, G, T, m, hJ⟩ := hJ
  have hH := hJ.2.1
  have hT := hJ.2.2.1
  have hM := hH.2.2.1
  have hN := hM.1.1.1.1
  have hP10 := hM.1.1.2.2.2.1.2
  have hS8 := hM.1.1.2.2.2.2.1.2
  have hzM : ∀ z : sMem, (∀ i, i < 74 → z i = σ i) → MJ z N P S G := fun z hz => hM.1.cg (fun a ha => hz a (by omega))
  have hzI : ∀ z : sMem, (∀ i, i < 74 → z i = σ i) → MI z N P S G := fun z hz => hM.cg (fun a ha => hz a (by omega))
  have hzS : ∀ z : sMem, (∀ i, i < 74 → z i = σ i) → SM σ (sUp z 0 0 0 0) G := fun z hz => (SM.low (fun a ha => hz a (by omega))).trans (SM.z0 0 0 ⟨by decide, by decide, by decide⟩)
  refine JD_ok hJ (A := if w = 0 then σ 34 0 7 else if w = 1 then σ 34 0 1 else -1) (y_of_s (c8_count 201 σ w)) (fun r σ' h => ⟨h.1, fun i hi => by rw [h.2]⟩) (fun z hz => R9.s (c9_count 201 z w) (fun r σ' h => ⟨?_, by rw [h.2]; exact KP.rfl'⟩))
  rw [h.1, hz 0 (by decide), hJ.2.2.2.2.2.1.2.1, hJ.2.2.2.2.2.1.2.2.1, hJ.2.2.2.2.1.2.1, hJ.2.2.2.2.1.2.2.1]
theorem jw_tell (σ : sMem) (hJ : JR σ) (x y : Int32) : JW l D b0 ty ad av mX8_tell mX9_tell cd2 [aI x, aI y] σ := by
  obtain ⟨v, N, P, S, G, T, m, hJ⟩ := hJ
  have hH := hJ.2.1
  have hT := hJ.2.2.1
  have hM := hH.2.2.1
  have hN := hM.1.1.1.1
  have hP10 := hM.1.1.2.2.2.1.2
  have hS8 := hM.1.1.2.2.2.2.1.2
  have hzM : ∀ z : sMem, (∀ i, i < 74 → z i = σ i) → MJ z N P S G := fun z hz => hM.1.cg (fun a ha => hz a (by omega))
  have hzI : ∀ z : sMem, (∀ i, i < 74 → z i = σ i) → MI z N P S G := fun z hz => hM.cg (fun a ha => hz a (by omega))
  have hzS : ∀ z : sMem, (∀ i, i < 74 → z i = σ i) → SM σ (sUp z 0 0 0 0) G := fun z hz => (SM.low (fun a ha => hz a (by omega))).trans (SM.z0 0 0 ⟨by decide, by decide, by decide⟩)
  by_cases c0 : 0 ≤ x ∧ x ≤ nI S - 1
  rotate_left
  · have h8 : yMet l D b0 ty ad av lay 200 1 mX8_tell [aR 34, aI x, aI y] σ (fun _ _ => False) (fun e σ' => e = yNSE ∧ σ' = σ) := by
      rcases hJ.1 with e | e
      · subst e
        exact c8_tell_36_x0 193 σ σ N P S G hH x y c0
      · subst e
        exact c8_tell_54_x0 193 σ σ N P S G hH x y c0
    exact JW_x hJ (E := yNSE) (k := 1) (by decide +kernel) (by decide) h8 (R9.s (c9_tell 199 σ N P S G hM.1 x y) (fun r σ' h => h.2 c0))
  by_cases c1 : y = -1 ∨ (0 ≤ y ∧ y ≤ nI P - 1)
  rotate_left
  · have h8 : yMet l D b0 ty ad av lay 200 1 mX8_tell [aR 34, aI x, aI y] σ (fun _ _ => False) (fun e σ' => e = yIAE ∧ σ' = σ) := by
      rcases hJ.1 with e | e
      · subst e
        exact c8_tell_36_x1 193 σ σ N P S G hH x y c0 c1
      · subst e
        exact c8_tell_54_x1 193 σ σ N P S G hH x y c0 c1
    exact JW_x hJ (E := yIAE) (k := 2) (by decide +kernel) (by decide) h8 (R9.s (c9_tell 199 σ N P S G hM.1 x y) (fun r σ' h => (h.1 c0).2 c1))
  obtain ⟨q, rfl, hq⟩ := in_nI (n := S) (by omega) c0
  have h8 : yMet l D b0 ty ad av lay 200 0 mX8_tell [aR 34, aI (nI q), aI (y)] σ (fun r σ' => r = [aI (σ 16 0 q)] ∧ σ' = sUp σ 72 0 q y) (fun _ _ => False) := by
    rcases hJ.1 with e | e
    · subst e
      exact y_of_s (c8_tell_36_ok 199 σ σ N P S G hH q y hq c1)
    · subst e
      exact y_of_s (c8_tell_54_ok 199 σ σ N P S G hH q y hq c1)
  refine ⟨0, _, _, by decide, h8, fun r σ' h => ⟨_, h.1⟩, fun _ _ h => h.elim, ?_, fun _ _ _ h => h.elim⟩
  rintro a σ1 ⟨hr, rfl⟩
  have ha : a = σ 16 0 q := by simpa using hr
  subst ha
  have hz : ∀ i, i ≠ 72 → i < 74 → sUp (sUp σ 72 0 q y) 100 0 0 (σ 16 0 q) i = σ i := fun i h1 h2 => by rw [sUp_off (by omega), sUp_off h1]
  have z72 : ∀ s, sUp (sUp σ 72 0 q y) 100 0 0 (σ 16 0 q) 72 0 s = if s = q then y else σ 72 0 s := fun s => by
    rw [sUp_off (by decide)]
    by_cases e : s = q
    · subst e; rw [sUp_at, if_pos rfl]
    · rw [sUp_k e, if_neg e]
  have z100 : sUp (sUp σ 72 0 q y) 100 0 0 (σ 16 0 q) 100 0 0 = σ 16 0 q := sUp_at _ _ _ _ _
  generalize sUp (sUp σ 72 0 q y) 100 0 0 (σ 16 0 q) = z at hz z72 z100
  refine R9.s (c9_tell 199 z N P S G (hM.1.cg (fun a ha => hz a (by omega) (by omega))) (nI q) y) (fun r σ' h => ?_)
  obtain ⟨hr, hs⟩ := (h.1 c0).1 c1
  rw [nI_clamp (by omega), sUp_off (by decide), hz 16 (by decide) (by decide)] at hr
  rw [nI_clamp (by omega)] at hs
  subst hs
  have k1 : ∀ i, i ≠ 0 → i ≠ 16 → i ≠ 72 → i < 74 → sUp (sUp z 0 0 0 0) 16 0 q y i = σ i := fun i h0 h1 h2 h3 => by rw [sUp_off h1, sUp_off h0]; exact hz i h2 h3
  have k0 : ∀ k, k ≠ 0 → sUp (sUp z 0 0 0 0) 16 0 q y 0 0 k = σ 0 0 k := fun k hk => by rw [sUp_off (by decide), sUp_k hk, hz 0 (by decide) (by decide)]
  have k16 : ∀ s, sUp (sUp z 0 0 0 0) 16 0 q y 16 0 s = if s = q then y else σ 16 0 s := fun s => by
    by_cases e : s = q
    · subst e; rw [sUp_at, if_pos rfl]
    · rw [sUp_k e, if_neg e, sUp_off (by decide), hz 16 (by decide) (by decide)]
  have k72 : ∀ s, sUp (sUp z 0 0 0 0) 16 0 q y 72 0 s = if s = q then y else σ 72 0 s := fun s => by rw [sUp_off (by decide), sUp_off (by decide)]; exact z72 s
  have e0 : sUp (sUp z 0 0 0 0) 16 0 q y 0 0 0 = 0 := by rw [sUp_off (by decide), sUp_at]
  have e100 : sUp (sUp z 0 0 0 0) 16 0 q y 100 0 0 = σ 16 0 q := by rw [sUp_off (by decide), sUp_off (by decide)]; exact z100
  generalize sUp (sUp z 0 0 0 0) 16 0 q y = τ at k1 k0 k16 k72 e0 e100
  refine ⟨hr, e0, e100, v, N, P, S, G, T, m, hJ.1, hH.new ?_ ?_ (fun a ha => k1 a (by omega) (by omega) (by omega) (by omega)) (fun g j _ => by rw [k1 10 (by decide) (by decide) (by decide) (by decide)]) (fun s hs => ?_) (fun s hs => ?_), ⟨?_, ?_, ?_⟩, ?_, ⟨hJ.2.2.2.2.1.1, ?_, ?_, fun j hj => ?_⟩, ⟨hJ.2.2.2.2.2.1.1, ?_, ?_, fun i hi => ?_⟩, ?_⟩
  · rw [k1 34 (by decide) (by decide) (by decide) (by decide)]; exact hH.1
  · intro i h1 h2; have := hJ.1; exact k1 i (by omega) (by omega) (by omega) (by omega)
  · rw [k16]
    by_cases e : s = q
    · rw [if_pos e]
      rcases c1 with e1 | e1
      · exact Or.inl e1
      · exact Or.inr (in_nI (by omega) e1)
    · rw [if_neg e]; exact hM.1.2.2.2.1 s hs
  · rw [k72, k16, hH.2.2.2 s hs]
  · rw [k0 28 (by decide)]; exact hT.1
  · rw [k0 29 (by decide)]; exact hT.2.1
  · rw [k0 31 (by decide)]; exact hT.2.2
  · rw [k1 34 (by decide) (by decide) (by decide) (by decide)]; exact hJ.2.2.2.1
  · rw [k1 34 (by decide) (by decide) (by decide) (by decide)]; exact hJ.2.2.2.2.1.2.1
  · rw [k0 1 (by decide)]; exact hJ.2.2.2.2.1.2.2.1
  · rw [k1 1 (by decide) (by decide) (by decide) (by decide), k1 35 (by decide) (by decide) (by decide) (by decide)]; exact hJ.2.2.2.2.1.2.2.2 j hj
  · rw [k1 34 (by decide) (by decide) (by decide) (by decide)]; exact hJ.2.2.2.2.2.1.2.1
  · rw [k0 25 (by decide)]; exact hJ.2.2.2.2.2.1.2.2.1
  · rw [k1 73 (by decide) (by decide) (by decide) (by decide), k1 17 (by decide) (by decide) (by decide) (by decide)]; exact hJ.2.2.2.2.2.1.2.2.2 i hi
  · rw [k1 34 (by decide) (by decide) (by decide) (by decide), k0 3 (by decide)]; exact hJ.2.2.2.2.2.2
theorem jd_image (σ : sMem) (hJ : JR σ) : JD l D b0 ty ad av mX8_image mX9_image [] σ := by
  obtain ⟨v, N, P, S, G, T, m, hJ⟩ := hJ
  have hH := hJ.2.1
  have hT := hJ.2.2.1
  have hM := hH.2.2.1
  have hN := hM.1.1.1.1
  have hP10 := hM.1.1.2.2.2.1.2
  have hS8 := hM.1.1.2.2.2.2.1.2
  have hzM : ∀ z : sMem, (∀ i, i < 74 → z i = σ i) → MJ z N P S G := fun z hz => hM.1.cg (fun a ha => hz a (by omega))
  have hzI : ∀ z : sMem, (∀ i, i < 74 → z i = σ i) → MI z N P S G := fun z hz => hM.cg (fun a ha => hz a (by omega))
  have hzS : ∀ z : sMem, (∀ i, i < 74 → z i = σ i) → SM σ (sUp z 0 0 0 0) G := fun z hz => (SM.low (fun a ha => hz a (by omega))).trans (SM.z0 0 0 ⟨by decide, by decide, by decide⟩)
  obtain ⟨hm3, e7, e25, hIm⟩ := hJ.2.2.2.2.2.1
  by_cases hm : m = 3
  · subst hm
    refine JD_ok hJ (A := -1) (y_of_s (c8_image_no 201 σ e7)) (fun r σ' h => ⟨h.1, fun i hi => by rw [h.2]⟩) (fun z hz => R9.s (c9_image 201 z 3 (by rw [hz 0 (by decide)]; exact e25) (by decide)) (fun r σ' h => ⟨(h.1 rfl).1, by rw [(h.1 rfl).2]; exact KP.rfl'⟩))
  · refine ⟨_, c8_image_ok 200 σ m (by omega) e7, ?_⟩
    rintro r σ1 ⟨rfl, h1⟩
    refine ⟨_, rfl, ?_⟩
    have hz : ∀ i, i ≠ 34 → i ≠ 73 → σ1 i = σ i := fun i a b => by rw [h1, sUp_off a, sRow_off b]
    have z34 : ∀ k, k ≠ 7 → σ1 34 0 k = σ 34 0 k := fun k hk => by rw [h1, sUp_k hk, sRow_off (by decide)]
    have z7 : σ1 34 0 7 = nI (m + 1) := by rw [h1, sUp_at]
    have z73 : ∀ i, i ≠ m → σ1 73 i = σ 73 i := fun i hi => by rw [h1, sUp_off (by decide), sRow_ne hi]
    have z73m : ∀ s, s < 8 → σ1 73 m s = σ 72 0 s := fun s hs => by rw [h1, sUp_off (by decide), sRow_at, cpy8 _ _ hs]
    clear h1
    refine R9.s (c9_image 201 σ1 m (by rw [hz 0 (by decide) (by decide)]; exact e25) hm3) (fun r σ' h => ?_)
    obtain ⟨hr, hs⟩ := h.2 (by omega)
    refine ⟨hr, ?_⟩
    obtain ⟨i1, i2, i3⟩ := imM_at (sUp σ1 0 0 0 0) m
    have k1 : ∀ i, i ≠ 0 → i ≠ 17 → i ≠ 34 → i ≠ 73 → σ' i = σ i := fun i a b c d => by rw [hs, sUp_off a, i1 i b, sUp_off a]; exact hz i c d
    have k34 : σ' 34 = σ1 34 := by rw [hs, sUp_off (by decide), i1 34 (by decide), sUp_off (by decide)]
    have k73 : σ' 73 = σ1 73 := by rw [hs, sUp_off (by decide), i1 73 (by decide), sUp_off (by decide)]
    have k0 : ∀ k, k ≠ 0 → k ≠ 25 → σ' 0 0 k = σ 0 0 k := fun k a b => by rw [hs, sUp_k b, i1 0 (by decide), sUp_k a, hz 0 (by decide) (by decide)]
    have k25 : σ' 0 0 25 = nI (m + 1) := by rw [hs, sUp_at]
    have k17 : ∀ i, i ≠ m → σ' 17 i = σ 17 i := fun i a => by rw [hs, sUp_off (by decide), i2 i a, sUp_off (by decide), hz 17 (by decide) (by decide)]
    have k17m : ∀ s, s < 8 → σ' 17 m s = σ 16 0 s := fun s a => by rw [hs, sUp_off (by decide), i3 s a, sUp_off (by decide), hz 16 (by decide) (by decide)]
    have e16 := k1 16 (by decide) (by decide) (by decide) (by decide)
    refine ⟨v, N, P, S, G, T, m + 1, hJ.1, hH.new ?_ ?_ (fun a ha => k1 a (by omega) (by omega) (by omega) (by omega)) (fun g j _ => by rw [k1 10 (by decide) (by decide) (by decide) (by decide)]) ?_ (fun s hs => ?_), ⟨?_, ?_, ?_⟩, ?_, ⟨hJ.2.2.2.2.1.1, ?_, ?_, fun j hj => ?_⟩, ⟨by omega, by rw [k34]; exact z7, k25, fun i hi => ?_⟩, ?_⟩
    · rw [k34, z34 3 (by decide)]; exact hH.1
    · intro i h1 h2; have := hJ.1; exact k1 i (by omega) (by omega) (by omega) (by omega)
    · unfold TF; rw [e16]; exact hM.1.2.2.2.1
    · rw [e16, k1 72 (by decide) (by decide) (by decide) (by decide)]; exact hH.2.2.2 s hs
    · rw [k0 28 (by decide) (by decide)]; exact hT.1
    · rw [k0 29 (by decide) (by decide)]; exact hT.2.1
    · rw [k0 31 (by decide) (by decide)]; exact hT.2.2
    · rw [k34, z34 4 (by decide)]; exact hJ.2.2.2.1
    · rw [k34, z34 1 (by decide)]; exact hJ.2.2.2.2.1.2.1
    · rw [k0 1 (by decide) (by decide)]; exact hJ.2.2.2.2.1.2.2.1
    · rw [k1 1 (by decide) (by decide) (by decide) (by decide), k1 35 (by decide) (by decide) (by decide) (by decide)]; exact hJ.2.2.2.2.1.2.2.2 j hj
    · by_cases e : i = m
      · subst e
        refine ⟨fun s hs => by rw [k73, z73m s hs, k17m s hs]; exact hH.2.2.2 s hs, fun s hs => by rw [k17m s (by omega)]; exact hM.1.2.2.2.1 s hs⟩
      · rw [k73, z73 i e, k17 i e]; exact hIm i (by omega)
    · rw [k34, z34 2 (by decide), k0 3 (by decide) (by decide)]; exact hJ.2.2.2.2.2.2
theorem jd_restore (σ : sMem) (hJ : JR σ) : JD l D b0 ty ad av mX8_restore mX9_restore [] σ := by
  obtain ⟨v, N, P, S, G, T, m, hJ⟩ := hJ
  have hH := hJ.2.1
  have hT := hJ.2.2.1
  have hM := hH.2.2.1
  have hN := hM.1.1.1.1
  have hP10 := hM.1.1.2.2.2.1.2
  have hS8 := hM.1.1.2.2.2.2.1.2
  have hzM : ∀ z : sMem, (∀ i, i < 74 → z i = σ i) → MJ z N P S G := fun z hz => hM.1.cg (fun a ha => hz a (by omega))
  have hzI : ∀ z : sMem, (∀ i, i < 74 → z i = σ i) → MI z N P S G := fun z hz => hM.cg (fun a ha => hz a (by omega))
  have hzS : ∀ z : sMem, (∀ i, i < 74 → z i = σ i) → SM σ (sUp z 0 0 0 0) G := fun z hz => (SM.low (fun a ha => hz a (by omega))).trans (SM.z0 0 0 ⟨by decide, by decide, by decide⟩)
  obtain ⟨hm3, e7, e25, hIm⟩ := hJ.2.2.2.2.2.1
  cases m with
  | zero =>
    refine JD_ok hJ (A := -1) (y_of_s (c8_restore_no 201 σ e7)) (fun r σ' h => ⟨h.1, fun i hi => by rw [h.2]⟩) (fun z hz => R9.s (c9_restore 201 z 0 (by rw [hz 0 (by decide)]; exact e25) (by decide)) (fun r σ' h => ⟨(h.1 rfl).1, by rw [(h.1 rfl).2]; exact KP.rfl'⟩))
  | succ n =>
    refine ⟨_, c8_restore_ok 200 σ n (by omega) e7, ?_⟩
    rintro r σ1 ⟨rfl, w, rfl, h1⟩
    refine ⟨_, rfl, ?_⟩
    have hz : ∀ i, i ≠ 34 → i ≠ 72 → σ1 i = σ i := fun i a b => by rw [h1, sRow_off b, sUp_off a]
    have z34 : ∀ k, k ≠ 7 → σ1 34 0 k = σ 34 0 k := fun k hk => by rw [h1, sRow_off (by decide), sUp_k hk]
    have z7 : σ1 34 0 7 = nI n := by rw [h1, sRow_off (by decide), sUp_at]
    have z72 : ∀ s, s < 8 → σ1 72 0 s = σ 73 n s := fun s hs => by rw [h1, sRow_at, cpy8 _ _ hs, sUp_off (by decide)]
    clear h1
    refine R9.s (c9_restore 201 σ1 (n + 1) (by rw [hz 0 (by decide) (by decide)]; exact e25) hm3) (fun r σ' h => ?_)
    obtain ⟨hr, hs⟩ := h.2 n rfl
    refine ⟨hr, ?_⟩
    obtain ⟨i1, i3⟩ := reM_at (sUp (sUp σ1 0 0 0 0) 0 0 25 (nI n)) n
    have k1 : ∀ i, i ≠ 0 → i ≠ 16 → i ≠ 34 → i ≠ 72 → σ' i = σ i := fun i a b c d => by rw [hs, i1 i b, sUp_off a, sUp_off a]; exact hz i c d
    have k34 : σ' 34 = σ1 34 := by rw [hs, i1 34 (by decide), sUp_off (by decide), sUp_off (by decide)]
    have k72 : σ' 72 = σ1 72 := by rw [hs, i1 72 (by decide), sUp_off (by decide), sUp_off (by decide)]
    have k0 : ∀ k, k ≠ 0 → k ≠ 25 → σ' 0 0 k = σ 0 0 k := fun k a b => by rw [hs, i1 0 (by decide), sUp_k b, sUp_k a, hz 0 (by decide) (by decide)]
    have k25 : σ' 0 0 25 = nI n := by rw [hs, i1 0 (by decide), sUp_at]
    have k16 : ∀ s, s < 8 → σ' 16 0 s = σ 17 n s := fun s a => by rw [hs, i3 s a, sUp_off (by decide), sUp_off (by decide), hz 17 (by decide) (by decide)]
    refine ⟨v, N, P, S, G, T, n, hJ.1, hH.new ?_ ?_ (fun a ha => k1 a (by omega) (by omega) (by omega) (by omega)) (fun g j _ => by rw [k1 10 (by decide) (by decide) (by decide) (by decide)]) (fun s hs => ?_) (fun s hs => ?_), ⟨?_, ?_, ?_⟩, ?_, ⟨hJ.2.2.2.2.1.1, ?_, ?_, fun j hj => ?_⟩, ⟨by omega, by rw [k34]; exact z7, k25, fun i hi => ?_⟩, ?_⟩
    · rw [k34, z34 3 (by decide)]; exact hH.1
    · intro i h1 h2; have := hJ.1; exact k1 i (by omega) (by omega) (by omega) (by omega)
    · rw [k16 s (by omega)]; exact (hIm n (by omega)).2 s hs
    · rw [k16 s hs, k72, z72 s hs]; exact (hIm n (by omega)).1 s hs
    · rw [k0 28 (by decide) (by decide)]; exact hT.1
    · rw [k0 29 (by decide) (by decide)]; exact hT.2.1
    · rw [k0 31 (by decide) (by decide)]; exact hT.2.2
    · rw [k34, z34 4 (by decide)]; exact hJ.2.2.2.1
    · rw [k34, z34 1 (by decide)]; exact hJ.2.2.2.2.1.2.1
    · rw [k0 1 (by decide) (by decide)]; exact hJ.2.2.2.2.1.2.2.1
    · rw [k1 1 (by decide) (by decide) (by decide) (by decide), k1 35 (by decide) (by decide) (by decide) (by decide)]; exact hJ.2.2.2.2.1.2.2.2 j hj
    · rw [k1 73 (by decide) (by decide) (by decide) (by decide), k1 17 (by decide) (by decide) (by decide) (by decide)]; exact hIm i (by omega)
    · rw [k34, z34 2 (by decide), k0 3 (by decide) (by decide)]; exact hJ.2.2.2.2.2.2
theorem jw_hand (σ : sMem) (hJ : JR σ) (x n w : Int32) : JW l D b0 ty ad av mX8_hand mX9_hand cd2 [aI x, aI n, aI w] σ := by
  obtain ⟨v, N, P, S, G, T, m, hJ⟩ := hJ
  have hH := hJ.2.1
  have hT := hJ.2.2.1
  have hM := hH.2.2.1
  have hN := hM.1.1.1.1
  have hP10 := hM.1.1.2.2.2.1.2
  have hS8 := hM.1.1.2.2.2.2.1.2
  have hzM : ∀ z : sMem, (∀ i, i < 74 → z i = σ i) → MJ z N P S G := fun z hz => hM.1.cg (fun a ha => hz a (by omega))
  have hzI : ∀ z : sMem, (∀ i, i < 74 → z i = σ i) → MI z N P S G := fun z hz => hM.cg (fun a ha => hz a (by omega))
  have hzS : ∀ z : sMem, (∀ i, i < 74 → z i = σ i) → SM σ (sUp z 0 0 0 0) G := fun z hz => (SM.low (fun a ha => hz a (by omega))).trans (SM.z0 0 0 ⟨by decide, by decide, by decide⟩)
  by_cases c0 : 0 ≤ x ∧ x ≤ nI S - 1
  rotate_left
  · have h8 : yMet l D b0 ty ad av lay 200 1 mX8_hand [aR 34, aI x, aI n, aI w] σ (fun _ _ => False) (fun e σ' => e = yNSE ∧ σ' = σ) := by
      rcases hJ.1 with e | e
      · subst e
        exact c8_hand_36_x0 193 σ σ N P S G hH x n w c0
      · subst e
        exact c8_hand_54_x0 193 σ σ N P S G hH x n w c0
    exact JW_x hJ (E := yNSE) (k := 1) (by decide +kernel) (by decide) h8 (R9.s (c9_hand 196 σ N P S G hM.1 (x) (n) (w) (MC_of hM) hT.1) (fun r σ' h => h.2.1 c0))
  by_cases c1 : 0 ≤ n ∧ n ≤ 2
  rotate_left
  · have h8 : yMet l D b0 ty ad av lay 200 1 mX8_hand [aR 34, aI x, aI n, aI w] σ (fun _ _ => False) (fun e σ' => e = yIAE ∧ σ' = σ) := by
      rcases hJ.1 with e | e
      · subst e
        exact c8_hand_36_x1 193 σ σ N P S G hH x n w c0 c1
      · subst e
        exact c8_hand_54_x1 193 σ σ N P S G hH x n w c0 c1
    exact JW_x hJ (E := yIAE) (k := 2) (by decide +kernel) (by decide) h8 (R9.s (c9_hand 196 σ N P S G hM.1 (x) (n) (w) (MC_of hM) hT.1) (fun r σ' h => h.2.2 c0 (fun q => c1 q.1)))
  obtain ⟨k, rfl, hk⟩ := in_le (m := 2) (by decide) rfl c1
  by_cases c2 : 0 ≤ w ∧ w ≤ 1
  rotate_left
  · have h8 : yMet l D b0 ty ad av lay 200 1 mX8_hand [aR 34, aI x, aI (nI k), aI w] σ (fun _ _ => False) (fun e σ' => e = yIAE ∧ σ' = σ) := by
      rcases hJ.1 with e | e
      · subst e
        exact c8_hand_36_x2 193 σ σ N P S G hH x w k c0 hk c2
      · subst e
        exact c8_hand_54_x2 193 σ σ N P S G hH x w k c0 hk c2
    exact JW_x hJ (E := yIAE) (k := 2) (by decide +kernel) (by decide) h8 (R9.s (c9_hand 196 σ N P S G hM.1 (x) ((nI k)) (w) (MC_of hM) hT.1) (fun r σ' h => h.2.2 c0 (fun q => c2 q.2)))
  obtain ⟨q, rfl, hq⟩ := in_nI (n := S) (by omega) c0
  obtain ⟨u, rfl, hu⟩ := in_le (m := 1) (by decide) rfl c2
  have h8 : yMet l D b0 ty ad av lay 200 0 mX8_hand [aR 34, aI (nI q), aI (nI k), aI (nI u)] σ (fun r σ' => (∀ i, i ≠ 94 → i ≠ 95 → σ' i = σ i) ∧ ∃ B, LU none (hdN σ P (sY σ q) (k + 1) (sX σ q) (sT σ q) 0 0) B ∧ r = [aI (haA B u)]) (fun _ _ => False) := by
    rcases hJ.1 with e | e
    · subst e
      exact c8_hand_36_ok 193 σ σ N P S G hH q k u hq hk hu
    · subst e
      exact c8_hand_54_ok 193 σ σ N P S G hH q k u hq hk hu
  refine ⟨0, _, _, by decide, h8, ?_, fun _ _ h => h.elim, ?_, fun _ _ _ h => h.elim⟩
  · rintro r σ' ⟨-, B, -, hr⟩
    exact ⟨_, hr⟩
  rintro a σ1 ⟨hf, B, hB, hr⟩
  have ha : a = haA B u := by simpa using hr
  subst ha
  have hz : ∀ i, i < 74 → sUp σ1 100 0 0 (haA B u) i = σ i := fun i hi => by rw [sUp_off (by omega)]; exact hf i (by omega) (by omega)
  have z100 : sUp σ1 100 0 0 (haA B u) 100 0 0 = haA B u := sUp_at _ _ _ _ _
  generalize sUp σ1 100 0 0 (haA B u) = z at hz z100
  refine R9.s (c9_hand 196 z N P S G (hzM z hz) (nI q) (nI k) (nI u) (MC_of (hzI z hz)) (by rw [hz 0 (by decide)]; exact hT.1)) (fun r σ' h => ?_)
  obtain ⟨hk9, B', hB', hr'⟩ := h.1 c0 ⟨c1, c2⟩
  rw [nI_clamp (by omega), nI_clamp (by omega), hdN_cg (hz 6 (by decide)) (hz 14 (by decide)) (hz 15 (by decide))] at hB'
  have e8 : z 8 = σ 8 := hz 8 (by decide)
  unfold sX sY sT at hB hB'
  rw [e8] at hB'
  have hBB := LU_uq hB hB'
  subst hBB
  refine ⟨?_, ?_, ?_, v, N, P, S, G, T, m, hJ.keep (KJ.of hz hk9)⟩
  · rw [hr']
    rcases (show u = 0 ∨ u = 1 by omega) with rfl | rfl
    · rw [if_pos (show nI 0 = 0 from rfl)]
    · rw [if_neg (show ¬ nI 1 = 0 by decide)]
  · rw [hk9.2.2 0 (by decide) (by decide) (by decide) (by decide), sUp_at]
  · rw [hk9.1 100 (by decide) (by decide) (by decide), sUp_off (by decide)]; exact z100
end
