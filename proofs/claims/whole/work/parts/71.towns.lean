/-! THE CLASS: other towns, lots -/
section
variable {l : Launch} {D0 : va_G} {b0 : Nat} {ty : Nat → ClassId} {ad av : Nat → Nat}
theorem c8_saves_36_x0 (d : Nat) (σ t : sMem) (N P S G : Nat) (h : HR σ t 36 N P S G) (x : Int32) (h0 : ¬ (0 ≤ x ∧ x ≤ nI N - 1)) : yMet l D0 b0 ty ad av lay (d + 7) 1 mX8_saves [aR 34, aI (x)] σ (fun _ _ => False) (fun e σ' => e = yIOE ∧ σ' = σ) := by
  refine yMet_intro lay_nd kX8_saves xX8_ok (yY8_ok _) (by decide +kernel) rfl ?_
  intro K hK
  have hN := h.2.2.1.1.1.1.1
  have hP := h.2.2.1.1.1.2.2.2.1.2
  have hS8 := h.2.2.1.1.1.2.2.2.2.1.2
  iterate 3 refine hK _ _ _ _ _ ?_
  refine Or.inr (Or.inr ⟨0, 1, rfl, yDX (c8_checkPlace_36_x _ _ N (by omega) h.1 h.2.1.1 x h0) (fun _ _ h => h.elim) ?_⟩)
  exact fun e σ' h => h
theorem c8_saves_36_ok (d : Nat) (σ t : sMem) (N P S G : Nat) (h : HR σ t 36 N P S G) (hT : HT t) (p : Nat) (hp : p < N) : yMet l D0 b0 ty ad av lay (d + 7) 0 mX8_saves [aR 34, aI (nI p)] σ (fun r σ' => r = [aI (cFi t P S G - cSg t P S G p)] ∧ FR σ σ') (fun _ _ => False) := by
  refine yMet_intro lay_nd kX8_saves xX8_ok (yY8_ok _) (by decide +kernel) rfl ?_
  intro K hK
  have hN := h.2.2.1.1.1.1.1
  have hP := h.2.2.1.1.1.2.2.2.1.2
  have hS8 := h.2.2.1.1.1.2.2.2.2.1.2
  iterate 3 refine hK _ _ _ _ _ ?_
  refine Or.inl (calD (c8_checkPlace_36_ok _ _ N (by omega) h.1 h.2.1.1 (nI p) (nI_isIn (by omega) hp)) ?_)
  rintro r σ' ⟨rfl, hσ⟩
  subst σ'
  iterate 2 refine hK _ _ _ _ _ ?_
  refine Or.inr (Or.inl (yD0 (c8_costByFirst_36 _ σ t (uP t) N P S G h (uP_0 hT h.2.2.1)) ?_))
  rintro r y ⟨rfl, hG_y, hf_y⟩
  iterate 3 refine hK _ _ _ _ _ ?_
  have hy := h.cg (Or.inl rfl) hf_y
  refine Or.inr (Or.inl (yD0 (c8_costWithSign_36 _ y t (uP (sUp t 0 0 29 (nI (p)))) N P S G hy (p) hp (uP_s hT h.2.2.1 (p))) ?_))
  rintro r z ⟨rfl, hG_z, hf_z⟩
  iterate 2 refine hK _ _ _ _ _ ?_
  exact ⟨rfl, fun i hi => (hf_z i hi).trans (hf_y i hi)⟩
theorem c8_which_36_ok (d : Nat) (σ t : sMem) (N P S G : Nat) (h : HR σ t 36 N P S G) (hT : HT t) : yMet l D0 b0 ty ad av lay (d + 7) 0 mX8_which [aR 34] σ (fun r σ' => r = [aI (nI (whL (cSg t P S G) (N - 1) 1 0))] ∧ FR σ σ') (fun _ _ => False) := by
  refine yMet_intro lay_nd kX8_which xX8_ok (yY8_ok _) (by decide +kernel) rfl ?_
  intro K hK
  have hN := h.2.2.1.1.1.1.1
  have hP := h.2.2.1.1.1.2.2.2.1.2
  have hS8 := h.2.2.1.1.1.2.2.2.2.1.2
  have hN2 := h.2.2.1.1.1.2.1
  iterate 5 refine hK _ _ _ _ _ ?_
  refine Or.inr (Or.inl (yD0 (c8_costWithSign_36 _ σ t (uP (sUp t 0 0 29 (nI (0)))) N P S G h (0) (by omega) (uP_s hT h.2.2.1 (0))) ?_))
  rintro r y ⟨rfl, hG_y, hf_y⟩
  generalize hZ : whL (cSg t P S G) (N - 1) 1 0 = Z at hK
  iterate 3 refine hK _ _ _ _ _ ?_
  have L : ∀ (f : Nat) (p b : Nat) (μ : sMem) (e4 : Option AV), p + f = N → b < N → FR σ μ → whL (cSg t P S G) f p b = Z → K 0 10 [some (aR 34), some (aI (nI b)), some (aI ((cSg t P S G) b)), some (aI (nI p)), e4] [] μ := by
    intro f
    induction f with
    | zero =>
      intro p b μ e4 hp hb hμ hz
      have hm := h.cg (Or.inl rfl) hμ
      have m3 := hm.1
      have m1 := hm.2.1.1
      iterate 3 refine hK _ _ _ _ _ ?_
      show K _ _ _ _ _
      rw [show μ 34 0 3 = nI 36 from m3]
      show K _ _ _ _ _
      rw [show (nI 36).toNatClampNeg = 36 from rfl]
      iterate 2 refine hK _ _ _ _ _ ?_
      show K _ _ _ _ _
      rw [show μ 37 0 0 = nI N from m1]
      refine hK _ _ _ _ _ ?_
      refine And.intro (fun _ => ?_) (fun h9 => absurd ((nI_leI (by omega) (by omega)).mpr (by omega)) h9)
      iterate 2 refine hK _ _ _ _ _ ?_
      exact ⟨by rw [← hz]; rfl, hμ⟩
    | succ f ih =>
      intro p b μ e4 hp hb hμ hz
      have hm := h.cg (Or.inl rfl) hμ
      have m3 := hm.1
      have m1 := hm.2.1.1
      iterate 3 refine hK _ _ _ _ _ ?_
      show K _ _ _ _ _
      rw [show μ 34 0 3 = nI 36 from m3]
      show K _ _ _ _ _
      rw [show (nI 36).toNatClampNeg = 36 from rfl]
      iterate 2 refine hK _ _ _ _ _ ?_
      show K _ _ _ _ _
      rw [show μ 37 0 0 = nI N from m1]
      refine hK _ _ _ _ _ ?_
      refine And.intro (fun h9 => absurd ((nI_leI (by omega) (by omega)).mp h9) (by omega)) (fun _ => ?_)
      iterate 3 refine hK _ _ _ _ _ ?_
      refine Or.inr (Or.inl (yD0 (c8_costWithSign_36 _ μ t (uP (sUp t 0 0 29 (nI (p)))) N P S G hm (p) (by omega) (uP_s hT h.2.2.1 (p))) ?_))
      rintro r x ⟨rfl, hG_x, hf_x⟩
      iterate 4 refine hK _ _ _ _ _ ?_
      refine And.intro (fun h8 => ?_) (fun h8 => ?_)
      · have hz2 : whL (cSg t P S G) f (p + 1) (if (cSg t P S G) p < (cSg t P S G) b then p else b) = Z := hz
        have h7 : (cSg t P S G) b ≤ (cSg t P S G) p := h8
        rw [if_neg (Int32.not_lt.mpr h7)] at hz2
        refine hK _ _ _ _ _ ?_
        show K _ _ _ _ _
        rw [show nI p + Int32.ofInt 1 = nI (p + 1) from nIs _]
        refine hK _ _ _ _ _ ?_
        exact ih (p + 1) b x _ (by omega) hb (fun i hi => (hf_x i hi).trans (hμ i hi)) hz2
      · have hz2 : whL (cSg t P S G) f (p + 1) (if (cSg t P S G) p < (cSg t P S G) b then p else b) = Z := hz
        have h7 : ¬ (cSg t P S G) b ≤ (cSg t P S G) p := h8
        rw [if_pos (Int32.not_le.mp h7)] at hz2
        iterate 5 refine hK _ _ _ _ _ ?_
        show K _ _ _ _ _
        rw [show nI p + Int32.ofInt 1 = nI (p + 1) from nIs _]
        refine hK _ _ _ _ _ ?_
        exact ih (p + 1) p x _ (by omega) (by omega) (fun i hi => (hf_x i hi).trans (hμ i hi)) hz2
  exact L ((N - 1)) 1 0 y none (by omega) (by omega) hf_y hZ
theorem c8_other_36_ok (d : Nat) (σ t : sMem) (N P S G : Nat) (h : HR σ t 36 N P S G) (hT : HT t) : yMet l D0 b0 ty ad av lay (d + 7) 0 mX8_other [aR 34] σ (fun r σ' => r = [aI (nI (whL (cLw t P S G) 9 1 0))] ∧ FR σ σ') (fun _ _ => False) := by
  refine yMet_intro lay_nd kX8_other xX8_ok (yY8_ok _) (by decide +kernel) rfl ?_
  intro K hK
  have hN := h.2.2.1.1.1.1.1
  have hP := h.2.2.1.1.1.2.2.2.1.2
  have hS8 := h.2.2.1.1.1.2.2.2.2.1.2
  have hN2 := h.2.2.1.1.1.2.1
  iterate 5 refine hK _ _ _ _ _ ?_
  refine Or.inr (Or.inl (yD0 (c8_costWithLaw_36 _ σ t (sUp t 0 0 27 (nI (0))) N P S G h (0) (by omega) (uL_w hT h.2.2.1 (0))) ?_))
  rintro r y ⟨rfl, hG_y, hf_y⟩
  generalize hZ : whL (cLw t P S G) 9 1 0 = Z at hK
  iterate 3 refine hK _ _ _ _ _ ?_
  have L : ∀ (f : Nat) (p b : Nat) (μ : sMem) (e4 : Option AV), p + f = 10 → b < 10 → FR σ μ → whL (cLw t P S G) f p b = Z → K 0 10 [some (aR 34), some (aI (nI b)), some (aI ((cLw t P S G) b)), some (aI (nI p)), e4] [] μ := by
    intro f
    induction f with
    | zero =>
      intro p b μ e4 hp hb hμ hz
      have hm := h.cg (Or.inl rfl) hμ
      have m3 := hm.1
      have m1 := hm.2.1.1
      iterate 3 refine hK _ _ _ _ _ ?_
      refine And.intro (fun _ => ?_) (fun h9 => absurd ((nI_ltI (a := 9) (by decide) (by omega)).mpr (by omega)) h9)
      iterate 2 refine hK _ _ _ _ _ ?_
      exact ⟨by rw [← hz]; rfl, hμ⟩
    | succ f ih =>
      intro p b μ e4 hp hb hμ hz
      have hm := h.cg (Or.inl rfl) hμ
      have m3 := hm.1
      have m1 := hm.2.1.1
      iterate 3 refine hK _ _ _ _ _ ?_
      refine And.intro (fun h9 => absurd ((nI_ltI (a := 9) (by decide) (by omega)).mp h9) (by omega)) (fun _ => ?_)
      iterate 3 refine hK _ _ _ _ _ ?_
      refine Or.inr (Or.inl (yD0 (c8_costWithLaw_36 _ μ t (sUp t 0 0 27 (nI (p))) N P S G hm (p) (by omega) (uL_w hT h.2.2.1 (p))) ?_))
      rintro r x ⟨rfl, hG_x, hf_x⟩
      iterate 4 refine hK _ _ _ _ _ ?_
      refine And.intro (fun h8 => ?_) (fun h8 => ?_)
      · have hz2 : whL (cLw t P S G) f (p + 1) (if (cLw t P S G) p < (cLw t P S G) b then p else b) = Z := hz
        have h7 : (cLw t P S G) b ≤ (cLw t P S G) p := h8
        rw [if_neg (Int32.not_lt.mpr h7)] at hz2
        refine hK _ _ _ _ _ ?_
        show K _ _ _ _ _
        rw [show nI p + Int32.ofInt 1 = nI (p + 1) from nIs _]
        refine hK _ _ _ _ _ ?_
        exact ih (p + 1) b x _ (by omega) hb (fun i hi => (hf_x i hi).trans (hμ i hi)) hz2
      · have hz2 : whL (cLw t P S G) f (p + 1) (if (cLw t P S G) p < (cLw t P S G) b then p else b) = Z := hz
        have h7 : ¬ (cLw t P S G) b ≤ (cLw t P S G) p := h8
        rw [if_pos (Int32.not_le.mp h7)] at hz2
        iterate 5 refine hK _ _ _ _ _ ?_
        show K _ _ _ _ _
        rw [show nI p + Int32.ofInt 1 = nI (p + 1) from nIs _]
        refine hK _ _ _ _ _ ?_
        exact ih (p + 1) p x _ (by omega) (by omega) (fun i hi => (hf_x i hi).trans (hμ i hi)) hz2
  exact L (9) 1 0 y none (by omega) (by omega) hf_y hZ
theorem c8_where_36_x0 (d : Nat) (σ t : sMem) (N P S G : Nat) (h : HR σ t 36 N P S G) (x w : Int32) (h0 : ¬ (0 ≤ x ∧ x ≤ 9)) : yMet l D0 b0 ty ad av lay (d + 7) 1 mX8_where [aR 34, aI (x), aI (w)] σ (fun _ _ => False) (fun e σ' => e = yIAE ∧ σ' = σ) := by
  refine yMet_intro lay_nd kX8_where xX8_ok (yY8_ok _) (by decide +kernel) rfl ?_
  intro K hK
  have hN := h.2.2.1.1.1.1.1
  have hP := h.2.2.1.1.1.2.2.2.1.2
  have hS8 := h.2.2.1.1.1.2.2.2.2.1.2
  iterate 2 refine hK _ _ _ _ _ ?_
  refine Or.inr (Or.inr ⟨0, 1, rfl, yDX (c8_checkFee_x _ _ x h0) (fun _ _ h => h.elim) ?_⟩)
  exact fun e σ' h => h
theorem c8_where_36_x1 (d : Nat) (σ t : sMem) (N P S G : Nat) (h : HR σ t 36 N P S G) (x w : Int32) (h0 : 0 ≤ x ∧ x ≤ 9) (h1 : ¬ (0 ≤ w ∧ w ≤ nI 2 - 1)) : yMet l D0 b0 ty ad av lay (d + 7) 1 mX8_where [aR 34, aI (x), aI (w)] σ (fun _ _ => False) (fun e σ' => e = yIAE ∧ σ' = σ) := by
  refine yMet_intro lay_nd kX8_where xX8_ok (yY8_ok _) (by decide +kernel) rfl ?_
  intro K hK
  have hN := h.2.2.1.1.1.1.1
  have hP := h.2.2.1.1.1.2.2.2.1.2
  have hS8 := h.2.2.1.1.1.2.2.2.2.1.2
  iterate 2 refine hK _ _ _ _ _ ?_
  refine Or.inl (calD (c8_checkFee_ok _ _ x h0) ?_)
  rintro r σ' ⟨rfl, hσ⟩
  subst σ'
  iterate 3 refine hK _ _ _ _ _ ?_
  refine Or.inr (Or.inr ⟨0, 1, rfl, yDX (c8_checkBelow_x _ _ 2 (by decide) w h1) (fun _ _ h => h.elim) ?_⟩)
  exact fun e σ' h => h
theorem c8_where_36_ok (d : Nat) (σ t : sMem) (N P S G : Nat) (h : HR σ t 36 N P S G) (hT : HT t) (fee w : Nat) (hfee : fee ≤ 9) (hw : w ≤ 1) : yMet l D0 b0 ty ad av lay (d + 7) 0 mX8_where [aR 34, aI (nI fee), aI (nI w)] σ (fun r σ' => r = [aI (if nI w = 0 then nI (whL (fun p => cG1 t P S G p fee) (N - 1) 1 0) else (fun p => cG1 t P S G p fee) (whL (fun p => cG1 t P S G p fee) (N - 1) 1 0))] ∧ FR σ σ') (fun _ _ => False) := by
  refine yMet_intro lay_nd kX8_where xX8_ok (yY8_ok _) (by decide +kernel) rfl ?_
  intro K hK
  have hN := h.2.2.1.1.1.1.1
  have hP := h.2.2.1.1.1.2.2.2.1.2
  have hS8 := h.2.2.1.1.1.2.2.2.2.1.2
  have hN2 := h.2.2.1.1.1.2.1
  iterate 2 refine hK _ _ _ _ _ ?_
  refine Or.inl (calD (c8_checkFee_ok _ _ (nI fee) (nI_isIn (n := 10) (by decide) (by omega))) ?_)
  rintro r σ' ⟨rfl, hσ⟩
  subst σ'
  iterate 3 refine hK _ _ _ _ _ ?_
  refine Or.inl (calD (c8_checkBelow_ok _ _ 2 (by decide) (nI w) (nI_isIn (n := 2) (by decide) (by omega))) ?_)
  rintro r σ' ⟨rfl, hσ⟩
  subst σ'
  iterate 6 refine hK _ _ _ _ _ ?_
  refine Or.inr (Or.inl (yD0 (c8_costWithGuide_36 _ σ t (uG1 t G (0) fee) N P S G h (0) fee (uG_1 hT h.2.2.1 (a := 0) (by omega) hfee).1 (uG_1 hT h.2.2.1 (a := 0) (by omega) hfee).2.1 (uG_1 hT h.2.2.1 (a := 0) (by omega) hfee).2.2) ?_))
  rintro r y ⟨rfl, hG_y, hf_y⟩
  generalize hZ : whL (fun p => cG1 t P S G p fee) (N - 1) 1 0 = Z at hK
  iterate 3 refine hK _ _ _ _ _ ?_
  have L : ∀ (f : Nat) (p b : Nat) (μ : sMem) (e4 : Option AV), p + f = N → b < N → FR σ μ → whL (fun p => cG1 t P S G p fee) f p b = Z → K 0 22 [some (aR 34), some (aI (nI fee)), some (aI (nI w)), some (aI (nI b)), some (aI ((fun p => cG1 t P S G p fee) b)), some (aI (nI p)), e4] [] μ := by
    intro f
    induction f with
    | zero =>
      intro p b μ e4 hp hb hμ hz
      have hm := h.cg (Or.inl rfl) hμ
      have m3 := hm.1
      have m1 := hm.2.1.1
      iterate 3 refine hK _ _ _ _ _ ?_
      show K _ _ _ _ _
      rw [show μ 34 0 3 = nI 36 from m3]
      show K _ _ _ _ _
      rw [show (nI 36).toNatClampNeg = 36 from rfl]
      iterate 2 refine hK _ _ _ _ _ ?_
      show K _ _ _ _ _
      rw [show μ 37 0 0 = nI N from m1]
      refine hK _ _ _ _ _ ?_
      refine And.intro (fun _ => ?_) (fun h9 => absurd ((nI_leI (by omega) (by omega)).mpr (by omega)) h9)
      iterate 2 refine hK _ _ _ _ _ ?_
      refine And.intro (fun h7 => ?_) (fun h7 => ?_)
      · iterate 2 refine hK _ _ _ _ _ ?_
        exact ⟨by rw [← hz, if_neg h7]; rfl, hμ⟩
      · iterate 3 refine hK _ _ _ _ _ ?_
        exact ⟨by rw [← hz, if_pos h7]; rfl, hμ⟩
    | succ f ih =>
      intro p b μ e4 hp hb hμ hz
      have hm := h.cg (Or.inl rfl) hμ
      have m3 := hm.1
      have m1 := hm.2.1.1
      iterate 3 refine hK _ _ _ _ _ ?_
      show K _ _ _ _ _
      rw [show μ 34 0 3 = nI 36 from m3]
      show K _ _ _ _ _
      rw [show (nI 36).toNatClampNeg = 36 from rfl]
      iterate 2 refine hK _ _ _ _ _ ?_
      show K _ _ _ _ _
      rw [show μ 37 0 0 = nI N from m1]
      refine hK _ _ _ _ _ ?_
      refine And.intro (fun h9 => absurd ((nI_leI (by omega) (by omega)).mp h9) (by omega)) (fun _ => ?_)
      iterate 4 refine hK _ _ _ _ _ ?_
      refine Or.inr (Or.inl (yD0 (c8_costWithGuide_36 _ μ t (uG1 t G (p) fee) N P S G hm (p) fee (uG_1 hT h.2.2.1 (a := p) (by omega) hfee).1 (uG_1 hT h.2.2.1 (a := p) (by omega) hfee).2.1 (uG_1 hT h.2.2.1 (a := p) (by omega) hfee).2.2) ?_))
      rintro r x ⟨rfl, hG_x, hf_x⟩
      iterate 4 refine hK _ _ _ _ _ ?_
      refine And.intro (fun h8 => ?_) (fun h8 => ?_)
      · have hz2 : whL (fun p => cG1 t P S G p fee) f (p + 1) (if (fun p => cG1 t P S G p fee) p < (fun p => cG1 t P S G p fee) b then p else b) = Z := hz
        have h7 : (fun p => cG1 t P S G p fee) b ≤ (fun p => cG1 t P S G p fee) p := h8
        rw [if_neg (Int32.not_lt.mpr h7)] at hz2
        refine hK _ _ _ _ _ ?_
        show K _ _ _ _ _
        rw [show nI p + Int32.ofInt 1 = nI (p + 1) from nIs _]
        refine hK _ _ _ _ _ ?_
        exact ih (p + 1) b x _ (by omega) hb (fun i hi => (hf_x i hi).trans (hμ i hi)) hz2
      · have hz2 : whL (fun p => cG1 t P S G p fee) f (p + 1) (if (fun p => cG1 t P S G p fee) p < (fun p => cG1 t P S G p fee) b then p else b) = Z := hz
        have h7 : ¬ (fun p => cG1 t P S G p fee) b ≤ (fun p => cG1 t P S G p fee) p := h8
        rw [if_pos (Int32.not_le.mp h7)] at hz2
        iterate 5 refine hK _ _ _ _ _ ?_
        show K _ _ _ _ _
        rw [show nI p + Int32.ofInt 1 = nI (p + 1) from nIs _]
        refine hK _ _ _ _ _ ?_
        exact ih (p + 1) p x _ (by omega) (by omega) (fun i hi => (hf_x i hi).trans (hμ i hi)) hz2
  exact L ((N - 1)) 1 0 y none (by omega) (by omega) hf_y hZ
theorem c8_corner_36_x0 (d : Nat) (σ t : sMem) (N P S G : Nat) (h : HR σ t 36 N P S G) (x : Int32) (h0 : ¬ (0 ≤ x ∧ x ≤ 9)) : yMet l D0 b0 ty ad av lay (d + 7) 1 mX8_corner [aR 34, aI (x)] σ (fun _ _ => False) (fun e σ' => e = yIAE ∧ σ' = σ) := by
  refine yMet_intro lay_nd kX8_corner xX8_ok (yYX8_corner_ok) (by decide +kernel) rfl ?_
  intro K hK
  iterate 2 refine hK _ _ _ _ _ ?_
  refine And.intro (fun h9 => ?_) (fun h9 => ?_)
  · refine hK _ _ _ _ _ ?_
    exact ⟨0, rfl, rfl, rfl⟩
  · iterate 3 refine hK _ _ _ _ _ ?_
    refine And.intro (fun h8 => absurd ⟨Int32.not_lt.mp h9, h8⟩ h0) (fun _ => ?_)
    refine hK _ _ _ _ _ ?_
    exact ⟨0, rfl, rfl, rfl⟩
theorem c8_corner_36_ok (d : Nat) (σ t : sMem) (N P S G : Nat) (h : HR σ t 36 N P S G) (hT : HT t) (k : Nat) (hk : k ≤ 9) : yMet l D0 b0 ty ad av lay (d + 7) 0 mX8_corner [aR 34, aI (nI k)] σ (fun r σ' => r = [aI (cLw t P S G k)] ∧ FR σ σ') (fun _ _ => False) := by
  refine yMet_intro lay_nd kX8_corner xX8_ok (yYX8_corner_ok) (by decide +kernel) rfl ?_
  intro K hK
  have hk9 := nI_isIn (n := 10) (by decide) (show k < 10 by omega)
  iterate 2 refine hK _ _ _ _ _ ?_
  refine And.intro (fun h9 => absurd h9 (Int32.not_lt.mpr hk9.1)) (fun _ => ?_)
  iterate 3 refine hK _ _ _ _ _ ?_
  refine And.intro (fun _ => ?_) (fun h9 => absurd hk9.2 h9)
  iterate 3 refine hK _ _ _ _ _ ?_
  refine Or.inr (Or.inl (yD0 (c8_costWithLaw_36 _ σ t (sUp t 0 0 27 (nI (k))) N P S G h (k) (by omega) (uL_w hT h.2.2.1 (k))) ?_))
  rintro r y ⟨rfl, hG_y, hf_y⟩
  refine hK _ _ _ _ _ ?_
  exact ⟨rfl, hf_y⟩
theorem c8_rest_36_x0 (d : Nat) (σ t : sMem) (N P S G : Nat) (h : HR σ t 36 N P S G) (x : Int32) (h0 : ¬ (0 ≤ x ∧ x ≤ nI P - 1)) : yMet l D0 b0 ty ad av lay (d + 7) 1 mX8_rest [aR 34, aI (x)] σ (fun _ _ => False) (fun e σ' => e = yNSE ∧ σ' = σ) := by
  refine yMet_intro lay_nd kX8_rest xX8_ok (yY8_ok _) (by decide +kernel) rfl ?_
  intro K hK
  have hN := h.2.2.1.1.1.1.1
  have hP := h.2.2.1.1.1.2.2.2.1.2
  have hS8 := h.2.2.1.1.1.2.2.2.2.1.2
  iterate 3 refine hK _ _ _ _ _ ?_
  refine Or.inr (Or.inr ⟨0, 1, rfl, yDX (c8_checkPerson_36_x _ _ P (by omega) h.1 h.2.1.2.1 x h0) (fun _ _ h => h.elim) ?_⟩)
  exact fun e σ' h => h
theorem c8_rest_36_ok (d : Nat) (σ t : sMem) (N P S G : Nat) (h : HR σ t 36 N P S G) (hT : HT t) (p : Nat) (hp : p < P) : yMet l D0 b0 ty ad av lay (d + 7) 0 mX8_rest [aR 34, aI (nI p)] σ (fun r σ' => r = [aI ((cFi t P S G - nI (losP (cP t G) (daA (cP t G) aT P G S 0) p)) - cRe t P S G p)] ∧ FR σ σ') (fun _ _ => False) := by
  refine yMet_intro lay_nd kX8_rest xX8_ok (yY8_ok _) (by decide +kernel) rfl ?_
  intro K hK
  have hN := h.2.2.1.1.1.1.1
  have hP := h.2.2.1.1.1.2.2.2.1.2
  have hS8 := h.2.2.1.1.1.2.2.2.2.1.2
  iterate 3 refine hK _ _ _ _ _ ?_
  refine Or.inl (calD (c8_checkPerson_36_ok _ _ P (by omega) h.1 h.2.1.2.1 (nI p) (nI_isIn (by omega) hp)) ?_)
  rintro r σ' ⟨rfl, hσ⟩
  subst σ'
  iterate 3 refine hK _ _ _ _ _ ?_
  refine Or.inr (Or.inl (yD0 (c8_goThrough_36 _ σ t (uP t) N P S G h 0 (by omega) (uP_0 hT h.2.2.1)) ?_))
  rintro r y ⟨rfl, hG0, hfr⟩
  have hG : CG y (cP t G) aT 36 0 N P S G (daA (cP t G) aT P G S 0) := hG0
  clear hG0
  obtain ⟨gT, gM, gS, gF, gV, gL, gI⟩ := id hG
  have y3 : y 34 0 3 = nI 36 := by rw [hfr 34 (by omega)]; exact h.1
  iterate 3 refine hK _ _ _ _ _ ?_
  refine Or.inl (calD (c0_cost_36 _ _ _ _ _ N P S G _ hG) ?_)
  rintro r σ' ⟨rfl, hσ⟩
  subst σ'
  iterate 4 refine hK _ _ _ _ _ ?_
  refine Or.inl (calD (c0_lostBy_36 _ _ _ _ _ N P S G _ hG p hp) ?_)
  rintro r σ' ⟨rfl, hσ⟩
  subst σ'
  have hy := h.cg (Or.inl rfl) hfr
  iterate 6 refine hK _ _ _ _ _ ?_
  show K _ _ _ _ _
  generalize hz : sUp y 76 0 7 (nI p) = z
  have hD : DY z (cP (sUp t 0 0 28 (nI p)) G) aT 36 N P S G := hz ▸ DY_again hy (Or.inl rfl) gS (uP_0 hT h.2.2.1) (uP_r hT h.2.2.1 p)
  have hx9 : z 34 0 3 = nI 36 := by rw [← hz, sUp_off (by decide)]; exact y3
  iterate 4 refine hK _ _ _ _ _ ?_
  show K _ _ _ _ _
  rw [show z 34 0 3 = nI 36 from hx9]
  show K _ _ _ _ _
  rw [show (nI 36).toNatClampNeg = 36 from rfl]
  iterate 4 refine hK _ _ _ _ _ ?_
  refine Or.inr (Or.inl (yD0 (c0_run_36 _ _ _ aT 0 N P S G hD.1 hD.2.1 hD.2.2.1 hD.2.2.2 (by omega)) ?_))
  rintro r a ⟨rfl, ha⟩
  iterate 4 refine hK _ _ _ _ _ ?_
  have hG2 := DG_of (σ := y) (x := y) (Or.inl rfl) hD (fun _ _ => rfl) (fun i hi => by rw [← hz, sUp_off (by omega)]) ha
  refine Or.inl (calD (c0_cost_36 _ _ _ _ 0 N P S G _ hG2.1) ?_)
  rintro r σ' ⟨rfl, hσ⟩
  subst σ'
  iterate 2 refine hK _ _ _ _ _ ?_
  exact ⟨rfl, fun i hi => (hG2.2 i hi).trans (hfr i hi)⟩
theorem c8_seed_36_x0 (d : Nat) (σ t : sMem) (N P S G : Nat) (h : HR σ t 36 N P S G) (kd sd w : Int32) (h0 : ¬ (0 ≤ kd ∧ kd ≤ 4)) : yMet l D0 b0 ty ad av lay (d + 7) 1 mX8_seed [aR 34, aI (kd), aI (sd), aI (w)] σ (fun _ _ => False) (fun e σ' => e = yIAE ∧ σ' = σ) := by
  refine yMet_intro lay_nd kX8_seed xX8_ok (yY8_ok _) (by decide +kernel) rfl ?_
  intro K hK
  have hN := h.2.2.1.1.1.1.1
  have hP := h.2.2.1.1.1.2.2.2.1.2
  have hS8 := h.2.2.1.1.1.2.2.2.2.1.2
  iterate 2 refine hK _ _ _ _ _ ?_
  refine Or.inr (Or.inr ⟨0, 1, rfl, yDX (c8_checkKind_x _ _ kd h0) (fun _ _ h => h.elim) ?_⟩)
  exact fun e σ' h => h
theorem c8_seed_36_x1 (d : Nat) (σ t : sMem) (N P S G : Nat) (h : HR σ t 36 N P S G) (kd sd w : Int32) (h0 : 0 ≤ kd ∧ kd ≤ 4) (h1 : ¬ (0 ≤ w ∧ w ≤ nI 3 - 1)) : yMet l D0 b0 ty ad av lay (d + 7) 1 mX8_seed [aR 34, aI (kd), aI (sd), aI (w)] σ (fun _ _ => False) (fun e σ' => e = yIAE ∧ σ' = σ) := by
  refine yMet_intro lay_nd kX8_seed xX8_ok (yY8_ok _) (by decide +kernel) rfl ?_
  intro K hK
  have hN := h.2.2.1.1.1.1.1
  have hP := h.2.2.1.1.1.2.2.2.1.2
  have hS8 := h.2.2.1.1.1.2.2.2.2.1.2
  iterate 2 refine hK _ _ _ _ _ ?_
  refine Or.inl (calD (c8_checkKind_ok _ _ kd h0) ?_)
  rintro r σ' ⟨rfl, hσ⟩
  subst σ'
  iterate 3 refine hK _ _ _ _ _ ?_
  refine Or.inr (Or.inr ⟨0, 1, rfl, yDX (c8_checkBelow_x _ _ 3 (by decide) w h1) (fun _ _ h => h.elim) ?_⟩)
  exact fun e σ' h => h
theorem c8_seed_36_ok (d : Nat) (σ t : sMem) (N P S G : Nat) (h : HR σ t 36 N P S G) (hT : HT t) (kd w : Nat) (sd : Int32) (hk : kd ≤ 4) (hw : w ≤ 2) : yMet l D0 b0 ty ad av lay (d + 7) 0 mX8_seed [aR 34, aI (nI kd), aI (sd), aI (nI w)] σ (fun r σ' => r = [aI (if nI w = 0 then coD (cP (tLo t sd) G) (cmF (uP (tLo t sd))) P S G kd else if nI w = 1 then nI (cnA (lefA (daA (cP (tLo t sd) G) (cmF (uP (tLo t sd))) P G S kd)) S) else nI (cnA (cmF (uP (tLo t sd))) S))] ∧ FR σ σ') (fun _ _ => False) := by
  refine yMet_intro lay_nd kX8_seed xX8_ok (yY8_ok _) (by decide +kernel) rfl ?_
  intro K hK
  have hN := h.2.2.1.1.1.1.1
  have hP := h.2.2.1.1.1.2.2.2.1.2
  have hS8 := h.2.2.1.1.1.2.2.2.2.1.2
  iterate 2 refine hK _ _ _ _ _ ?_
  refine Or.inl (calD (c8_checkKind_ok _ _ (nI kd) (nI_isIn (n := 5) (by decide) (by omega))) ?_)
  rintro r σ' ⟨rfl, hσ⟩
  subst σ'
  iterate 3 refine hK _ _ _ _ _ ?_
  refine Or.inl (calD (c8_checkBelow_ok _ _ 3 (by decide) (nI w) (nI_isIn (n := 3) (by decide) (by omega))) ?_)
  rintro r σ' ⟨rfl, hσ⟩
  subst σ'
  iterate 4 refine hK _ _ _ _ _ ?_
  have e30 : uP (tLo t sd) 0 0 30 = sd := by unfold uP tLo; rw [sUp_k (by decide), sUp_at]
  refine Or.inr (Or.inl (yD0 ((e30 ▸ c8_goThroughByLots_36 _ σ t (uP (tLo t sd)) N P S G h kd hk (by unfold uP tLo; rw [sUp_off (by decide), sUp_off (by decide), sUp_off (by decide)]) (by unfold uP tLo; rw [sUp_k (by decide), sUp_k (by decide), sUp_at]; decide) (uP_l hT h.2.2.1 sd) : yMet l D0 b0 ty ad av lay (d + 6) 0 mX8_goThroughByLots [aR 34, aI (nI kd), aI sd] σ _ _)) ?_))
  rintro r y ⟨rfl, hc, hG, hfr⟩
  iterate 2 refine hK _ _ _ _ _ ?_
  have kt : ∀ i : Nat, (nI w).toInt = (i : Int) → w = i := fun i hi => by rw [nI_toInt (by omega)] at hi; omega
  refine ⟨fun hsw => ?_, fun hsw => ?_, fun hsw => ?_, trivial⟩
  · have e : w = 2 := by
      have h0 : ¬ (nI w).toInt = 0 := hsw.1
      have h1 : ¬ (nI w).toInt = 1 := hsw.2.1
      rw [nI_toInt (by omega)] at h0 h1
      omega
    subst e
    iterate 3 refine hK _ _ _ _ _ ?_
    show K _ _ _ _ _
    rw [show y 76 0 6 = nI (btO (cmF (uP (tLo t sd))) S) from hc]
    refine hK _ _ _ _ _ ?_
    have hbt : bcI (nI (btO (cmF (uP (tLo t sd))) S)) = nI (cnA (cmF (uP (tLo t sd))) S) := by
      have h1 := btO_lt (cmF (uP (tLo t sd))) S
      have h2 : 2 ^ S ≤ 2 ^ 8 := Nat.pow_le_pow_right (by decide) hS8
      rw [bc_num _ (by omega), pop_btO _ S 12 (by omega)]
    refine Or.inl (calD (cJ_bc _ _ _) ?_)
    rintro r σ' ⟨rfl, hσ⟩
    subst σ'
    refine hK _ _ _ _ _ ?_
    exact ⟨by rw [hbt]; rfl, hfr⟩
  · have e := kt 0 hsw
    subst e
    iterate 3 refine hK _ _ _ _ _ ?_
    refine Or.inl (calD (c0_cost_36 _ _ _ _ _ N P S G _ hG) ?_)
    rintro r σ' ⟨rfl, hσ⟩
    subst σ'
    refine hK _ _ _ _ _ ?_
    exact ⟨rfl, hfr⟩
  · have e := kt 1 hsw
    subst e
    iterate 3 refine hK _ _ _ _ _ ?_
    refine Or.inr (Or.inl (yD0 (c0_leftCount_36 _ _ _ _ _ N P S G _ hG) ?_))
    rintro r σ' ⟨rfl, hσ⟩
    subst σ'
    refine hK _ _ _ _ _ ?_
    exact ⟨rfl, hfr⟩
theorem c8_saves_54_x0 (d : Nat) (σ t : sMem) (N P S G : Nat) (h : HR σ t 54 N P S G) (x : Int32) (h0 : ¬ (0 ≤ x ∧ x ≤ nI N - 1)) : yMet l D0 b0 ty ad av lay (d + 7) 1 mX8_saves [aR 34, aI (x)] σ (fun _ _ => False) (fun e σ' => e = yIOE ∧ σ' = σ) := by
  refine yMet_intro lay_nd kX8_saves xX8_ok (yY8_ok _) (by decide +kernel) rfl ?_
  intro K hK
  have hN := h.2.2.1.1.1.1.1
  have hP := h.2.2.1.1.1.2.2.2.1.2
  have hS8 := h.2.2.1.1.1.2.2.2.2.1.2
  iterate 3 refine hK _ _ _ _ _ ?_
  refine Or.inr (Or.inr ⟨0, 1, rfl, yDX (c8_checkPlace_54_x _ _ N (by omega) h.1 h.2.1.1 x h0) (fun _ _ h => h.elim) ?_⟩)
  exact fun e σ' h => h
theorem c8_saves_54_ok (d : Nat) (σ t : sMem) (N P S G : Nat) (h : HR σ t 54 N P S G) (hT : HT t) (p : Nat) (hp : p < N) : yMet l D0 b0 ty ad av lay (d + 7) 0 mX8_saves [aR 34, aI (nI p)] σ (fun r σ' => r = [aI (cFi t P S G - cSg t P S G p)] ∧ FR σ σ') (fun _ _ => False) := by
  refine yMet_intro lay_nd kX8_saves xX8_ok (yY8_ok _) (by decide +kernel) rfl ?_
  intro K hK
  have hN := h.2.2.1.1.1.1.1
  have hP := h.2.2.1.1.1.2.2.2.1.2
  have hS8 := h.2.2.1.1.1.2.2.2.2.1.2
  iterate 3 refine hK _ _ _ _ _ ?_
  refine Or.inl (calD (c8_checkPlace_54_ok _ _ N (by omega) h.1 h.2.1.1 (nI p) (nI_isIn (by omega) hp)) ?_)
  rintro r σ' ⟨rfl, hσ⟩
  subst σ'
  iterate 2 refine hK _ _ _ _ _ ?_
  refine Or.inr (Or.inl (yD0 (c8_costByFirst_54 _ σ t (uP t) N P S G h (uP_0 hT h.2.2.1)) ?_))
  rintro r y ⟨rfl, hG_y, hf_y⟩
  iterate 3 refine hK _ _ _ _ _ ?_
  have hy := h.cg (Or.inr rfl) hf_y
  refine Or.inr (Or.inl (yD0 (c8_costWithSign_54 _ y t (uP (sUp t 0 0 29 (nI (p)))) N P S G hy (p) hp (uP_s hT h.2.2.1 (p))) ?_))
  rintro r z ⟨rfl, hG_z, hf_z⟩
  iterate 2 refine hK _ _ _ _ _ ?_
  exact ⟨rfl, fun i hi => (hf_z i hi).trans (hf_y i hi)⟩
theorem c8_which_54_ok (d : Nat) (σ t : sMem) (N P S G : Nat) (h : HR σ t 54 N P S G) (hT : HT t) : yMet l D0 b0 ty ad av lay (d + 7) 0 mX8_which [aR 34] σ (fun r σ' => r = [aI (nI (whL (cSg t P S G) (N - 1) 1 0))] ∧ FR σ σ') (fun _ _ => False) := by
  refine yMet_intro lay_nd kX8_which xX8_ok (yY8_ok _) (by decide +kernel) rfl ?_
  intro K hK
  have hN := h.2.2.1.1.1.1.1
  have hP := h.2.2.1.1.1.2.2.2.1.2
  have hS8 := h.2.2.1.1.1.2.2.2.2.1.2
  have hN2 := h.2.2.1.1.1.2.1
  iterate 5 refine hK _ _ _ _ _ ?_
  refine Or.inr (Or.inl (yD0 (c8_costWithSign_54 _ σ t (uP (sUp t 0 0 29 (nI (0)))) N P S G h (0) (by omega) (uP_s hT h.2.2.1 (0))) ?_))
  rintro r y ⟨rfl, hG_y, hf_y⟩
  generalize hZ : whL (cSg t P S G) (N - 1) 1 0 = Z at hK
  iterate 3 refine hK _ _ _ _ _ ?_
  have L : ∀ (f : Nat) (p b : Nat) (μ : sMem) (e4 : Option AV), p + f = N → b < N → FR σ μ → whL (cSg t P S G) f p b = Z → K 0 10 [some (aR 34), some (aI (nI b)), some (aI ((cSg t P S G) b)), some (aI (nI p)), e4] [] μ := by
    intro f
    induction f with
    | zero =>
      intro p b μ e4 hp hb hμ hz
      have hm := h.cg (Or.inr rfl) hμ
      have m3 := hm.1
      have m1 := hm.2.1.1
      iterate 3 refine hK _ _ _ _ _ ?_
      show K _ _ _ _ _
      rw [show μ 34 0 3 = nI 54 from m3]
      show K _ _ _ _ _
      rw [show (nI 54).toNatClampNeg = 54 from rfl]
      iterate 2 refine hK _ _ _ _ _ ?_
      show K _ _ _ _ _
      rw [show μ 55 0 0 = nI N from m1]
      refine hK _ _ _ _ _ ?_
      refine And.intro (fun _ => ?_) (fun h9 => absurd ((nI_leI (by omega) (by omega)).mpr (by omega)) h9)
      iterate 2 refine hK _ _ _ _ _ ?_
      exact ⟨by rw [← hz]; rfl, hμ⟩
    | succ f ih =>
      intro p b μ e4 hp hb hμ hz
      have hm := h.cg (Or.inr rfl) hμ
      have m3 := hm.1
      have m1 := hm.2.1.1
      iterate 3 refine hK _ _ _ _ _ ?_
      show K _ _ _ _ _
      rw [show μ 34 0 3 = nI 54 from m3]
      show K _ _ _ _ _
      rw [show (nI 54).toNatClampNeg = 54 from rfl]
      iterate 2 refine hK _ _ _ _ _ ?_
      show K _ _ _ _ _
      rw [show μ 55 0 0 = nI N from m1]
      refine hK _ _ _ _ _ ?_
      refine And.intro (fun h9 => absurd ((nI_leI (by omega) (by omega)).mp h9) (by omega)) (fun _ => ?_)
      iterate 3 refine hK _ _ _ _ _ ?_
      refine Or.inr (Or.inl (yD0 (c8_costWithSign_54 _ μ t (uP (sUp t 0 0 29 (nI (p)))) N P S G hm (p) (by omega) (uP_s hT h.2.2.1 (p))) ?_))
      rintro r x ⟨rfl, hG_x, hf_x⟩
      iterate 4 refine hK _ _ _ _ _ ?_
      refine And.intro (fun h8 => ?_) (fun h8 => ?_)
      · have hz2 : whL (cSg t P S G) f (p + 1) (if (cSg t P S G) p < (cSg t P S G) b then p else b) = Z := hz
        have h7 : (cSg t P S G) b ≤ (cSg t P S G) p := h8
        rw [if_neg (Int32.not_lt.mpr h7)] at hz2
        refine hK _ _ _ _ _ ?_
        show K _ _ _ _ _
        rw [show nI p + Int32.ofInt 1 = nI (p + 1) from nIs _]
        refine hK _ _ _ _ _ ?_
        exact ih (p + 1) b x _ (by omega) hb (fun i hi => (hf_x i hi).trans (hμ i hi)) hz2
      · have hz2 : whL (cSg t P S G) f (p + 1) (if (cSg t P S G) p < (cSg t P S G) b then p else b) = Z := hz
        have h7 : ¬ (cSg t P S G) b ≤ (cSg t P S G) p := h8
        rw [if_pos (Int32.not_le.mp h7)] at hz2
        iterate 5 refine hK _ _ _ _ _ ?_
        show K _ _ _ _ _
        rw [show nI p + Int32.ofInt 1 = nI (p + 1) from nIs _]
        refine hK _ _ _ _ _ ?_
        exact ih (p + 1) p x _ (by omega) (by omega) (fun i hi => (hf_x i hi).trans (hμ i hi)) hz2
  exact L ((N - 1)) 1 0 y none (by omega) (by omega) hf_y hZ
theorem c8_other_54_ok (d : Nat) (σ t : sMem) (N P S G : Nat) (h : HR σ t 54 N P S G) (hT : HT t) : yMet l D0 b0 ty ad av lay (d + 7) 0 mX8_other [aR 34] σ (fun r σ' => r = [aI (nI (whL (cLw t P S G) 9 1 0))] ∧ FR σ σ') (fun _ _ => False) := by
  refine yMet_intro lay_nd kX8_other xX8_ok (yY8_ok _) (by decide +kernel) rfl ?_
  intro K hK
  have hN := h.2.2.1.1.1.1.1
  have hP := h.2.2.1.1.1.2.2.2.1.2
  have hS8 := h.2.2.1.1.1.2.2.2.2.1.2
  have hN2 := h.2.2.1.1.1.2.1
  iterate 5 refine hK _ _ _ _ _ ?_
  refine Or.inr (Or.inl (yD0 (c8_costWithLaw_54 _ σ t (sUp t 0 0 27 (nI (0))) N P S G h (0) (by omega) (uL_w hT h.2.2.1 (0))) ?_))
  rintro r y ⟨rfl, hG_y, hf_y⟩
  generalize hZ : whL (cLw t P S G) 9 1 0 = Z at hK
  iterate 3 refine hK _ _ _ _ _ ?_
  have L : ∀ (f : Nat) (p b : Nat) (μ : sMem) (e4 : Option AV), p + f = 10 → b < 10 → FR σ μ → whL (cLw t P S G) f p b = Z → K 0 10 [some (aR 34), some (aI (nI b)), some (aI ((cLw t P S G) b)), some (aI (nI p)), e4] [] μ := by
    intro f
    induction f with
    | zero =>
      intro p b μ e4 hp hb hμ hz
      have hm := h.cg (Or.inr rfl) hμ
      have m3 := hm.1
      have m1 := hm.2.1.1
      iterate 3 refine hK _ _ _ _ _ ?_
      refine And.intro (fun _ => ?_) (fun h9 => absurd ((nI_ltI (a := 9) (by decide) (by omega)).mpr (by omega)) h9)
      iterate 2 refine hK _ _ _ _ _ ?_
      exact ⟨by rw [← hz]; rfl, hμ⟩
    | succ f ih =>
      intro p b μ e4 hp hb hμ hz
      have hm := h.cg (Or.inr rfl) hμ
      have m3 := hm.1
      have m1 := hm.2.1.1
      iterate 3 refine hK _ _ _ _ _ ?_
      refine And.intro (fun h9 => absurd ((nI_ltI (a := 9) (by decide) (by omega)).mp h9) (by omega)) (fun _ => ?_)
      iterate 3 refine hK _ _ _ _ _ ?_
      refine Or.inr (Or.inl (yD0 (c8_costWithLaw_54 _ μ t (sUp t 0 0 27 (nI (p))) N P S G hm (p) (by omega) (uL_w hT h.2.2.1 (p))) ?_))
      rintro r x ⟨rfl, hG_x, hf_x⟩
      iterate 4 refine hK _ _ _ _ _ ?_
      refine And.intro (fun h8 => ?_) (fun h8 => ?_)
      · have hz2 : whL (cLw t P S G) f (p + 1) (if (cLw t P S G) p < (cLw t P S G) b then p else b) = Z := hz
        have h7 : (cLw t P S G) b ≤ (cLw t P S G) p := h8
        rw [if_neg (Int32.not_lt.mpr h7)] at hz2
        refine hK _ _ _ _ _ ?_
        show K _ _ _ _ _
        rw [show nI p + Int32.ofInt 1 = nI (p + 1) from nIs _]
        refine hK _ _ _ _ _ ?_
        exact ih (p + 1) b x _ (by omega) hb (fun i hi => (hf_x i hi).trans (hμ i hi)) hz2
      · have hz2 : whL (cLw t P S G) f (p + 1) (if (cLw t P S G) p < (cLw t P S G) b then p else b) = Z := hz
        have h7 : ¬ (cLw t P S G) b ≤ (cLw t P S G) p := h8
        rw [if_pos (Int32.not_le.mp h7)] at hz2
        iterate 5 refine hK _ _ _ _ _ ?_
        show K _ _ _ _ _
        rw [show nI p + Int32.ofInt 1 = nI (p + 1) from nIs _]
        refine hK _ _ _ _ _ ?_
        exact ih (p + 1) p x _ (by omega) (by omega) (fun i hi => (hf_x i hi).trans (hμ i hi)) hz2
  exact L (9) 1 0 y none (by omega) (by omega) hf_y hZ
theorem c8_where_54_x0 (d : Nat) (σ t : sMem) (N P S G : Nat) (h : HR σ t 54 N P S G) (x w : Int32) (h0 : ¬ (0 ≤ x ∧ x ≤ 9)) : yMet l D0 b0 ty ad av lay (d + 7) 1 mX8_where [aR 34, aI (x), aI (w)] σ (fun _ _ => False) (fun e σ' => e = yIAE ∧ σ' = σ) := by
  refine yMet_intro lay_nd kX8_where xX8_ok (yY8_ok _) (by decide +kernel) rfl ?_
  intro K hK
  have hN := h.2.2.1.1.1.1.1
  have hP := h.2.2.1.1.1.2.2.2.1.2
  have hS8 := h.2.2.1.1.1.2.2.2.2.1.2
  iterate 2 refine hK _ _ _ _ _ ?_
  refine Or.inr (Or.inr ⟨0, 1, rfl, yDX (c8_checkFee_x _ _ x h0) (fun _ _ h => h.elim) ?_⟩)
  exact fun e σ' h => h
theorem c8_where_54_x1 (d : Nat) (σ t : sMem) (N P S G : Nat) (h : HR σ t 54 N P S G) (x w : Int32) (h0 : 0 ≤ x ∧ x ≤ 9) (h1 : ¬ (0 ≤ w ∧ w ≤ nI 2 - 1)) : yMet l D0 b0 ty ad av lay (d + 7) 1 mX8_where [aR 34, aI (x), aI (w)] σ (fun _ _ => False) (fun e σ' => e = yIAE ∧ σ' = σ) := by
  refine yMet_intro lay_nd kX8_where xX8_ok (yY8_ok _) (by decide +kernel) rfl ?_
  intro K hK
  have hN := h.2.2.1.1.1.1.1
  have hP := h.2.2.1.1.1.2.2.2.1.2
  have hS8 := h.2.2.1.1.1.2.2.2.2.1.2
  iterate 2 refine hK _ _ _ _ _ ?_
  refine Or.inl (calD (c8_checkFee_ok _ _ x h0) ?_)
  rintro r σ' ⟨rfl, hσ⟩
  subst σ'
  iterate 3 refine hK _ _ _ _ _ ?_
  refine Or.inr (Or.inr ⟨0, 1, rfl, yDX (c8_checkBelow_x _ _ 2 (by decide) w h1) (fun _ _ h => h.elim) ?_⟩)
  exact fun e σ' h => h
theorem c8_where_54_ok (d : Nat) (σ t : sMem) (N P S G : Nat) (h : HR σ t 54 N P S G) (hT : HT t) (fee w : Nat) (hfee : fee ≤ 9) (hw : w ≤ 1) : yMet l D0 b0 ty ad av lay (d + 7) 0 mX8_where [aR 34, aI (nI fee), aI (nI w)] σ (fun r σ' => r = [aI (if nI w = 0 then nI (whL (fun p => cG1 t P S G p fee) (N - 1) 1 0) else (fun p => cG1 t P S G p fee) (whL (fun p => cG1 t P S G p fee) (N - 1) 1 0))] ∧ FR σ σ') (fun _ _ => False) := by
  refine yMet_intro lay_nd kX8_where xX8_ok (yY8_ok _) (by decide +kernel) rfl ?_
  intro K hK
  have hN := h.2.2.1.1.1.1.1
  have hP := h.2.2.1.1.1.2.2.2.1.2
  have hS8 := h.2.2.1.1.1.2.2.2.2.1.2
  have hN2 := h.2.2.1.1.1.2.1
  iterate 2 refine hK _ _ _ _ _ ?_
  refine Or.inl (calD (c8_checkFee_ok _ _ (nI fee) (nI_isIn (n := 10) (by decide) (by omega))) ?_)
  rintro r σ' ⟨rfl, hσ⟩
  subst σ'
  iterate 3 refine hK _ _ _ _ _ ?_
  refine Or.inl (calD (c8_checkBelow_ok _ _ 2 (by decide) (nI w) (nI_isIn (n := 2) (by decide) (by omega))) ?_)
  rintro r σ' ⟨rfl, hσ⟩
  subst σ'
  iterate 6 refine hK _ _ _ _ _ ?_
  refine Or.inr (Or.inl (yD0 (c8_costWithGuide_54 _ σ t (uG1 t G (0) fee) N P S G h (0) fee (uG_1 hT h.2.2.1 (a := 0) (by omega) hfee).1 (uG_1 hT h.2.2.1 (a := 0) (by omega) hfee).2.1 (uG_1 hT h.2.2.1 (a := 0) (by omega) hfee).2.2) ?_))
  rintro r y ⟨rfl, hG_y, hf_y⟩
  generalize hZ : whL (fun p => cG1 t P S G p fee) (N - 1) 1 0 = Z at hK
  iterate 3 refine hK _ _ _ _ _ ?_
  have L : ∀ (f : Nat) (p b : Nat) (μ : sMem) (e4 : Option AV), p + f = N → b < N → FR σ μ → whL (fun p => cG1 t P S G p fee) f p b = Z → K 0 22 [some (aR 34), some (aI (nI fee)), some (aI (nI w)), some (aI (nI b)), some (aI ((fun p => cG1 t P S G p fee) b)), some (aI (nI p)), e4] [] μ := by
    intro f
    induction f with
    | zero =>
      intro p b μ e4 hp hb hμ hz
      have hm := h.cg (Or.inr rfl) hμ
      have m3 := hm.1
      have m1 := hm.2.1.1
      iterate 3 refine hK _ _ _ _ _ ?_
      show K _ _ _ _ _
      rw [show μ 34 0 3 = nI 54 from m3]
      show K _ _ _ _ _
      rw [show (nI 54).toNatClampNeg = 54 from rfl]
      iterate 2 refine hK _ _ _ _ _ ?_
      show K _ _ _ _ _
      rw [show μ 55 0 0 = nI N from m1]
      refine hK _ _ _ _ _ ?_
      refine And.intro (fun _ => ?_) (fun h9 => absurd ((nI_leI (by omega) (by omega)).mpr (by omega)) h9)
      iterate 2 refine hK _ _ _ _ _ ?_
      refine And.intro (fun h7 => ?_) (fun h7 => ?_)
      · iterate 2 refine hK _ _ _ _ _ ?_
        exact ⟨by rw [← hz, if_neg h7]; rfl, hμ⟩
      · iterate 3 refine hK _ _ _ _ _ ?_
        exact ⟨by rw [← hz, if_pos h7]; rfl, hμ⟩
    | succ f ih =>
      intro p b μ e4 hp hb hμ hz
      have hm := h.cg (Or.inr rfl) hμ
      have m3 := hm.1
      have m1 := hm.2.1.1
      iterate 3 refine hK _ _ _ _ _ ?_
      show K _ _ _ _ _
      rw [show μ 34 0 3 = nI 54 from m3]
      show K _ _ _ _ _
      rw [show (nI 54).toNatClampNeg = 54 from rfl]
      iterate 2 refine hK _ _ _ _ _ ?_
      show K _ _ _ _ _
      rw [show μ 55 0 0 = nI N from m1]
      refine hK _ _ _ _ _ ?_
      refine And.intro (fun h9 => absurd ((nI_leI (by omega) (by omega)).mp h9) (by omega)) (fun _ => ?_)
      iterate 4 refine hK _ _ _ _ _ ?_
      refine Or.inr (Or.inl (yD0 (c8_costWithGuide_54 _ μ t (uG1 t G (p) fee) N P S G hm (p) fee (uG_1 hT h.2.2.1 (a := p) (by omega) hfee).1 (uG_1 hT h.2.2.1 (a := p) (by omega) hfee).2.1 (uG_1 hT h.2.2.1 (a := p) (by omega) hfee).2.2) ?_))
      rintro r x ⟨rfl, hG_x, hf_x⟩
      iterate 4 refine hK _ _ _ _ _ ?_
      refine And.intro (fun h8 => ?_) (fun h8 => ?_)
      · have hz2 : whL (fun p => cG1 t P S G p fee) f (p + 1) (if (fun p => cG1 t P S G p fee) p < (fun p => cG1 t P S G p fee) b then p else b) = Z := hz
        have h7 : (fun p => cG1 t P S G p fee) b ≤ (fun p => cG1 t P S G p fee) p := h8
        rw [if_neg (Int32.not_lt.mpr h7)] at hz2
        refine hK _ _ _ _ _ ?_
        show K _ _ _ _ _
        rw [show nI p + Int32.ofInt 1 = nI (p + 1) from nIs _]
        refine hK _ _ _ _ _ ?_
        exact ih (p + 1) b x _ (by omega) hb (fun i hi => (hf_x i hi).trans (hμ i hi)) hz2
      · have hz2 : whL (fun p => cG1 t P S G p fee) f (p + 1) (if (fun p => cG1 t P S G p fee) p < (fun p => cG1 t P S G p fee) b then p else b) = Z := hz
        have h7 : ¬ (fun p => cG1 t P S G p fee) b ≤ (fun p => cG1 t P S G p fee) p := h8
        rw [if_pos (Int32.not_le.mp h7)] at hz2
        iterate 5 refine hK _ _ _ _ _ ?_
        show K _ _ _ _ _
        rw [show nI p + Int32.ofInt 1 = nI (p + 1) from nIs _]
        refine hK _ _ _ _ _ ?_
        exact ih (p + 1) p x _ (by omega) (by omega) (fun i hi => (hf_x i hi).trans (hμ i hi)) hz2
  exact L ((N - 1)) 1 0 y none (by omega) (by omega) hf_y hZ
theorem c8_corner_54_x0 (d : Nat) (σ t : sMem) (N P S G : Nat) (h : HR σ t 54 N P S G) (x : Int32) (h0 : ¬ (0 ≤ x ∧ x ≤ 9)) : yMet l D0 b0 ty ad av lay (d + 7) 1 mX8_corner [aR 34, aI (x)] σ (fun _ _ => False) (fun e σ' => e = yIAE ∧ σ' = σ) := by
  refine yMet_intro lay_nd kX8_corner xX8_ok (yYX8_corner_ok) (by decide +kernel) rfl ?_
  intro K hK
  iterate 2 refine hK _ _ _ _ _ ?_
  refine And.intro (fun h9 => ?_) (fun h9 => ?_)
  · refine hK _ _ _ _ _ ?_
    exact ⟨0, rfl, rfl, rfl⟩
  · iterate 3 refine hK _ _ _ _ _ ?_
    refine And.intro (fun h8 => absurd ⟨Int32.not_lt.mp h9, h8⟩ h0) (fun _ => ?_)
    refine hK _ _ _ _ _ ?_
    exact ⟨0, rfl, rfl, rfl⟩
theorem c8_corner_54_ok (d : Nat) (σ t : sMem) (N P S G : Nat) (h : HR σ t 54 N P S G) (hT : HT t) (k : Nat) (hk : k ≤ 9) : yMet l D0 b0 ty ad av lay (d + 7) 0 mX8_corner [aR 34, aI (nI k)] σ (fun r σ' => r = [aI (cLw t P S G k)] ∧ FR σ σ') (fun _ _ => False) := by
  refine yMet_intro lay_nd kX8_corner xX8_ok (yYX8_corner_ok) (by decide +kernel) rfl ?_
  intro K hK
  have hk9 := nI_isIn (n := 10) (by decide) (show k < 10 by omega)
  iterate 2 refine hK _ _ _ _ _ ?_
  refine And.intro (fun h9 => absurd h9 (Int32.not_lt.mpr hk9.1)) (fun _ => ?_)
  iterate 3 refine hK _ _ _ _ _ ?_
  refine And.intro (fun _ => ?_) (fun h9 => absurd hk9.2 h9)
  iterate 3 refine hK _ _ _ _ _ ?_
  refine Or.inr (Or.inl (yD0 (c8_costWithLaw_54 _ σ t (sUp t 0 0 27 (nI (k))) N P S G h (k) (by omega) (uL_w hT h.2.2.1 (k))) ?_))
  rintro r y ⟨rfl, hG_y, hf_y⟩
  refine hK _ _ _ _ _ ?_
  exact ⟨rfl, hf_y⟩
theorem c8_rest_54_x0 (d : Nat) (σ t : sMem) (N P S G : Nat) (h : HR σ t 54 N P S G) (x : Int32) (h0 : ¬ (0 ≤ x ∧ x ≤ nI P - 1)) : yMet l D0 b0 ty ad av lay (d + 7) 1 mX8_rest [aR 34, aI (x)] σ (fun _ _ => False) (fun e σ' => e = yNSE ∧ σ' = σ) := by
  refine yMet_intro lay_nd kX8_rest xX8_ok (yY8_ok _) (by decide +kernel) rfl ?_
  intro K hK
  have hN := h.2.2.1.1.1.1.1
  have hP := h.2.2.1.1.1.2.2.2.1.2
  have hS8 := h.2.2.1.1.1.2.2.2.2.1.2
  iterate 3 refine hK _ _ _ _ _ ?_
  refine Or.inr (Or.inr ⟨0, 1, rfl, yDX (c8_checkPerson_54_x _ _ P (by omega) h.1 h.2.1.2.1 x h0) (fun _ _ h => h.elim) ?_⟩)
  exact fun e σ' h => h
theorem c8_rest_54_ok (d : Nat) (σ t : sMem) (N P S G : Nat) (h : HR σ t 54 N P S G) (hT : HT t) (p : Nat) (hp : p < P) : yMet l D0 b0 ty ad av lay (d + 7) 0 mX8_rest [aR 34, aI (nI p)] σ (fun r σ' => r = [aI ((cFi t P S G - nI (losP (cP t G) (daA (cP t G) aT P G S 0) p)) - cRe t P S G p)] ∧ FR σ σ') (fun _ _ => False) := by
  refine yMet_intro lay_nd kX8_rest xX8_ok (yY8_ok _) (by decide +kernel) rfl ?_
  intro K hK
  have hN := h.2.2.1.1.1.1.1
  have hP := h.2.2.1.1.1.2.2.2.1.2
  have hS8 := h.2.2.1.1.1.2.2.2.2.1.2
  iterate 3 refine hK _ _ _ _ _ ?_
  refine Or.inl (calD (c8_checkPerson_54_ok _ _ P (by omega) h.1 h.2.1.2.1 (nI p) (nI_isIn (by omega) hp)) ?_)
  rintro r σ' ⟨rfl, hσ⟩
  subst σ'
  iterate 3 refine hK _ _ _ _ _ ?_
  refine Or.inr (Or.inl (yD0 (c8_goThrough_54 _ σ t (uP t) N P S G h 0 (by omega) (uP_0 hT h.2.2.1)) ?_))
  rintro r y ⟨rfl, hG0, hfr⟩
  have hG : CG y (cP t G) aT 54 0 N P S G (daA (cP t G) aT P G S 0) := hG0
  clear hG0
  obtain ⟨gT, gM, gS, gF, gV, gL, gI⟩ := id hG
  have y3 : y 34 0 3 = nI 54 := by rw [hfr 34 (by omega)]; exact h.1
  iterate 3 refine hK _ _ _ _ _ ?_
  refine Or.inl (calD (c0_cost_54 _ _ _ _ _ N P S G _ hG) ?_)
  rintro r σ' ⟨rfl, hσ⟩
  subst σ'
  iterate 4 refine hK _ _ _ _ _ ?_
  refine Or.inl (calD (c0_lostBy_54 _ _ _ _ _ N P S G _ hG p hp) ?_)
  rintro r σ' ⟨rfl, hσ⟩
  subst σ'
  have hy := h.cg (Or.inr rfl) hfr
  iterate 6 refine hK _ _ _ _ _ ?_
  show K _ _ _ _ _
  generalize hz : sUp y 76 0 7 (nI p) = z
  have hD : DY z (cP (sUp t 0 0 28 (nI p)) G) aT 54 N P S G := hz ▸ DY_again hy (Or.inr rfl) gS (uP_0 hT h.2.2.1) (uP_r hT h.2.2.1 p)
  have hx9 : z 34 0 3 = nI 54 := by rw [← hz, sUp_off (by decide)]; exact y3
  iterate 4 refine hK _ _ _ _ _ ?_
  show K _ _ _ _ _
  rw [show z 34 0 3 = nI 54 from hx9]
  show K _ _ _ _ _
  rw [show (nI 54).toNatClampNeg = 54 from rfl]
  iterate 4 refine hK _ _ _ _ _ ?_
  refine Or.inr (Or.inl (yD0 (c0_run_54 _ _ _ aT 0 N P S G hD.1 hD.2.1 hD.2.2.1 hD.2.2.2 (by omega)) ?_))
  rintro r a ⟨rfl, ha⟩
  iterate 4 refine hK _ _ _ _ _ ?_
  have hG2 := DG_of (σ := y) (x := y) (Or.inr rfl) hD (fun _ _ => rfl) (fun i hi => by rw [← hz, sUp_off (by omega)]) ha
  refine Or.inl (calD (c0_cost_54 _ _ _ _ 0 N P S G _ hG2.1) ?_)
  rintro r σ' ⟨rfl, hσ⟩
  subst σ'
  iterate 2 refine hK _ _ _ _ _ ?_
  exact ⟨rfl, fun i hi => (hG2.2 i hi).trans (hfr i hi)⟩
theorem c8_seed_54_x0 (d : Nat) (σ t : sMem) (N P S G : Nat) (h : HR σ t 54 N P S G) (kd sd w : Int32) (h0 : ¬ (0 ≤ kd ∧ kd ≤ 4)) : yMet l D0 b0 ty ad av lay (d + 7) 1 mX8_seed [aR 34, aI (kd), aI (sd), aI (w)] σ (fun _ _ => False) (fun e σ' => e = yIAE ∧ σ' = σ) := by
  refine yMet_intro lay_nd kX8_seed xX8_ok (yY8_ok _) (by decide +kernel) rfl ?_
  intro K hK
  have hN := h.2.2.1.1.1.1.1
  have hP := h.2.2.1.1.1.2.2.2.1.2
  have hS8 := h.2.2.1.1.1.2.2.2.2.1.2
  iterate 2 refine hK _ _ _ _ _ ?_
  refine Or.inr (Or.inr ⟨0, 1, rfl, yDX (c8_checkKind_x _ _ kd h0) (fun _ _ h => h.elim) ?_⟩)
  exact fun e σ' h => h
theorem c8_seed_54_x1 (d : Nat) (σ t : sMem) (N P S G : Nat) (h : HR σ t 54 N P S G) (kd sd w : Int32) (h0 : 0 ≤ kd ∧ kd ≤ 4) (h1 : ¬ (0 ≤ w ∧ w ≤ nI 3 - 1)) : yMet l D0 b0 ty ad av lay (d + 7) 1 mX8_seed [aR 34, aI (kd), aI (sd), aI (w)] σ (fun _ _ => False) (fun e σ' => e = yIAE ∧ σ' = σ) := by
  refine yMet_intro lay_nd kX8_seed xX8_ok (yY8_ok _) (by decide +kernel) rfl ?_
  intro K hK
  have hN := h.2.2.1.1.1.1.1
  have hP := h.2.2.1.1.1.2.2.2.1.2
  have hS8 := h.2.2.1.1.1.2.2.2.2.1.2
  iterate 2 refine hK _ _ _ _ _ ?_
  refine Or.inl (calD (c8_checkKind_ok _ _ kd h0) ?_)
  rintro r σ' ⟨rfl, hσ⟩
  subst σ'
  iterate 3 refine hK _ _ _ _ _ ?_
  refine Or.inr (Or.inr ⟨0, 1, rfl, yDX (c8_checkBelow_x _ _ 3 (by decide) w h1) (fun _ _ h => h.elim) ?_⟩)
  exact fun e σ' h => h
theorem c8_seed_54_ok (d : Nat) (σ t : sMem) (N P S G : Nat) (h : HR σ t 54 N P S G) (hT : HT t) (kd w : Nat) (sd : Int32) (hk : kd ≤ 4) (hw : w ≤ 2) : yMet l D0 b0 ty ad av lay (d + 7) 0 mX8_seed [aR 34, aI (nI kd), aI (sd), aI (nI w)] σ (fun r σ' => r = [aI (if nI w = 0 then coD (cP (tLo t sd) G) (cmF (uP (tLo t sd))) P S G kd else if nI w = 1 then nI (cnA (lefA (daA (cP (tLo t sd) G) (cmF (uP (tLo t sd))) P G S kd)) S) else nI (cnA (cmF (uP (tLo t sd))) S))] ∧ FR σ σ') (fun _ _ => False) := by
  refine yMet_intro lay_nd kX8_seed xX8_ok (yY8_ok _) (by decide +kernel) rfl ?_
  intro K hK
  have hN := h.2.2.1.1.1.1.1
  have hP := h.2.2.1.1.1.2.2.2.1.2
  have hS8 := h.2.2.1.1.1.2.2.2.2.1.2
  iterate 2 refine hK _ _ _ _ _ ?_
  refine Or.inl (calD (c8_checkKind_ok _ _ (nI kd) (nI_isIn (n := 5) (by decide) (by omega))) ?_)
  rintro r σ' ⟨rfl, hσ⟩
  subst σ'
  iterate 3 refine hK _ _ _ _ _ ?_
  refine Or.inl (calD (c8_checkBelow_ok _ _ 3 (by decide) (nI w) (nI_isIn (n := 3) (by decide) (by omega))) ?_)
  rintro r σ' ⟨rfl, hσ⟩
  subst σ'
  iterate 4 refine hK _ _ _ _ _ ?_
  have e30 : uP (tLo t sd) 0 0 30 = sd := by unfold uP tLo; rw [sUp_k (by decide), sUp_at]
  refine Or.inr (Or.inl (yD0 ((e30 ▸ c8_goThroughByLots_54 _ σ t (uP (tLo t sd)) N P S G h kd hk (by unfold uP tLo; rw [sUp_off (by decide), sUp_off (by decide), sUp_off (by decide)]) (by unfold uP tLo; rw [sUp_k (by decide), sUp_k (by decide), sUp_at]; decide) (uP_l hT h.2.2.1 sd) : yMet l D0 b0 ty ad av lay (d + 6) 0 mX8_goThroughByLots [aR 34, aI (nI kd), aI sd] σ _ _)) ?_))
  rintro r y ⟨rfl, hc, hG, hfr⟩
  iterate 2 refine hK _ _ _ _ _ ?_
  have kt : ∀ i : Nat, (nI w).toInt = (i : Int) → w = i := fun i hi => by rw [nI_toInt (by omega)] at hi; omega
  refine ⟨fun hsw => ?_, fun hsw => ?_, fun hsw => ?_, trivial⟩
  · have e : w = 2 := by
      have h0 : ¬ (nI w).toInt = 0 := hsw.1
      have h1 : ¬ (nI w).toInt = 1 := hsw.2.1
      rw [nI_toInt (by omega)] at h0 h1
      omega
    subst e
    iterate 3 refine hK _ _ _ _ _ ?_
    show K _ _ _ _ _
    rw [show y 76 0 6 = nI (btO (cmF (uP (tLo t sd))) S) from hc]
    refine hK _ _ _ _ _ ?_
    have hbt : bcI (nI (btO (cmF (uP (tLo t sd))) S)) = nI (cnA (cmF (uP (tLo t sd))) S) := by
      have h1 := btO_lt (cmF (uP (tLo t sd))) S
      have h2 : 2 ^ S ≤ 2 ^ 8 := Nat.pow_le_pow_right (by decide) hS8
      rw [bc_num _ (by omega), pop_btO _ S 12 (by omega)]
    refine Or.inl (calD (cJ_bc _ _ _) ?_)
    rintro r σ' ⟨rfl, hσ⟩
    subst σ'
    refine hK _ _ _ _ _ ?_
    exact ⟨by rw [hbt]; rfl, hfr⟩
  · have e := kt 0 hsw
    subst e
    iterate 3 refine hK _ _ _ _ _ ?_
    refine Or.inl (calD (c0_cost_54 _ _ _ _ _ N P S G _ hG) ?_)
    rintro r σ' ⟨rfl, hσ⟩
    subst σ'
    refine hK _ _ _ _ _ ?_
    exact ⟨rfl, hfr⟩
  · have e := kt 1 hsw
    subst e
    iterate 3 refine hK _ _ _ _ _ ?_
    refine Or.inr (Or.inl (yD0 (c0_leftCount_54 _ _ _ _ _ N P S G _ hG) ?_))
    rintro r σ' ⟨rfl, hσ⟩
    subst σ'
    refine hK _ _ _ _ _ ?_
    exact ⟨rfl, hfr⟩
end
