/-! THE CLASS: through a day -/
def DY (σ c : sMem) (cm : Nat → Bool) (v N P S G : Nat) : Prop := TT σ c v N P S ∧ MC c N P S ∧ SS σ c cm N S G ∧ SC c N P S G
def aT : Nat → Bool := fun _ => true
section
variable {σ σ' τ t u : sMem} {v N P S G G' k : Nat} {l r q : Int32} {cm : Nat → Bool}
theorem DY_of (h : HR σ t v N P S G) (hv : v = 36 ∨ v = 54) (hY : CY σ v σ') (hU : UI t u N G G' l r q) (hl : l = nI k) (hk : k ≤ 9) (hf : ∀ i, i < 76 ∨ i = 80 → τ i = σ' i) (h0 : τ 76 0 0 = l) (h1 : τ 76 0 1 = nI G') (hg : ∀ g, g < G' → τ 77 0 g = cn u G' 10 g 0 ∧ τ 78 0 g = cn u G' 10 g 1) (hs : ∀ x y, x < N → y < N → hb (τ 79 0 x) (nI y) = sgB (cn u G') x y) (h7 : τ 76 0 7 = r) (h6 : ∀ s, s < S → hb (τ 76 0 6) (nI s) = cm s) : DY τ (cn u G') cm v N P S G' := by
  have hM := h.2.2.1
  obtain ⟨hC, -, -, -, -, b80, -, -⟩ := hY.base h hv hU
  have hSC := hU.SC hM hl hk
  refine ⟨TT_of (hC.cg (fun i h1 h2 => hf i (by omega))) hM (fun a ha => hU.at (by omega)), hU.MC hM, SS_of hSC ?_ h1 hg hs (fun s hs => ?_) ?_ h6, hSC⟩
  · rw [h0, cn_f (Or.inl rfl), hU.2.2.1]
  · rw [hf 80 (by omega)]; exact b80 s hs
  · rw [h7, cn_f (Or.inr (Or.inl rfl)), hU.2.2.2.1]
theorem DY_plain (h : HR σ t v N P S G) (hv : v = 36 ∨ v = 54) (hY : CY σ v σ') (hU : UI t u N G G (t 3 0 4) (-1) (-1)) : DY σ' (cn u G) aT v N P S G := by
  obtain ⟨k, e, hk⟩ := h.2.2.1.2.2.1
  have hN := h.2.2.1.1.1.1.1
  obtain ⟨-, b0, b1, b2, b3, -, b7, b6⟩ := hY.base h hv hU
  exact DY_of h hv hY hU e hk (fun _ _ => rfl) b0 b1 b2 (fun x y hx hy => by rw [bt_sg (by rw [cn_f (by omega)]; exact hU.2.2.2.2.1) (by omega)]; exact b3 x y hx hy) b7 b6
theorem DY_rest (h : HR σ t v N P S G) (hv : v = 36 ∨ v = 54) (hY : CY σ v σ') (hU : UI t u N G G (t 3 0 4) r (-1)) : DY (sUp σ' 76 0 7 r) (cn u G) aT v N P S G := by
  obtain ⟨k, e, hk⟩ := h.2.2.1.2.2.1
  have hN := h.2.2.1.1.1.1.1
  obtain ⟨-, b0, b1, b2, b3, -, b7, b6⟩ := hY.base h hv hU
  refine DY_of h hv hY hU e hk (fun i hi => sUp_off (by omega)) ?_ ?_ ?_ ?_ ?_ ?_
  · rw [sUp_k (by decide)]; exact b0
  · rw [sUp_k (by decide)]; exact b1
  · intro g hg; rw [sUp_off (by decide), sUp_off (by decide)]; exact b2 g hg
  · intro x y hx hy; rw [sUp_off (by decide), bt_sg (by rw [cn_f (by omega)]; exact hU.2.2.2.2.1) (by omega)]; exact b3 x y hx hy
  · rw [sUp_at]
  · rw [sUp_k (by decide)]; exact b6
theorem DY_law (h : HR σ t v N P S G) (hv : v = 36 ∨ v = 54) (hY : CY σ v σ') (hk : k ≤ 9) (hU : UI t u N G G (nI k) (-1) (-1)) : DY (sUp σ' 76 0 0 (nI k)) (cn u G) aT v N P S G := by
  have hN := h.2.2.1.1.1.1.1
  obtain ⟨-, b0, b1, b2, b3, -, b7, b6⟩ := hY.base h hv hU
  refine DY_of h hv hY hU rfl hk (fun i hi => sUp_off (by omega)) ?_ ?_ ?_ ?_ ?_ ?_
  · rw [sUp_at]
  · rw [sUp_k (by decide)]; exact b1
  · intro g hg; rw [sUp_off (by decide), sUp_off (by decide)]; exact b2 g hg
  · intro x y hx hy; rw [sUp_off (by decide), bt_sg (by rw [cn_f (by omega)]; exact hU.2.2.2.2.1) (by omega)]; exact b3 x y hx hy
  · rw [sUp_k (by decide)]; exact b7
  · rw [sUp_k (by decide)]; exact b6
theorem DY_lots (h : HR σ t v N P S G) (hv : v = 36 ∨ v = 54) (hY : CY σ v σ') (hU : UI t u N G G (t 3 0 4) (-1) (-1)) : DY (sUp σ' 76 0 6 (nI (btO cm S))) (cn u G) cm v N P S G := by
  obtain ⟨k, e, hk⟩ := h.2.2.1.2.2.1
  have hN := h.2.2.1.1.1.1.1
  obtain ⟨-, b0, b1, b2, b3, -, b7, b6⟩ := hY.base h hv hU
  refine DY_of h hv hY hU e hk (fun i hi => sUp_off (by omega)) ?_ ?_ ?_ ?_ ?_ ?_
  · rw [sUp_k (by decide)]; exact b0
  · rw [sUp_k (by decide)]; exact b1
  · intro g hg; rw [sUp_off (by decide), sUp_off (by decide)]; exact b2 g hg
  · intro x y hx hy; rw [sUp_off (by decide), bt_sg (by rw [cn_f (by omega)]; exact hU.2.2.2.2.1) (by omega)]; exact b3 x y hx hy
  · rw [sUp_k (by decide)]; exact b7
  · intro s hs; rw [sUp_at]; exact hb_btO cm h.2.2.1.1.1.2.2.2.2.1.2 hs
theorem DY_sign {x : Nat} (h : HR σ t v N P S G) (hv : v = 36 ∨ v = 54) (hY : CY σ v σ') (hx : x < N) (hU : UI t u N G G (t 3 0 4) (-1) (nI x)) : DY (sUp σ' 79 0 x ((1 : Int32) <<< (nI N &&& 31) - 1)) (cn u G) aT v N P S G := by
  obtain ⟨k, e, hk⟩ := h.2.2.1.2.2.1
  have hN := h.2.2.1.1.1.1.1
  obtain ⟨-, b0, b1, b2, b3, -, b7, b6⟩ := hY.base h hv hU
  refine DY_of h hv hY hU e hk (fun i hi => sUp_off (by omega)) ?_ ?_ ?_ ?_ ?_ ?_
  · rw [sUp_off (by decide)]; exact b0
  · rw [sUp_off (by decide)]; exact b1
  · intro g hg; rw [sUp_off (by decide), sUp_off (by decide)]; exact b2 g hg
  · intro z y hz hy
    unfold sgB
    rw [cn_f (by omega), hU.2.2.2.2.1]
    by_cases e : z = x
    · subst e
      rw [sUp_at, allO N (by omega) y hy, decide_eq_true rfl, Bool.true_or]
    · rw [sUp_k e, decide_eq_false (fun q => e ((nI_eq (by omega) (by omega)).mp q.symm)), Bool.false_or]
      exact b3 z y hz hy
  · rw [sUp_off (by decide)]; exact b7
  · rw [sUp_off (by decide)]; exact b6
theorem DY_guide {x f : Nat} (h : HR σ t v N P S G) (hv : v = 36 ∨ v = 54) (hY : CY σ v σ') (hU : UI t u N G (G + 1) (t 3 0 4) (-1) (-1)) (e1 : u 10 G 0 = nI x) (e2 : u 10 G 1 = nI f) : DY (sUp (sUp (sUp σ' 77 0 G (nI x)) 78 0 G (nI f)) 76 0 1 (nI (G + 1))) (cn u (G + 1)) aT v N P S (G + 1) := by
  obtain ⟨k, e, hk⟩ := h.2.2.1.2.2.1
  have hN := h.2.2.1.1.1.1.1
  obtain ⟨-, b0, b1, b2, b3, -, b7, b6⟩ := hY.base h hv hU
  refine DY_of h hv hY hU e hk (fun i hi => by rw [sUp_off (by omega), sUp_off (by omega), sUp_off (by omega)]) ?_ ?_ ?_ ?_ ?_ ?_
  · rw [sUp_k (by decide), sUp_off (by decide), sUp_off (by decide)]; exact b0
  · rw [sUp_at]
  · intro g hg
    by_cases eg : g = G
    · subst eg
      rw [cn_g0 hg, cn_g1 hg, e1, e2, sUp_off (by decide), sUp_off (by decide), sUp_at, sUp_off (by decide), sUp_at]
      exact ⟨rfl, rfl⟩
    · rw [sUp_off (by decide), sUp_off (by decide), sUp_k eg, sUp_off (by decide), sUp_k eg, sUp_off (by decide)]
      exact b2 g (by omega)
  · intro x y hx hy; rw [sUp_off (by decide), sUp_off (by decide), sUp_off (by decide), bt_sg (by rw [cn_f (by omega)]; exact hU.2.2.2.2.1) (by omega)]; exact b3 x y hx hy
  · rw [sUp_k (by decide), sUp_off (by decide), sUp_off (by decide)]; exact b7
  · rw [sUp_k (by decide), sUp_off (by decide), sUp_off (by decide)]; exact b6
theorem DY_guides {x y f : Nat} (h : HR σ t v N P S G) (hv : v = 36 ∨ v = 54) (hY : CY σ v σ') (hU : UI t u N G (G + 2) (t 3 0 4) (-1) (-1)) (e1 : u 10 G 0 = nI x) (e2 : u 10 G 1 = nI f) (e3 : u 10 (G + 1) 0 = nI y) (e4 : u 10 (G + 1) 1 = nI f) : DY (sUp (sUp (sUp (sUp (sUp (sUp σ' 77 0 G (nI x)) 78 0 G (nI f)) 76 0 1 (nI (G + 1))) 77 0 (G + 1) (nI y)) 78 0 (G + 1) (nI f)) 76 0 1 (nI (G + 2))) (cn u (G + 2)) aT v N P S (G + 2) := by
  obtain ⟨k, e, hk⟩ := h.2.2.1.2.2.1
  have hN := h.2.2.1.1.1.1.1
  obtain ⟨-, b0, b1, b2, b3, -, b7, b6⟩ := hY.base h hv hU
  refine DY_of h hv hY hU e hk (fun i hi => by rw [sUp_off (by omega), sUp_off (by omega), sUp_off (by omega), sUp_off (by omega), sUp_off (by omega), sUp_off (by omega)]) ?_ ?_ ?_ ?_ ?_ ?_
  · rw [sUp_k (by decide), sUp_off (by decide), sUp_off (by decide), sUp_k (by decide), sUp_off (by decide), sUp_off (by decide)]; exact b0
  · rw [sUp_at]
  · intro g hg
    refine ⟨?_, ?_⟩
    · rw [sUp_off (by decide), sUp_off (by decide)]
      by_cases eg : g = G + 1
      · subst eg
        rw [sUp_at, cn_g0 hg, e3]
      · rw [sUp_k eg, sUp_off (by decide), sUp_off (by decide)]
        by_cases eh : g = G
        · subst eh
          rw [sUp_at, cn_g0 hg, e1]
        · rw [sUp_k eh]
          exact (b2 g (by omega)).1
    · rw [sUp_off (by decide)]
      by_cases eg : g = G + 1
      · subst eg
        rw [sUp_at, cn_g1 hg, e4]
      · rw [sUp_k eg, sUp_off (by decide), sUp_off (by decide)]
        by_cases eh : g = G
        · subst eh
          rw [sUp_at, cn_g1 hg, e2]
        · rw [sUp_k eh, sUp_off (by decide)]
          exact (b2 g (by omega)).2
  · intro x y hx hy; rw [sUp_off (by decide), sUp_off (by decide), sUp_off (by decide), sUp_off (by decide), sUp_off (by decide), sUp_off (by decide), bt_sg (by rw [cn_f (by omega)]; exact hU.2.2.2.2.1) (by omega)]; exact b3 x y hx hy
  · rw [sUp_k (by decide), sUp_off (by decide), sUp_off (by decide), sUp_k (by decide), sUp_off (by decide), sUp_off (by decide)]; exact b7
  · rw [sUp_k (by decide), sUp_off (by decide), sUp_off (by decide), sUp_k (by decide), sUp_off (by decide), sUp_off (by decide)]; exact b6
end
/-- a day is over on the class's side, and nothing else has changed -/
def DG (σ σ' c : sMem) (cm : Nat → Bool) (v kd N P S G : Nat) : Prop := CG σ' c cm v kd N P S G (daA c cm P G S kd) ∧ ∀ i, i < 76 ∨ 89 < i → σ' i = σ i
theorem DG_of {σ x y z c : sMem} {cm : Nat → Bool} {v kd N P S G : Nat} (hv : v = 36 ∨ v = 54) (h : DY y c cm v N P S G) (hx : ∀ i, i < 76 ∨ 89 < i → x i = σ i) (hy : ∀ i, i < 76 ∨ 89 < i → y i = x i) (hz : CF z c v kd N P S G (daA c cm P G S kd) ∧ ∀ i, i < 81 ∨ 89 < i → z i = y i) : DG σ z c cm v kd N P S G :=
  ⟨CG_of (h.1.cg (fun i h1 h2 => hz.2 i (by omega))) h.2.1 (h.2.2.1.cg (fun i h1 h2 => hz.2 i (by omega))) h.2.2.2 hz.1, fun i hi => by rw [hz.2 i (by omega), hy i hi, hx i hi]⟩
def coD (c : sMem) (cm : Nat → Bool) (P S G kd : Nat) : Int32 := nI (cosA c (daA c cm P G S kd) P)
section
variable {l : Launch} {D0 : va_G} {b0 : Nat} {ty : Nat → ClassId} {ad av : Nat → Nat}
theorem c8_goThrough_36 (d : Nat) (σ t u : sMem) (N P S G : Nat) (h : HR σ t 36 N P S G) (kd : Nat) (hk : kd ≤ 4) (hU : UI t u N G G (t 3 0 4) (-1) (-1)) : yMet l D0 b0 ty ad av lay (d + 5) 0 mX8_goThrough [aR 34, aI (nI kd)] σ (fun r σ' => r = [] ∧ DG σ σ' (cn u G) aT 36 kd N P S G) (fun _ _ => False) := by
  refine yMet_intro lay_nd kX8_goThrough xX8_ok (yY8_ok _) (by decide +kernel) rfl ?_
  intro K hK
  iterate 4 refine hK _ _ _ _ _ ?_
  show K _ _ _ _ _
  rw [show σ 34 0 3 = nI 36 from h.1]
  show K _ _ _ _ _
  rw [show (nI 36).toNatClampNeg = 36 from rfl]
  iterate 3 refine hK _ _ _ _ _ ?_
  refine Or.inr (Or.inl (yD0 (c5_copyFrom_36 _ _) ?_))
  rintro r x ⟨rfl, hY⟩
  have hx : x 34 0 3 = nI 36 := by rw [hY.1 34 (by omega)]; exact h.1
  have hx37 : x 37 0 0 = nI N := by rw [hY.1 37 (by omega)]; exact h.2.1.1
  have hD := DY_plain h (Or.inl rfl) hY hU
  have hx9 : (x) 34 0 3 = nI 36 := hx
  iterate 4 refine hK _ _ _ _ _ ?_
  show K _ _ _ _ _
  rw [show x 34 0 3 = nI 36 from hx9]
  show K _ _ _ _ _
  rw [show (nI 36).toNatClampNeg = 36 from rfl]
  iterate 4 refine hK _ _ _ _ _ ?_
  refine Or.inr (Or.inl (yD0 (c0_run_36 _ _ _ aT kd N P S G hD.1 hD.2.1 hD.2.2.1 hD.2.2.2 (by omega)) ?_))
  rintro r y ⟨rfl, hy⟩
  refine hK _ _ _ _ _ ?_
  have hG := DG_of (Or.inl rfl) hD (fun i hi => hY.1 i (by omega)) (fun i hi => rfl) hy
  exact ⟨rfl, hG⟩
theorem c8_goThroughByLots_36 (d : Nat) (σ t u : sMem) (N P S G : Nat) (h : HR σ t 36 N P S G) (kd : Nat) (hk : kd ≤ 4) (h8 : u 8 = t 8) (h31 : ¬ u 0 0 31 = 0) (hU : UI t u N G G (t 3 0 4) (-1) (-1)) : yMet l D0 b0 ty ad av lay (d + 5) 0 mX8_goThroughByLots [aR 34, aI (nI kd), aI (u 0 0 30)] σ (fun r σ' => r = [] ∧ σ' 76 0 6 = nI (btO (cmF u) S) ∧ DG σ σ' (cn u G) (cmF u) 36 kd N P S G) (fun _ _ => False) := by
  refine yMet_intro lay_nd kX8_goThroughByLots xX8_ok (yY8_ok _) (by decide +kernel) rfl ?_
  intro K hK
  iterate 4 refine hK _ _ _ _ _ ?_
  show K _ _ _ _ _
  rw [show σ 34 0 3 = nI 36 from h.1]
  show K _ _ _ _ _
  rw [show (nI 36).toNatClampNeg = 36 from rfl]
  iterate 3 refine hK _ _ _ _ _ ?_
  refine Or.inr (Or.inl (yD0 (c5_copyFrom_36 _ _) ?_))
  rintro r x ⟨rfl, hY⟩
  have hx : x 34 0 3 = nI 36 := by rw [hY.1 34 (by omega)]; exact h.1
  have hx37 : x 37 0 0 = nI N := by rw [hY.1 37 (by omega)]; exact h.2.1.1
  iterate 4 refine hK _ _ _ _ _ ?_
  show K _ _ _ _ _
  rw [show x 34 0 3 = nI 36 from hx]
  show K _ _ _ _ _
  rw [show (nI 36).toNatClampNeg = 36 from rfl]
  iterate 2 refine hK _ _ _ _ _ ?_
  refine Or.inl (calD (c5_drawComing_36 _ x u S h.2.2.1.1.1.2.2.2.2.1.2 (by rw [hY.1 36 (by omega)]; exact h.2.1.2.2.1) h31 (fun s hs => by rw [hY.1 49 (by omega), h8]; exact (h.2.1.2.2.2.2.2.2.2.1 s hs).2.2.2.1)) ?_)
  rintro r z ⟨rfl, hz⟩
  have hD := hz ▸ DY_lots (cm := cmF u) h (Or.inl rfl) hY hU
  have hx9 : (z) 34 0 3 = nI 36 := by rw [hz, sUp_off (by decide)]; exact hx
  iterate 4 refine hK _ _ _ _ _ ?_
  show K _ _ _ _ _
  rw [show z 34 0 3 = nI 36 from hx9]
  show K _ _ _ _ _
  rw [show (nI 36).toNatClampNeg = 36 from rfl]
  iterate 4 refine hK _ _ _ _ _ ?_
  refine Or.inr (Or.inl (yD0 (c0_run_36 _ _ _ (cmF u) kd N P S G hD.1 hD.2.1 hD.2.2.1 hD.2.2.2 (by omega)) ?_))
  rintro r y ⟨rfl, hy⟩
  refine hK _ _ _ _ _ ?_
  have hG := DG_of (Or.inl rfl) hD (fun i hi => hY.1 i (by omega)) (fun i hi => by rw [hz, sUp_off (by omega)]) hy
  exact ⟨rfl, by rw [hy.2 76 (by omega), hz, sUp_at], hG⟩
theorem c8_costByFirst_36 (d : Nat) (σ t u : sMem) (N P S G : Nat) (h : HR σ t 36 N P S G) (hU : UI t u N G G (t 3 0 4) (-1) (-1)) : yMet l D0 b0 ty ad av lay (d + 5) 0 mX8_costByFirst [aR 34] σ (fun r σ' => r = [aI (coD (cn u (G)) aT P S (G) 0)] ∧ DG σ σ' (cn u (G)) aT 36 0 N P S (G)) (fun _ _ => False) := by
  refine yMet_intro lay_nd kX8_costByFirst xX8_ok (yY8_ok _) (by decide +kernel) rfl ?_
  intro K hK
  iterate 4 refine hK _ _ _ _ _ ?_
  show K _ _ _ _ _
  rw [show σ 34 0 3 = nI 36 from h.1]
  show K _ _ _ _ _
  rw [show (nI 36).toNatClampNeg = 36 from rfl]
  iterate 3 refine hK _ _ _ _ _ ?_
  refine Or.inr (Or.inl (yD0 (c5_copyFrom_36 _ _) ?_))
  rintro r x ⟨rfl, hY⟩
  have hx : x 34 0 3 = nI 36 := by rw [hY.1 34 (by omega)]; exact h.1
  have hx37 : x 37 0 0 = nI N := by rw [hY.1 37 (by omega)]; exact h.2.1.1
  have hD := DY_plain h (Or.inl rfl) hY hU
  have hx9 : (x) 34 0 3 = nI 36 := hx
  iterate 4 refine hK _ _ _ _ _ ?_
  show K _ _ _ _ _
  rw [show x 34 0 3 = nI 36 from hx9]
  show K _ _ _ _ _
  rw [show (nI 36).toNatClampNeg = 36 from rfl]
  iterate 4 refine hK _ _ _ _ _ ?_
  refine Or.inr (Or.inl (yD0 (c0_run_36 _ _ _ aT 0 N P S G hD.1 hD.2.1 hD.2.2.1 hD.2.2.2 (by omega)) ?_))
  rintro r y ⟨rfl, hy⟩
  have hG := DG_of (Or.inl rfl) hD (fun i hi => hY.1 i (by omega)) (fun i hi => rfl) hy
  iterate 3 refine hK _ _ _ _ _ ?_
  refine Or.inl (calD (c0_cost_36 _ _ _ _ 0 N P S G _ hG.1) ?_)
  rintro r σ' ⟨rfl, hσ⟩
  subst σ'
  refine hK _ _ _ _ _ ?_
  exact ⟨rfl, hG⟩
theorem c8_costWithSign_36 (d : Nat) (σ t u : sMem) (N P S G : Nat) (h : HR σ t 36 N P S G) (q : Nat) (hq : q < N) (hU : UI t u N G G (t 3 0 4) (-1) (nI q)) : yMet l D0 b0 ty ad av lay (d + 5) 0 mX8_costWithSign [aR 34, aI (nI q)] σ (fun r σ' => r = [aI (coD (cn u (G)) aT P S (G) 0)] ∧ DG σ σ' (cn u (G)) aT 36 0 N P S (G)) (fun _ _ => False) := by
  refine yMet_intro lay_nd kX8_costWithSign xX8_ok (yY8_ok _) (by decide +kernel) rfl ?_
  intro K hK
  have hN := h.2.2.1.1.1.1.1
  iterate 4 refine hK _ _ _ _ _ ?_
  show K _ _ _ _ _
  rw [show σ 34 0 3 = nI 36 from h.1]
  show K _ _ _ _ _
  rw [show (nI 36).toNatClampNeg = 36 from rfl]
  iterate 3 refine hK _ _ _ _ _ ?_
  refine Or.inr (Or.inl (yD0 (c5_copyFrom_36 _ _) ?_))
  rintro r x ⟨rfl, hY⟩
  have hx : x 34 0 3 = nI 36 := by rw [hY.1 34 (by omega)]; exact h.1
  have hx37 : x 37 0 0 = nI N := by rw [hY.1 37 (by omega)]; exact h.2.1.1
  iterate 6 refine hK _ _ _ _ _ ?_
  show K _ _ _ _ _
  rw [show x 34 0 3 = nI 36 from hx]
  show K _ _ _ _ _
  rw [show (nI 36).toNatClampNeg = 36 from rfl]
  iterate 2 refine hK _ _ _ _ _ ?_
  show K _ _ _ _ _
  rw [show x 37 0 0 = nI N from hx37]
  refine hK _ _ _ _ _ ?_
  refine Or.inl (calD (c8_allBits _ _ _) ?_)
  rintro r σ' ⟨rfl, hσ⟩
  subst σ'
  refine hK _ _ _ _ _ ?_
  refine And.intro (vp_in_nI (n := q) (by omega) (by decide)) ?_
  rw [nI_clamp (show q < 2 ^ 31 by omega)]
  show K _ _ _ _ _
  generalize hz : sUp x 79 0 q ((1 : Int32) <<< (nI N &&& 31) - 1) = z
  have hD := hz ▸ DY_sign h (Or.inl rfl) hY hq hU
  have hx9 : (z) 34 0 3 = nI 36 := by rw [← hz, sUp_off (by decide)]; exact hx
  iterate 4 refine hK _ _ _ _ _ ?_
  show K _ _ _ _ _
  rw [show z 34 0 3 = nI 36 from hx9]
  show K _ _ _ _ _
  rw [show (nI 36).toNatClampNeg = 36 from rfl]
  iterate 4 refine hK _ _ _ _ _ ?_
  refine Or.inr (Or.inl (yD0 (c0_run_36 _ _ _ aT 0 N P S G hD.1 hD.2.1 hD.2.2.1 hD.2.2.2 (by omega)) ?_))
  rintro r y ⟨rfl, hy⟩
  have hG := DG_of (Or.inl rfl) hD (fun i hi => hY.1 i (by omega)) (fun i hi => by rw [← hz, sUp_off (by omega)]) hy
  iterate 3 refine hK _ _ _ _ _ ?_
  refine Or.inl (calD (c0_cost_36 _ _ _ _ 0 N P S G _ hG.1) ?_)
  rintro r σ' ⟨rfl, hσ⟩
  subst σ'
  refine hK _ _ _ _ _ ?_
  exact ⟨rfl, hG⟩
theorem c8_costWithGuide_36 (d : Nat) (σ t u : sMem) (N P S G : Nat) (h : HR σ t 36 N P S G) (p f : Nat) (hU : UI t u N G (G + 1) (t 3 0 4) (-1) (-1)) (e1 : u 10 G 0 = nI p) (e2 : u 10 G 1 = nI f) : yMet l D0 b0 ty ad av lay (d + 5) 0 mX8_costWithGuide [aR 34, aI (nI p), aI (nI f)] σ (fun r σ' => r = [aI (coD (cn u (G + 1)) aT P S (G + 1) 0)] ∧ DG σ σ' (cn u (G + 1)) aT 36 0 N P S (G + 1)) (fun _ _ => False) := by
  refine yMet_intro lay_nd kX8_costWithGuide xX8_ok (yY8_ok _) (by decide +kernel) rfl ?_
  intro K hK
  have hG4 := h.2.2.1.1.2.2.2.2.2
  iterate 4 refine hK _ _ _ _ _ ?_
  show K _ _ _ _ _
  rw [show σ 34 0 3 = nI 36 from h.1]
  show K _ _ _ _ _
  rw [show (nI 36).toNatClampNeg = 36 from rfl]
  iterate 3 refine hK _ _ _ _ _ ?_
  refine Or.inr (Or.inl (yD0 (c5_copyFrom_36 _ _) ?_))
  rintro r x ⟨rfl, hY⟩
  have hx : x 34 0 3 = nI 36 := by rw [hY.1 34 (by omega)]; exact h.1
  have hx37 : x 37 0 0 = nI N := by rw [hY.1 37 (by omega)]; exact h.2.1.1
  iterate 5 refine hK _ _ _ _ _ ?_
  refine Or.inl (calD (c5_addGuide _ x G (by omega) ((hY.base h (Or.inl rfl) hU).2.2.1) _ _) ?_)
  rintro r z ⟨rfl, hz⟩
  have hD := hz ▸ DY_guide h (Or.inl rfl) hY hU e1 e2
  have hx9 : (z) 34 0 3 = nI 36 := by rw [hz, sUp_off (by decide), sUp_off (by decide), sUp_off (by decide)]; exact hx
  iterate 4 refine hK _ _ _ _ _ ?_
  show K _ _ _ _ _
  rw [show z 34 0 3 = nI 36 from hx9]
  show K _ _ _ _ _
  rw [show (nI 36).toNatClampNeg = 36 from rfl]
  iterate 4 refine hK _ _ _ _ _ ?_
  refine Or.inr (Or.inl (yD0 (c0_run_36 _ _ _ aT 0 N P S (G + 1) hD.1 hD.2.1 hD.2.2.1 hD.2.2.2 (by omega)) ?_))
  rintro r y ⟨rfl, hy⟩
  have hG := DG_of (Or.inl rfl) hD (fun i hi => hY.1 i (by omega)) (fun i hi => by rw [hz, sUp_off (by omega), sUp_off (by omega), sUp_off (by omega)]) hy
  iterate 3 refine hK _ _ _ _ _ ?_
  refine Or.inl (calD (c0_cost_36 _ _ _ _ 0 N P S (G + 1) _ hG.1) ?_)
  rintro r σ' ⟨rfl, hσ⟩
  subst σ'
  refine hK _ _ _ _ _ ?_
  exact ⟨rfl, hG⟩
theorem c8_costWithTwoGuides_36 (d : Nat) (σ t u : sMem) (N P S G : Nat) (h : HR σ t 36 N P S G) (p q f : Nat) (hU : UI t u N G (G + 2) (t 3 0 4) (-1) (-1)) (e1 : u 10 G 0 = nI p) (e2 : u 10 G 1 = nI f) (e3 : u 10 (G + 1) 0 = nI q) (e4 : u 10 (G + 1) 1 = nI f) : yMet l D0 b0 ty ad av lay (d + 5) 0 mX8_costWithTwoGuides [aR 34, aI (nI p), aI (nI q), aI (nI f)] σ (fun r σ' => r = [aI (coD (cn u (G + 2)) aT P S (G + 2) 0)] ∧ DG σ σ' (cn u (G + 2)) aT 36 0 N P S (G + 2)) (fun _ _ => False) := by
  refine yMet_intro lay_nd kX8_costWithTwoGuides xX8_ok (yY8_ok _) (by decide +kernel) rfl ?_
  intro K hK
  have hG4 := h.2.2.1.1.2.2.2.2.2
  iterate 4 refine hK _ _ _ _ _ ?_
  show K _ _ _ _ _
  rw [show σ 34 0 3 = nI 36 from h.1]
  show K _ _ _ _ _
  rw [show (nI 36).toNatClampNeg = 36 from rfl]
  iterate 3 refine hK _ _ _ _ _ ?_
  refine Or.inr (Or.inl (yD0 (c5_copyFrom_36 _ _) ?_))
  rintro r x ⟨rfl, hY⟩
  have hx : x 34 0 3 = nI 36 := by rw [hY.1 34 (by omega)]; exact h.1
  have hx37 : x 37 0 0 = nI N := by rw [hY.1 37 (by omega)]; exact h.2.1.1
  iterate 5 refine hK _ _ _ _ _ ?_
  refine Or.inl (calD (c5_addGuide _ x G (by omega) ((hY.base h (Or.inl rfl) hU).2.2.1) _ _) ?_)
  rintro r w ⟨rfl, hw⟩
  iterate 5 refine hK _ _ _ _ _ ?_
  refine Or.inl (calD (c5_addGuide _ w (G + 1) (by omega) (by rw [hw, sUp_at]) _ _) ?_)
  rintro r z ⟨rfl, hz⟩
  rw [hw] at hz
  have hD := hz ▸ DY_guides h (Or.inl rfl) hY hU e1 e2 e3 e4
  have hx9 : (z) 34 0 3 = nI 36 := by rw [hz, sUp_off (by decide), sUp_off (by decide), sUp_off (by decide), sUp_off (by decide), sUp_off (by decide), sUp_off (by decide)]; exact hx
  iterate 4 refine hK _ _ _ _ _ ?_
  show K _ _ _ _ _
  rw [show z 34 0 3 = nI 36 from hx9]
  show K _ _ _ _ _
  rw [show (nI 36).toNatClampNeg = 36 from rfl]
  iterate 4 refine hK _ _ _ _ _ ?_
  refine Or.inr (Or.inl (yD0 (c0_run_36 _ _ _ aT 0 N P S (G + 2) hD.1 hD.2.1 hD.2.2.1 hD.2.2.2 (by omega)) ?_))
  rintro r y ⟨rfl, hy⟩
  have hG := DG_of (Or.inl rfl) hD (fun i hi => hY.1 i (by omega)) (fun i hi => by rw [hz, sUp_off (by omega), sUp_off (by omega), sUp_off (by omega), sUp_off (by omega), sUp_off (by omega), sUp_off (by omega)]) hy
  iterate 3 refine hK _ _ _ _ _ ?_
  refine Or.inl (calD (c0_cost_36 _ _ _ _ 0 N P S (G + 2) _ hG.1) ?_)
  rintro r σ' ⟨rfl, hσ⟩
  subst σ'
  refine hK _ _ _ _ _ ?_
  exact ⟨rfl, hG⟩
theorem c8_costWithLaw_36 (d : Nat) (σ t u : sMem) (N P S G : Nat) (h : HR σ t 36 N P S G) (k : Nat) (hk : k ≤ 9) (hU : UI t u N G G (nI k) (-1) (-1)) : yMet l D0 b0 ty ad av lay (d + 5) 0 mX8_costWithLaw [aR 34, aI (nI k)] σ (fun r σ' => r = [aI (coD (cn u (G)) aT P S (G) 0)] ∧ DG σ σ' (cn u (G)) aT 36 0 N P S (G)) (fun _ _ => False) := by
  refine yMet_intro lay_nd kX8_costWithLaw xX8_ok (yY8_ok _) (by decide +kernel) rfl ?_
  intro K hK
  iterate 4 refine hK _ _ _ _ _ ?_
  show K _ _ _ _ _
  rw [show σ 34 0 3 = nI 36 from h.1]
  show K _ _ _ _ _
  rw [show (nI 36).toNatClampNeg = 36 from rfl]
  iterate 3 refine hK _ _ _ _ _ ?_
  refine Or.inr (Or.inl (yD0 (c5_copyFrom_36 _ _) ?_))
  rintro r x ⟨rfl, hY⟩
  have hx : x 34 0 3 = nI 36 := by rw [hY.1 34 (by omega)]; exact h.1
  have hx37 : x 37 0 0 = nI N := by rw [hY.1 37 (by omega)]; exact h.2.1.1
  iterate 4 refine hK _ _ _ _ _ ?_
  show K _ _ _ _ _
  generalize hz : sUp x 76 0 0 (nI k) = z
  have hD := hz ▸ DY_law h (Or.inl rfl) hY hk hU
  have hx9 : (z) 34 0 3 = nI 36 := by rw [← hz, sUp_off (by decide)]; exact hx
  iterate 4 refine hK _ _ _ _ _ ?_
  show K _ _ _ _ _
  rw [show z 34 0 3 = nI 36 from hx9]
  show K _ _ _ _ _
  rw [show (nI 36).toNatClampNeg = 36 from rfl]
  iterate 4 refine hK _ _ _ _ _ ?_
  refine Or.inr (Or.inl (yD0 (c0_run_36 _ _ _ aT 0 N P S G hD.1 hD.2.1 hD.2.2.1 hD.2.2.2 (by omega)) ?_))
  rintro r y ⟨rfl, hy⟩
  have hG := DG_of (Or.inl rfl) hD (fun i hi => hY.1 i (by omega)) (fun i hi => by rw [← hz, sUp_off (by omega)]) hy
  iterate 3 refine hK _ _ _ _ _ ?_
  refine Or.inl (calD (c0_cost_36 _ _ _ _ 0 N P S G _ hG.1) ?_)
  rintro r σ' ⟨rfl, hσ⟩
  subst σ'
  refine hK _ _ _ _ _ ?_
  exact ⟨rfl, hG⟩
theorem c8_goThrough_54 (d : Nat) (σ t u : sMem) (N P S G : Nat) (h : HR σ t 54 N P S G) (kd : Nat) (hk : kd ≤ 4) (hU : UI t u N G G (t 3 0 4) (-1) (-1)) : yMet l D0 b0 ty ad av lay (d + 5) 0 mX8_goThrough [aR 34, aI (nI kd)] σ (fun r σ' => r = [] ∧ DG σ σ' (cn u G) aT 54 kd N P S G) (fun _ _ => False) := by
  refine yMet_intro lay_nd kX8_goThrough xX8_ok (yY8_ok _) (by decide +kernel) rfl ?_
  intro K hK
  iterate 4 refine hK _ _ _ _ _ ?_
  show K _ _ _ _ _
  rw [show σ 34 0 3 = nI 54 from h.1]
  show K _ _ _ _ _
  rw [show (nI 54).toNatClampNeg = 54 from rfl]
  iterate 3 refine hK _ _ _ _ _ ?_
  refine Or.inr (Or.inl (yD0 (c5_copyFrom_54 _ _) ?_))
  rintro r x ⟨rfl, hY⟩
  have hx : x 34 0 3 = nI 54 := by rw [hY.1 34 (by omega)]; exact h.1
  have hx37 : x 55 0 0 = nI N := by rw [hY.1 55 (by omega)]; exact h.2.1.1
  have hD := DY_plain h (Or.inr rfl) hY hU
  have hx9 : (x) 34 0 3 = nI 54 := hx
  iterate 4 refine hK _ _ _ _ _ ?_
  show K _ _ _ _ _
  rw [show x 34 0 3 = nI 54 from hx9]
  show K _ _ _ _ _
  rw [show (nI 54).toNatClampNeg = 54 from rfl]
  iterate 4 refine hK _ _ _ _ _ ?_
  refine Or.inr (Or.inl (yD0 (c0_run_54 _ _ _ aT kd N P S G hD.1 hD.2.1 hD.2.2.1 hD.2.2.2 (by omega)) ?_))
  rintro r y ⟨rfl, hy⟩
  refine hK _ _ _ _ _ ?_
  have hG := DG_of (Or.inr rfl) hD (fun i hi => hY.1 i (by omega)) (fun i hi => rfl) hy
  exact ⟨rfl, hG⟩
theorem c8_goThroughByLots_54 (d : Nat) (σ t u : sMem) (N P S G : Nat) (h : HR σ t 54 N P S G) (kd : Nat) (hk : kd ≤ 4) (h8 : u 8 = t 8) (h31 : ¬ u 0 0 31 = 0) (hU : UI t u N G G (t 3 0 4) (-1) (-1)) : yMet l D0 b0 ty ad av lay (d + 5) 0 mX8_goThroughByLots [aR 34, aI (nI kd), aI (u 0 0 30)] σ (fun r σ' => r = [] ∧ σ' 76 0 6 = nI (btO (cmF u) S) ∧ DG σ σ' (cn u G) (cmF u) 54 kd N P S G) (fun _ _ => False) := by
  refine yMet_intro lay_nd kX8_goThroughByLots xX8_ok (yY8_ok _) (by decide +kernel) rfl ?_
  intro K hK
  iterate 4 refine hK _ _ _ _ _ ?_
  show K _ _ _ _ _
  rw [show σ 34 0 3 = nI 54 from h.1]
  show K _ _ _ _ _
  rw [show (nI 54).toNatClampNeg = 54 from rfl]
  iterate 3 refine hK _ _ _ _ _ ?_
  refine Or.inr (Or.inl (yD0 (c5_copyFrom_54 _ _) ?_))
  rintro r x ⟨rfl, hY⟩
  have hx : x 34 0 3 = nI 54 := by rw [hY.1 34 (by omega)]; exact h.1
  have hx37 : x 55 0 0 = nI N := by rw [hY.1 55 (by omega)]; exact h.2.1.1
  iterate 4 refine hK _ _ _ _ _ ?_
  show K _ _ _ _ _
  rw [show x 34 0 3 = nI 54 from hx]
  show K _ _ _ _ _
  rw [show (nI 54).toNatClampNeg = 54 from rfl]
  iterate 2 refine hK _ _ _ _ _ ?_
  refine Or.inl (calD (c5_drawComing_54 _ x u S h.2.2.1.1.1.2.2.2.2.1.2 (by rw [hY.1 54 (by omega)]; exact h.2.1.2.2.1) h31 (fun s hs => by rw [hY.1 67 (by omega), h8]; exact (h.2.1.2.2.2.2.2.2.2.1 s hs).2.2.2.1)) ?_)
  rintro r z ⟨rfl, hz⟩
  have hD := hz ▸ DY_lots (cm := cmF u) h (Or.inr rfl) hY hU
  have hx9 : (z) 34 0 3 = nI 54 := by rw [hz, sUp_off (by decide)]; exact hx
  iterate 4 refine hK _ _ _ _ _ ?_
  show K _ _ _ _ _
  rw [show z 34 0 3 = nI 54 from hx9]
  show K _ _ _ _ _
  rw [show (nI 54).toNatClampNeg = 54 from rfl]
  iterate 4 refine hK _ _ _ _ _ ?_
  refine Or.inr (Or.inl (yD0 (c0_run_54 _ _ _ (cmF u) kd N P S G hD.1 hD.2.1 hD.2.2.1 hD.2.2.2 (by omega)) ?_))
  rintro r y ⟨rfl, hy⟩
  refine hK _ _ _ _ _ ?_
  have hG := DG_of (Or.inr rfl) hD (fun i hi => hY.1 i (by omega)) (fun i hi => by rw [hz, sUp_off (by omega)]) hy
  exact ⟨rfl, by rw [hy.2 76 (by omega), hz, sUp_at], hG⟩
theorem c8_costByFirst_54 (d : Nat) (σ t u : sMem) (N P S G : Nat) (h : HR σ t 54 N P S G) (hU : UI t u N G G (t 3 0 4) (-1) (-1)) : yMet l D0 b0 ty ad av lay (d + 5) 0 mX8_costByFirst [aR 34] σ (fun r σ' => r = [aI (coD (cn u (G)) aT P S (G) 0)] ∧ DG σ σ' (cn u (G)) aT 54 0 N P S (G)) (fun _ _ => False) := by
  refine yMet_intro lay_nd kX8_costByFirst xX8_ok (yY8_ok _) (by decide +kernel) rfl ?_
  intro K hK
  iterate 4 refine hK _ _ _ _ _ ?_
  show K _ _ _ _ _
  rw [show σ 34 0 3 = nI 54 from h.1]
  show K _ _ _ _ _
  rw [show (nI 54).toNatClampNeg = 54 from rfl]
  iterate 3 refine hK _ _ _ _ _ ?_
  refine Or.inr (Or.inl (yD0 (c5_copyFrom_54 _ _) ?_))
  rintro r x ⟨rfl, hY⟩
  have hx : x 34 0 3 = nI 54 := by rw [hY.1 34 (by omega)]; exact h.1
  have hx37 : x 55 0 0 = nI N := by rw [hY.1 55 (by omega)]; exact h.2.1.1
  have hD := DY_plain h (Or.inr rfl) hY hU
  have hx9 : (x) 34 0 3 = nI 54 := hx
  iterate 4 refine hK _ _ _ _ _ ?_
  show K _ _ _ _ _
  rw [show x 34 0 3 = nI 54 from hx9]
  show K _ _ _ _ _
  rw [show (nI 54).toNatClampNeg = 54 from rfl]
  iterate 4 refine hK _ _ _ _ _ ?_
  refine Or.inr (Or.inl (yD0 (c0_run_54 _ _ _ aT 0 N P S G hD.1 hD.2.1 hD.2.2.1 hD.2.2.2 (by omega)) ?_))
  rintro r y ⟨rfl, hy⟩
  have hG := DG_of (Or.inr rfl) hD (fun i hi => hY.1 i (by omega)) (fun i hi => rfl) hy
  iterate 3 refine hK _ _ _ _ _ ?_
  refine Or.inl (calD (c0_cost_54 _ _ _ _ 0 N P S G _ hG.1) ?_)
  rintro r σ' ⟨rfl, hσ⟩
  subst σ'
  refine hK _ _ _ _ _ ?_
  exact ⟨rfl, hG⟩
theorem c8_costWithSign_54 (d : Nat) (σ t u : sMem) (N P S G : Nat) (h : HR σ t 54 N P S G) (q : Nat) (hq : q < N) (hU : UI t u N G G (t 3 0 4) (-1) (nI q)) : yMet l D0 b0 ty ad av lay (d + 5) 0 mX8_costWithSign [aR 34, aI (nI q)] σ (fun r σ' => r = [aI (coD (cn u (G)) aT P S (G) 0)] ∧ DG σ σ' (cn u (G)) aT 54 0 N P S (G)) (fun _ _ => False) := by
  refine yMet_intro lay_nd kX8_costWithSign xX8_ok (yY8_ok _) (by decide +kernel) rfl ?_
  intro K hK
  have hN := h.2.2.1.1.1.1.1
  iterate 4 refine hK _ _ _ _ _ ?_
  show K _ _ _ _ _
  rw [show σ 34 0 3 = nI 54 from h.1]
  show K _ _ _ _ _
  rw [show (nI 54).toNatClampNeg = 54 from rfl]
  iterate 3 refine hK _ _ _ _ _ ?_
  refine Or.inr (Or.inl (yD0 (c5_copyFrom_54 _ _) ?_))
  rintro r x ⟨rfl, hY⟩
  have hx : x 34 0 3 = nI 54 := by rw [hY.1 34 (by omega)]; exact h.1
  have hx37 : x 55 0 0 = nI N := by rw [hY.1 55 (by omega)]; exact h.2.1.1
  iterate 6 refine hK _ _ _ _ _ ?_
  show K _ _ _ _ _
  rw [show x 34 0 3 = nI 54 from hx]
  show K _ _ _ _ _
  rw [show (nI 54).toNatClampNeg = 54 from rfl]
  iterate 2 refine hK _ _ _ _ _ ?_
  show K _ _ _ _ _
  rw [show x 55 0 0 = nI N from hx37]
  refine hK _ _ _ _ _ ?_
  refine Or.inl (calD (c8_allBits _ _ _) ?_)
  rintro r σ' ⟨rfl, hσ⟩
  subst σ'
  refine hK _ _ _ _ _ ?_
  refine And.intro (vp_in_nI (n := q) (by omega) (by decide)) ?_
  rw [nI_clamp (show q < 2 ^ 31 by omega)]
  show K _ _ _ _ _
  generalize hz : sUp x 79 0 q ((1 : Int32) <<< (nI N &&& 31) - 1) = z
  have hD := hz ▸ DY_sign h (Or.inr rfl) hY hq hU
  have hx9 : (z) 34 0 3 = nI 54 := by rw [← hz, sUp_off (by decide)]; exact hx
  iterate 4 refine hK _ _ _ _ _ ?_
  show K _ _ _ _ _
  rw [show z 34 0 3 = nI 54 from hx9]
  show K _ _ _ _ _
  rw [show (nI 54).toNatClampNeg = 54 from rfl]
  iterate 4 refine hK _ _ _ _ _ ?_
  refine Or.inr (Or.inl (yD0 (c0_run_54 _ _ _ aT 0 N P S G hD.1 hD.2.1 hD.2.2.1 hD.2.2.2 (by omega)) ?_))
  rintro r y ⟨rfl, hy⟩
  have hG := DG_of (Or.inr rfl) hD (fun i hi => hY.1 i (by omega)) (fun i hi => by rw [← hz, sUp_off (by omega)]) hy
  iterate 3 refine hK _ _ _ _ _ ?_
  refine Or.inl (calD (c0_cost_54 _ _ _ _ 0 N P S G _ hG.1) ?_)
  rintro r σ' ⟨rfl, hσ⟩
  subst σ'
  refine hK _ _ _ _ _ ?_
  exact ⟨rfl, hG⟩
theorem c8_costWithGuide_54 (d : Nat) (σ t u : sMem) (N P S G : Nat) (h : HR σ t 54 N P S G) (p f : Nat) (hU : UI t u N G (G + 1) (t 3 0 4) (-1) (-1)) (e1 : u 10 G 0 = nI p) (e2 : u 10 G 1 = nI f) : yMet l D0 b0 ty ad av lay (d + 5) 0 mX8_costWithGuide [aR 34, aI (nI p), aI (nI f)] σ (fun r σ' => r = [aI (coD (cn u (G + 1)) aT P S (G + 1) 0)] ∧ DG σ σ' (cn u (G + 1)) aT 54 0 N P S (G + 1)) (fun _ _ => False) := by
  refine yMet_intro lay_nd kX8_costWithGuide xX8_ok (yY8_ok _) (by decide +kernel) rfl ?_
  intro K hK
  have hG4 := h.2.2.1.1.2.2.2.2.2
  iterate 4 refine hK _ _ _ _ _ ?_
  show K _ _ _ _ _
  rw [show σ 34 0 3 = nI 54 from h.1]
  show K _ _ _ _ _
  rw [show (nI 54).toNatClampNeg = 54 from rfl]
  iterate 3 refine hK _ _ _ _ _ ?_
  refine Or.inr (Or.inl (yD0 (c5_copyFrom_54 _ _) ?_))
  rintro r x ⟨rfl, hY⟩
  have hx : x 34 0 3 = nI 54 := by rw [hY.1 34 (by omega)]; exact h.1
  have hx37 : x 55 0 0 = nI N := by rw [hY.1 55 (by omega)]; exact h.2.1.1
  iterate 5 refine hK _ _ _ _ _ ?_
  refine Or.inl (calD (c5_addGuide _ x G (by omega) ((hY.base h (Or.inr rfl) hU).2.2.1) _ _) ?_)
  rintro r z ⟨rfl, hz⟩
  have hD := hz ▸ DY_guide h (Or.inr rfl) hY hU e1 e2
  have hx9 : (z) 34 0 3 = nI 54 := by rw [hz, sUp_off (by decide), sUp_off (by decide), sUp_off (by decide)]; exact hx
  iterate 4 refine hK _ _ _ _ _ ?_
  show K _ _ _ _ _
  rw [show z 34 0 3 = nI 54 from hx9]
  show K _ _ _ _ _
  rw [show (nI 54).toNatClampNeg = 54 from rfl]
  iterate 4 refine hK _ _ _ _ _ ?_
  refine Or.inr (Or.inl (yD0 (c0_run_54 _ _ _ aT 0 N P S (G + 1) hD.1 hD.2.1 hD.2.2.1 hD.2.2.2 (by omega)) ?_))
  rintro r y ⟨rfl, hy⟩
  have hG := DG_of (Or.inr rfl) hD (fun i hi => hY.1 i (by omega)) (fun i hi => by rw [hz, sUp_off (by omega), sUp_off (by omega), sUp_off (by omega)]) hy
  iterate 3 refine hK _ _ _ _ _ ?_
  refine Or.inl (calD (c0_cost_54 _ _ _ _ 0 N P S (G + 1) _ hG.1) ?_)
  rintro r σ' ⟨rfl, hσ⟩
  subst σ'
  refine hK _ _ _ _ _ ?_
  exact ⟨rfl, hG⟩
theorem c8_costWithTwoGuides_54 (d : Nat) (σ t u : sMem) (N P S G : Nat) (h : HR σ t 54 N P S G) (p q f : Nat) (hU : UI t u N G (G + 2) (t 3 0 4) (-1) (-1)) (e1 : u 10 G 0 = nI p) (e2 : u 10 G 1 = nI f) (e3 : u 10 (G + 1) 0 = nI q) (e4 : u 10 (G + 1) 1 = nI f) : yMet l D0 b0 ty ad av lay (d + 5) 0 mX8_costWithTwoGuides [aR 34, aI (nI p), aI (nI q), aI (nI f)] σ (fun r σ' => r = [aI (coD (cn u (G + 2)) aT P S (G + 2) 0)] ∧ DG σ σ' (cn u (G + 2)) aT 54 0 N P S (G + 2)) (fun _ _ => False) := by
  refine yMet_intro lay_nd kX8_costWithTwoGuides xX8_ok (yY8_ok _) (by decide +kernel) rfl ?_
  intro K hK
  have hG4 := h.2.2.1.1.2.2.2.2.2
  iterate 4 refine hK _ _ _ _ _ ?_
  show K _ _ _ _ _
  rw [show σ 34 0 3 = nI 54 from h.1]
  show K _ _ _ _ _
  rw [show (nI 54).toNatClampNeg = 54 from rfl]
  iterate 3 refine hK _ _ _ _ _ ?_
  refine Or.inr (Or.inl (yD0 (c5_copyFrom_54 _ _) ?_))
  rintro r x ⟨rfl, hY⟩
  have hx : x 34 0 3 = nI 54 := by rw [hY.1 34 (by omega)]; exact h.1
  have hx37 : x 55 0 0 = nI N := by rw [hY.1 55 (by omega)]; exact h.2.1.1
  iterate 5 refine hK _ _ _ _ _ ?_
  refine Or.inl (calD (c5_addGuide _ x G (by omega) ((hY.base h (Or.inr rfl) hU).2.2.1) _ _) ?_)
  rintro r w ⟨rfl, hw⟩
  iterate 5 refine hK _ _ _ _ _ ?_
  refine Or.inl (calD (c5_addGuide _ w (G + 1) (by omega) (by rw [hw, sUp_at]) _ _) ?_)
  rintro r z ⟨rfl, hz⟩
  rw [hw] at hz
  have hD := hz ▸ DY_guides h (Or.inr rfl) hY hU e1 e2 e3 e4
  have hx9 : (z) 34 0 3 = nI 54 := by rw [hz, sUp_off (by decide), sUp_off (by decide), sUp_off (by decide), sUp_off (by decide), sUp_off (by decide), sUp_off (by decide)]; exact hx
  iterate 4 refine hK _ _ _ _ _ ?_
  show K _ _ _ _ _
  rw [show z 34 0 3 = nI 54 from hx9]
  show K _ _ _ _ _
  rw [show (nI 54).toNatClampNeg = 54 from rfl]
  iterate 4 refine hK _ _ _ _ _ ?_
  refine Or.inr (Or.inl (yD0 (c0_run_54 _ _ _ aT 0 N P S (G + 2) hD.1 hD.2.1 hD.2.2.1 hD.2.2.2 (by omega)) ?_))
  rintro r y ⟨rfl, hy⟩
  have hG := DG_of (Or.inr rfl) hD (fun i hi => hY.1 i (by omega)) (fun i hi => by rw [hz, sUp_off (by omega), sUp_off (by omega), sUp_off (by omega), sUp_off (by omega), sUp_off (by omega), sUp_off (by omega)]) hy
  iterate 3 refine hK _ _ _ _ _ ?_
  refine Or.inl (calD (c0_cost_54 _ _ _ _ 0 N P S (G + 2) _ hG.1) ?_)
  rintro r σ' ⟨rfl, hσ⟩
  subst σ'
  refine hK _ _ _ _ _ ?_
  exact ⟨rfl, hG⟩
theorem c8_costWithLaw_54 (d : Nat) (σ t u : sMem) (N P S G : Nat) (h : HR σ t 54 N P S G) (k : Nat) (hk : k ≤ 9) (hU : UI t u N G G (nI k) (-1) (-1)) : yMet l D0 b0 ty ad av lay (d + 5) 0 mX8_costWithLaw [aR 34, aI (nI k)] σ (fun r σ' => r = [aI (coD (cn u (G)) aT P S (G) 0)] ∧ DG σ σ' (cn u (G)) aT 54 0 N P S (G)) (fun _ _ => False) := by
  refine yMet_intro lay_nd kX8_costWithLaw xX8_ok (yY8_ok _) (by decide +kernel) rfl ?_
  intro K hK
  iterate 4 refine hK _ _ _ _ _ ?_
  show K _ _ _ _ _
  rw [show σ 34 0 3 = nI 54 from h.1]
  show K _ _ _ _ _
  rw [show (nI 54).toNatClampNeg = 54 from rfl]
  iterate 3 refine hK _ _ _ _ _ ?_
  refine Or.inr (Or.inl (yD0 (c5_copyFrom_54 _ _) ?_))
  rintro r x ⟨rfl, hY⟩
  have hx : x 34 0 3 = nI 54 := by rw [hY.1 34 (by omega)]; exact h.1
  have hx37 : x 55 0 0 = nI N := by rw [hY.1 55 (by omega)]; exact h.2.1.1
  iterate 4 refine hK _ _ _ _ _ ?_
  show K _ _ _ _ _
  generalize hz : sUp x 76 0 0 (nI k) = z
  have hD := hz ▸ DY_law h (Or.inr rfl) hY hk hU
  have hx9 : (z) 34 0 3 = nI 54 := by rw [← hz, sUp_off (by decide)]; exact hx
  iterate 4 refine hK _ _ _ _ _ ?_
  show K _ _ _ _ _
  rw [show z 34 0 3 = nI 54 from hx9]
  show K _ _ _ _ _
  rw [show (nI 54).toNatClampNeg = 54 from rfl]
  iterate 4 refine hK _ _ _ _ _ ?_
  refine Or.inr (Or.inl (yD0 (c0_run_54 _ _ _ aT 0 N P S G hD.1 hD.2.1 hD.2.2.1 hD.2.2.2 (by omega)) ?_))
  rintro r y ⟨rfl, hy⟩
  have hG := DG_of (Or.inr rfl) hD (fun i hi => hY.1 i (by omega)) (fun i hi => by rw [← hz, sUp_off (by omega)]) hy
  iterate 3 refine hK _ _ _ _ _ ?_
  refine Or.inl (calD (c0_cost_54 _ _ _ _ 0 N P S G _ hG.1) ?_)
  rintro r σ' ⟨rfl, hσ⟩
  subst σ'
  refine hK _ _ _ _ _ ?_
  exact ⟨rfl, hG⟩
end
