/-! THE SAME DAY on both sides: the canonical input -/
def cn (t : sMem) (G : Nat) : sMem := fun a r k =>
  if a = 6 ∨ a = 8 ∨ a = 12 ∨ a = 13 ∨ a = 14 ∨ a = 15 ∨ a = 16 then t a r k
  else if a = 10 then (if r < G ∧ k < 2 then t 10 r k else 0)
  else if a = 0 then (if r = 0 ∧ (k = 27 ∨ k = 28 ∨ k = 29) then t 0 0 k else 0) else 0
theorem cn_v {t : sMem} {G a : Nat} (h : a = 6 ∨ a = 8 ∨ a = 12 ∨ a = 13 ∨ a = 14 ∨ a = 15 ∨ a = 16) : cn t G a = t a := by
  funext r k
  exact if_pos h
theorem cn_g {t : sMem} {G g j : Nat} (h : g < G) (hj : j < 2) : cn t G 10 g j = t 10 g j := by
  unfold cn
  rw [if_neg (by decide), if_pos rfl, if_pos ⟨h, hj⟩]
theorem cn_g0 {t : sMem} {G g : Nat} (h : g < G) : cn t G 10 g 0 = t 10 g 0 := cn_g h (by decide)
theorem cn_g1 {t : sMem} {G g : Nat} (h : g < G) : cn t G 10 g 1 = t 10 g 1 := cn_g h (by decide)
theorem cn_f {t : sMem} {G k : Nat} (h : k = 27 ∨ k = 28 ∨ k = 29) : cn t G 0 0 k = t 0 0 k := by
  unfold cn
  rw [if_neg (by decide), if_neg (by decide), if_pos rfl, if_pos ⟨rfl, h⟩]
theorem cn_TW (t : sMem) (G : Nat) : TW (cn t G) t G := ⟨fun _ h => (cn_v h).symm, fun _ _ h hj => (cn_g h hj).symm, fun _ h => (cn_f h).symm⟩
theorem cn_cg {u t : sMem} {G : Nat} (h : ∀ a, (a = 6 ∨ a = 8 ∨ a = 12 ∨ a = 13 ∨ a = 14 ∨ a = 15 ∨ a = 16) → u a = t a) (hg : ∀ g j, g < G → j < 2 → u 10 g j = t 10 g j) (hf : ∀ k, (k = 27 ∨ k = 28 ∨ k = 29) → u 0 0 k = t 0 0 k) : cn u G = cn t G := by
  funext a r k
  unfold cn
  split
  · rename_i h1
    rw [h a h1]
  · split
    · split
      · rename_i h2; exact hg r k h2.1 h2.2
      · rfl
    · split
      · split
        · rename_i h2; exact hf k h2.2
        · rfl
      · rfl
/-- u is the reference's memory, where a day begins, of a town t with law l, resting r, sign q, and G' guides -/
def UI (t u : sMem) (N G G' : Nat) (l r q : Int32) : Prop := (∀ a, (a = 6 ∨ a = 8 ∨ a = 12 ∨ a = 13 ∨ a = 14 ∨ a = 15 ∨ a = 16) → u a = t a) ∧ (∀ g j, g < G → u 10 g j = t 10 g j) ∧ u 0 0 27 = l ∧ u 0 0 28 = r ∧ u 0 0 29 = q ∧ (G ≤ G' ∧ G' ≤ 6) ∧
  ∀ g, G ≤ g → g < G' → ∃ a f : Nat, (u 10 g 0 = nI a ∧ a < N) ∧ u 10 g 1 = nI f ∧ f ≤ 9
theorem MC_of {t : sMem} {N P S G : Nat} (h : MI t N P S G) : MC t N P S := by
  have hN := h.1.1.1.1
  refine ⟨h.2.1, h.1.1.2.1, h.1.1.2.2.2.1.2, h.1.1.2.2.2.2.1.2, fun p hp => ?_, fun s hs => ?_⟩
  · obtain ⟨a, b, tt, w, ⟨ea, ha⟩, ⟨eb, hb⟩, ⟨et, ht⟩, ew, h1, h2⟩ := h.1.1.2.2.2.2.2.1 p hp
    unfold pP pQ pT pV
    rw [ea, eb, et, ew, nI_clamp (show a < 2 ^ 31 by omega), nI_clamp (show b < 2 ^ 31 by omega), nI_clamp (show tt < 2 ^ 31 by omega), nI_clamp (show w < 2 ^ 31 by omega)]
    exact ⟨⟨rfl, ha⟩, ⟨rfl, hb⟩, ⟨rfl, ht⟩, rfl, h1, h2⟩
  · obtain ⟨a, b, tt, w, ⟨ea, ha⟩, ⟨eb, hb⟩, ⟨et, ht⟩, -⟩ := h.1.1.2.2.2.2.2.2 s hs
    have hn := (h.2.2.2.2.2.1 s hs).1
    unfold sX sY sT
    rw [ea, eb] at hn
    rw [ea, eb, et, nI_clamp (show a < 2 ^ 31 by omega), nI_clamp (show b < 2 ^ 31 by omega), nI_clamp (show tt < 2 ^ 31 by omega)]
    exact ⟨⟨rfl, ha⟩, ⟨rfl, hb⟩, ⟨rfl, ht⟩, fun e => hn (by rw [e])⟩
theorem MC.cg {t c : sMem} {N P S : Nat} (h : MC t N P S) (hh : ∀ a, (a = 6 ∨ a = 8 ∨ a = 13 ∨ a = 14 ∨ a = 15) → c a = t a) : MC c N P S := by
  unfold MC WY WI fN pP pQ pT pV sX sY sT at *
  rw [hh 6 (by omega), hh 8 (by omega), hh 13 (by omega), hh 14 (by omega), hh 15 (by omega)]
  exact h
section
variable {t u : sMem} {N P S G G' : Nat} {l r q : Int32}
theorem UI.at (hU : UI t u N G G' l r q) {a : Nat} (h : a = 6 ∨ a = 8 ∨ a = 12 ∨ a = 13 ∨ a = 14 ∨ a = 15 ∨ a = 16) : cn u G' a = t a := (cn_v h).trans (hU.1 a h)
theorem UI.MC (h : MI t N P S G) (hU : UI t u N G G' l r q) : MC (cn u G') N P S := (MC_of h).cg (fun _ ha => hU.at (by omega))
theorem UI.SC (h : MI t N P S G) (hU : UI t u N G G' l r q) {k : Nat} (hl : l = nI k) (hk : k ≤ 9) : SC (cn u G') N P S G' := by
  have hN := h.1.1.1.1
  refine ⟨?_, hU.2.2.2.2.2.1.2, fun g hg => ?_, fun s hs p hp => ?_⟩
  · unfold lw
    rw [cn_f (Or.inl rfl), hU.2.2.1, hl, nI_clamp (by omega)]
    exact ⟨rfl, hk⟩
  · have : ∃ a f : Nat, (cn u G' 10 g 0 = nI a ∧ a < N) ∧ cn u G' 10 g 1 = nI f ∧ f ≤ 9 := by
      rw [cn_g0 hg, cn_g1 hg]
      by_cases e : g < G
      · rw [hU.2.1 g 0 e, hU.2.1 g 1 e]
        exact h.2.2.2.2.2.2.2.1 g e
      · exact hU.2.2.2.2.2.2 g (by omega) hg
    obtain ⟨a, f, ⟨ea, ha⟩, ef, hf⟩ := this
    unfold gA gF
    rw [ea, ef, nI_clamp (show a < 2 ^ 31 by omega), nI_clamp (show f < 2 ^ 31 by omega)]
    exact ⟨⟨rfl, ha⟩, rfl, hf⟩
  · have hP := h.1.1.2.2.2.1.2
    unfold tlO at hp
    rw [hU.at (by omega)] at hp ⊢
    rcases h.1.2.2.2.1 s hs with e | ⟨x, e, hx⟩
    · rw [e, if_pos rfl] at hp; cases hp
    · rw [e, if_neg (nI_ne (by omega)), nI_clamp (by omega)] at hp
      cases hp
      exact ⟨hx, e⟩
theorem TT_of {σ c : sMem} {v : Nat} (hC : CT σ t v N P S G) (hM : MI t N P S G) (hh : ∀ a, (a = 6 ∨ a = 8 ∨ a = 13 ∨ a = 14 ∨ a = 15) → c a = t a) : TT σ c v N P S := by
  have hm := MC_of hM
  have hN := hM.1.1.1.1
  refine ⟨hC.1, hC.2.1, hC.2.2.1, fun a b ha hb => ?_, fun p hp => ?_, fun s hs => ?_⟩
  · have h1 := hC.2.2.2.2.2.1 a b ha hb
    unfold fN nxN
    rw [hh 14 (by omega), hh 15 (by omega)]
    refine ⟨h1.2.1.trans (hM.far ha hb).1, h1.2.2.trans ?_⟩
    rcases hM.1.2.2.1 a b ha hb with e | ⟨x, e, hx⟩
    · rw [if_pos e, if_pos e]
    · rw [e, if_neg (nI_ne (by omega)), if_neg (nI_ne (by omega)), nI_clamp (by omega)]
  · have h1 := hC.2.2.2.2.2.2.1 p hp
    have h2 := hm.2.2.2.2.1 p hp
    unfold pP pQ pT pV at *
    rw [hh 6 (by omega)]
    exact ⟨h1.1.trans h2.1.1, h1.2.1.trans h2.2.1.1, h1.2.2.1.trans h2.2.2.1.1, h1.2.2.2.1.trans h2.2.2.2.1, h1.2.2.2.2⟩
  · have h1 := hC.2.2.2.2.2.2.2.1 s hs
    have h2 := hm.2.2.2.2.2 s hs
    unfold sX sY sT at *
    rw [hh 8 (by omega)]
    exact ⟨h1.1.trans h2.1.1, h1.2.1.trans h2.2.1.1, h1.2.2.1.trans h2.2.2.1.1, h1.2.2.2.2⟩
theorem SS_of {σ c : sMem} {cm : Nat → Bool} (hSC : SC c N P S G) (h0 : σ 76 0 0 = c 0 0 27) (h1 : σ 76 0 1 = nI G) (h2 : ∀ g, g < G → σ 77 0 g = c 10 g 0 ∧ σ 78 0 g = c 10 g 1) (h3 : ∀ x y, x < N → y < N → hb (σ 79 0 x) (nI y) = sgB c x y) (h4 : ∀ s, s < S → σ 80 0 s = c 16 0 s) (h5 : σ 76 0 7 = c 0 0 28) (h6 : ∀ s, s < S → hb (σ 76 0 6) (nI s) = cm s) : SS σ c cm N S G := by
  refine ⟨h0.trans hSC.1.1, h1, fun g hg => ⟨(h2 g hg).1.trans (hSC.2.2.1 g hg).1.1, (h2 g hg).2.trans (hSC.2.2.1 g hg).2.1⟩, h3, fun s hs => (h4 s hs).trans ?_, h5, h6⟩
  have h7 := hSC.2.2.2 s hs
  cases e : tlO c s with
  | none =>
    unfold tlO at e
    split at e
    · rename_i h9; exact h9
    · cases e
  | some p => exact (h7 p e).2
theorem allO : ∀ n, n < 13 → ∀ y, y < n → hb ((1 : Int32) <<< (nI n &&& 31) - 1) (nI y) = true := by decide +kernel
end
/-- the class's town and what it is told, beside t -/
def HR (σ t : sMem) (v N P S G : Nat) : Prop := σ 34 0 3 = nI v ∧ CT σ t v N P S G ∧ MI t N P S G ∧ ∀ s, s < 8 → σ 72 0 s = t 16 0 s
section
variable {σ σ' t u : sMem} {v N P S G : Nat}
theorem HR.cg (h : HR σ t v N P S G) (hv : v = 36 ∨ v = 54) (hh : ∀ i, i < 76 ∨ 89 < i → σ' i = σ i) : HR σ' t v N P S G :=
  ⟨by rw [hh 34 (by omega)]; exact h.1, h.2.1.cg (fun i h1 h2 => hh i (by omega)), h.2.2.1, fun s hs => by rw [hh 72 (by omega)]; exact h.2.2.2 s hs⟩
theorem bt_sg {c : sMem} {x y : Nat} (h : c 0 0 29 = -1) (hx : x < 12) : sgB c x y = bt (c 12 0 x) y := by
  unfold sgB
  rw [h, decide_eq_false (fun e => nI_ne (show x < 2 ^ 31 by omega) e.symm), Bool.false_or]
/-- what copyFrom has laid, before more is told -/
theorem CY.base (h : HR σ t v N P S G) (hv : v = 36 ∨ v = 54) (hY : CY σ v σ') {u : sMem} {G' : Nat} {l r q : Int32} (hU : UI t u N G G' l r q) : CT σ' t v N P S G ∧ σ' 76 0 0 = t 3 0 4 ∧ σ' 76 0 1 = nI G ∧ (∀ g, g < G → σ' 77 0 g = cn u G' 10 g 0 ∧ σ' 78 0 g = cn u G' 10 g 1) ∧ (∀ x y, x < N → y < N → hb (σ' 79 0 x) (nI y) = bt (cn u G' 12 0 x) y) ∧ (∀ s, s < S → σ' 80 0 s = cn u G' 16 0 s) ∧ σ' 76 0 7 = -1 ∧ ∀ s, s < S → hb (σ' 76 0 6) (nI s) = true := by
  obtain ⟨h1, hC, hM, h2⟩ := h
  have hN := hM.1.1.1.1
  have hG := hM.1.2.2.2.2.2
  have hS8 := hM.1.1.2.2.2.2.1.2
  obtain ⟨y1, y2, y3, y4, y5, y6, y7, y8⟩ := hY
  refine ⟨hC.cg (fun i h1 h2 => y1 i (by omega)), y2.trans hC.2.2.2.2.1, y3.trans hC.2.2.2.1, fun g hg => ?_, fun x y hx hy => ?_, fun s hs => ?_, y8, fun s hs => ?_⟩
  · have hg' := hU.2.2.2.2.2.1.1
    rw [cn_g0 (by omega), cn_g1 (by omega), hU.2.1 g 0 hg, hU.2.1 g 1 hg, (y4 g (by omega)).1, (y4 g (by omega)).2]
    exact hC.2.2.2.2.2.2.2.2.1 g hg
  · rw [hU.at (by omega), y5 x (by omega), hC.2.2.2.2.2.2.2.2.2 x (by omega)]
    exact hb_bt _ _ (by omega)
  · rw [hU.at (by omega), y6 s (by omega), h2 s (by omega)]
  · rw [y7, hC.2.2.1]
    exact allO S (by omega) s hs
end
section
variable {u : sMem} {N P S G kd : Nat}
theorem day_RA (hM : MC (cn u G) N P S) (hS : SC (cn u G) N P S G) (hk : kd < 2 ^ 31) : RA (cn u G) (daM u (nI kd) P G S) P S G (daA (cn u G) (cmF u) P G S kd) :=
  da_RA hM hS (be_RA hM (cn_TW u G)).1 hk 1000 (Nat.le_refl _)
theorem day_DV {cm : Nat → Bool} (hM : MC (cn u G) N P S) (hS : SC (cn u G) N P S G) : DV (cn u G) N P S 8000 (daA (cn u G) cm P G S kd) :=
  (daA_DV hM hS 1000 (Nat.le_refl _)).mono (by have := hM.2.2.2.1; omega)
theorem day_cost (hM : MC (cn u G) N P S) (hS : SC (cn u G) N P S G) (hk : kd < 2 ^ 31) : csM (daM u (nI kd) P G S) P = nI (cosA (cn u G) (daA (cn u G) (cmF u) P G S kd) P) :=
  cs_RA hM (day_DV hM hS) (da_DLo hM hS 1000 (Nat.le_refl _)) (day_RA hM hS hk) P (Nat.le_refl _)
theorem as_47 (σ : sMem) (P G s : Nat) (kd m : Int32) : asM σ P G s kd m 0 0 47 = σ 0 0 47 := by
  have hb : ∀ p, bpM σ p s m 0 0 47 = σ 0 0 47 := fun p => by
    unfold bpM
    rw [gtM_off (by decide), sUp_off (by decide), stM_off (by decide), lbM_0 _ _ _ _ (by omega)]
  have hg : ∀ g, bgM σ g s m 0 0 47 = σ 0 0 47 := fun g => by
    unfold bgM
    rw [gtM_off (by decide), sUp_k (by omega), sUp_off (by decide), lbM_0 _ _ _ _ (by omega)]
  unfold asM
  split
  · rw [gtM_off (by decide)]
  · split
    · rw [gtM_off (by decide)]
    · split <;> cases asG σ G s kd m <;> cases asP σ P s kd m <;> first | exact hg _ | exact hb _ | exact sUp_k (by decide)
theorem day_47 (hM : MC (cn u G) N P S) (kd : Int32) : daM u kd P G S 0 0 47 = nI (cnA (cmF u) S) := by
  rw [← (be_RA hM (cn_TW u G)).2]
  unfold daM
  generalize beM u P G S = w
  refine forM_P (P := fun t => t 0 0 47 = w 0 0 47) rfl 1000 (fun m t _ ht => Eq.trans ?_ ht)
  unfold dyM
  refine forM_P (P := fun x => x 0 0 47 = t 0 0 47) rfl S (fun s x _ hx => Eq.trans ?_ hx)
  unfold dyS
  split
  · exact as_47 _ _ _ _ _ _
  · rfl
theorem lt_cg {u w : sMem} (h8 : w 8 = u 8) (h30 : w 0 0 30 = u 0 0 30) (h31 : w 0 0 31 = u 0 0 31) : ∀ s, ltA w s = ltA u s
  | 0 => h30
  | s + 1 => by
    show (if w 0 0 31 = 0 ∨ w 8 s 3 = 8 then ltA w s else ltA w s * 1103515245 + 12345) = _
    rw [h31, h8, lt_cg h8 h30 h31 s]
    rfl
theorem cm_cg {u w : sMem} (h8 : w 8 = u 8) (h30 : w 0 0 30 = u 0 0 30) (h31 : w 0 0 31 = u 0 0 31) : cmF w = cmF u := by
  funext s
  unfold cmF
  rw [h31, h8, lt_cg h8 h30 h31]
theorem cm_all {u : sMem} (h31 : u 0 0 31 = 0) : cmF u = fun _ => true := by
  funext s
  unfold cmF
  rw [decide_eq_true (Or.inl h31), Bool.true_or]
end
