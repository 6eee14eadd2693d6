/-! WHAT DAYS COST, the same on both sides -/
def cFi (t : sMem) (P S G : Nat) : Int32 := coD (cP t G) aT P S G 0
def cSg (t : sMem) (P S G x : Nat) : Int32 := coD (cP (sUp t 0 0 29 (nI x)) G) aT P S G 0
def cRe (t : sMem) (P S G x : Nat) : Int32 := coD (cP (sUp t 0 0 28 (nI x)) G) aT P S G 0
def cLw (t : sMem) (P S G k : Nat) : Int32 := coD (cn (sUp t 0 0 27 (nI k)) G) aT P S G 0
def uG1 (t : sMem) (G a f : Nat) : sMem := sUp (sUp (uP t) 10 G 0 (nI a)) 10 G 1 (nI f)
def uG2 (t : sMem) (G a b f : Nat) : sMem := sUp (sUp (uG1 t G a f) 10 (G + 1) 0 (nI b)) 10 (G + 1) 1 (nI f)
def cG1 (t : sMem) (P S G a f : Nat) : Int32 := coD (cn (uG1 t G a f) (G + 1)) aT P S (G + 1) 0
def cG2 (t : sMem) (P S G a b f : Nat) : Int32 := coD (cn (uG2 t G a b f) (G + 2)) aT P S (G + 2) 0
def tLo (t : sMem) (sd : Int32) : sMem := sUp (sUp t 0 0 31 1) 0 0 30 sd
section
variable {t z : sMem} {N P S G : Nat}
theorem cost_eq {t' : sMem} (hM : MI t N P S G) (h3 : t' 3 = t 3) (hO : OK t' N P S G) (h : SM t' z G) {cm : Nat → Bool} (hc : cmF z = cm) {kd : Nat} (hk : kd < 2 ^ 31) : csM (goM z (nI kd) P S) P = coD (cP t' G) cm P S G kd :=
  cs_RA hO.1 ((daA_DV hO.1 hO.2 1000 (Nat.le_refl _)).mono (Nat.le_refl _)) (da_DLo hO.1 hO.2 1000 (Nat.le_refl _)) (go_RA hM h3 hO h hc hk) P (Nat.le_refl _)
theorem HT.cm (hT : HT t) (h : SM t z G) : cmF z = aT := cm_all (h.2.2.2.2.trans hT.2.2)
theorem uP_s (hT : HT t) (hM : MI t N P S G) (x : Nat) : UI t (uP (sUp t 0 0 29 (nI x))) N G G (t 3 0 4) (-1) (nI x) := uP_UI hM (by rw [sUp_k (by decide)]; exact hT.1) (by rw [sUp_at]) (fun _ h => sUp_off h)
theorem uP_r (hT : HT t) (hM : MI t N P S G) (x : Nat) : UI t (uP (sUp t 0 0 28 (nI x))) N G G (t 3 0 4) (nI x) (-1) := uP_UI hM (by rw [sUp_at]) (by rw [sUp_k (by decide)]; exact hT.2.1) (fun _ h => sUp_off h)
theorem uP_l (hT : HT t) (hM : MI t N P S G) (sd : Int32) : UI t (uP (tLo t sd)) N G G (t 3 0 4) (-1) (-1) := uP_UI hM (by unfold tLo; rw [sUp_k (by decide), sUp_k (by decide)]; exact hT.1) (by unfold tLo; rw [sUp_k (by decide), sUp_k (by decide)]; exact hT.2.1) (fun _ h => by unfold tLo; rw [sUp_off h, sUp_off h])
theorem uL_w (hT : HT t) (hM : MI t N P S G) (k : Nat) : UI t (sUp t 0 0 27 (nI k)) N G G (nI k) (-1) (-1) := by
  have hG := hM.1.2.2.2.2.2
  exact ⟨fun a ha => sUp_off (by omega), fun g j hg => by rw [sUp_off (by decide)], sUp_at .., by rw [sUp_k (by decide)]; exact hT.1, by rw [sUp_k (by decide)]; exact hT.2.1, ⟨Nat.le_refl _, by omega⟩, fun g h1 h2 => absurd h2 (by omega)⟩
theorem uG_1 (hT : HT t) (hM : MI t N P S G) {a f : Nat} (ha : a < N) (hf : f ≤ 9) : UI t (uG1 t G a f) N G (G + 1) (t 3 0 4) (-1) (-1) ∧ uG1 t G a f 10 G 0 = nI a ∧ uG1 t G a f 10 G 1 = nI f := by
  have hG := hM.1.2.2.2.2.2
  obtain ⟨u1, u2, u3, u4, u5, -, -⟩ := uP_0 hT hM
  have e0 : uG1 t G a f 10 G 0 = nI a := by unfold uG1; rw [sUp_k (by decide), sUp_at]
  have e1 : uG1 t G a f 10 G 1 = nI f := by unfold uG1; rw [sUp_at]
  refine ⟨⟨fun b hb => ?_, fun g j hg => ?_, ?_, ?_, ?_, ⟨by omega, by omega⟩, fun g h1 h2 => ?_⟩, e0, e1⟩
  · unfold uG1; rw [sUp_off (by omega), sUp_off (by omega)]; exact u1 b hb
  · unfold uG1; rw [sUp_rowne (by omega), sUp_rowne (by omega)]; exact u2 g j hg
  · unfold uG1; rw [sUp_off (by decide), sUp_off (by decide)]; exact u3
  · unfold uG1; rw [sUp_off (by decide), sUp_off (by decide)]; exact u4
  · unfold uG1; rw [sUp_off (by decide), sUp_off (by decide)]; exact u5
  · have : g = G := by omega
    subst this
    exact ⟨a, f, ⟨e0, ha⟩, e1, hf⟩
theorem uG_2 (hT : HT t) (hM : MI t N P S G) {a b f : Nat} (ha : a < N) (hb : b < N) (hf : f ≤ 9) : UI t (uG2 t G a b f) N G (G + 2) (t 3 0 4) (-1) (-1) ∧ uG2 t G a b f 10 G 0 = nI a ∧ uG2 t G a b f 10 G 1 = nI f ∧ uG2 t G a b f 10 (G + 1) 0 = nI b ∧ uG2 t G a b f 10 (G + 1) 1 = nI f := by
  have hG := hM.1.2.2.2.2.2
  obtain ⟨⟨u1, u2, u3, u4, u5, -, -⟩, v0, v1⟩ := uG_1 hT hM ha hf
  have e0 : uG2 t G a b f 10 G 0 = nI a := by unfold uG2; rw [sUp_rowne (by omega), sUp_rowne (by omega)]; exact v0
  have e1 : uG2 t G a b f 10 G 1 = nI f := by unfold uG2; rw [sUp_rowne (by omega), sUp_rowne (by omega)]; exact v1
  have e2 : uG2 t G a b f 10 (G + 1) 0 = nI b := by unfold uG2; rw [sUp_k (by decide), sUp_at]
  have e3 : uG2 t G a b f 10 (G + 1) 1 = nI f := by unfold uG2; rw [sUp_at]
  refine ⟨⟨fun b hb => ?_, fun g j hg => ?_, ?_, ?_, ?_, ⟨by omega, by omega⟩, fun g h1 h2 => ?_⟩, e0, e1, e2, e3⟩
  · unfold uG2; rw [sUp_off (by omega), sUp_off (by omega)]; exact u1 b hb
  · unfold uG2; rw [sUp_rowne (by omega), sUp_rowne (by omega)]; exact u2 g j hg
  · unfold uG2; rw [sUp_off (by decide), sUp_off (by decide)]; exact u3
  · unfold uG2; rw [sUp_off (by decide), sUp_off (by decide)]; exact u4
  · unfold uG2; rw [sUp_off (by decide), sUp_off (by decide)]; exact u5
  · by_cases e : g = G
    · subst e; exact ⟨a, f, ⟨e0, ha⟩, e1, hf⟩
    · have : g = G + 1 := by omega
      subst this
      exact ⟨b, f, ⟨e2, hb⟩, e3, hf⟩
theorem fc_eq (hT : HT t) (hM : MI t N P S G) (h : SM t z G) : fcC z P S = cFi t P S G := cost_eq (kd := 0) hM rfl ((uP_0 hT hM).OK hM) h (hT.cm h) (by decide)
theorem sg_eq (hT : HT t) (hM : MI t N P S G) (h : SM t z G) (x : Nat) : sgC z (nI x) P S = cSg t P S G x :=
  cost_eq (kd := 0) hM (sUp_off (by decide)) ((uP_s hT hM x).OK hM) (h.up 29 (nI x)) (cm_all (by rw [sUp_k (by decide)]; exact h.2.2.2.2.trans hT.2.2)) (by decide)
theorem re_eq (hT : HT t) (hM : MI t N P S G) (h : SM t z G) (x : Nat) : fcC (sUp z 0 0 28 (nI x)) P S = cRe t P S G x :=
  cost_eq (kd := 0) hM (sUp_off (by decide)) ((uP_r hT hM x).OK hM) (h.up 28 (nI x)) (cm_all (by rw [sUp_k (by decide)]; exact h.2.2.2.2.trans hT.2.2)) (by decide)
theorem co_eq (hT : HT t) (hM : MI t N P S G) (h : SM t z G) {k : Nat} (hk : k ≤ 9) : coC z (nI k) P S = cLw t P S G k := by
  have hG := hM.1.2.2.2.2.2
  have hU := uL_w hT hM k
  unfold coC coM
  rw [h.1 3 (by decide) (by decide) (by decide), hM.1.2.2.2.2.1, nI_clamp (by omega)]
  have e : cn (sUp (sUp z 0 0 26 (nI G)) 0 0 27 (nI k)) G = cn (sUp t 0 0 27 (nI k)) G := by
    refine cn_cg (fun a ha => ?_) (fun g j hg _ => ?_) (fun j hj => ?_)
    · rw [sUp_off (by omega), sUp_off (by omega), sUp_off (by omega)]; exact h.1 a (by omega) (by omega) (by omega)
    · rw [sUp_off (by decide), sUp_off (by decide), sUp_off (by decide)]; exact h.2.1 g j hg
    · rcases hj with rfl | rfl | rfl
      · rw [sUp_at, sUp_at]
      · rw [sUp_k (by decide), sUp_k (by decide), sUp_k (by decide)]; exact h.2.2.1
      · rw [sUp_k (by decide), sUp_k (by decide), sUp_k (by decide)]; exact h.2.2.2.1
  have hc := cm_all (u := sUp (sUp z 0 0 26 (nI G)) 0 0 27 (nI k)) (by rw [sUp_k (by decide), sUp_k (by decide)]; exact h.2.2.2.2.trans hT.2.2)
  have hd := day_cost (u := sUp (sUp z 0 0 26 (nI G)) 0 0 27 (nI k)) (G := G) (N := N) (P := P) (S := S) (kd := 0) (by rw [e]; exact hU.MC hM) (by rw [e]; exact hU.SC hM rfl hk) (by decide)
  rw [e, hc] at hd
  exact hd
theorem gb_eq (hM : MI t N P S G) (h : SM t z G) {a : Nat} (ha : a < 2 ^ 31) (fee : Int32) : agM (sUp (sUp z 0 0 26 (z 3 0 3)) 0 0 27 (z 3 0 4)) (nI a) fee = sUp (sUp (sUp (sUp (sUp z 0 0 26 (nI G)) 0 0 27 (t 3 0 4)) 10 G 0 (nI a)) 10 G 1 fee) 0 0 26 (nI (G + 1)) := by
  have hG := hM.1.2.2.2.2.2
  unfold agM
  rw [if_neg (nI_ne ha), h.1 3 (by decide) (by decide) (by decide), hM.1.2.2.2.2.1, sUp_k (by decide), sUp_at, nI_clamp (by omega), show nI G + 1 = nI (G + 1) from nIs _]
theorem g1_eq (hT : HT t) (hM : MI t N P S G) (h : SM t z G) {a f : Nat} (ha : a < N) (hf : f ≤ 9) : gcC z (nI a) (-1) (nI f) P S = cG1 t P S G a f := by
  have hG := hM.1.2.2.2.2.2
  have hN := hM.1.1.1.1
  obtain ⟨hU, v0, v1⟩ := uG_1 hT hM ha hf
  have eS : gcS z (nI a) (-1) (nI f) = sUp (sUp (sUp (sUp (sUp z 0 0 26 (nI G)) 0 0 27 (t 3 0 4)) 10 G 0 (nI a)) 10 G 1 (nI f)) 0 0 26 (nI (G + 1)) := by
    unfold gcS
    rw [gb_eq hM h (by omega)]
    unfold agM
    rw [if_pos rfl]
  unfold gcC gcM
  rw [eS, sUp_at, nI_clamp (by omega)]
  generalize hu : sUp (sUp (sUp (sUp (sUp z 0 0 26 (nI G)) 0 0 27 (t 3 0 4)) 10 G 0 (nI a)) 10 G 1 (nI f)) 0 0 26 (nI (G + 1)) = u
  have e : cn u (G + 1) = cn (uG1 t G a f) (G + 1) := by
    rw [← hu]
    refine cn_cg (fun b hb => ?_) (fun g j hg hj => ?_) (fun j hj => ?_)
    · rw [hU.1 b hb, sUp_off (by omega), sUp_off (by omega), sUp_off (by omega), sUp_off (by omega), sUp_off (by omega)]; exact h.1 b (by omega) (by omega) (by omega)
    · rw [sUp_off (by decide)]
      by_cases eg : g = G
      · subst eg
        rcases (show j = 0 ∨ j = 1 by omega) with rfl | rfl
        · rw [v0, sUp_k (by decide), sUp_at]
        · rw [v1, sUp_at]
      · rw [sUp_rowne eg, sUp_rowne eg, sUp_off (by decide), sUp_off (by decide), hU.2.1 g j (by omega)]
        exact h.2.1 g j (by omega)
    · rcases hj with rfl | rfl | rfl
      · rw [hU.2.2.1, sUp_k (by decide), sUp_off (by decide), sUp_off (by decide), sUp_at]
      · rw [hU.2.2.2.1, sUp_k (by decide), sUp_off (by decide), sUp_off (by decide), sUp_k (by decide), sUp_k (by decide)]; exact h.2.2.1.trans hT.1
      · rw [hU.2.2.2.2.1, sUp_k (by decide), sUp_off (by decide), sUp_off (by decide), sUp_k (by decide), sUp_k (by decide)]; exact h.2.2.2.1.trans hT.2.1
  have hc := cm_all (u := u) (by rw [← hu, sUp_k (by decide), sUp_off (by decide), sUp_off (by decide), sUp_k (by decide), sUp_k (by decide)]; exact h.2.2.2.2.trans hT.2.2)
  obtain ⟨k, ek, hk⟩ := hM.2.2.1
  have hd := day_cost (u := u) (G := G + 1) (N := N) (P := P) (S := S) (kd := 0) (by rw [e]; exact hU.MC hM) (by rw [e]; exact hU.SC hM ek hk) (by decide)
  rw [e, hc] at hd
  exact hd
theorem g2_eq (hT : HT t) (hM : MI t N P S G) (h : SM t z G) {a b f : Nat} (ha : a < N) (hb : b < N) (hf : f ≤ 9) : gcC z (nI a) (nI b) (nI f) P S = cG2 t P S G a b f := by
  have hG := hM.1.2.2.2.2.2
  have hN := hM.1.1.1.1
  obtain ⟨hU, v0, v1, v2, v3⟩ := uG_2 hT hM ha hb hf
  have eS : gcS z (nI a) (nI b) (nI f) = sUp (sUp (sUp (sUp (sUp (sUp (sUp (sUp z 0 0 26 (nI G)) 0 0 27 (t 3 0 4)) 10 G 0 (nI a)) 10 G 1 (nI f)) 0 0 26 (nI (G + 1))) 10 (G + 1) 0 (nI b)) 10 (G + 1) 1 (nI f)) 0 0 26 (nI (G + 2)) := by
    unfold gcS
    rw [gb_eq hM h (by omega)]
    unfold agM
    rw [if_neg (nI_ne (by omega)), sUp_at, nI_clamp (by omega), show nI (G + 1) + 1 = nI (G + 2) from nIs _]
  unfold gcC gcM
  rw [eS, sUp_at, nI_clamp (by omega)]
  generalize hu : sUp (sUp (sUp (sUp (sUp (sUp (sUp (sUp z 0 0 26 (nI G)) 0 0 27 (t 3 0 4)) 10 G 0 (nI a)) 10 G 1 (nI f)) 0 0 26 (nI (G + 1))) 10 (G + 1) 0 (nI b)) 10 (G + 1) 1 (nI f)) 0 0 26 (nI (G + 2)) = u
  have e : cn u (G + 2) = cn (uG2 t G a b f) (G + 2) := by
    rw [← hu]
    refine cn_cg (fun b hb => ?_) (fun g j hg hj => ?_) (fun j hj => ?_)
    · rw [hU.1 b hb, sUp_off (by omega), sUp_off (by omega), sUp_off (by omega), sUp_off (by omega), sUp_off (by omega), sUp_off (by omega), sUp_off (by omega), sUp_off (by omega)]; exact h.1 b (by omega) (by omega) (by omega)
    · rw [sUp_off (by decide)]
      by_cases eg : g = G + 1
      · subst eg
        rcases (show j = 0 ∨ j = 1 by omega) with rfl | rfl
        · rw [v2, sUp_k (by decide), sUp_at]
        · rw [v3, sUp_at]
      · rw [sUp_rowne eg, sUp_rowne eg, sUp_off (by decide)]
        by_cases eh : g = G
        · subst eh
          rcases (show j = 0 ∨ j = 1 by omega) with rfl | rfl
          · rw [v0, sUp_k (by decide), sUp_at]
          · rw [v1, sUp_at]
        · rw [sUp_rowne eh, sUp_rowne eh, sUp_off (by decide), sUp_off (by decide), hU.2.1 g j (by omega)]
          exact h.2.1 g j (by omega)
    · rcases hj with rfl | rfl | rfl
      · rw [hU.2.2.1, sUp_k (by decide), sUp_off (by decide), sUp_off (by decide), sUp_k (by decide), sUp_off (by decide), sUp_off (by decide), sUp_at]
      · rw [hU.2.2.2.1, sUp_k (by decide), sUp_off (by decide), sUp_off (by decide), sUp_k (by decide), sUp_off (by decide), sUp_off (by decide), sUp_k (by decide), sUp_k (by decide)]; exact h.2.2.1.trans hT.1
      · rw [hU.2.2.2.2.1, sUp_k (by decide), sUp_off (by decide), sUp_off (by decide), sUp_k (by decide), sUp_off (by decide), sUp_off (by decide), sUp_k (by decide), sUp_k (by decide)]; exact h.2.2.2.1.trans hT.2.1
  have hc := cm_all (u := u) (by rw [← hu, sUp_k (by decide), sUp_off (by decide), sUp_off (by decide), sUp_k (by decide), sUp_off (by decide), sUp_off (by decide), sUp_k (by decide), sUp_k (by decide)]; exact h.2.2.2.2.trans hT.2.2)
  obtain ⟨k, ek, hk⟩ := hM.2.2.1
  have hd := day_cost (u := u) (G := G + 2) (N := N) (P := P) (S := S) (kd := 0) (by rw [e]; exact hU.MC hM) (by rw [e]; exact hU.SC hM ek hk) (by decide)
  rw [e, hc] at hd
  exact hd
/-- by lots: the reference's memory z, where lots are drawn from sd -/
theorem lo_RA (hT : HT t) (hM : MI t N P S G) {sd : Int32} (h : SM (tLo t sd) z G) (h30 : z 0 0 30 = sd) {kd : Nat} (hk : kd < 2 ^ 31) : OK (tLo t sd) N P S G ∧ RA (cP (tLo t sd) G) (goM z (nI kd) P S) P S G (daA (cP (tLo t sd) G) (cmF (uP (tLo t sd))) P G S kd) ∧ goM z (nI kd) P S 0 0 47 = nI (cnA (cmF (uP (tLo t sd))) S) := by
  have hG := hM.1.2.2.2.2.2
  have hO := (uP_l hT hM sd).OK hM
  have h3 : tLo t sd 3 = t 3 := by unfold tLo; rw [sUp_off (by decide), sUp_off (by decide)]
  have hc : cmF z = cmF (uP (tLo t sd)) := by
    refine cm_cg ?_ ?_ ?_
    · rw [h.1 8 (by decide) (by decide) (by decide)]; unfold uP; rw [sUp_off (by decide)]
    · rw [h30]; unfold uP tLo; rw [sUp_k (by decide), sUp_at]
    · rw [h.2.2.2.2]; unfold uP; rw [sUp_k (by decide)]
  refine ⟨hO, go_RA hM h3 hO h hc hk, ?_⟩
  unfold goM
  rw [h.1 3 (by decide) (by decide) (by decide), h3, hM.1.2.2.2.2.1, nI_clamp (by omega)]
  have e := cn_go (x := nI G) h
  rw [h.1 3 (by decide) (by decide) (by decide), h3] at e
  have hc2 : cmF (sUp (sUp z 0 0 26 (nI G)) 0 0 27 (t 3 0 4)) = cmF (uP (tLo t sd)) := by
    rw [← hc]
    exact cm_cg (by rw [sUp_off (by decide), sUp_off (by decide)]) (by rw [sUp_k (by decide), sUp_k (by decide)]) (by rw [sUp_k (by decide), sUp_k (by decide)])
  rw [day_47 (N := N) (by rw [e]; exact hO.1), hc2]
end
