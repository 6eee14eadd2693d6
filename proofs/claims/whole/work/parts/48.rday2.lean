/-! THE REFERENCE'S DAY is the day by numbers: who leads, and what it does -/
theorem oI_inj {a : Option Nat} (h : ∀ k, a = some k → k < 2 ^ 31) : oI a = -1 ↔ a = none := by
  cases a with
  | none => exact ⟨fun _ => rfl, fun _ => rfl⟩
  | some k => exact ⟨fun e => absurd e (nI_ne (h k rfl)), fun e => by cases e⟩
section
variable {c : sMem} {N P S G : Nat}
theorem led_eq {t : sMem} (hR : TW c t G) (x y : Nat) : ledM t x y = ledM c x y := by
  unfold ledM
  rw [hR.2.2 27 (by omega)]
  have e : ∀ f z k, ltM t y (c 0 0 27) f z k = ltM c y (c 0 0 27) f z k := by
    intro f
    induction f with
    | zero => intro z k; rfl
    | succ f ih =>
      intro z k
      unfold ltM
      rw [hR.1 15 (by omega), ih]
  exact e _ _ _
theorem los_eq {t : sMem} {D : DA} {B p s m : Nat} (hM : MC c N P S) (hS : SC c N P S G) (hV : DV c N P S B D) (hR : RA c t P S G D) (hp : p < P) (hs : s < S) (hm : m < 2 ^ 30) (hc : caA c D p s m = true) : losM t p s (nI m) = nI (losA c p (D.2.1 s).1 (ledM c (D.2.1 s).1 (sY c s))) ∧ losA c p (D.2.1 s).1 (ledM c (D.2.1 s).1 (sY c s)) < 2 ^ 31 := by
  obtain ⟨c1, c2, -, c4, c5⟩ := caA_of hc
  obtain ⟨x1, -⟩ := hV.2.1 s hs
  obtain ⟨-, ⟨ey, hy⟩, -⟩ := hM.2.2.2.2.2 s hs
  obtain ⟨-, ⟨eq, hq⟩, -, ev, v1, v2⟩ := hM.2.2.2.2.1 p hp
  obtain ⟨b1, b2, b3⟩ := hV.1 p hp c1
  have h12 := hM.1.1.1
  obtain ⟨l1, l2, l3, -, -⟩ := led_at hM.1 hS.1 x1 hy c4
  obtain ⟨k, -, -, k3, k4, k5⟩ := atP_at hM.1 hq b1 b2 c2
  have f1 := fN_660 hM.1 hy x1 c4
  have f2 := fN_660 hM.1 hq hy c5
  have f3 := hM.1.2.1 (ledM c (D.2.1 s).1 (sY c s)) (sY c s) (pQ c p) l1 hy hq
  have f4 := hM.1.2.1 (D.2.1 s).1 (ledM c (D.2.1 s).1 (sY c s)) (pQ c p) x1 l1 hq
  have hz := led_eq hR.1 (D.2.1 s).1 (sY c s)
  have hpl := ((hR.2.1 p hp).1 c1).2.2.1
  generalize hzz : ledM c (D.2.1 s).1 (sY c s) = z at *
  have e1 := (hM.1.1.2.1 (D.2.1 s).1 z x1 l1).1
  have e2 := (hM.1.1.2.1 z (pQ c p) l1 hq).1
  unfold losM losA
  dsimp only
  rw [(hR.2.2.1 s hs).1, nI_clamp (show (D.2.1 s).1 < 2 ^ 31 by omega), hR.1.1 6 (by omega), hR.1.1 8 (by omega), hR.1.1 14 (by omega), ey, nI_clamp (show sY c s < 2 ^ 31 by omega), eq, nI_clamp (show pQ c p < 2 ^ 31 by omega), hz, e1, e2, hpl, ev, nIa, nIa, ← k4, nIm (by omega), nIx]
  have e3 : m + fN c (D.2.1 s).1 z + fN c z (pQ c p) - (m + fN c (D.2.1 s).1 (pQ c p)) = fN c (D.2.1 s).1 z + fN c z (pQ c p) - fN c (D.2.1 s).1 (pQ c p) := by omega
  rw [e3]
  refine ⟨rfl, ?_⟩
  have : pV c p * (fN c (D.2.1 s).1 z + fN c z (pQ c p) - fN c (D.2.1 s).1 (pQ c p)) ≤ 99 * 2000 := Nat.mul_le_mul v2 (by omega)
  omega
theorem pf_eq {t : sMem} {D : DA} {B s m : Nat} {ch : Bool} (hM : MC c N P S) (hS : SC c N P S G) (hV : DV c N P S B D) (hR : RA c t P S G D) (hs : s < S) (hm : m < 2 ^ 30) : ∀ f p b, p + f = P → (∀ r, b = some r → r < P ∧ caA c D r s m = true) → pfL t s (nI m) ch f p b = pfA c D s m ch f p b
  | 0, _, _, _, _ => rfl
  | f + 1, p, b, hpf, hb => by
    unfold pfL pfA
    rw [can_eq hM hV hR (show p < P by omega) hs hm]
    by_cases hc : caA c D p s m = true
    · rw [if_pos hc, if_pos hc]
      cases b with
      | none => exact pf_eq hM hS hV hR hs hm f (p + 1) _ (by omega) (fun r hr => by cases hr; exact ⟨by omega, hc⟩)
      | some q =>
        obtain ⟨q1, q2⟩ := hb q rfl
        obtain ⟨a1, a2⟩ := los_eq hM hS hV hR (show p < P by omega) hs hm hc
        obtain ⟨b1, b2⟩ := los_eq hM hS hV hR q1 hs hm q2
        dsimp only
        have hlt := nI_ltI (a := losA c p (D.2.1 s).1 (ledM c (D.2.1 s).1 (sY c s))) (b := losA c q (D.2.1 s).1 (ledM c (D.2.1 s).1 (sY c s))) a2 b2
        by_cases hl : ch = true ∧ losA c p (D.2.1 s).1 (ledM c (D.2.1 s).1 (sY c s)) < losA c q (D.2.1 s).1 (ledM c (D.2.1 s).1 (sY c s))
        · rw [if_pos hl, if_pos ⟨hl.1, by rw [a1, b1]; exact hlt.mpr hl.2⟩]
          exact pf_eq hM hS hV hR hs hm f (p + 1) _ (by omega) (fun r hr => by cases hr; exact ⟨by omega, hc⟩)
        · rw [if_neg hl, if_neg (fun z => hl ⟨z.1, by rw [a1, b1] at z; exact hlt.mp z.2⟩)]
          exact pf_eq hM hS hV hR hs hm f (p + 1) _ (by omega) hb
    · rw [if_neg hc, if_neg hc]
      exact pf_eq hM hS hV hR hs hm f (p + 1) b (by omega) hb
theorem gf_eq {t : sMem} {D : DA} {B s m : Nat} (hM : MC c N P S) (hS : SC c N P S G) (hV : DV c N P S B D) (hR : RA c t P S G D) (hs : s < S) (hm : m < 2 ^ 30) : ∀ f g, g + f = G → gfL t s (nI m) f g = gfA c D s m f g
  | 0, _, _ => rfl
  | f + 1, g, hgf => by
    obtain ⟨x1, -⟩ := hV.2.1 s hs
    obtain ⟨-, ⟨ey, hy⟩, -⟩ := hM.2.2.2.2.2 s hs
    obtain ⟨⟨ea, ha⟩, -⟩ := hS.2.2.1 g (by omega)
    have h12 := hM.1.1.1
    have w1 := hM.1.1.lt x1 hy
    have hfr := hV.2.2.1 g
    unfold gfL gfA
    rw [gf_eq hM hS hV hR hs hm f (g + 1) (by omega), hR.1.2.1 g 0 (by omega) (by decide), ea, (hR.2.2.1 s hs).1, hR.2.2.2.1 g (by omega), nI_clamp (show (D.2.1 s).1 < 2 ^ 31 by omega), hR.1.1 8 (by omega), hR.1.1 14 (by omega), ey, nI_clamp (show sY c s < 2 ^ 31 by omega)]
    have e1 : (nI (gA c g) = nI (D.2.1 s).1 ∧ nI (D.2.2.1 g) ≤ nI m ∧ c 14 (D.2.1 s).1 (sY c s) < 1000000) ↔ (gA c g = (D.2.1 s).1 ∧ D.2.2.1 g ≤ m ∧ fN c (D.2.1 s).1 (sY c s) < 1000000) := by
      rw [nI_eq (by omega) (by omega), nI_leI (by omega) (by omega), w1]
    by_cases hc : gA c g = (D.2.1 s).1 ∧ D.2.2.1 g ≤ m ∧ fN c (D.2.1 s).1 (sY c s) < 1000000
    · rw [if_pos (e1.mpr hc), if_pos hc]
    · rw [if_neg (fun z => hc (e1.mp z)), if_neg hc]
theorem asP_eq {t : sMem} {D : DA} {B s kd m : Nat} (hM : MC c N P S) (hS : SC c N P S G) (hV : DV c N P S B D) (hR : RA c t P S G D) (hs : s < S) (hm : m < 2 ^ 30) (hk : kd < 2 ^ 31) : asP t P s (nI kd) (nI m) = asPA c D P s kd m := by
  unfold asP asPA
  have e4 : (nI kd = 4) ↔ kd = 4 := nI_eq (b := 4) hk (by decide)
  have e1 : (nI kd = 1) ↔ kd = 1 := nI_eq (b := 1) hk (by decide)
  by_cases h4 : kd = 4
  · rw [if_pos (e4.mpr h4), if_pos h4, hR.1.1 16 (by omega)]
    unfold tlO
    by_cases hn : c 16 0 s = -1
    · rw [if_pos hn, if_pos hn]
    · rw [if_neg hn, if_neg hn]
      have ht : tlO c s = some (c 16 0 s).toNatClampNeg := by unfold tlO; rw [if_neg hn]
      obtain ⟨p1, -⟩ := hS.2.2.2 s hs _ ht
      rw [can_eq hM hV hR p1 hs hm]
  · rw [if_neg (fun z => h4 (e4.mp z)), if_neg h4]
    have : decide (nI kd = 1) = decide (kd = 1) := decide_eq_decide.mpr e1
    rw [this]
    exact pf_eq hM hS hV hR hs hm P 0 none (by omega) (fun r hr => by cases hr)
theorem asG_eq {t : sMem} {D : DA} {B s kd m : Nat} (hM : MC c N P S) (hS : SC c N P S G) (hV : DV c N P S B D) (hR : RA c t P S G D) (hs : s < S) (hm : m < 2 ^ 30) (hk : kd < 2 ^ 31) : asG t G s (nI kd) (nI m) = asGA c D G s kd m := by
  unfold asG asGA
  have e4 : (nI kd = 4) ↔ kd = 4 := nI_eq (b := 4) hk (by decide)
  by_cases h4 : kd = 4
  · rw [if_pos (e4.mpr h4), if_pos h4]
  · rw [if_neg (fun z => h4 (e4.mp z)), if_neg h4]
    exact gf_eq hM hS hV hR hs hm G 0 (by omega)
/-! what the reference's steps do -/
theorem RA.per {t t' : sMem} {D : DA} (hR : ∀ p, p < P → (ouP c p = true → PA c t p (D.1 p)) ∧ (ouP c p = false → t 20 0 p = 0 ∧ t 22 0 p = 0 ∧ t 23 0 p = 0)) (h : ∀ a, 18 ≤ a → a ≤ 23 → t' a = t a) : ∀ p, p < P → (ouP c p = true → PA c t' p (D.1 p)) ∧ (ouP c p = false → t' 20 0 p = 0 ∧ t' 22 0 p = 0 ∧ t' 23 0 p = 0) := by
  intro p hp
  unfold PA
  rw [h 18 (by omega) (by omega), h 19 (by omega) (by omega), h 20 (by omega) (by omega), h 21 (by omega) (by omega), h 22 (by omega) (by omega), h 23 (by omega) (by omega)]
  exact hR p hp
theorem gt_RA {t : sMem} {D : DA} {s z m : Nat} (hM : MC c N P S) (hR : RA c t P S G D) (hs : s < S) (hz : z < N) : RA c (gtM t s (nI z) (nI m)) P S G (goA c D s z m) := by
  obtain ⟨r1, r2, r3, r4, r5, r6, r7⟩ := hR
  have h12 := hM.1.1.1
  obtain ⟨-, ⟨ey, hy⟩, -⟩ := hM.2.2.2.2.2 s hs
  have off : ∀ a, a ≠ 25 ∧ a ≠ 26 ∧ a ≠ 27 → gtM t s (nI z) (nI m) a = t a := fun a ha => gtM_off ha
  refine ⟨r1.cg (fun a _ h => off a (by omega)) (fun k _ => by rw [off 0 (by decide)]), RA.per r2 (fun a h1 h2 => off a (by omega)), fun u hu => ?_, fun g hg => by rw [off 24 (by decide)]; exact r4 g hg, by rw [off 0 (by decide)]; exact r5, by rw [off 0 (by decide)]; exact r6, by rw [off 0 (by decide)]; exact r7⟩
  obtain ⟨q1, q2, q3, q4, q5⟩ := r3 u hu
  rw [off 28 (by decide), off 29 (by decide)]
  have ez : (nI z = t 8 s 1) ↔ z = sY c s := by
    rw [r1.1 8 (by omega), ey]
    exact nI_eq (by omega) (by omega)
  unfold goA gtM
  dsimp only
  by_cases e : u = s
  · subst e
    rw [fu_at]
    by_cases hzy : z = sY c u
    · rw [if_pos (ez.mpr hzy), if_pos hzy]
      refine ⟨?_, ?_, ?_, q4, q5⟩
      · rw [sUp_off (by decide), sUp_off (by decide), sUp_at]
      · rw [sUp_off (by decide), sUp_at]
      · rw [sUp_at]; rfl
    · rw [if_neg (fun q => hzy (ez.mp q)), if_neg hzy]
      refine ⟨?_, ?_, ?_, q4, q5⟩
      · rw [sUp_off (by decide), sUp_at]
      · rw [sUp_at]
      · rw [sUp_off (by decide), sUp_off (by decide)]; exact q3
  · rw [fu_ne e]
    by_cases hzy : z = sY c s
    · rw [if_pos (ez.mpr hzy)]
      refine ⟨?_, ?_, ?_, q4, q5⟩
      · rw [sUp_off (by decide), sUp_off (by decide), sUp_k e]; exact q1
      · rw [sUp_off (by decide), sUp_k e, sUp_off (by decide)]; exact q2
      · rw [sUp_k e, sUp_off (by decide), sUp_off (by decide)]; exact q3
    · rw [if_neg (fun q => hzy (ez.mp q))]
      refine ⟨?_, ?_, ?_, q4, q5⟩
      · rw [sUp_off (by decide), sUp_k e]; exact q1
      · rw [sUp_k e, sUp_off (by decide)]; exact q2
      · rw [sUp_off (by decide), sUp_off (by decide)]; exact q3
theorem lb_RA {t : sMem} {D : DA} {s w : Nat} (hR : RA c t P S G D) (hs : s < S) (hl : (D.2.1 s).2.2.2.length < 40) : RA c (lbM t s (nI w)) P S G (ldA D s w) := by
  obtain ⟨r1, r2, r3, r4, r5, r6, r7⟩ := hR
  have off : ∀ a, a ≠ 0 ∧ a ≠ 28 ∧ a ≠ 29 → lbM t s (nI w) a = t a := fun a ha => lbM_off ha
  have e40 : t 28 0 s < 40 := by
    rw [(r3 s hs).2.2.2.1]
    exact (nI_ltI (b := 40) (by omega) (by decide)).mpr hl
  refine ⟨r1.cg (fun a h0 h => off a (by omega)) (fun k hk => lbM_0 _ _ _ _ (by omega)), RA.per r2 (fun a h1 h2 => off a (by omega)), fun u hu => ?_, fun g hg => by rw [off 24 (by decide)]; exact r4 g hg, by rw [lbM_0 _ _ _ _ (by decide)]; exact r5, ?_, by rw [lbM_0 _ _ _ _ (by decide)]; exact r7⟩
  · obtain ⟨q1, q2, q3, q4, q5⟩ := r3 u hu
    rw [off 25 (by decide), off 26 (by decide), off 27 (by decide), lbM_28]
    have e29 : lbM t s (nI w) 29 = sUp t 29 s (t 28 0 s).toNatClampNeg (nI w) 29 := by
      unfold lbM
      rw [if_pos e40]
      rw [sUp_off (by decide), sUp_off (by decide)]
    rw [e29, (r3 s hs).2.2.2.1, nI_clamp (by omega)]
    unfold ldA
    dsimp only
    by_cases e : u = s
    · subst e
      rw [fu_at, if_pos rfl]
      refine ⟨q1, q2, q3, ?_, fun i x hi => ?_⟩
      · rw [List.length_append, List.length_singleton]; exact nIs _
      · dsimp only at hi
        by_cases hil : i < (D.2.1 u).2.2.2.length
        · rw [List.getElem?_append_left hil] at hi
          rw [sUp_k (by omega)]
          exact q5 i x hi
        · rw [List.getElem?_append_right (by omega)] at hi
          have hi0 : i = (D.2.1 u).2.2.2.length := by
            obtain ⟨hlt, -⟩ := List.getElem?_eq_some_iff.mp hi
            simp at hlt
            omega
          subst hi0
          rw [Nat.sub_self] at hi
          have : w = x := by simpa using hi
          rw [sUp_at, this]
    · rw [fu_ne e, if_neg e, sUp_rowne e]
      exact ⟨q1, q2, q3, q4, q5⟩
  · unfold lbM ldA
    dsimp only
    rw [if_pos e40, sUp_at, sUp_off (by decide), sUp_off (by decide), r6]
    exact nIs _
theorem st_RA {t : sMem} {D : DA} {p z w : Nat} (hM : MC c N P S) (hR : RA c t P S G D) (hp : p < P) (hz : z < N) (hf : fN c z (pQ c p) < 1000000) (ho : ouP c p = true) : RA c (sUp (stM t p z (nI w)) 21 0 p (nI w)) P S G (fu D.1 p (z, w), D.2) := by
  obtain ⟨r1, r2, r3, r4, r5, r6, r7⟩ := hR
  have hq := (hM.2.2.2.2.1 p hp).2.1.2
  have off : ∀ a, a < 18 ∨ 24 ≤ a → sUp (stM t p z (nI w)) 21 0 p (nI w) a = t a := fun a ha => by rw [sUp_off (by omega), stM_off (by omega)]
  obtain ⟨s1, s2, s3, s4⟩ := stM_at (w := w) hM.1 ⟨r1.1 6 (by omega), r1.1 13 (by omega), r1.1 15 (by omega)⟩ hq hz hf
  refine ⟨r1.cg (fun a h0 h => off a (by omega)) (fun k hk => by rw [off 0 (by decide)]), fun r hr => ?_, fun u hu => ?_, fun g hg => by rw [off 24 (by decide)]; exact r4 g hg, by rw [off 0 (by decide)]; exact r5, by rw [off 0 (by decide)]; exact r6, by rw [off 0 (by decide)]; exact r7⟩
  · by_cases e : r = p
    · subst e
      refine ⟨fun _ => ?_, fun h => by rw [ho] at h; cases h⟩
      show PA c _ r (fu D.1 r (z, w) r)
      rw [fu_at]
      refine ⟨?_, fun k hk => ?_, ?_, ?_, w, sUp_at _ _ _ _ _, Nat.le_refl _⟩
      · rw [sUp_off (by decide)]; exact s1
      · rw [sUp_off (by decide), sUp_off (by decide)]; exact s2 k hk
      · rw [sUp_off (by decide)]; exact s3
      · rw [sUp_off (by decide), stM_off (by decide)]; exact ((r2 r hr).1 ho).2.2.2.1
    · obtain ⟨v1, v2, v3, v4⟩ := s4 r e
      obtain ⟨w1, w2⟩ := r2 r hr
      refine ⟨fun h => ?_, fun h => ?_⟩
      · show PA c _ r (fu D.1 p (z, w) r)
        rw [fu_ne e]
        obtain ⟨y1, y2, y3, y4, u, y5, y6⟩ := w1 h
        refine ⟨?_, fun k hk => ?_, ?_, ?_, u, ?_, y6⟩
        · rw [sUp_off (by decide), v3]; exact y1
        · rw [sUp_off (by decide), sUp_off (by decide), v1, v2]; exact y2 k hk
        · rw [sUp_off (by decide), v4]; exact y3
        · rw [sUp_off (by decide), stM_off (by decide)]; exact y4
        · rw [sUp_k e, stM_off (by decide)]; exact y5
      · obtain ⟨y1, y2, y3⟩ := w2 h
        refine ⟨?_, ?_, ?_⟩
        · rw [sUp_off (by decide), v3]; exact y1
        · rw [sUp_off (by decide), stM_off (by decide)]; exact y2
        · rw [sUp_off (by decide), v4]; exact y3
  · rw [off 25 (by decide), off 26 (by decide), off 27 (by decide), off 28 (by decide), off 29 (by decide)]
    exact r3 u hu
theorem bp_RA {t : sMem} {D : DA} {B p s m : Nat} (hM : MC c N P S) (hS : SC c N P S G) (hV : DV c N P S B D) (hR : RA c t P S G D) (hp : p < P) (hs : s < S) (hc : caA c D p s m = true) : RA c (bpM t p s (nI m)) P S G (byPA c D p s m) := by
  obtain ⟨c1, c2, -, c4, c5⟩ := caA_of hc
  obtain ⟨x1, -, -, -, -, x6, -⟩ := hV.2.1 s hs
  obtain ⟨-, ⟨ey, hy⟩, -⟩ := hM.2.2.2.2.2 s hs
  obtain ⟨-, ⟨eq, hq⟩, -⟩ := hM.2.2.2.2.1 p hp
  have h12 := hM.1.1.1
  obtain ⟨l1, l2, l3, -, -⟩ := led_at hM.1 hS.1 x1 hy c4
  have f2 := fN_660 hM.1 hq hy c5
  have f5 := fN_660 hM.1 hy l1 l2
  have f3 := hM.1.2.1 (ledM c (D.2.1 s).1 (sY c s)) (sY c s) (pQ c p) l1 hy hq
  have e1 := (hM.1.1.2.1 (D.2.1 s).1 (ledM c (D.2.1 s).1 (sY c s)) x1 l1).1
  unfold bpM byPA
  dsimp only
  rw [(hR.2.2.1 s hs).1, nI_clamp (show (D.2.1 s).1 < 2 ^ 31 by omega), hR.1.1 8 (by omega), ey, nI_clamp (show sY c s < 2 ^ 31 by omega), led_eq hR.1, hR.1.1 14 (by omega), e1, nIa]
  have hL := lb_RA (w := p) hR hs (by omega)
  exact gt_RA (D := (fu (ldA D s p).1 p _, (ldA D s p).2)) hM (st_RA hM hL hp l1 (by omega) c1) hs l1
theorem bg_RA {t : sMem} {D : DA} {B g s m : Nat} (hM : MC c N P S) (hS : SC c N P S G) (hV : DV c N P S B D) (hR : RA c t P S G D) (hg : g < G) (hs : s < S) (hf : fN c (D.2.1 s).1 (sY c s) < 1000000) : RA c (bgM t g s (nI m)) P S G (byGA c D g s m) := by
  obtain ⟨x1, -, -, -, -, x6, -⟩ := hV.2.1 s hs
  obtain ⟨-, ⟨ey, hy⟩, -⟩ := hM.2.2.2.2.2 s hs
  obtain ⟨-, ef, -⟩ := hS.2.2.1 g hg
  have h12 := hM.1.1.1
  have e1 := (hM.1.1.2.1 (D.2.1 s).1 (sY c s) x1 hy).1
  have hL := lb_RA (w := 100 + g) hR hs (by omega)
  have hk : (100 : Int32) + nI g = nI (100 + g) := nIa 100 g
  have h2 : (2 : Int32) * nI (fN c (D.2.1 s).1 (sY c s)) = nI (2 * fN c (D.2.1 s).1 (sY c s)) := nIx 2 _
  have h3 : nI (gF c g) * 2 * nI (fN c (D.2.1 s).1 (sY c s)) = nI (gF c g * 2 * fN c (D.2.1 s).1 (sY c s)) := by
    rw [show nI (gF c g) * 2 = nI (gF c g * 2) from nIx _ 2, nIx]
  unfold bgM byGA
  dsimp only
  rw [(hR.2.2.1 s hs).1, nI_clamp (show (D.2.1 s).1 < 2 ^ 31 by omega), hR.1.1 8 (by omega), ey, nI_clamp (show sY c s < 2 ^ 31 by omega), hR.1.1 14 (by omega), e1, hR.1.2.1 g 1 hg (by decide), ef, hk, h2, h3, nIa, nIa]
  obtain ⟨r1, r2, r3, r4, r5, r6, r7⟩ := hL
  refine gt_RA (D := ((ldA D s (100 + g)).1, (ldA D s (100 + g)).2.1, fu (ldA D s (100 + g)).2.2.1 g _, _, (ldA D s (100 + g)).2.2.2.2)) hM ⟨?_, ?_, ?_, ?_, ?_, ?_, ?_⟩ hs hy
  · exact r1.cg (fun a h0 h => by rw [sUp_off (by omega), sUp_off (by omega)]) (fun k hk => by rw [sUp_k (by omega), sUp_off (by decide)])
  · exact RA.per r2 (fun a h1 h2 => by rw [sUp_off (by omega), sUp_off (by omega)])
  · intro u hu
    rw [sUp_off (by decide), sUp_off (by decide), sUp_off (by decide), sUp_off (by decide), sUp_off (by decide), sUp_off (by decide), sUp_off (by decide), sUp_off (by decide), sUp_off (by decide), sUp_off (by decide)]
    exact r3 u hu
  · intro g' hg'
    rw [sUp_off (by decide)]
    dsimp only
    by_cases e : g' = g
    · subst e
      rw [sUp_at, fu_at]
    · rw [sUp_k e, fu_ne e]
      exact r4 g' hg'
  · rw [sUp_at, sUp_off (by decide), r5, nIa]
  · rw [sUp_k (by decide), sUp_off (by decide)]; exact r6
  · rw [sUp_k (by decide), sUp_off (by decide)]; exact r7
theorem as_RA {t : sMem} {D : DA} {B s kd m : Nat} (hM : MC c N P S) (hS : SC c N P S G) (hV : DV c N P S B D) (hR : RA c t P S G D) (hs : s < S) (hm : m < 2 ^ 30) (hk : kd < 2 ^ 31) (hh : (D.2.1 s).2.2.1 = none) : RA c (asM t P G s (nI kd) (nI m)) P S G (asA c P G kd s m D) := by
  obtain ⟨x1, -, -, x4, -, x6, -⟩ := hV.2.1 s hs
  obtain ⟨-, ⟨ey, hy⟩, -⟩ := hM.2.2.2.2.2 s hs
  have h12 := hM.1.1.1
  have w1 := hM.1.1.lt x1 hy
  have e1 := (hM.1.1.2.1 (D.2.1 s).1 (sY c s) x1 hy).1
  unfold asM asA
  dsimp only
  have et : tldM t s = sgB c (D.2.1 s).1 (sY c s) := by
    unfold tldM sgB bt
    rw [(hR.2.2.1 s hs).1, nI_clamp (show (D.2.1 s).1 < 2 ^ 31 by omega), hR.1.1 8 (by omega), ey, hR.1.1 12 (by omega), hR.1.2.2 29 (by omega)]
  rw [et, asG_eq hM hS hV hR hs hm hk, asP_eq hM hS hV hR hs hm hk, (hR.2.2.1 s hs).1, nI_clamp (show (D.2.1 s).1 < 2 ^ 31 by omega), hR.1.1 8 (by omega), ey, nI_clamp (show sY c s < 2 ^ 31 by omega), hR.1.1 14 (by omega), hR.1.1 15 (by omega), hR.1.1 13 (by omega)]
  by_cases h1 : sgB c (D.2.1 s).1 (sY c s) = true ∧ fN c (D.2.1 s).1 (sY c s) < 1000000
  · rw [if_pos ⟨h1.1, w1.mpr h1.2⟩, if_pos h1, e1, nIa]
    exact gt_RA hM hR hs hy
  · rw [if_neg (fun q => h1 ⟨q.1, w1.mp q.2⟩), if_neg h1]
    have e3 : (nI kd = 3) ↔ kd = 3 := nI_eq (b := 3) hk (by decide)
    by_cases h2 : kd = 3 ∧ fN c (D.2.1 s).1 (sY c s) < 1000000 ∧ bt (c 8 s 4) (nxN c (D.2.1 s).1 (sY c s)) = true
    · obtain ⟨n1, n2, n3, n4, n5, n6⟩ := nx_at hM.1 x1 hy h2.2.1 (x4 hh)
      rw [if_pos h2, n2, nI_clamp (show nxN c (D.2.1 s).1 (sY c s) < 2 ^ 31 by omega)]
      rw [if_pos ⟨e3.mpr h2.1, nI_ne (by omega), of_decide_eq_true h2.2.2⟩, n3, nIa]
      exact gt_RA hM hR hs n1
    · rw [if_neg h2]
      rw [if_neg (fun q => ?_)]
      · cases hg : asGA c D G s kd m with
        | some g =>
          obtain ⟨g1, -, -, g4⟩ := asGA_some hg
          cases hp : asPA c D P s kd m with
          | some p =>
            obtain ⟨p1, p2⟩ := asPA_some hs hS hp
            dsimp only
            have e2 : (nI kd = 2) ↔ kd = 2 := nI_eq (b := 2) hk (by decide)
            by_cases h3 : kd = 2
            · rw [if_pos (e2.mpr h3), if_pos h3]
              exact bg_RA hM hS hV hR g1 hs g4
            · rw [if_neg (fun z => h3 (e2.mp z)), if_neg h3]
              exact bp_RA hM hS hV hR p1 hs p2
          | none => exact bg_RA hM hS hV hR g1 hs g4
        | none =>
          cases hp : asPA c D P s kd m with
          | some p =>
            obtain ⟨p1, p2⟩ := asPA_some hs hS hp
            exact bp_RA hM hS hV hR p1 hs p2
          | none =>
            obtain ⟨r1, r2, r3, r4, r5, r6, r7⟩ := hR
            dsimp only
            refine ⟨r1.cg (fun a h0 h => sUp_off (by omega)) (fun k hk => sUp_k (by omega)), RA.per r2 (fun a h1 h2 => sUp_off (by omega)), fun u hu => ?_, fun g hg => by rw [sUp_off (by decide)]; exact r4 g hg, by rw [sUp_k (by decide)]; exact r5, by rw [sUp_k (by decide)]; exact r6, ?_⟩
            · rw [sUp_off (by decide), sUp_off (by decide), sUp_off (by decide), sUp_off (by decide), sUp_off (by decide)]
              exact r3 u hu
            · rw [sUp_at, r7]; exact nIs _
      · obtain ⟨q1, q2, q3⟩ := q
        have hf : fN c (D.2.1 s).1 (sY c s) < 1000000 := by
          rcases Nat.lt_or_ge (fN c (D.2.1 s).1 (sY c s)) 1000000 with g | g
          · exact g
          · exact absurd (hM.1.2.2.2 _ _ x1 hy (Or.inr (by omega))) q2
        obtain ⟨n1, n2, -⟩ := nx_at hM.1 x1 hy hf (x4 hh)
        rw [n2] at q3
        exact h2 ⟨e3.mp q1, hf, decide_eq_true q3⟩
theorem ds_RA {t : sMem} {D : DA} {B s kd m : Nat} (hM : MC c N P S) (hS : SC c N P S G) (hV : DV c N P S B D) (hR : RA c t P S G D) (hs : s < S) (hm : m < 2 ^ 30) (hk : kd < 2 ^ 31) : RA c (dyS (nI kd) P G m s t) P S G (dsA c P G kd m s D) := by
  obtain ⟨x1, x2, x3, -⟩ := hV.2.1 s hs
  obtain ⟨q1, q2, q3, -⟩ := hR.2.2.1 s hs
  unfold dyS dsA
  have e : (t 27 0 s = -1 ∧ t 26 0 s ≤ nI m) ↔ ((D.2.1 s).2.2.1 = none ∧ (D.2.1 s).2.1 ≤ m) := by
    rw [q3, q2, oI_inj (fun k hk => by have := x3 k hk; omega), nI_leI (by omega) (by omega)]
  by_cases h : (D.2.1 s).2.2.1 = none ∧ (D.2.1 s).2.1 ≤ m
  · rw [if_pos h, if_pos (e.mpr h)]
    exact as_RA hM hS hV hR hs hm hk h.1
  · rw [if_neg h, if_neg (fun z => h (e.mp z))]
    exact hR
theorem dm_RA {t : sMem} {D : DA} {B kd m : Nat} (hM : MC c N P S) (hS : SC c N P S G) (hV : DV c N P S B D) (hR : RA c t P S G D) (hm : m ≤ 999) (hk : kd < 2 ^ 31) : ∀ k, k ≤ S → RA c (forM (dyS (nI kd) P G m) t k) P S G (forG (dsA c P G kd m) D k)
  | 0, _ => hR
  | k + 1, hk1 => ds_RA hM hS (dmA_DV hV hM hS hm k (by omega)) (dm_RA hM hS hV hR hm hk k (by omega)) (by omega) (by omega) hk
theorem da_RA {t : sMem} {cm : Nat → Bool} {kd : Nat} (hM : MC c N P S) (hS : SC c N P S G) (hR : RA c t P S G (beA c cm)) (hk : kd < 2 ^ 31) : ∀ k, k ≤ 1000 → RA c (forM (dyM (nI kd) P G S) t k) P S G (forG (dmA c P G S kd) (beA c cm) k)
  | 0, _ => hR
  | k + 1, hk1 => dm_RA hM hS (daA_DV hM hS k (by omega)) (da_RA hM hS hR hk k (by omega)) (by omega) hk S (Nat.le_refl _)
end
