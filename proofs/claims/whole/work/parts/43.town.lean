/-! THE CLASS: towns. The memory t is the reference's (a ghost): what the class's town holds is said by it. -/
/-- the town v of the class (36, 54) holds the streets and all of t -/
def CT (σ t : sMem) (v N P S G : Nat) : Prop :=
  σ (v + 1) 0 0 = nI N ∧ σ v 0 1 = nI P ∧ σ v 0 7 = nI S ∧ σ v 0 13 = nI G ∧ σ v 0 17 = t 3 0 4 ∧
  (∀ a b, a < N → b < N → σ (v + 2) a b = t 13 a b ∧ σ (v + 3) a b = t 14 a b ∧ σ (v + 4) a b = if t 15 a b = -1 then nI a else t 15 a b) ∧
  (∀ p, p < P → σ (v + 5) 0 p = t 6 p 0 ∧ σ (v + 6) 0 p = t 6 p 1 ∧ σ (v + 7) 0 p = t 6 p 2 ∧ σ (v + 8) 0 p = t 6 p 3 ∧ σ (v + 9) 0 p = t 6 p 4) ∧
  (∀ s, s < S → σ (v + 10) 0 s = t 8 s 0 ∧ σ (v + 11) 0 s = t 8 s 1 ∧ σ (v + 12) 0 s = t 8 s 2 ∧ σ (v + 13) 0 s = t 8 s 3 ∧ σ (v + 14) 0 s = t 8 s 4) ∧
  (∀ g, g < G → σ (v + 15) 0 g = t 10 g 0 ∧ σ (v + 16) 0 g = t 10 g 1) ∧ ∀ x, x < 12 → σ (v + 17) 0 x = t 12 0 x
/-- .. and nothing of it has changed -/
theorem CT.cg {σ σ' t : sMem} {v N P S G : Nat} (h : CT σ t v N P S G) (hh : ∀ i, v ≤ i → i < v + 18 → σ' i = σ i) : CT σ' t v N P S G := by
  unfold CT
  rw [hh v (by omega) (by omega), hh (v + 1) (by omega) (by omega), hh (v + 2) (by omega) (by omega), hh (v + 3) (by omega) (by omega), hh (v + 4) (by omega) (by omega), hh (v + 5) (by omega) (by omega), hh (v + 6) (by omega) (by omega), hh (v + 7) (by omega) (by omega), hh (v + 8) (by omega) (by omega), hh (v + 9) (by omega) (by omega), hh (v + 10) (by omega) (by omega), hh (v + 11) (by omega) (by omega), hh (v + 12) (by omega) (by omega), hh (v + 13) (by omega) (by omega), hh (v + 14) (by omega) (by omega), hh (v + 15) (by omega) (by omega), hh (v + 16) (by omega) (by omega), hh (v + 17) (by omega) (by omega)]
  exact h
/-- the ways, as the class rests on them -/
def WY (t : sMem) (N : Nat) : Prop := WI t N ∧ (∀ a b c, a < N → b < N → c < N → fN t a c ≤ fN t a b + fN t b c) ∧ (∀ a b, a < N → b < N → ∃ w : Nat, t 13 a b = nI w ∧ fN t a b ≤ w ∧ (w = 1000000 ∨ (1 ≤ w ∧ w ≤ 60))) ∧ ∀ a b, a < N → b < N → (a = b ∨ ¬ fN t a b < 1000000) → t 15 a b = -1
/-- all of the town: what a call may rest on -/
def MI (t : sMem) (N P S G : Nat) : Prop := MJ t N P S G ∧ WY t N ∧ (∃ w : Nat, t 3 0 4 = nI w ∧ w ≤ 9) ∧ (∀ p, p < P → ∃ w : Nat, t 6 p 4 = nI w ∧ w < 2 ^ N) ∧ (∀ s, s < S → ∃ w : Nat, t 8 s 4 = nI w ∧ w < 2 ^ N) ∧ (∀ s, s < S → t 8 s 0 ≠ t 8 s 1 ∧ ∃ c : Nat, t 8 s 3 = nI c ∧ 1 ≤ c ∧ c ≤ 8) ∧ (∀ p, p < P → t 6 p 0 ≠ t 6 p 1) ∧
  (∀ g, g < G → ∃ a f : Nat, (t 10 g 0 = nI a ∧ a < N) ∧ t 10 g 1 = nI f ∧ f ≤ 9) ∧ ∀ x, x < 12 → ∃ w : Nat, t 12 0 x = nI w ∧ w < 2 ^ N
theorem MI.cg {t t' : sMem} {N P S G : Nat} (h : MI t N P S G) (hh : ∀ a, a = 3 ∨ a = 6 ∨ a = 8 ∨ a = 10 ∨ a = 12 ∨ a = 13 ∨ a = 14 ∨ a = 15 ∨ a = 16 → t' a = t a) : MI t' N P S G := by
  refine ⟨h.1.cg (fun a ha => hh a (by omega)), ?_⟩
  unfold WY fN
  rw [hh 3 (by omega), hh 6 (by omega), hh 8 (by omega), hh 10 (by omega), hh 12 (by omega), hh 13 (by omega), hh 14 (by omega), hh 15 (by omega)]
  refine ⟨⟨h.1.1.1.congr (hh 13 (by omega)) (hh 14 (by omega)) (hh 15 (by omega)), h.2.1.2⟩, h.2.2⟩
theorem MI.far {t : sMem} {N P S G : Nat} (h : MI t N P S G) {a b : Nat} (ha : a < N) (hb : b < N) : t 14 a b = nI (fN t a b) ∧ fN t a b ≤ 1000000 := ⟨(h.1.1.1.2.1 a b ha hb).1, (h.1.1.1.2.1 a b ha hb).2.1⟩
theorem nI_lt1 {n : Nat} (h : n ≤ 1000000) : nI n < 1000000 ↔ n < 1000000 := nI_ltI (a := n) (b := 1000000) (by omega) (by decide)
section
variable {l : Launch} {D : va_G} {b0 : Nat} {ty : Nat → ClassId}
theorem c6_reaches_36 (d : Nat) (σ t : sMem) (N P S G : Nat) (hC : CT σ t 36 N P S G) (hM : MI t N P S G) (a b : Nat) (ha : a < N) (hb : b < N) : sMet l D b0 ty lay d mX6_reaches [aR 37, aI (nI a), aI (nI b)] σ (fun r σ' => r = [aI (bI (decide (fN t a b < 1000000)))] ∧ σ' = σ) := by
  refine sMet_intro lay_nd kX6_reaches xX6_ok (by decide +kernel) rfl ?_
  intro K hK
  have hN := hM.1.1.1.1
  have hf := hM.far ha hb
  have em : σ 39 a b = nI (fN t a b) := ((hC.2.2.2.2.2.1 a b ha hb).2.1).trans hf.1
  iterate 4 refine hK _ _ _ _ ?_
  refine And.intro (vp_in_nI (n := a) (by omega) (by decide)) ?_
  rw [nI_clamp (show a < 2 ^ 31 by omega)]
  iterate 2 refine hK _ _ _ _ ?_
  refine And.intro (by first | omega | (rw [nI_clamp (by omega)]; omega)) (And.intro (vp_in_nI (n := b) (by omega) (by decide)) ?_)
  rw [nI_clamp (show b < 2 ^ 31 by omega)]
  rw [show σ 39 a b = nI (fN t a b) from em]
  iterate 2 refine hK _ _ _ _ ?_
  refine And.intro (fun h => ?_) (fun h => ?_)
  · iterate 2 refine hK _ _ _ _ ?_
    exact ⟨Or.inl rfl, by rw [decide_eq_false (fun z => absurd ((nI_lt1 hf.2).mpr z) (Int32.not_lt.mpr h))]; rfl, rfl⟩
  · iterate 3 refine hK _ _ _ _ ?_
    exact ⟨Or.inr rfl, by rw [decide_eq_true ((nI_lt1 hf.2).mp (Int32.not_le.mp h))]; rfl, rfl⟩
theorem c7_goes_36 (d : Nat) (σ t : sMem) (N P S G : Nat) (hC : CT σ t 36 N P S G) (hM : MI t N P S G) (p : Nat) (hp : p < P) : sMet l D b0 ty lay (d + 1) mX7_goes [aR 36, aI (nI p)] σ (fun r σ' => r = [aI (bI (decide (fN t (t 6 p 0).toNatClampNeg (t 6 p 1).toNatClampNeg < 1000000)))] ∧ σ' = σ) := by
  refine sMet_intro lay_nd kX7_goes xX7_ok (by decide +kernel) rfl ?_
  intro K hK
  have hN := hM.1.1.1.1
  have hP := hM.1.1.2.2.2.1.2
  obtain ⟨a, b, tt, w, ⟨ea, ha⟩, ⟨eb, hb⟩, ⟨et, htt⟩, ew, hw1, hw2⟩ := hM.1.1.2.2.2.2.2.1 p hp
  have ca := nI_clamp (show a < 2 ^ 31 by omega)
  have cb := nI_clamp (show b < 2 ^ 31 by omega)
  have f5 : σ 41 0 p = nI a := ((hC.2.2.2.2.2.2.1 p hp).1).trans ea
  have f6 : σ 42 0 p = nI b := ((hC.2.2.2.2.2.2.1 p hp).2.1).trans eb
  have f7 : σ 43 0 p = nI tt := ((hC.2.2.2.2.2.2.1 p hp).2.2.1).trans et
  have f8 : σ 44 0 p = nI w := ((hC.2.2.2.2.2.2.1 p hp).2.2.2.1).trans ew
  rw [ea, eb, ca, cb] at hK
  iterate 6 refine hK _ _ _ _ ?_
  refine And.intro (vp_in_nI (n := p) (by omega) (by decide)) ?_
  rw [nI_clamp (show p < 2 ^ 31 by omega)]
  rw [show σ 41 0 p = nI a from f5]
  iterate 4 refine hK _ _ _ _ ?_
  refine And.intro (vp_in_nI (n := p) (by omega) (by decide)) ?_
  rw [nI_clamp (show p < 2 ^ 31 by omega)]
  rw [show σ 42 0 p = nI b from f6]
  refine hK _ _ _ _ ?_
  refine calD (c6_reaches_36 _ _ t N P S G hC hM a b ha hb) ?_
  rintro r σ' ⟨rfl, hσ⟩
  subst σ'
  refine hK _ _ _ _ ?_
  exact ⟨bI_01 _, rfl, rfl⟩
theorem c7_arrival_36 (d : Nat) (σ t : sMem) (N P S G : Nat) (hC : CT σ t 36 N P S G) (hM : MI t N P S G) (p : Nat) (hp : p < P) : sMet l D b0 ty lay d mX7_arrival [aR 36, aI (nI p)] σ (fun r σ' => r = [aI (t 6 p 2 + t 14 (t 6 p 0).toNatClampNeg (t 6 p 1).toNatClampNeg)] ∧ σ' = σ) := by
  refine sMet_intro lay_nd kX7_arrival xX7_ok (by decide +kernel) rfl ?_
  intro K hK
  have hN := hM.1.1.1.1
  have hP := hM.1.1.2.2.2.1.2
  obtain ⟨a, b, tt, w, ⟨ea, ha⟩, ⟨eb, hb⟩, ⟨et, htt⟩, ew, hw1, hw2⟩ := hM.1.1.2.2.2.2.2.1 p hp
  have ca := nI_clamp (show a < 2 ^ 31 by omega)
  have cb := nI_clamp (show b < 2 ^ 31 by omega)
  have f5 : σ 41 0 p = nI a := ((hC.2.2.2.2.2.2.1 p hp).1).trans ea
  have f6 : σ 42 0 p = nI b := ((hC.2.2.2.2.2.2.1 p hp).2.1).trans eb
  have f7 : σ 43 0 p = nI tt := ((hC.2.2.2.2.2.2.1 p hp).2.2.1).trans et
  have f8 : σ 44 0 p = nI w := ((hC.2.2.2.2.2.2.1 p hp).2.2.2.1).trans ew
  rw [ea, eb, ca, cb] at hK
  have fm : σ 39 a b = t 14 a b := (hC.2.2.2.2.2.1 a b ha hb).2.1
  iterate 4 refine hK _ _ _ _ ?_
  refine And.intro (vp_in_nI (n := p) (by omega) (by decide)) ?_
  rw [nI_clamp (show p < 2 ^ 31 by omega)]
  rw [show σ 43 0 p = nI tt from f7]
  iterate 7 refine hK _ _ _ _ ?_
  refine And.intro (vp_in_nI (n := p) (by omega) (by decide)) ?_
  rw [nI_clamp (show p < 2 ^ 31 by omega)]
  rw [show σ 41 0 p = nI a from f5]
  refine hK _ _ _ _ ?_
  refine And.intro (vp_in_nI (n := a) (by omega) (by decide)) ?_
  rw [nI_clamp (show a < 2 ^ 31 by omega)]
  iterate 4 refine hK _ _ _ _ ?_
  refine And.intro (vp_in_nI (n := p) (by omega) (by decide)) ?_
  rw [nI_clamp (show p < 2 ^ 31 by omega)]
  rw [show σ 42 0 p = nI b from f6]
  refine hK _ _ _ _ ?_
  refine And.intro (by first | omega | (rw [nI_clamp (by omega)]; omega)) (And.intro (vp_in_nI (n := b) (by omega) (by decide)) ?_)
  rw [nI_clamp (show b < 2 ^ 31 by omega)]
  rw [show σ 39 a b = t 14 a b from fm]
  iterate 2 refine hK _ _ _ _ ?_
  exact ⟨by rw [et], rfl⟩
theorem c7_lossBy_36 (d : Nat) (σ t : sMem) (N P S G : Nat) (hC : CT σ t 36 N P S G) (hM : MI t N P S G) (p : Nat) (hp : p < P) (x y : Nat) (hx : x < N) (hy : y < N) : sMet l D b0 ty lay d mX7_lossBy [aR 36, aI (nI p), aI (nI x), aI (nI y)] σ (fun r σ' => r = [aI (t 6 p 3 * (t 14 x y + t 14 y (t 6 p 1).toNatClampNeg - t 14 x (t 6 p 1).toNatClampNeg))] ∧ σ' = σ) := by
  refine sMet_intro lay_nd kX7_lossBy xX7_ok (by decide +kernel) rfl ?_
  intro K hK
  have hN := hM.1.1.1.1
  have hP := hM.1.1.2.2.2.1.2
  obtain ⟨a, b, tt, w, ⟨ea, ha⟩, ⟨eb, hb⟩, ⟨et, htt⟩, ew, hw1, hw2⟩ := hM.1.1.2.2.2.2.2.1 p hp
  have ca := nI_clamp (show a < 2 ^ 31 by omega)
  have cb := nI_clamp (show b < 2 ^ 31 by omega)
  have f5 : σ 41 0 p = nI a := ((hC.2.2.2.2.2.2.1 p hp).1).trans ea
  have f6 : σ 42 0 p = nI b := ((hC.2.2.2.2.2.2.1 p hp).2.1).trans eb
  have f7 : σ 43 0 p = nI tt := ((hC.2.2.2.2.2.2.1 p hp).2.2.1).trans et
  have f8 : σ 44 0 p = nI w := ((hC.2.2.2.2.2.2.1 p hp).2.2.2.1).trans ew
  rw [eb, cb] at hK
  have g1 : σ 39 x y = t 14 x y := (hC.2.2.2.2.2.1 x y hx hy).2.1
  have g2 : σ 39 y b = t 14 y b := (hC.2.2.2.2.2.1 y b hy hb).2.1
  have g3 : σ 39 x b = t 14 x b := (hC.2.2.2.2.2.1 x b hx hb).2.1
  iterate 5 refine hK _ _ _ _ ?_
  refine And.intro (vp_in_nI (n := x) (by omega) (by decide)) ?_
  rw [nI_clamp (show x < 2 ^ 31 by omega)]
  iterate 2 refine hK _ _ _ _ ?_
  refine And.intro (by first | omega | (rw [nI_clamp (by omega)]; omega)) (And.intro (vp_in_nI (n := y) (by omega) (by decide)) ?_)
  rw [nI_clamp (show y < 2 ^ 31 by omega)]
  rw [show σ 39 x y = t 14 x y from g1]
  iterate 5 refine hK _ _ _ _ ?_
  refine And.intro (vp_in_nI (n := y) (by omega) (by decide)) ?_
  rw [nI_clamp (show y < 2 ^ 31 by omega)]
  iterate 4 refine hK _ _ _ _ ?_
  refine And.intro (vp_in_nI (n := p) (by omega) (by decide)) ?_
  rw [nI_clamp (show p < 2 ^ 31 by omega)]
  rw [show σ 42 0 p = nI b from f6]
  refine hK _ _ _ _ ?_
  refine And.intro (by first | omega | (rw [nI_clamp (by omega)]; omega)) (And.intro (vp_in_nI (n := b) (by omega) (by decide)) ?_)
  rw [nI_clamp (show b < 2 ^ 31 by omega)]
  rw [show σ 39 y b = t 14 y b from g2]
  iterate 6 refine hK _ _ _ _ ?_
  refine And.intro (vp_in_nI (n := x) (by omega) (by decide)) ?_
  rw [nI_clamp (show x < 2 ^ 31 by omega)]
  iterate 4 refine hK _ _ _ _ ?_
  refine And.intro (vp_in_nI (n := p) (by omega) (by decide)) ?_
  rw [nI_clamp (show p < 2 ^ 31 by omega)]
  rw [show σ 42 0 p = nI b from f6]
  refine hK _ _ _ _ ?_
  refine And.intro (by first | omega | (rw [nI_clamp (by omega)]; omega)) (And.intro (vp_in_nI (n := b) (by omega) (by decide)) ?_)
  rw [nI_clamp (show b < 2 ^ 31 by omega)]
  rw [show σ 39 x b = t 14 x b from g3]
  iterate 6 refine hK _ _ _ _ ?_
  refine And.intro (vp_in_nI (n := p) (by omega) (by decide)) ?_
  rw [nI_clamp (show p < 2 ^ 31 by omega)]
  rw [show σ 44 0 p = nI w from f8]
  iterate 3 refine hK _ _ _ _ ?_
  exact ⟨by rw [ew], rfl⟩
theorem c6_reaches_54 (d : Nat) (σ t : sMem) (N P S G : Nat) (hC : CT σ t 54 N P S G) (hM : MI t N P S G) (a b : Nat) (ha : a < N) (hb : b < N) : sMet l D b0 ty lay d mX6_reaches [aR 55, aI (nI a), aI (nI b)] σ (fun r σ' => r = [aI (bI (decide (fN t a b < 1000000)))] ∧ σ' = σ) := by
  refine sMet_intro lay_nd kX6_reaches xX6_ok (by decide +kernel) rfl ?_
  intro K hK
  have hN := hM.1.1.1.1
  have hf := hM.far ha hb
  have em : σ 57 a b = nI (fN t a b) := ((hC.2.2.2.2.2.1 a b ha hb).2.1).trans hf.1
  iterate 4 refine hK _ _ _ _ ?_
  refine And.intro (vp_in_nI (n := a) (by omega) (by decide)) ?_
  rw [nI_clamp (show a < 2 ^ 31 by omega)]
  iterate 2 refine hK _ _ _ _ ?_
  refine And.intro (by first | omega | (rw [nI_clamp (by omega)]; omega)) (And.intro (vp_in_nI (n := b) (by omega) (by decide)) ?_)
  rw [nI_clamp (show b < 2 ^ 31 by omega)]
  rw [show σ 57 a b = nI (fN t a b) from em]
  iterate 2 refine hK _ _ _ _ ?_
  refine And.intro (fun h => ?_) (fun h => ?_)
  · iterate 2 refine hK _ _ _ _ ?_
    exact ⟨Or.inl rfl, by rw [decide_eq_false (fun z => absurd ((nI_lt1 hf.2).mpr z) (Int32.not_lt.mpr h))]; rfl, rfl⟩
  · iterate 3 refine hK _ _ _ _ ?_
    exact ⟨Or.inr rfl, by rw [decide_eq_true ((nI_lt1 hf.2).mp (Int32.not_le.mp h))]; rfl, rfl⟩
theorem c7_goes_54 (d : Nat) (σ t : sMem) (N P S G : Nat) (hC : CT σ t 54 N P S G) (hM : MI t N P S G) (p : Nat) (hp : p < P) : sMet l D b0 ty lay (d + 1) mX7_goes [aR 54, aI (nI p)] σ (fun r σ' => r = [aI (bI (decide (fN t (t 6 p 0).toNatClampNeg (t 6 p 1).toNatClampNeg < 1000000)))] ∧ σ' = σ) := by
  refine sMet_intro lay_nd kX7_goes xX7_ok (by decide +kernel) rfl ?_
  intro K hK
  have hN := hM.1.1.1.1
  have hP := hM.1.1.2.2.2.1.2
  obtain ⟨a, b, tt, w, ⟨ea, ha⟩, ⟨eb, hb⟩, ⟨et, htt⟩, ew, hw1, hw2⟩ := hM.1.1.2.2.2.2.2.1 p hp
  have ca := nI_clamp (show a < 2 ^ 31 by omega)
  have cb := nI_clamp (show b < 2 ^ 31 by omega)
  have f5 : σ 59 0 p = nI a := ((hC.2.2.2.2.2.2.1 p hp).1).trans ea
  have f6 : σ 60 0 p = nI b := ((hC.2.2.2.2.2.2.1 p hp).2.1).trans eb
  have f7 : σ 61 0 p = nI tt := ((hC.2.2.2.2.2.2.1 p hp).2.2.1).trans et
  have f8 : σ 62 0 p = nI w := ((hC.2.2.2.2.2.2.1 p hp).2.2.2.1).trans ew
  rw [ea, eb, ca, cb] at hK
  iterate 6 refine hK _ _ _ _ ?_
  refine And.intro (vp_in_nI (n := p) (by omega) (by decide)) ?_
  rw [nI_clamp (show p < 2 ^ 31 by omega)]
  rw [show σ 59 0 p = nI a from f5]
  iterate 4 refine hK _ _ _ _ ?_
  refine And.intro (vp_in_nI (n := p) (by omega) (by decide)) ?_
  rw [nI_clamp (show p < 2 ^ 31 by omega)]
  rw [show σ 60 0 p = nI b from f6]
  refine hK _ _ _ _ ?_
  refine calD (c6_reaches_54 _ _ t N P S G hC hM a b ha hb) ?_
  rintro r σ' ⟨rfl, hσ⟩
  subst σ'
  refine hK _ _ _ _ ?_
  exact ⟨bI_01 _, rfl, rfl⟩
theorem c7_arrival_54 (d : Nat) (σ t : sMem) (N P S G : Nat) (hC : CT σ t 54 N P S G) (hM : MI t N P S G) (p : Nat) (hp : p < P) : sMet l D b0 ty lay d mX7_arrival [aR 54, aI (nI p)] σ (fun r σ' => r = [aI (t 6 p 2 + t 14 (t 6 p 0).toNatClampNeg (t 6 p 1).toNatClampNeg)] ∧ σ' = σ) := by
  refine sMet_intro lay_nd kX7_arrival xX7_ok (by decide +kernel) rfl ?_
  intro K hK
  have hN := hM.1.1.1.1
  have hP := hM.1.1.2.2.2.1.2
  obtain ⟨a, b, tt, w, ⟨ea, ha⟩, ⟨eb, hb⟩, ⟨et, htt⟩, ew, hw1, hw2⟩ := hM.1.1.2.2.2.2.2.1 p hp
  have ca := nI_clamp (show a < 2 ^ 31 by omega)
  have cb := nI_clamp (show b < 2 ^ 31 by omega)
  have f5 : σ 59 0 p = nI a := ((hC.2.2.2.2.2.2.1 p hp).1).trans ea
  have f6 : σ 60 0 p = nI b := ((hC.2.2.2.2.2.2.1 p hp).2.1).trans eb
  have f7 : σ 61 0 p = nI tt := ((hC.2.2.2.2.2.2.1 p hp).2.2.1).trans et
  have f8 : σ 62 0 p = nI w := ((hC.2.2.2.2.2.2.1 p hp).2.2.2.1).trans ew
  rw [ea, eb, ca, cb] at hK
  have fm : σ 57 a b = t 14 a b := (hC.2.2.2.2.2.1 a b ha hb).2.1
  iterate 4 refine hK _ _ _ _ ?_
  refine And.intro (vp_in_nI (n := p) (by omega) (by decide)) ?_
  rw [nI_clamp (show p < 2 ^ 31 by omega)]
  rw [show σ 61 0 p = nI tt from f7]
  iterate 7 refine hK _ _ _ _ ?_
  refine And.intro (vp_in_nI (n := p) (by omega) (by decide)) ?_
  rw [nI_clamp (show p < 2 ^ 31 by omega)]
  rw [show σ 59 0 p = nI a from f5]
  refine hK _ _ _ _ ?_
  refine And.intro (vp_in_nI (n := a) (by omega) (by decide)) ?_
  rw [nI_clamp (show a < 2 ^ 31 by omega)]
  iterate 4 refine hK _ _ _ _ ?_
  refine And.intro (vp_in_nI (n := p) (by omega) (by decide)) ?_
  rw [nI_clamp (show p < 2 ^ 31 by omega)]
  rw [show σ 60 0 p = nI b from f6]
  refine hK _ _ _ _ ?_
  refine And.intro (by first | omega | (rw [nI_clamp (by omega)]; omega)) (And.intro (vp_in_nI (n := b) (by omega) (by decide)) ?_)
  rw [nI_clamp (show b < 2 ^ 31 by omega)]
  rw [show σ 57 a b = t 14 a b from fm]
  iterate 2 refine hK _ _ _ _ ?_
  exact ⟨by rw [et], rfl⟩
theorem c7_lossBy_54 (d : Nat) (σ t : sMem) (N P S G : Nat) (hC : CT σ t 54 N P S G) (hM : MI t N P S G) (p : Nat) (hp : p < P) (x y : Nat) (hx : x < N) (hy : y < N) : sMet l D b0 ty lay d mX7_lossBy [aR 54, aI (nI p), aI (nI x), aI (nI y)] σ (fun r σ' => r = [aI (t 6 p 3 * (t 14 x y + t 14 y (t 6 p 1).toNatClampNeg - t 14 x (t 6 p 1).toNatClampNeg))] ∧ σ' = σ) := by
  refine sMet_intro lay_nd kX7_lossBy xX7_ok (by decide +kernel) rfl ?_
  intro K hK
  have hN := hM.1.1.1.1
  have hP := hM.1.1.2.2.2.1.2
  obtain ⟨a, b, tt, w, ⟨ea, ha⟩, ⟨eb, hb⟩, ⟨et, htt⟩, ew, hw1, hw2⟩ := hM.1.1.2.2.2.2.2.1 p hp
  have ca := nI_clamp (show a < 2 ^ 31 by omega)
  have cb := nI_clamp (show b < 2 ^ 31 by omega)
  have f5 : σ 59 0 p = nI a := ((hC.2.2.2.2.2.2.1 p hp).1).trans ea
  have f6 : σ 60 0 p = nI b := ((hC.2.2.2.2.2.2.1 p hp).2.1).trans eb
  have f7 : σ 61 0 p = nI tt := ((hC.2.2.2.2.2.2.1 p hp).2.2.1).trans et
  have f8 : σ 62 0 p = nI w := ((hC.2.2.2.2.2.2.1 p hp).2.2.2.1).trans ew
  rw [eb, cb] at hK
  have g1 : σ 57 x y = t 14 x y := (hC.2.2.2.2.2.1 x y hx hy).2.1
  have g2 : σ 57 y b = t 14 y b := (hC.2.2.2.2.2.1 y b hy hb).2.1
  have g3 : σ 57 x b = t 14 x b := (hC.2.2.2.2.2.1 x b hx hb).2.1
  iterate 5 refine hK _ _ _ _ ?_
  refine And.intro (vp_in_nI (n := x) (by omega) (by decide)) ?_
  rw [nI_clamp (show x < 2 ^ 31 by omega)]
  iterate 2 refine hK _ _ _ _ ?_
  refine And.intro (by first | omega | (rw [nI_clamp (by omega)]; omega)) (And.intro (vp_in_nI (n := y) (by omega) (by decide)) ?_)
  rw [nI_clamp (show y < 2 ^ 31 by omega)]
  rw [show σ 57 x y = t 14 x y from g1]
  iterate 5 refine hK _ _ _ _ ?_
  refine And.intro (vp_in_nI (n := y) (by omega) (by decide)) ?_
  rw [nI_clamp (show y < 2 ^ 31 by omega)]
  iterate 4 refine hK _ _ _ _ ?_
  refine And.intro (vp_in_nI (n := p) (by omega) (by decide)) ?_
  rw [nI_clamp (show p < 2 ^ 31 by omega)]
  rw [show σ 60 0 p = nI b from f6]
  refine hK _ _ _ _ ?_
  refine And.intro (by first | omega | (rw [nI_clamp (by omega)]; omega)) (And.intro (vp_in_nI (n := b) (by omega) (by decide)) ?_)
  rw [nI_clamp (show b < 2 ^ 31 by omega)]
  rw [show σ 57 y b = t 14 y b from g2]
  iterate 6 refine hK _ _ _ _ ?_
  refine And.intro (vp_in_nI (n := x) (by omega) (by decide)) ?_
  rw [nI_clamp (show x < 2 ^ 31 by omega)]
  iterate 4 refine hK _ _ _ _ ?_
  refine And.intro (vp_in_nI (n := p) (by omega) (by decide)) ?_
  rw [nI_clamp (show p < 2 ^ 31 by omega)]
  rw [show σ 60 0 p = nI b from f6]
  refine hK _ _ _ _ ?_
  refine And.intro (by first | omega | (rw [nI_clamp (by omega)]; omega)) (And.intro (vp_in_nI (n := b) (by omega) (by decide)) ?_)
  rw [nI_clamp (show b < 2 ^ 31 by omega)]
  rw [show σ 57 x b = t 14 x b from g3]
  iterate 6 refine hK _ _ _ _ ?_
  refine And.intro (vp_in_nI (n := p) (by omega) (by decide)) ?_
  rw [nI_clamp (show p < 2 ^ 31 by omega)]
  rw [show σ 62 0 p = nI w from f8]
  iterate 3 refine hK _ _ _ _ ?_
  exact ⟨by rw [ew], rfl⟩
end
section
variable {l : Launch} {D : va_G} {b0 : Nat} {ty : Nat → ClassId} {ad av : Nat → Nat}
theorem c7_canLeadTo_36 (d : Nat) (σ t : sMem) (N P S G : Nat) (hC : CT σ t 36 N P S G) (hM : MI t N P S G) (p : Nat) (hp : p < P) (x y : Nat) (hx : x < N) (hy : y < N) : yMet l D b0 ty ad av lay (d + 1) 0 mX7_canLeadTo [aR 36, aI (nI p), aI (nI x), aI (nI y)] σ (fun r σ' => r = [aI (bI (hb (t 6 p 4) (nI y) && decide (fN t x y < 1000000) && decide (fN t y (t 6 p 1).toNatClampNeg < 1000000)))] ∧ σ' = σ) (fun _ _ => False) := by
  refine yMet_intro lay_nd kX7_canLeadTo xX7_ok (yY7_ok _) (by decide +kernel) rfl ?_
  intro K hK
  have hN := hM.1.1.1.1
  have hP := hM.1.1.2.2.2.1.2
  obtain ⟨a, b, tt, w, ⟨ea, ha⟩, ⟨eb, hb9⟩, ⟨et, htt⟩, ew, hw1, hw2⟩ := hM.1.1.2.2.2.2.2.1 p hp
  have cb := nI_clamp (show b < 2 ^ 31 by omega)
  rw [eb, cb] at hK
  have f6 : σ 42 0 p = nI b := ((hC.2.2.2.2.2.2.1 p hp).2.1).trans eb
  have f9 : σ 45 0 p = t 6 p 4 := (hC.2.2.2.2.2.2.1 p hp).2.2.2.2
  iterate 4 refine hK _ _ _ _ _ ?_
  refine And.intro (vp_in_nI (n := p) (by omega) (by decide)) ?_
  rw [nI_clamp (show p < 2 ^ 31 by omega)]
  rw [show σ 45 0 p = t 6 p 4 from f9]
  iterate 2 refine hK _ _ _ _ _ ?_
  refine calD (c8_hasBit _ _ _ _) ?_
  rintro r σ' ⟨rfl, hσ⟩
  subst σ'
  refine hK _ _ _ _ _ ?_
  refine And.intro (fun h => ?_) (fun h => ?_)
  · have h1 := bI_f h
    iterate 2 refine hK _ _ _ _ _ ?_
    exact ⟨Or.inl rfl, by rw [h1]; rfl, rfl⟩
  · have h1 := bI_t h
    iterate 5 refine hK _ _ _ _ _ ?_
    refine Or.inl (calD (c6_reaches_36 _ _ t N P S G hC hM x y hx hy) ?_)
    rintro r σ' ⟨rfl, hσ⟩
    subst σ'
    refine hK _ _ _ _ _ ?_
    refine And.intro (fun h => ?_) (fun h => ?_)
    · have h2 := bI_f h
      iterate 2 refine hK _ _ _ _ _ ?_
      exact ⟨Or.inl rfl, by rw [h1, h2]; rfl, rfl⟩
    · have h2 := bI_t h
      iterate 7 refine hK _ _ _ _ _ ?_
      refine And.intro (vp_in_nI (n := p) (by omega) (by decide)) ?_
      rw [nI_clamp (show p < 2 ^ 31 by omega)]
      rw [show σ 42 0 p = nI b from f6]
      refine hK _ _ _ _ _ ?_
      refine Or.inl (calD (c6_reaches_36 _ _ t N P S G hC hM y b hy hb9) ?_)
      rintro r σ' ⟨rfl, hσ⟩
      subst σ'
      refine hK _ _ _ _ _ ?_
      refine And.intro (fun h => ?_) (fun h => ?_)
      · have h3 := bI_f h
        iterate 2 refine hK _ _ _ _ _ ?_
        exact ⟨Or.inl rfl, by rw [h1, h2, h3]; rfl, rfl⟩
      · have h3 := bI_t h
        iterate 3 refine hK _ _ _ _ _ ?_
        exact ⟨Or.inr rfl, by rw [h1, h2, h3]; rfl, rfl⟩
theorem c7_canLeadTo_54 (d : Nat) (σ t : sMem) (N P S G : Nat) (hC : CT σ t 54 N P S G) (hM : MI t N P S G) (p : Nat) (hp : p < P) (x y : Nat) (hx : x < N) (hy : y < N) : yMet l D b0 ty ad av lay (d + 1) 0 mX7_canLeadTo [aR 54, aI (nI p), aI (nI x), aI (nI y)] σ (fun r σ' => r = [aI (bI (hb (t 6 p 4) (nI y) && decide (fN t x y < 1000000) && decide (fN t y (t 6 p 1).toNatClampNeg < 1000000)))] ∧ σ' = σ) (fun _ _ => False) := by
  refine yMet_intro lay_nd kX7_canLeadTo xX7_ok (yY7_ok _) (by decide +kernel) rfl ?_
  intro K hK
  have hN := hM.1.1.1.1
  have hP := hM.1.1.2.2.2.1.2
  obtain ⟨a, b, tt, w, ⟨ea, ha⟩, ⟨eb, hb9⟩, ⟨et, htt⟩, ew, hw1, hw2⟩ := hM.1.1.2.2.2.2.2.1 p hp
  have cb := nI_clamp (show b < 2 ^ 31 by omega)
  rw [eb, cb] at hK
  have f6 : σ 60 0 p = nI b := ((hC.2.2.2.2.2.2.1 p hp).2.1).trans eb
  have f9 : σ 63 0 p = t 6 p 4 := (hC.2.2.2.2.2.2.1 p hp).2.2.2.2
  iterate 4 refine hK _ _ _ _ _ ?_
  refine And.intro (vp_in_nI (n := p) (by omega) (by decide)) ?_
  rw [nI_clamp (show p < 2 ^ 31 by omega)]
  rw [show σ 63 0 p = t 6 p 4 from f9]
  iterate 2 refine hK _ _ _ _ _ ?_
  refine calD (c8_hasBit _ _ _ _) ?_
  rintro r σ' ⟨rfl, hσ⟩
  subst σ'
  refine hK _ _ _ _ _ ?_
  refine And.intro (fun h => ?_) (fun h => ?_)
  · have h1 := bI_f h
    iterate 2 refine hK _ _ _ _ _ ?_
    exact ⟨Or.inl rfl, by rw [h1]; rfl, rfl⟩
  · have h1 := bI_t h
    iterate 5 refine hK _ _ _ _ _ ?_
    refine Or.inl (calD (c6_reaches_54 _ _ t N P S G hC hM x y hx hy) ?_)
    rintro r σ' ⟨rfl, hσ⟩
    subst σ'
    refine hK _ _ _ _ _ ?_
    refine And.intro (fun h => ?_) (fun h => ?_)
    · have h2 := bI_f h
      iterate 2 refine hK _ _ _ _ _ ?_
      exact ⟨Or.inl rfl, by rw [h1, h2]; rfl, rfl⟩
    · have h2 := bI_t h
      iterate 7 refine hK _ _ _ _ _ ?_
      refine And.intro (vp_in_nI (n := p) (by omega) (by decide)) ?_
      rw [nI_clamp (show p < 2 ^ 31 by omega)]
      rw [show σ 60 0 p = nI b from f6]
      refine hK _ _ _ _ _ ?_
      refine Or.inl (calD (c6_reaches_54 _ _ t N P S G hC hM y b hy hb9) ?_)
      rintro r σ' ⟨rfl, hσ⟩
      subst σ'
      refine hK _ _ _ _ _ ?_
      refine And.intro (fun h => ?_) (fun h => ?_)
      · have h3 := bI_f h
        iterate 2 refine hK _ _ _ _ _ ?_
        exact ⟨Or.inl rfl, by rw [h1, h2, h3]; rfl, rfl⟩
      · have h3 := bI_t h
        iterate 3 refine hK _ _ _ _ _ ?_
        exact ⟨Or.inr rfl, by rw [h1, h2, h3]; rfl, rfl⟩
end
