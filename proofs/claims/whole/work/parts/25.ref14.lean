/-! THE REFERENCE, asking -/
theorem sUp_k {σ : sMem} {i j k c : Nat} {v : Int32} (h : c ≠ k) : sUp σ i j k v i j c = σ i j c := by
  simp only [sUp]
  rw [if_neg (fun t => h t.2.2)]
theorem nIp (k : Nat) : nI (k + 1) + Int32.ofInt (-1) = nI k := by
  rw [← nIs, Int32.add_assoc]
  have : Int32.ofInt 1 + Int32.ofInt (-1) = 0 := by decide
  rw [this, Int32.add_zero]
theorem lbM_off {σ : sMem} {s : Nat} {w : Int32} {a : Nat} (h : a ≠ 0 ∧ a ≠ 28 ∧ a ≠ 29) : lbM σ s w a = σ a := by
  unfold lbM
  show sUp (sUp (if σ 28 0 s < 40 then sUp σ 29 s (σ 28 0 s).toNatClampNeg w else σ) 28 0 s _) 0 0 46 _ a = σ a
  rw [sUp_off h.1, sUp_off h.2.1]
  split
  · exact sUp_off h.2.2
  · rfl
theorem gtM_off {σ : sMem} {s : Nat} {z m : Int32} {a : Nat} (h : a ≠ 25 ∧ a ≠ 26 ∧ a ≠ 27) : gtM σ s z m a = σ a := by
  unfold gtM
  show (if z = σ 8 s 1 then sUp (sUp (sUp σ 25 0 s z) 26 0 s m) 27 0 s m else sUp (sUp σ 25 0 s z) 26 0 s m) a = σ a
  split
  · rw [sUp_off h.2.2, sUp_off h.2.1, sUp_off h.1]
  · rw [sUp_off h.2.1, sUp_off h.1]
theorem stL_off {to p : Nat} {a : Nat} (h : a ≠ 18 ∧ a ≠ 19 ∧ a ≠ 20 ∧ a ≠ 23) : ∀ (f hh : Nat) (m : Int32) (n : Nat) (s : sMem), stL to p f hh m n s a = s a
  | 0, hh, m, n, s => by
    unfold stL
    rw [sUp_off h.2.2.2, sUp_off h.2.2.1]
  | f + 1, hh, m, n, s => by
    unfold stL
    split
    · rw [sUp_off h.2.2.2, sUp_off h.2.2.1]
    · rw [stL_off h f, sUp_off h.2.1, sUp_off h.1]
theorem stM_off {σ : sMem} {p z : Nat} {m : Int32} {a : Nat} (h : a ≠ 18 ∧ a ≠ 19 ∧ a ≠ 20 ∧ a ≠ 23) : stM σ p z m a = σ a := by
  unfold stM
  rw [stL_off h, sUp_off h.2.1, sUp_off h.1]
/-- ways go on -/
def TR (σ : sMem) (N : Nat) : Prop := ∀ a b c, a < N → b < N → c < N → fN σ a b < 1000000 → fN σ b c < 1000000 → fN σ a c < 1000000
theorem TR.congr {σ σ' : sMem} {N : Nat} (h : TR σ N) (h14 : σ' 14 = σ 14) : TR σ' N := by
  unfold TR fN at *
  rw [h14]; exact h
def bpM (σ : sMem) (p s : Nat) (m : Int32) : sMem :=
  let x := (σ 25 0 s).toNatClampNeg
  let z := ledM σ x (σ 8 s 1).toNatClampNeg
  gtM (sUp (stM (lbM σ s (nI p)) p z (m + σ 14 x z)) 21 0 p (m + σ 14 x z)) s (nI z) (m + σ 14 x z)
def bgM (σ : sMem) (g s : Nat) (m : Int32) : sMem :=
  let x := (σ 25 0 s).toNatClampNeg
  let y := (σ 8 s 1).toNatClampNeg
  let t := sUp (lbM σ s (100 + nI g)) 24 0 g (m + 2 * σ 14 x y)
  gtM (sUp t 0 0 44 (t 0 0 44 + σ 10 g 1 * 2 * σ 14 x y)) s (σ 8 s 1) (m + σ 14 x y)
def asP (σ : sMem) (P s : Nat) (kd m : Int32) : Option Nat :=
  if kd = 4 then (if σ 16 0 s = -1 then none else if canM σ (σ 16 0 s).toNatClampNeg s m then some (σ 16 0 s).toNatClampNeg else none) else pfM σ P s m (decide (kd = 1))
def asG (σ : sMem) (G s : Nat) (kd m : Int32) : Option Nat := if kd = 4 then none else gfM σ G s m
def asM (σ : sMem) (P G s : Nat) (kd m : Int32) : sMem :=
  let x := (σ 25 0 s).toNatClampNeg
  let y := (σ 8 s 1).toNatClampNeg
  if tldM σ s = true ∧ σ 14 x y < 1000000 then gtM σ s (σ 8 s 1) (m + σ 14 x y)
  else if kd = 3 ∧ σ 15 x y ≠ -1 ∧ (σ 8 s 4 >>> (σ 15 x y &&& 31)) &&& 1 = 1 then gtM σ s (σ 15 x y) (m + σ 13 x (σ 15 x y).toNatClampNeg)
  else match asG σ G s kd m, asP σ P s kd m with
    | some g, some p => if kd = 2 then bgM σ g s m else bpM σ p s m
    | some g, none => bgM σ g s m
    | none, some p => bpM σ p s m
    | none, none => sUp σ 0 0 45 (σ 0 0 45 + 1)
section
variable {l : Launch} {D : va_G} {b0 : Nat} {ty : Nat → ClassId}
theorem c9_byPerson (d : Nat) (σ : sMem) (N P S : Nat) (hT : TD σ N P S) (hR : TR σ N) (p s x y k : Nat) (m : Int32) (hp : p < P) (hs : s < S) (ex : σ 25 0 s = nI x) (hx : x < N) (ey : σ 8 s 1 = nI y) (hy : y < N) (hf : fN σ x y < 1000000) (hfb : ∀ b : Nat, σ 6 p 1 = nI b → b < N → fN σ y b < 1000000) (ek : σ 28 0 s = nI k) (hk : k < 2 ^ 30) : sMet l D b0 ty lay (d + 1) mX9_byPerson [aR 0, aI (nI p), aI (nI s), aI (m)] σ (fun r σ' => r = [] ∧ σ' = bpM σ p s m) := by
  refine sMet_intro lay_nd kX9_byPerson xX9_ok (by decide +kernel) rfl ?_
  intro K hK
  obtain ⟨hW, hN2, -, ⟨-, hP⟩, ⟨-, hS⟩, hpe, hst⟩ := hT
  have hN := hW.1
  obtain ⟨-, b, -, -, -, ⟨eb, hb⟩, -⟩ := hpe p hp
  have hfb' := hfb b eb hb
  obtain ⟨hz, hfz⟩ := ledM_lt hW hy (σ 0 0 27) 12 x 0 hx hf
  have hC : bpM σ p s m = gtM (sUp (stM (lbM σ s (nI p)) p (ledM σ x y) (m + σ 14 x (ledM σ x y))) 21 0 p (m + σ 14 x (ledM σ x y))) s (nI (ledM σ x y)) (m + σ 14 x (ledM σ x y)) := by
    unfold bpM
    rw [ex, ey, nI_clamp (show x < 2 ^ 31 by omega), nI_clamp (show y < 2 ^ 31 by omega)]
  rw [hC] at hK
  iterate 4 refine hK _ _ _ _ ?_
  refine And.intro (vp_in_nI (n := s) (by omega) (by decide)) ?_
  rw [nI_clamp (show s < 2 ^ 31 by omega)]
  rw [show σ 25 0 s = nI x from ex]
  iterate 7 refine hK _ _ _ _ ?_
  refine And.intro (vp_in_nI (n := s) (by omega) (by decide)) ?_
  rw [nI_clamp (show s < 2 ^ 31 by omega)]
  iterate 2 refine hK _ _ _ _ ?_
  refine And.intro (by first | omega | (rw [nI_clamp (by omega)]; omega)) (And.intro (vp_in_nI (n := 1) (by decide) (by decide)) ?_)
  rw [show (Int32.ofInt 1).toNatClampNeg = 1 from rfl]
  rw [show σ 8 s 1 = nI y from ey]
  refine hK _ _ _ _ ?_
  refine calD (c9_ledTo d σ N x y hW hx hy hf) ?_
  rintro r σ' ⟨rfl, hσ⟩
  subst σ'
  have hz' : ledM σ x y < N := hz
  have hfz' : fN σ (ledM σ x y) y < 1000000 := hfz
  generalize ledM σ x y = z at hz' hfz' hK ⊢
  iterate 6 refine hK _ _ _ _ ?_
  refine And.intro (vp_in_nI (n := x) (by omega) (by decide)) ?_
  rw [nI_clamp (show x < 2 ^ 31 by omega)]
  iterate 2 refine hK _ _ _ _ ?_
  refine And.intro (by first | omega | (rw [nI_clamp (by omega)]; omega)) (And.intro (vp_in_nI (n := z) (by omega) (by decide)) ?_)
  rw [nI_clamp (show z < 2 ^ 31 by omega)]
  iterate 6 refine hK _ _ _ _ ?_
  refine calD (c9_ledBy d σ s k (nI p) (by omega) ek hk) ?_
  rintro r σ' ⟨rfl, rfl⟩
  iterate 5 refine hK _ _ _ _ ?_
  refine calD (c9_sets d (lbM σ s (nI p)) N (hW.congr (lbM_off (by decide)) (lbM_off (by decide)) (lbM_off (by decide))) p z b _ (by omega) hz' hb (by rw [lbM_off (by decide)]; exact eb) (by unfold fN; rw [lbM_off (by decide)]; exact hR z y b hz' hy hb hfz' hfb')) ?_
  rintro r σ' ⟨rfl, rfl⟩
  iterate 5 refine hK _ _ _ _ ?_
  refine And.intro (vp_in_nI (n := p) (by omega) (by decide)) ?_
  rw [nI_clamp (show p < 2 ^ 31 by omega)]
  iterate 5 refine hK _ _ _ _ ?_
  refine calD (c9_goesTo d _ s (nI z) _ (by omega)) ?_
  rintro r σ' ⟨rfl, rfl⟩
  refine hK _ _ _ _ ?_
  exact ⟨rfl, rfl⟩
theorem c9_byGuide (d : Nat) (σ : sMem) (N P S : Nat) (hT : TD σ N P S) (g s x y k : Nat) (m : Int32) (hg : g < 6) (hs : s < S) (ex : σ 25 0 s = nI x) (hx : x < N) (ey : σ 8 s 1 = nI y) (hy : y < N) (ek : σ 28 0 s = nI k) (hk : k < 2 ^ 30) : sMet l D b0 ty lay (d + 1) mX9_byGuide [aR 0, aI (nI g), aI (nI s), aI (m)] σ (fun r σ' => r = [] ∧ σ' = bgM σ g s m) := by
  refine sMet_intro lay_nd kX9_byGuide xX9_ok (by decide +kernel) rfl ?_
  intro K hK
  obtain ⟨hW, hN2, -, ⟨-, hP⟩, ⟨-, hS⟩, hpe, hst⟩ := hT
  have hN := hW.1
  have hC : bgM σ g s m = gtM (sUp (sUp (lbM σ s (100 + nI g)) 24 0 g (m + 2 * σ 14 x y)) 0 0 44 (sUp (lbM σ s (100 + nI g)) 24 0 g (m + 2 * σ 14 x y) 0 0 44 + σ 10 g 1 * 2 * σ 14 x y)) s (nI y) (m + σ 14 x y) := by
    unfold bgM
    rw [ex, ey, nI_clamp (show x < 2 ^ 31 by omega), nI_clamp (show y < 2 ^ 31 by omega)]
  rw [hC] at hK
  iterate 4 refine hK _ _ _ _ ?_
  refine And.intro (vp_in_nI (n := s) (by omega) (by decide)) ?_
  rw [nI_clamp (show s < 2 ^ 31 by omega)]
  rw [show σ 25 0 s = nI x from ex]
  iterate 5 refine hK _ _ _ _ ?_
  refine And.intro (vp_in_nI (n := s) (by omega) (by decide)) ?_
  rw [nI_clamp (show s < 2 ^ 31 by omega)]
  iterate 2 refine hK _ _ _ _ ?_
  refine And.intro (by first | omega | (rw [nI_clamp (by omega)]; omega)) (And.intro (vp_in_nI (n := 1) (by decide) (by decide)) ?_)
  rw [show (Int32.ofInt 1).toNatClampNeg = 1 from rfl]
  rw [show σ 8 s 1 = nI y from ey]
  iterate 7 refine hK _ _ _ _ ?_
  refine calD (c9_ledBy d σ s k (100 + nI g) (by omega) ek hk) ?_
  rintro r σ' ⟨rfl, rfl⟩
  have l14 : lbM σ s (100 + nI g) 14 = σ 14 := lbM_off (by decide)
  have l10 : lbM σ s (100 + nI g) 10 = σ 10 := lbM_off (by decide)
  generalize lbM σ s (100 + nI g) = L at hK l14 l10 ⊢
  iterate 9 refine hK _ _ _ _ ?_
  refine And.intro (vp_in_nI (n := x) (by omega) (by decide)) ?_
  rw [nI_clamp (show x < 2 ^ 31 by omega)]
  iterate 2 refine hK _ _ _ _ ?_
  refine And.intro (by first | omega | (rw [nI_clamp (by omega)]; omega)) (And.intro (vp_in_nI (n := y) (by omega) (by decide)) ?_)
  rw [nI_clamp (show y < 2 ^ 31 by omega)]
  rw [show L 14 x y = σ 14 x y from (by rw [l14])]
  iterate 3 refine hK _ _ _ _ ?_
  refine And.intro (vp_in_nI (n := g) (by omega) (by decide)) ?_
  rw [nI_clamp (show g < 2 ^ 31 by omega)]
  iterate 3 refine hK _ _ _ _ ?_
  show K _ _ _ _
  rw [sUp_off (by decide)]
  iterate 4 refine hK _ _ _ _ ?_
  refine And.intro (vp_in_nI (n := g) (by omega) (by decide)) ?_
  rw [nI_clamp (show g < 2 ^ 31 by omega)]
  iterate 2 refine hK _ _ _ _ ?_
  refine And.intro (by first | omega | (rw [nI_clamp (by omega)]; omega)) (And.intro (vp_in_nI (n := 1) (by decide) (by decide)) ?_)
  rw [show (Int32.ofInt 1).toNatClampNeg = 1 from rfl]
  rw [sUp_off (by decide), show L 10 g 1 = σ 10 g 1 from (by rw [l10])]
  iterate 6 refine hK _ _ _ _ ?_
  refine And.intro (vp_in_nI (n := x) (by omega) (by decide)) ?_
  rw [nI_clamp (show x < 2 ^ 31 by omega)]
  iterate 2 refine hK _ _ _ _ ?_
  refine And.intro (by first | omega | (rw [nI_clamp (by omega)]; omega)) (And.intro (vp_in_nI (n := y) (by omega) (by decide)) ?_)
  rw [nI_clamp (show y < 2 ^ 31 by omega)]
  rw [sUp_off (by decide), show L 14 x y = σ 14 x y from (by rw [l14])]
  iterate 11 refine hK _ _ _ _ ?_
  refine And.intro (vp_in_nI (n := x) (by omega) (by decide)) ?_
  rw [nI_clamp (show x < 2 ^ 31 by omega)]
  iterate 2 refine hK _ _ _ _ ?_
  refine And.intro (by first | omega | (rw [nI_clamp (by omega)]; omega)) (And.intro (vp_in_nI (n := y) (by omega) (by decide)) ?_)
  rw [nI_clamp (show y < 2 ^ 31 by omega)]
  rw [sUp_off (by decide), sUp_off (by decide), show L 14 x y = σ 14 x y from (by rw [l14])]
  iterate 2 refine hK _ _ _ _ ?_
  refine calD (c9_goesTo d _ s (nI y) _ (by omega)) ?_
  rintro r σ' ⟨rfl, rfl⟩
  refine hK _ _ _ _ ?_
  exact ⟨rfl, rfl⟩
end
