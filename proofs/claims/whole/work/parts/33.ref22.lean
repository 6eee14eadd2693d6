/-! THE REFERENCE: person, stranger, tell, feed, image, restore, seed, mean, losesBy, bound -/
def fbV (a b c d e : Int32) (k : Nat) : Int32 := if k < 4 then a else if k < 8 then b else if k < 12 then c else if k < 16 then d else e
def fdS (a b c d e : Int32) (k : Nat) (t : sMem) : sMem := sUp (sUp t 1 0 (t 0 0 1).toNatClampNeg ((fbV a b c d e k >>> ((24 - 8 * (nI k - nI k / 4 * 4)) &&& 31)) &&& 255)) 0 0 1 (t 0 0 1 + 1)
theorem fdS_at (a b c d e : Int32) (k : Nat) (t : sMem) : fdS a b c d e k t 0 0 1 = t 0 0 1 + 1 := sUp_at _ _ _ _ _
theorem fdS_1 (a b c d e : Int32) (σ : sMem) (T : Nat) (h : σ 0 0 1 = nI T) : ∀ k, forM (fdS a b c d e) σ k 0 0 1 = nI (T + k)
  | 0 => h
  | k + 1 => by
    show fdS a b c d e k (forM (fdS a b c d e) σ k) 0 0 1 = nI (T + (k + 1))
    rw [fdS_at, fdS_1 a b c d e σ T h k]
    exact nIs _
def imM (z : sMem) (i : Nat) : sMem := forM (fun s t => sUp t 17 i s (t 16 0 s)) z 8
def reM (z : sMem) (i : Nat) : sMem := forM (fun s t => sUp t 16 0 s (t 17 i s)) z 8
def sdM (z : sMem) (kd sd : Int32) (P S : Nat) : sMem := sUp (goM (sUp (sUp z 0 0 31 1) 0 0 30 sd) kd P S) 0 0 31 0
def smL (F : Nat → Int32) : Nat → Int64
  | 0 => 0
  | k + 1 => smL F k + (F k).toInt64
/-- what p loses by leading s, where s asks first -/
def lsB (σ : sMem) (p s : Nat) : Int32 :=
  let a := (σ 6 p 0).toNatClampNeg
  let b := (σ 6 p 1).toNatClampNeg
  let x := (σ 8 s 0).toNatClampNeg
  let y := (σ 8 s 1).toNatClampNeg
  if ((σ 6 p 4 >>> (σ 8 s 1 &&& 31)) &&& 1) = 0 ∨ ¬ σ 14 a b < 1000000 ∨ ¬ σ 14 a x < 1000000 ∨ ¬ σ 14 x y < 1000000 ∨ ¬ σ 14 y b < 1000000 then 1000000
  else σ 6 p 3 * (σ 14 a x + σ 14 x y + σ 14 y b - σ 14 a b)
def bdI (σ : sMem) (s : Nat) : Nat → Int32
  | 0 => 1000000
  | p + 1 => if lsB σ p s < bdI σ s p then lsB σ p s else bdI σ s p
def bdS (σ : sMem) (P : Nat) : Nat → Int32
  | 0 => 0
  | s + 1 => bdS σ P s + if bdI σ s P = 1000000 then 0 else bdI σ s P
section
variable {l : Launch} {D : va_G} {b0 : Nat} {ty : Nat → ClassId}
theorem c9_person (d : Nat) (σ : sMem) (N P S G : Nat) (hJ : MJ σ N P S G) (x w : Int32) : sMet l D b0 ty lay (d + 2) mX9_person [aR 0, aI (x), aI (w)] σ (fun r σ' => ((0 ≤ x ∧ x ≤ nI P - 1) → (0 ≤ w ∧ w ≤ 5) → r = [aI (if w.toNatClampNeg < 5 then sUp σ 0 0 0 0 6 x.toNatClampNeg w.toNatClampNeg else if sUp σ 0 0 0 0 14 (sUp σ 0 0 0 0 6 x.toNatClampNeg 0).toNatClampNeg (sUp σ 0 0 0 0 6 x.toNatClampNeg 1).toNatClampNeg < 1000000 then sUp σ 0 0 0 0 6 x.toNatClampNeg 2 + sUp σ 0 0 0 0 14 (sUp σ 0 0 0 0 6 x.toNatClampNeg 0).toNatClampNeg (sUp σ 0 0 0 0 6 x.toNatClampNeg 1).toNatClampNeg else -1)] ∧ σ' = sUp σ 0 0 0 0) ∧ (¬ (0 ≤ x ∧ x ≤ nI P - 1) → r = [aI 0] ∧ σ' = sUp σ 0 0 0 1) ∧ ((0 ≤ x ∧ x ≤ nI P - 1) → ¬ (0 ≤ w ∧ w ≤ 5) → r = [aI 0] ∧ σ' = sUp σ 0 0 0 2)) := by
  refine sMet_intro lay_nd kX9_person xX9_ok (by decide +kernel) rfl ?_
  intro K hK
  have hN := hJ.1.1.1
  have hN2 := hJ.1.2.1
  have hP := hJ.1.2.2.2.1.2
  have hS := hJ.1.2.2.2.2.1.2
  have hG4 := hJ.2.2.2.2.2
  iterate 3 refine hK _ _ _ _ ?_
  show K _ _ _ (sUp σ 0 0 0 0)
  have hJz := hJ.z0 0 0
  have z0 : sUp σ 0 0 0 0 0 0 0 = 0 := sUp_at _ _ _ _ _
  generalize hz : sUp σ 0 0 0 0 = z at hJz z0 ⊢
  iterate 4 refine hK _ _ _ _ ?_
  refine calD (c9_isPerson _ _ _) ?_
  rintro r σ' ⟨rfl, hσ⟩
  subst σ'
  rw [show z 3 0 1 = nI P from hJz.1.2.2.2.1.1]
  refine hK _ _ _ _ ?_
  refine And.intro (fun h00 => ?_) (fun h00 => ?_)
  · have hg0 : (0 ≤ x ∧ x ≤ nI P - 1) := ite_ne h00
    iterate 3 refine hK _ _ _ _ ?_
    refine calD (c9_bad0 _ _ _ z0) ?_
    rintro r σ' ⟨rfl, hσ⟩
    subst σ'
    refine hK _ _ _ _ ?_
    refine And.intro (fun h => absurd rfl h) (fun _ => ?_)
    iterate 5 refine hK _ _ _ _ ?_
    refine calD (c9_in _ _ _ _ _) ?_
    rintro r σ' ⟨rfl, hσ⟩
    subst σ'
    refine hK _ _ _ _ ?_
    refine And.intro (fun h10 => ?_) (fun h10 => ?_)
    · have hg1 : (0 ≤ w ∧ w ≤ 5) := ite_ne h10
      iterate 3 refine hK _ _ _ _ ?_
      refine calD (c9_bad0 _ _ _ z0) ?_
      rintro r σ' ⟨rfl, hσ⟩
      subst σ'
      refine hK _ _ _ _ ?_
      refine And.intro (fun _ => ?_) (fun h => absurd rfl h)
      obtain ⟨p, hp, rfl⟩ := inN hg0 (by omega)
      obtain ⟨j, -, hj, rfl⟩ := nI_rng (lo := 0) (hi := 5) hg1.1 hg1.2 (by decide) (by decide)
      obtain ⟨a, b, m, -, ⟨ea, ha⟩, ⟨eb, hb⟩, ⟨em, hm⟩, -⟩ := hJz.1.2.2.2.2.2.1 p hp
      have cp := nI_clamp (show p < 2 ^ 31 by omega)
      have cj := nI_clamp (show j < 2 ^ 31 by omega)
      have ca := nI_clamp (show a < 2 ^ 31 by omega)
      have cb := nI_clamp (show b < 2 ^ 31 by omega)
      rw [cp, cj, hz] at hK
      iterate 3 refine hK _ _ _ _ ?_
      refine And.intro (fun h => ?_) (fun h => ?_)
      · have hj5 : ¬ j < 5 := fun q => absurd ((nI_leI (a := 5) (b := j) (by decide) (by omega)).mp h) (by omega)
        iterate 5 refine hK _ _ _ _ ?_
        refine And.intro (vp_in_nI (n := p) (by omega) (by decide)) ?_
        rw [nI_clamp (show p < 2 ^ 31 by omega)]
        iterate 2 refine hK _ _ _ _ ?_
        refine And.intro (by first | omega | (rw [nI_clamp (by omega)]; omega)) (And.intro (vp_in_nI (n := 0) (by decide) (by decide)) ?_)
        rw [show (Int32.ofInt 0).toNatClampNeg = 0 from rfl]
        rw [show z 6 p 0 = nI a from ea]
        iterate 4 refine hK _ _ _ _ ?_
        refine And.intro (vp_in_nI (n := p) (by omega) (by decide)) ?_
        rw [nI_clamp (show p < 2 ^ 31 by omega)]
        iterate 2 refine hK _ _ _ _ ?_
        refine And.intro (by first | omega | (rw [nI_clamp (by omega)]; omega)) (And.intro (vp_in_nI (n := 1) (by decide) (by decide)) ?_)
        rw [show (Int32.ofInt 1).toNatClampNeg = 1 from rfl]
        rw [show z 6 p 1 = nI b from eb]
        refine hK _ _ _ _ ?_
        refine calD (c9_isWay _ _ a b (by omega) (by omega)) ?_
        rintro r σ' ⟨rfl, hσ⟩
        subst σ'
        refine hK _ _ _ _ ?_
        refine And.intro (fun h2 => ?_) (fun h2 => ?_)
        · iterate 2 refine hK _ _ _ _ ?_
          refine ⟨fun _ _ => ?_, fun n => absurd hg0 n, fun _ n => absurd hg1 n⟩
          exact ⟨by rw [if_neg hj5, ea, eb, ca, cb, if_neg (ite_eq h2)]; rfl, rfl⟩
        · iterate 4 refine hK _ _ _ _ ?_
          refine And.intro (vp_in_nI (n := p) (by omega) (by decide)) ?_
          rw [nI_clamp (show p < 2 ^ 31 by omega)]
          iterate 2 refine hK _ _ _ _ ?_
          refine And.intro (by first | omega | (rw [nI_clamp (by omega)]; omega)) (And.intro (vp_in_nI (n := 2) (by decide) (by decide)) ?_)
          rw [show (Int32.ofInt 2).toNatClampNeg = 2 from rfl]
          iterate 6 refine hK _ _ _ _ ?_
          refine And.intro (vp_in_nI (n := p) (by omega) (by decide)) ?_
          rw [nI_clamp (show p < 2 ^ 31 by omega)]
          iterate 2 refine hK _ _ _ _ ?_
          refine And.intro (by first | omega | (rw [nI_clamp (by omega)]; omega)) (And.intro (vp_in_nI (n := 0) (by decide) (by decide)) ?_)
          rw [show (Int32.ofInt 0).toNatClampNeg = 0 from rfl]
          rw [show z 6 p 0 = nI a from ea]
          refine hK _ _ _ _ ?_
          refine And.intro (vp_in_nI (n := a) (by omega) (by decide)) ?_
          rw [nI_clamp (show a < 2 ^ 31 by omega)]
          iterate 4 refine hK _ _ _ _ ?_
          refine And.intro (vp_in_nI (n := p) (by omega) (by decide)) ?_
          rw [nI_clamp (show p < 2 ^ 31 by omega)]
          iterate 2 refine hK _ _ _ _ ?_
          refine And.intro (by first | omega | (rw [nI_clamp (by omega)]; omega)) (And.intro (vp_in_nI (n := 1) (by decide) (by decide)) ?_)
          rw [show (Int32.ofInt 1).toNatClampNeg = 1 from rfl]
          rw [show z 6 p 1 = nI b from eb]
          refine hK _ _ _ _ ?_
          refine And.intro (by first | omega | (rw [nI_clamp (by omega)]; omega)) (And.intro (vp_in_nI (n := b) (by omega) (by decide)) ?_)
          rw [nI_clamp (show b < 2 ^ 31 by omega)]
          iterate 3 refine hK _ _ _ _ ?_
          refine ⟨fun _ _ => ?_, fun n => absurd hg0 n, fun _ n => absurd hg1 n⟩
          exact ⟨by rw [if_neg hj5, ea, eb, ca, cb, if_pos (ite_ne h2)], rfl⟩
      · have hj5 : j < 5 := (nI_ltI (a := j) (b := 5) (by omega) (by decide)).mp (Int32.not_le.mp h)
        iterate 4 refine hK _ _ _ _ ?_
        refine And.intro (vp_in_nI (n := p) (by omega) (by decide)) ?_
        rw [nI_clamp (show p < 2 ^ 31 by omega)]
        iterate 2 refine hK _ _ _ _ ?_
        refine And.intro (by first | omega | (rw [nI_clamp (by omega)]; omega)) (And.intro (vp_in_nI (n := j) (by omega) (by decide)) ?_)
        rw [nI_clamp (show j < 2 ^ 31 by omega)]
        refine hK _ _ _ _ ?_
        refine ⟨fun _ _ => ?_, fun n => absurd hg0 n, fun _ n => absurd hg1 n⟩
        exact ⟨by rw [if_pos hj5], rfl⟩
    · have hn : ¬ (0 ≤ w ∧ w ≤ 5) := ite_eq h10
      iterate 4 refine hK _ _ _ _ ?_
      refine calD (c9_bad1 _ _ _ z0 (by decide)) ?_
      rintro r σ' ⟨rfl, rfl⟩
      refine hK _ _ _ _ ?_
      refine And.intro (fun h => absurd h (by decide)) (fun _ => ?_)
      iterate 2 refine hK _ _ _ _ ?_
      exact ⟨fun q0 q1 => absurd q1 hn, fun n => absurd hg0 n, fun _ _ => ⟨rfl, by rw [← hz, sUp_twice]; rfl⟩⟩
  · have hn : ¬ (0 ≤ x ∧ x ≤ nI P - 1) := ite_eq h00
    iterate 4 refine hK _ _ _ _ ?_
    refine calD (c9_bad1 _ _ _ z0 (by decide)) ?_
    rintro r σ' ⟨rfl, rfl⟩
    refine hK _ _ _ _ ?_
    refine And.intro (fun _ => ?_) (fun h => absurd h (by decide))
    iterate 2 refine hK _ _ _ _ ?_
    exact ⟨fun q0 q1 => absurd q0 hn, fun _ => ⟨rfl, by rw [← hz, sUp_twice]; rfl⟩, fun q0 _ => absurd q0 hn⟩
theorem c9_stranger (d : Nat) (σ : sMem) (N P S G : Nat) (hJ : MJ σ N P S G) (x w : Int32) : sMet l D b0 ty lay (d + 2) mX9_stranger [aR 0, aI (x), aI (w)] σ (fun r σ' => ((0 ≤ x ∧ x ≤ nI S - 1) → (0 ≤ w ∧ w ≤ 4) → r = [aI (sUp σ 0 0 0 0 8 x.toNatClampNeg w.toNatClampNeg)] ∧ σ' = sUp σ 0 0 0 0) ∧ (¬ (0 ≤ x ∧ x ≤ nI S - 1) → r = [aI 0] ∧ σ' = sUp σ 0 0 0 1) ∧ ((0 ≤ x ∧ x ≤ nI S - 1) → ¬ (0 ≤ w ∧ w ≤ 4) → r = [aI 0] ∧ σ' = sUp σ 0 0 0 2)) := by
  refine sMet_intro lay_nd kX9_stranger xX9_ok (by decide +kernel) rfl ?_
  intro K hK
  have hN := hJ.1.1.1
  have hN2 := hJ.1.2.1
  have hP := hJ.1.2.2.2.1.2
  have hS := hJ.1.2.2.2.2.1.2
  have hG4 := hJ.2.2.2.2.2
  iterate 3 refine hK _ _ _ _ ?_
  show K _ _ _ (sUp σ 0 0 0 0)
  have hJz := hJ.z0 0 0
  have z0 : sUp σ 0 0 0 0 0 0 0 = 0 := sUp_at _ _ _ _ _
  generalize hz : sUp σ 0 0 0 0 = z at hJz z0 ⊢
  iterate 4 refine hK _ _ _ _ ?_
  refine calD (c9_isStranger _ _ _) ?_
  rintro r σ' ⟨rfl, hσ⟩
  subst σ'
  rw [show z 3 0 2 = nI S from hJz.1.2.2.2.2.1.1]
  refine hK _ _ _ _ ?_
  refine And.intro (fun h00 => ?_) (fun h00 => ?_)
  · have hg0 : (0 ≤ x ∧ x ≤ nI S - 1) := ite_ne h00
    iterate 3 refine hK _ _ _ _ ?_
    refine calD (c9_bad0 _ _ _ z0) ?_
    rintro r σ' ⟨rfl, hσ⟩
    subst σ'
    refine hK _ _ _ _ ?_
    refine And.intro (fun h => absurd rfl h) (fun _ => ?_)
    iterate 5 refine hK _ _ _ _ ?_
    refine calD (c9_in _ _ _ _ _) ?_
    rintro r σ' ⟨rfl, hσ⟩
    subst σ'
    refine hK _ _ _ _ ?_
    refine And.intro (fun h10 => ?_) (fun h10 => ?_)
    · have hg1 : (0 ≤ w ∧ w ≤ 4) := ite_ne h10
      iterate 3 refine hK _ _ _ _ ?_
      refine calD (c9_bad0 _ _ _ z0) ?_
      rintro r σ' ⟨rfl, hσ⟩
      subst σ'
      refine hK _ _ _ _ ?_
      refine And.intro (fun _ => ?_) (fun h => absurd rfl h)
      obtain ⟨p, hp, rfl⟩ := inN hg0 (by omega)
      obtain ⟨j, -, hj, rfl⟩ := nI_rng (lo := 0) (hi := 4) hg1.1 hg1.2 (by decide) (by decide)
      have cp := nI_clamp (show p < 2 ^ 31 by omega)
      have cj := nI_clamp (show j < 2 ^ 31 by omega)
      rw [cp, cj, hz] at hK
      iterate 4 refine hK _ _ _ _ ?_
      refine And.intro (vp_in_nI (n := p) (by omega) (by decide)) ?_
      rw [nI_clamp (show p < 2 ^ 31 by omega)]
      iterate 2 refine hK _ _ _ _ ?_
      refine And.intro (by first | omega | (rw [nI_clamp (by omega)]; omega)) (And.intro (vp_in_nI (n := j) (by omega) (by decide)) ?_)
      rw [nI_clamp (show j < 2 ^ 31 by omega)]
      refine hK _ _ _ _ ?_
      refine ⟨fun _ _ => ?_, fun n => absurd hg0 n, fun _ n => absurd hg1 n⟩
      exact ⟨rfl, rfl⟩
    · have hn : ¬ (0 ≤ w ∧ w ≤ 4) := ite_eq h10
      iterate 4 refine hK _ _ _ _ ?_
      refine calD (c9_bad1 _ _ _ z0 (by decide)) ?_
      rintro r σ' ⟨rfl, rfl⟩
      refine hK _ _ _ _ ?_
      refine And.intro (fun h => absurd h (by decide)) (fun _ => ?_)
      iterate 2 refine hK _ _ _ _ ?_
      exact ⟨fun q0 q1 => absurd q1 hn, fun n => absurd hg0 n, fun _ _ => ⟨rfl, by rw [← hz, sUp_twice]; rfl⟩⟩
  · have hn : ¬ (0 ≤ x ∧ x ≤ nI S - 1) := ite_eq h00
    iterate 4 refine hK _ _ _ _ ?_
    refine calD (c9_bad1 _ _ _ z0 (by decide)) ?_
    rintro r σ' ⟨rfl, rfl⟩
    refine hK _ _ _ _ ?_
    refine And.intro (fun _ => ?_) (fun h => absurd h (by decide))
    iterate 2 refine hK _ _ _ _ ?_
    exact ⟨fun q0 q1 => absurd q0 hn, fun _ => ⟨rfl, by rw [← hz, sUp_twice]; rfl⟩, fun q0 _ => absurd q0 hn⟩
theorem c9_tell (d : Nat) (σ : sMem) (N P S G : Nat) (hJ : MJ σ N P S G) (x y : Int32) : sMet l D b0 ty lay (d + 2) mX9_tell [aR 0, aI (x), aI (y)] σ (fun r σ' => ((0 ≤ x ∧ x ≤ nI S - 1) → ((y = -1 ∨ (0 ≤ y ∧ y ≤ nI P - 1)) → r = [aI (sUp σ 0 0 0 0 16 0 x.toNatClampNeg)] ∧ σ' = sUp (sUp σ 0 0 0 0) 16 0 x.toNatClampNeg y) ∧ (¬ (y = -1 ∨ (0 ≤ y ∧ y ≤ nI P - 1)) → r = [aI 0] ∧ σ' = sUp σ 0 0 0 2)) ∧ (¬ (0 ≤ x ∧ x ≤ nI S - 1) → r = [aI 0] ∧ σ' = sUp σ 0 0 0 1)) := by
  refine sMet_intro lay_nd kX9_tell xX9_ok (by decide +kernel) rfl ?_
  intro K hK
  have hN := hJ.1.1.1
  have hN2 := hJ.1.2.1
  have hP := hJ.1.2.2.2.1.2
  have hS := hJ.1.2.2.2.2.1.2
  have hG4 := hJ.2.2.2.2.2
  iterate 3 refine hK _ _ _ _ ?_
  show K _ _ _ (sUp σ 0 0 0 0)
  have hJz := hJ.z0 0 0
  have z0 : sUp σ 0 0 0 0 0 0 0 = 0 := sUp_at _ _ _ _ _
  generalize hz : sUp σ 0 0 0 0 = z at hJz z0 ⊢
  iterate 4 refine hK _ _ _ _ ?_
  refine calD (c9_isStranger _ _ _) ?_
  rintro r σ' ⟨rfl, hσ⟩
  subst σ'
  rw [show z 3 0 2 = nI S from hJz.1.2.2.2.2.1.1]
  refine hK _ _ _ _ ?_
  refine And.intro (fun h00 => ?_) (fun h00 => ?_)
  · have hg0 : (0 ≤ x ∧ x ≤ nI S - 1) := ite_ne h00
    iterate 3 refine hK _ _ _ _ ?_
    refine calD (c9_bad0 _ _ _ z0) ?_
    rintro r σ' ⟨rfl, hσ⟩
    subst σ'
    refine hK _ _ _ _ ?_
    refine And.intro (fun h => absurd rfl h) (fun _ => ?_)
    obtain ⟨p, hp, rfl⟩ := inN hg0 (by omega)
    have cp := nI_clamp (show p < 2 ^ 31 by omega)
    rw [cp, hz] at hK
    have yes : (y = -1 ∨ (0 ≤ y ∧ y ≤ nI P - 1)) → K 44 [some (aR 0), some (aI (nI p)), some (aI (y)), none] [aR 0] z := by
      intro hy
      iterate 3 refine hK _ _ _ _ ?_
      refine calD (c9_bad0 _ _ _ z0) ?_
      rintro r σ' ⟨rfl, hσ⟩
      subst σ'
      refine hK _ _ _ _ ?_
      refine And.intro (fun _ => ?_) (fun h => absurd rfl h)
      iterate 4 refine hK _ _ _ _ ?_
      refine And.intro (vp_in_nI (n := p) (by omega) (by decide)) ?_
      rw [nI_clamp (show p < 2 ^ 31 by omega)]
      iterate 6 refine hK _ _ _ _ ?_
      refine And.intro (vp_in_nI (n := p) (by omega) (by decide)) ?_
      rw [nI_clamp (show p < 2 ^ 31 by omega)]
      iterate 2 refine hK _ _ _ _ ?_
      refine ⟨fun _ => ?_, fun n => absurd hg0 n⟩
      exact ⟨fun _ => ⟨rfl, rfl⟩, fun n => absurd hy n⟩
    iterate 4 refine hK _ _ _ _ ?_
    refine And.intro (fun h1 => yes (Or.inl h1)) (fun h1 => ?_)
    iterate 3 refine hK _ _ _ _ ?_
    refine calD (c9_isPerson _ _ _) ?_
    rintro r σ' ⟨rfl, hσ⟩
    subst σ'
    rw [show z 3 0 1 = nI P from hJz.1.2.2.2.1.1]
    refine hK _ _ _ _ ?_
    refine And.intro (fun h2 => yes (Or.inr (ite_ne h2))) (fun h2 => ?_)
    iterate 4 refine hK _ _ _ _ ?_
    refine calD (c9_bad1 _ _ _ z0 (by decide)) ?_
    rintro r σ' ⟨rfl, rfl⟩
    refine hK _ _ _ _ ?_
    refine And.intro (fun h => absurd h (by decide)) (fun _ => ?_)
    iterate 2 refine hK _ _ _ _ ?_
    refine ⟨fun _ => ?_, fun n => absurd hg0 n⟩
    exact ⟨fun q => q.elim (fun e => absurd e h1) (fun e => absurd e (ite_eq h2)), fun _ => ⟨rfl, by rw [← hz, sUp_twice]; rfl⟩⟩
  · have hn : ¬ (0 ≤ x ∧ x ≤ nI S - 1) := ite_eq h00
    iterate 4 refine hK _ _ _ _ ?_
    refine calD (c9_bad1 _ _ _ z0 (by decide)) ?_
    rintro r σ' ⟨rfl, rfl⟩
    refine hK _ _ _ _ ?_
    refine And.intro (fun _ => ?_) (fun h => absurd h (by decide))
    iterate 2 refine hK _ _ _ _ ?_
    exact ⟨fun q0 => absurd q0 hn, fun _ => ⟨rfl, by rw [← hz, sUp_twice]; rfl⟩⟩
set_option maxHeartbeats 4000000 in
theorem c9_feed (d : Nat) (σ : sMem) (T : Nat) (eT : σ 0 0 1 = nI T) (hT : T ≤ 600) (a b c e g : Int32) : sMet l D b0 ty lay d mX9_feed [aR 0, aI (a), aI (b), aI (c), aI (e), aI (g)] σ (fun r σ' => (600 < T + 20 → r = [aI (-1)] ∧ σ' = sUp σ 0 0 0 0) ∧ (T + 20 ≤ 600 → r = [aI (nI (T + 20))] ∧ σ' = forM (fdS a b c e g) (sUp σ 0 0 0 0) 20)) := by
  refine sMet_intro lay_nd kX9_feed xX9_ok (by decide +kernel) rfl ?_
  intro K hK
  iterate 3 refine hK _ _ _ _ ?_
  show K _ _ _ (sUp σ 0 0 0 0)
  have ez : sUp σ 0 0 0 0 0 0 1 = nI T := (sUp_k (by decide)).trans eT
  generalize sUp σ 0 0 0 0 = z at ez hK ⊢
  iterate 2 refine hK _ _ _ _ ?_
  show K _ _ _ _
  rw [show z 0 0 1 = nI T from ez]
  iterate 4 refine hK _ _ _ _ ?_
  have e20 : nI T + (Int8.ofInt 20).toInt32 = nI (T + 20) := by
    apply Int32.toInt_inj.mp
    rw [nI_toInt (by omega), Int32.toInt_add, nI_toInt (by omega)]
    have : (Int8.ofInt 20).toInt32.toInt = 20 := by decide
    rw [this, Int.bmod_def]
    omega
  rw [e20]
  refine And.intro (fun h => ?_) (fun h => ?_)
  · have hT20 : T + 20 ≤ 600 := (nI_leI (a := T + 20) (b := 600) (by omega) (by decide)).mp h
    generalize hZ : forM (fdS a b c e g) z 20 = Z at hK
    iterate 2 refine hK _ _ _ _ ?_
    have L23 : ∀ k, k ≤ 20 → ∀ e7, K 23 [some (aR 0), some (aI (a)), some (aI (b)), some (aI (c)), some (aI (e)), some (aI (g)), some (aI (nI k)), e7] [] (forM (fdS a b c e g) z k) := by
      refine kDown (P := fun k => ∀ e7, K 23 [some (aR 0), some (aI (a)), some (aI (b)), some (aI (c)), some (aI (e)), some (aI (g)), some (aI (nI k)), e7] [] (forM (fdS a b c e g) z k)) ?_ ?_
      · intro e7
        have eZ := fdS_1 a b c e g z T ez 20
        rw [hZ] at eZ ⊢
        iterate 3 refine hK _ _ _ _ ?_
        refine And.intro (fun _ => ?_) (fun h => absurd (show (Int8.ofInt 20).toInt32 ≤ nI 20 by decide) h)
        iterate 2 refine hK _ _ _ _ ?_
        show K _ _ _ _
        rw [show Z 0 0 1 = nI (T + 20) from eZ]
        refine hK _ _ _ _ ?_
        exact ⟨fun q => absurd q (by omega), fun _ => ⟨rfl, rfl⟩⟩
      · intro k hk ih
        have ih' : ∀ e7, K 23 [some (aR 0), some (aI (a)), some (aI (b)), some (aI (c)), some (aI (e)), some (aI (g)), some (aI (nI (k + 1))), e7] [] ((fdS a b c e g) k (forM (fdS a b c e g) z k)) := ih
        clear ih
        have hI : (forM (fdS a b c e g) z k) 0 0 1 = nI (T + k) := fdS_1 a b c e g z T ez k
        generalize forM (fdS a b c e g) z k = t at ih' hI ⊢
        intro e7
        have l76 : ∀ (v : Int32), fbV a b c e g k = v → K 76 [some (aR 0), some (aI (a)), some (aI (b)), some (aI (c)), some (aI (e)), some (aI (g)), some (aI (nI k)), e7] [aI (v)] t := by
          intro v hv
          unfold fdS at ih'
          rw [hv, hI, nI_clamp (show T + k < 2 ^ 31 by omega)] at ih'
          iterate 5 refine hK _ _ _ _ ?_
          show K _ _ _ _
          rw [show t 0 0 1 = nI (T + k) from hI]
          iterate 6 refine hK _ _ _ _ ?_
          refine And.intro (by decide) ?_
          iterate 6 refine hK _ _ _ _ ?_
          refine And.intro (vp_in_nI (n := (T + k)) (by omega) (by decide)) ?_
          rw [nI_clamp (show (T + k) < 2 ^ 31 by omega)]
          iterate 3 refine hK _ _ _ _ ?_
          show K _ _ _ _
          rw [sUp_off (by decide), show t 0 0 1 = nI (T + k) from hI]
          iterate 4 refine hK _ _ _ _ ?_
          show K _ _ _ _
          rw [show nI k + Int32.ofInt 1 = nI (k + 1) from nIs _]
          refine hK _ _ _ _ ?_
          exact ih' _
        iterate 3 refine hK _ _ _ _ ?_
        refine And.intro (fun h => absurd ((nI_leI (a := 20) (b := k) (by decide) (by omega)).mp h) (by omega)) (fun _ => ?_)
        iterate 3 refine hK _ _ _ _ ?_
        refine And.intro (fun h0 => ?_) (fun h0 => ?_)
        · have g0 : ¬ k < 4 := fun q => absurd ((nI_leI (a := 4) (b := k) (by decide) (by omega)).mp h0) (by omega)
          iterate 3 refine hK _ _ _ _ ?_
          refine And.intro (fun h1 => ?_) (fun h1 => ?_)
          · have g1 : ¬ k < 8 := fun q => absurd ((nI_leI (a := 8) (b := k) (by decide) (by omega)).mp h1) (by omega)
            iterate 3 refine hK _ _ _ _ ?_
            refine And.intro (fun h2 => ?_) (fun h2 => ?_)
            · have g2 : ¬ k < 12 := fun q => absurd ((nI_leI (a := 12) (b := k) (by decide) (by omega)).mp h2) (by omega)
              iterate 3 refine hK _ _ _ _ ?_
              refine And.intro (fun h3 => ?_) (fun h3 => ?_)
              · have g3 : ¬ k < 16 := fun q => absurd ((nI_leI (a := 16) (b := k) (by decide) (by omega)).mp h3) (by omega)
                refine hK _ _ _ _ ?_
                exact l76 _ (by unfold fbV; rw [if_neg g0, if_neg g1, if_neg g2, if_neg g3])
              · iterate 2 refine hK _ _ _ _ ?_
                exact l76 _ (by unfold fbV; rw [if_neg g0, if_neg g1, if_neg g2, if_pos ((nI_ltI (a := k) (b := 16) (by omega) (by decide)).mp (Int32.not_le.mp h3))])
            · iterate 2 refine hK _ _ _ _ ?_
              exact l76 _ (by unfold fbV; rw [if_neg g0, if_neg g1, if_pos ((nI_ltI (a := k) (b := 12) (by omega) (by decide)).mp (Int32.not_le.mp h2))])
          · iterate 2 refine hK _ _ _ _ ?_
            exact l76 _ (by unfold fbV; rw [if_neg g0, if_pos ((nI_ltI (a := k) (b := 8) (by omega) (by decide)).mp (Int32.not_le.mp h1))])
        · iterate 2 refine hK _ _ _ _ ?_
          exact l76 _ (by unfold fbV; rw [if_pos ((nI_ltI (a := k) (b := 4) (by omega) (by decide)).mp (Int32.not_le.mp h0))])
    exact L23 0 (Nat.zero_le _) _
  · have hT20 : 600 < T + 20 := Nat.lt_of_not_le (fun q => h ((nI_leI (a := T + 20) (b := 600) (by omega) (by decide)).mpr q))
    iterate 2 refine hK _ _ _ _ ?_
    exact ⟨fun _ => ⟨rfl, rfl⟩, fun q => absurd q (by omega)⟩
theorem c9_image (d : Nat) (σ : sMem) (i : Nat) (ei : σ 0 0 25 = nI i) (hi : i ≤ 3) : sMet l D b0 ty lay d mX9_image [aR 0] σ (fun r σ' => (i = 3 → r = [aI (-1)] ∧ σ' = sUp σ 0 0 0 0) ∧ (i < 3 → r = [aI (nI (i + 1))] ∧ σ' = sUp (imM (sUp σ 0 0 0 0) i) 0 0 25 (nI (i + 1)))) := by
  refine sMet_intro lay_nd kX9_image xX9_ok (by decide +kernel) rfl ?_
  intro K hK
  iterate 3 refine hK _ _ _ _ ?_
  show K _ _ _ (sUp σ 0 0 0 0)
  have ez : sUp σ 0 0 0 0 0 0 25 = nI i := (sUp_k (by decide)).trans ei
  generalize sUp σ 0 0 0 0 = z at ez hK ⊢
  iterate 2 refine hK _ _ _ _ ?_
  show K _ _ _ _
  rw [show z 0 0 25 = nI i from ez]
  iterate 2 refine hK _ _ _ _ ?_
  refine And.intro (fun h => ?_) (fun h => ?_)
  · have hi3 : i < 3 := Nat.lt_of_le_of_ne hi (fun q => h (by rw [q]; rfl))
    unfold imM at hK
    iterate 2 refine hK _ _ _ _ ?_
    have L17 : ∀ s, s ≤ 8 → K 17 [some (aR 0), some (aI (nI s))] [] (forM (fun s t => sUp t 17 i s (t 16 0 s)) z s) := by
      refine kDown (P := fun s => K 17 [some (aR 0), some (aI (nI s))] [] (forM (fun s t => sUp t 17 i s (t 16 0 s)) z s)) ?_ ?_
      · have h0 : (forM (fun s t => sUp t 17 i s (t 16 0 s)) z 8) 0 = z 0 := (forM_P (P := fun t => t 0 = z 0) rfl 8 (fun s t _ ht => by rw [sUp_off (by decide)]; exact ht))
        have e25 : (forM (fun s t => sUp t 17 i s (t 16 0 s)) z 8) 0 0 25 = nI i := by rw [h0]; exact ez
        generalize forM (fun s t => sUp t 17 i s (t 16 0 s)) z 8 = Z at e25 hK ⊢
        iterate 3 refine hK _ _ _ _ ?_
        refine And.intro (fun _ => ?_) (fun h => absurd (show (Int8.ofInt 8).toInt32 ≤ nI 8 by decide) h)
        iterate 3 refine hK _ _ _ _ ?_
        show K _ _ _ _
        rw [show Z 0 0 25 = nI i from e25]
        iterate 3 refine hK _ _ _ _ ?_
        rw [show nI i + Int32.ofInt 1 = nI (i + 1) from nIs i]
        iterate 2 refine hK _ _ _ _ ?_
        show K _ _ _ _
        rw [sUp_at]
        refine hK _ _ _ _ ?_
        exact ⟨fun q => absurd q (by omega), fun _ => ⟨rfl, rfl⟩⟩
      · intro s hs ih
        have ih' : K 17 [some (aR 0), some (aI (nI (s + 1)))] [] ((fun s t => sUp t 17 i s (t 16 0 s)) s (forM (fun s t => sUp t 17 i s (t 16 0 s)) z s)) := ih
        clear ih
        have hI : (forM (fun s t => sUp t 17 i s (t 16 0 s)) z s) 0 = z 0 := (forM_P (P := fun t => t 0 = z 0) rfl s (fun s t _ ht => by rw [sUp_off (by decide)]; exact ht))
        generalize forM (fun s t => sUp t 17 i s (t 16 0 s)) z s = t at ih' hI ⊢
        have e25 : t 0 0 25 = nI i := by rw [hI]; exact ez
        iterate 3 refine hK _ _ _ _ ?_
        refine And.intro (fun h => absurd ((nI_leI (a := 8) (b := s) (by decide) (by omega)).mp h) (by omega)) (fun _ => ?_)
        iterate 4 refine hK _ _ _ _ ?_
        show K _ _ _ _
        rw [show t 0 0 25 = nI i from e25]
        refine hK _ _ _ _ ?_
        refine And.intro (vp_in_nI (n := i) (by omega) (by decide)) ?_
        rw [nI_clamp (show i < 2 ^ 31 by omega)]
        iterate 5 refine hK _ _ _ _ ?_
        refine And.intro (vp_in_nI (n := s) (by omega) (by decide)) ?_
        rw [nI_clamp (show s < 2 ^ 31 by omega)]
        refine hK _ _ _ _ ?_
        refine And.intro (by first | omega | (rw [nI_clamp (by omega)]; omega)) (And.intro (vp_in_nI (n := s) (by omega) (by decide)) ?_)
        rw [nI_clamp (show s < 2 ^ 31 by omega)]
        refine hK _ _ _ _ ?_
        show K _ _ _ _
        rw [show nI s + Int32.ofInt 1 = nI (s + 1) from nIs _]
        refine hK _ _ _ _ ?_
        exact ih'
    exact L17 0 (Nat.zero_le _)
  · have hi3 : i = 3 := (nI_eq (by omega) (by omega)).mp (show nI i = nI 3 from h)
    iterate 2 refine hK _ _ _ _ ?_
    exact ⟨fun _ => ⟨rfl, rfl⟩, fun q => absurd q (by omega)⟩
theorem c9_restore (d : Nat) (σ : sMem) (i : Nat) (ei : σ 0 0 25 = nI i) (hi : i ≤ 3) : sMet l D b0 ty lay d mX9_restore [aR 0] σ (fun r σ' => (i = 0 → r = [aI (-1)] ∧ σ' = sUp σ 0 0 0 0) ∧ (∀ j, i = j + 1 → r = [aI (nI j)] ∧ σ' = reM (sUp (sUp σ 0 0 0 0) 0 0 25 (nI j)) j)) := by
  refine sMet_intro lay_nd kX9_restore xX9_ok (by decide +kernel) rfl ?_
  intro K hK
  iterate 3 refine hK _ _ _ _ ?_
  show K _ _ _ (sUp σ 0 0 0 0)
  have ez : sUp σ 0 0 0 0 0 0 25 = nI i := (sUp_k (by decide)).trans ei
  generalize sUp σ 0 0 0 0 = z at ez hK ⊢
  iterate 2 refine hK _ _ _ _ ?_
  show K _ _ _ _
  rw [show z 0 0 25 = nI i from ez]
  refine hK _ _ _ _ ?_
  refine And.intro (fun h => ?_) (fun h => ?_)
  · obtain ⟨j, rfl⟩ : ∃ j, i = j + 1 := ⟨i - 1, by
      have : i ≠ 0 := fun q => h (by rw [q]; rfl)
      omega⟩
    iterate 3 refine hK _ _ _ _ ?_
    show K _ _ _ _
    rw [show z 0 0 25 = nI (j + 1) from ez]
    iterate 3 refine hK _ _ _ _ ?_
    have em : nI (j + 1) - Int32.ofInt 1 = nI j := by
      have : nI (j + 1) - Int32.ofInt 1 = nI (j + 1) + Int32.ofInt (-1) := by
        rw [Int32.sub_eq_add_neg]; rfl
      rw [this]; exact nIp j
    rw [em]
    have hK' := hK
    have ej : sUp z 0 0 25 (nI j) 0 0 25 = nI j := sUp_at _ _ _ _ _
    show K _ _ _ (sUp z 0 0 25 (nI j))
    generalize hy : sUp z 0 0 25 (nI j) = y at ej ⊢
    iterate 2 refine hK _ _ _ _ ?_
    have L26 : ∀ s, s ≤ 8 → K 26 [some (aR 0), some (aI (nI s))] [] (forM (fun s t => sUp t 16 0 s (t 17 j s)) y s) := by
      refine kDown (P := fun s => K 26 [some (aR 0), some (aI (nI s))] [] (forM (fun s t => sUp t 16 0 s (t 17 j s)) y s)) ?_ ?_
      · have h0 : (forM (fun s t => sUp t 16 0 s (t 17 j s)) y 8) 0 = y 0 := (forM_P (P := fun t => t 0 = y 0) rfl 8 (fun s t _ ht => by rw [sUp_off (by decide)]; exact ht))
        have e25 : (forM (fun s t => sUp t 16 0 s (t 17 j s)) y 8) 0 0 25 = nI j := by rw [h0]; exact ej
        generalize hZ : forM (fun s t => sUp t 16 0 s (t 17 j s)) y 8 = Z at e25 ⊢
        iterate 3 refine hK _ _ _ _ ?_
        refine And.intro (fun _ => ?_) (fun h => absurd (show (Int8.ofInt 8).toInt32 ≤ nI 8 by decide) h)
        iterate 2 refine hK _ _ _ _ ?_
        show K _ _ _ _
        rw [show Z 0 0 25 = nI j from e25]
        refine hK _ _ _ _ ?_
        exact ⟨fun q => absurd q (by omega), fun j2 hj2 => by
          obtain rfl : j = j2 := by omega
          exact ⟨rfl, by unfold reM; rw [hy, hZ]⟩⟩
      · intro s hs ih
        have ih' : K 26 [some (aR 0), some (aI (nI (s + 1)))] [] ((fun s t => sUp t 16 0 s (t 17 j s)) s (forM (fun s t => sUp t 16 0 s (t 17 j s)) y s)) := ih
        clear ih
        have hI : (forM (fun s t => sUp t 16 0 s (t 17 j s)) y s) 0 = y 0 := (forM_P (P := fun t => t 0 = y 0) rfl s (fun s t _ ht => by rw [sUp_off (by decide)]; exact ht))
        generalize forM (fun s t => sUp t 16 0 s (t 17 j s)) y s = t at ih' hI ⊢
        have e25 : t 0 0 25 = nI j := by rw [hI]; exact ej
        iterate 3 refine hK _ _ _ _ ?_
        refine And.intro (fun h => absurd ((nI_leI (a := 8) (b := s) (by decide) (by omega)).mp h) (by omega)) (fun _ => ?_)
        iterate 7 refine hK _ _ _ _ ?_
        show K _ _ _ _
        rw [show t 0 0 25 = nI j from e25]
        refine hK _ _ _ _ ?_
        refine And.intro (vp_in_nI (n := j) (by omega) (by decide)) ?_
        rw [nI_clamp (show j < 2 ^ 31 by omega)]
        iterate 2 refine hK _ _ _ _ ?_
        refine And.intro (by first | omega | (rw [nI_clamp (by omega)]; omega)) (And.intro (vp_in_nI (n := s) (by omega) (by decide)) ?_)
        rw [nI_clamp (show s < 2 ^ 31 by omega)]
        refine hK _ _ _ _ ?_
        refine And.intro (vp_in_nI (n := s) (by omega) (by decide)) ?_
        rw [nI_clamp (show s < 2 ^ 31 by omega)]
        refine hK _ _ _ _ ?_
        show K _ _ _ _
        rw [show nI s + Int32.ofInt 1 = nI (s + 1) from nIs _]
        refine hK _ _ _ _ ?_
        exact ih'
    exact L26 0 (Nat.zero_le _)
  · have hi3 : i = 0 := (nI_eq (by omega) (by omega)).mp (show nI i = nI 0 from h)
    iterate 2 refine hK _ _ _ _ ?_
    exact ⟨fun _ => ⟨rfl, rfl⟩, fun j q => absurd q (by omega)⟩
theorem c9_seed (d : Nat) (σ : sMem) (N P S G : Nat) (hJ : MJ σ N P S G) (kd sd w : Int32) : sMet l D b0 ty lay (d + 6) mX9_seed [aR 0, aI (kd), aI (sd), aI (w)] σ (fun r σ' => (((0 ≤ kd ∧ kd ≤ 4) ∧ (0 ≤ w ∧ w ≤ 2)) → r = [aI (if w = 0 then csM (sdM (sUp σ 0 0 0 0) kd sd P S) P else if w = 1 then lfN (sdM (sUp σ 0 0 0 0) kd sd P S) S else sdM (sUp σ 0 0 0 0) kd sd P S 0 0 47)] ∧ σ' = sdM (sUp σ 0 0 0 0) kd sd P S) ∧ (¬ ((0 ≤ kd ∧ kd ≤ 4) ∧ (0 ≤ w ∧ w ≤ 2)) → r = [aI 0] ∧ σ' = sUp σ 0 0 0 1)) := by
  refine sMet_intro lay_nd kX9_seed xX9_ok (by decide +kernel) rfl ?_
  intro K hK
  have hN := hJ.1.1.1
  have hN2 := hJ.1.2.1
  have hP := hJ.1.2.2.2.1.2
  have hS := hJ.1.2.2.2.2.1.2
  have hG4 := hJ.2.2.2.2.2
  iterate 3 refine hK _ _ _ _ ?_
  show K _ _ _ (sUp σ 0 0 0 0)
  have hJz := hJ.z0 0 0
  have z0 : sUp σ 0 0 0 0 0 0 0 = 0 := sUp_at _ _ _ _ _
  generalize hz : sUp σ 0 0 0 0 = z at hJz z0 ⊢
  iterate 3 refine hK _ _ _ _ ?_
  refine calD (c9_isKind _ _ _) ?_
  rintro r σ' ⟨rfl, hσ⟩
  subst σ'
  refine hK _ _ _ _ ?_
  refine And.intro (fun h00 => ?_) (fun h00 => ?_)
  · have hn : ¬ ((0 ≤ kd ∧ kd ≤ 4) ∧ (0 ≤ w ∧ w ≤ 2)) := fun q => ite_eq h00 q.1
    iterate 4 refine hK _ _ _ _ ?_
    refine calD (c9_bad1 _ _ _ z0 (by decide)) ?_
    rintro r σ' ⟨rfl, rfl⟩
    refine hK _ _ _ _ ?_
    refine And.intro (fun h => absurd h (by decide)) (fun _ => ?_)
    iterate 2 refine hK _ _ _ _ ?_
    exact ⟨fun q0 => absurd q0 hn, fun _ => ⟨rfl, by rw [← hz, sUp_twice]; rfl⟩⟩
  · iterate 4 refine hK _ _ _ _ ?_
    refine calD (c9_in _ _ _ _ _) ?_
    rintro r σ' ⟨rfl, hσ⟩
    subst σ'
    refine hK _ _ _ _ ?_
    refine And.intro (fun h01 => ?_) (fun h01 => ?_)
    · have hg0 : ((0 ≤ kd ∧ kd ≤ 4) ∧ (0 ≤ w ∧ w ≤ 2)) := ⟨ite_ne h00, ite_ne h01⟩
      iterate 3 refine hK _ _ _ _ ?_
      refine calD (c9_bad0 _ _ _ z0) ?_
      rintro r σ' ⟨rfl, hσ⟩
      subst σ'
      refine hK _ _ _ _ ?_
      refine And.intro (fun _ => ?_) (fun h => absurd rfl h)
      iterate 3 refine hK _ _ _ _ ?_
      refine And.intro (by first | exact Or.inl rfl | exact Or.inr rfl | exact bI_01 _) ?_
      iterate 6 refine hK _ _ _ _ ?_
      refine calD (c9_goes _ (sUp (sUp z 0 0 31 1) 0 0 30 sd) N P S G kd ((hJz.z0 31 1).z0 30 sd)) ?_
      rintro r σ' ⟨rfl, rfl⟩
      iterate 3 refine hK _ _ _ _ ?_
      refine And.intro (by first | exact Or.inl rfl | exact Or.inr rfl | exact bI_01 _) ?_
      show K _ _ _ (sdM z kd sd P S)
      have hJt : MJ (sdM z kd sd P S) N P S G := ((goM_KP G _ kd P S).MJ ((hJz.z0 31 1).z0 30 sd)).z0 31 0
      rw [hz] at hK
      generalize sdM z kd sd P S = t at hJt hK ⊢
      have l83 : ∀ (x : Int32), (if w = 0 then csM t P else if w = 1 then lfN t S else t 0 0 47) = x → K 83 [some (aR 0), some (aI (kd)), some (aI (sd)), some (aI (w))] [aI (x)] t := by
        intro x hx
        refine hK _ _ _ _ ?_
        refine ⟨fun _ => ?_, fun n => absurd hg0 n⟩
        exact ⟨by rw [hx], rfl⟩
      iterate 2 refine hK _ _ _ _ ?_
      refine And.intro (fun h => ?_) (fun h => ?_)
      · iterate 3 refine hK _ _ _ _ ?_
        refine And.intro (fun h1 => ?_) (fun h1 => ?_)
        · iterate 2 refine hK _ _ _ _ ?_
          exact l83 _ (by rw [if_neg h, if_neg (show ¬ w = 1 from h1)])
        · iterate 2 refine hK _ _ _ _ ?_
          refine calD (c9_leftNow _ t S hJt.1.2.2.2.2.1.1 hS) ?_
          rintro r σ' ⟨rfl, hσ⟩
          subst σ'
          refine hK _ _ _ _ ?_
          exact l83 _ (by rw [if_neg h, if_pos (show w = 1 from h1)])
      · iterate 2 refine hK _ _ _ _ ?_
        refine calD (c9_costNow _ t P hJt.1.2.2.2.1.1 hP) ?_
        rintro r σ' ⟨rfl, hσ⟩
        subst σ'
        refine hK _ _ _ _ ?_
        exact l83 _ (by rw [if_pos h])
    · have hn : ¬ ((0 ≤ kd ∧ kd ≤ 4) ∧ (0 ≤ w ∧ w ≤ 2)) := fun q => ite_eq h01 q.2
      iterate 4 refine hK _ _ _ _ ?_
      refine calD (c9_bad1 _ _ _ z0 (by decide)) ?_
      rintro r σ' ⟨rfl, rfl⟩
      refine hK _ _ _ _ ?_
      refine And.intro (fun h => absurd h (by decide)) (fun _ => ?_)
      iterate 2 refine hK _ _ _ _ ?_
      exact ⟨fun q0 => absurd q0 hn, fun _ => ⟨rfl, by rw [← hz, sUp_twice]; rfl⟩⟩
theorem hne (n : Nat) (h1 : 1 ≤ n) (h2 : n < 2 ^ 31) : ¬ (nI n).toInt64 = 0 := fun e => by
  have := congrArg Int64.toInt e
  rw [Int32.toInt_toInt64, nI_toInt h2] at this
  have h0 : (0 : Int64).toInt = 0 := rfl
  rw [h0] at this
  omega
theorem c9_mean (d : Nat) (σ : sMem) (N P S G : Nat) (hJ : MJ σ N P S G) (sd w : Int32) (h31 : σ 0 0 31 = 0) (F : Nat → Int32) (hF : ∀ τ k, KP G (sUp (sUp σ 0 0 0 0) 0 0 31 1) τ → k < w.toNatClampNeg → fcC (sUp τ 0 0 30 (sd + nI k)) P S = F k) : sMet l D b0 ty lay (d + 7) mX9_mean [aR 0, aI (sd), aI (w)] σ (fun r σ' => ((1 ≤ w ∧ w ≤ 99) → r = [aI ((smL F w.toNatClampNeg / w.toInt64).toInt32)] ∧ KP G (sUp σ 0 0 0 0) σ') ∧ (¬ (1 ≤ w ∧ w ≤ 99) → r = [aI 0] ∧ σ' = sUp σ 0 0 0 1)) := by
  refine sMet_intro lay_nd kX9_mean xX9_ok (by decide +kernel) rfl ?_
  intro K hK
  have hN := hJ.1.1.1
  have hN2 := hJ.1.2.1
  have hP := hJ.1.2.2.2.1.2
  have hS := hJ.1.2.2.2.2.1.2
  have hG4 := hJ.2.2.2.2.2
  iterate 3 refine hK _ _ _ _ ?_
  show K _ _ _ (sUp σ 0 0 0 0)
  have hJz := hJ.z0 0 0
  have z0 : sUp σ 0 0 0 0 0 0 0 = 0 := sUp_at _ _ _ _ _
  generalize hz : sUp σ 0 0 0 0 = z at hJz z0 ⊢
  iterate 5 refine hK _ _ _ _ ?_
  refine calD (c9_in _ _ _ _ _) ?_
  rintro r σ' ⟨rfl, hσ⟩
  subst σ'
  refine hK _ _ _ _ ?_
  refine And.intro (fun h00 => ?_) (fun h00 => ?_)
  · have hg0 : (1 ≤ w ∧ w ≤ 99) := ite_ne h00
    iterate 3 refine hK _ _ _ _ ?_
    refine calD (c9_bad0 _ _ _ z0) ?_
    rintro r σ' ⟨rfl, hσ⟩
    subst σ'
    refine hK _ _ _ _ ?_
    refine And.intro (fun _ => ?_) (fun h => absurd rfl h)
    obtain ⟨n, hn1, hn, rfl⟩ := nI_rng (lo := 1) (hi := 99) hg0.1 hg0.2 (by decide) (by decide)
    have cn := nI_clamp (show n < 2 ^ 31 by omega)
    rw [cn] at hK hF
    rw [hz] at hF hK
    have hz31 : z 0 0 31 = 0 := by rw [← hz, sUp_k (by decide)]; exact h31
    iterate 5 refine hK _ _ _ _ ?_
    refine And.intro (by first | exact Or.inl rfl | exact Or.inr rfl | exact bI_01 _) ?_
    iterate 2 refine hK _ _ _ _ ?_
    have key : ∀ k, k ≤ n → ∀ τ, KP G (sUp z 0 0 31 1) τ → K 40 [some (aR 0), some (aI sd), some (aI (nI n)), some (aL (smL F k)), none, some (aI (nI k))] [] τ := by
      refine kDown (P := fun k => ∀ τ, KP G (sUp z 0 0 31 1) τ → K 40 [some (aR 0), some (aI sd), some (aI (nI n)), some (aL (smL F k)), none, some (aI (nI k))] [] τ) ?_ ?_
      · intro τ hk
        iterate 3 refine hK _ _ _ _ ?_
        refine And.intro (fun _ => ?_) (fun h => absurd (Int32.le_refl _) h)
        iterate 3 refine hK _ _ _ _ ?_
        refine And.intro (by first | exact Or.inl rfl | exact Or.inr rfl | exact bI_01 _) ?_
        iterate 4 refine hK _ _ _ _ ?_
        refine And.intro (hne n hn1 (by omega)) ?_
        iterate 2 refine hK _ _ _ _ ?_
        refine ⟨fun _ => ?_, fun n => absurd hg0 n⟩
        refine ⟨rfl, ⟨fun a h1 h2 h3 => ?_, fun g j hg => ?_, fun k h1 h2 h3 h4 => ?_⟩⟩
        · rw [sUp_off h1, hk.1 a h1 h2 h3, sUp_off h1]
        · rw [sUp_off (by decide), hk.2.1 g j hg, sUp_off (by decide)]
        · by_cases e : k = 31
          · subst e; rw [sUp_at]; exact hz31.symm
          · rw [sUp_k e, hk.2.2 k h1 h2 h3 h4, sUp_k e]
      · intro k hkn ih τ hk
        have hJt := hk.MJ (hJz.z0 31 1)
        have hk1 : KP G (sUp z 0 0 31 1) (goM (sUp τ 0 0 30 (sd + nI k)) 0 P S) := (hk.trans (KP.z0 τ 30 _ (by omega))).trans (goM_KP _ _ _ _ _)
        iterate 3 refine hK _ _ _ _ ?_
        refine And.intro (fun h => absurd h (nI_ge hkn (by omega))) (fun _ => ?_)
        iterate 8 refine hK _ _ _ _ ?_
        refine calD (c9_firstCost _ _ N P S G (hJt.z0 30 _)) ?_
        rintro r σ' ⟨rfl, rfl⟩
        rw [hF τ k hk hkn]
        generalize goM (sUp τ 0 0 30 (sd + nI k)) 0 P S = τ1 at hk1 ⊢
        iterate 4 refine hK _ _ _ _ ?_
        show K _ _ _ _
        rw [show nI k + Int32.ofInt 1 = nI (k + 1) from nIs _]
        refine hK _ _ _ _ ?_
        exact ih τ1 hk1
    exact key 0 (Nat.zero_le _) _ KP.rfl'
  · have hn : ¬ (1 ≤ w ∧ w ≤ 99) := ite_eq h00
    iterate 4 refine hK _ _ _ _ ?_
    refine calD (c9_bad1 _ _ _ z0 (by decide)) ?_
    rintro r σ' ⟨rfl, rfl⟩
    refine hK _ _ _ _ ?_
    refine And.intro (fun h => absurd h (by decide)) (fun _ => ?_)
    iterate 2 refine hK _ _ _ _ ?_
    exact ⟨fun q0 => absurd q0 hn, fun _ => ⟨rfl, by rw [← hz, sUp_twice]; rfl⟩⟩
theorem c9_losesBy (d : Nat) (σ : sMem) (N P S : Nat) (hT : TD σ N P S) (p s : Nat) (hp : p < P) (hs : s < S) : sMet l D b0 ty lay (d + 1) mX9_losesBy [aR 0, aI (nI p), aI (nI s)] σ (fun r σ' => r = [aI (lsB σ p s)] ∧ σ' = σ) := by
  refine sMet_intro lay_nd kX9_losesBy xX9_ok (by decide +kernel) rfl ?_
  intro K hK
  have hN := hT.1.1
  have hP := hT.2.2.2.1.2
  have hS := hT.2.2.2.2.1.2
  obtain ⟨a, b, -, -, ⟨ea, ha⟩, ⟨eb, hb⟩, -⟩ := hT.2.2.2.2.2.1 p hp
  obtain ⟨x, y, -, -, ⟨ex, hx⟩, ⟨ey, hy⟩, -⟩ := hT.2.2.2.2.2.2 s hs
  generalize hZ : lsB σ p s = Z at hK
  unfold lsB at hZ
  try dsimp only at hZ
  rw [ea, eb, ex, ey, nI_clamp (show a < 2 ^ 31 by omega), nI_clamp (show b < 2 ^ 31 by omega), nI_clamp (show x < 2 ^ 31 by omega), nI_clamp (show y < 2 ^ 31 by omega)] at hZ
  iterate 4 refine hK _ _ _ _ ?_
  refine And.intro (vp_in_nI (n := p) (by omega) (by decide)) ?_
  rw [nI_clamp (show p < 2 ^ 31 by omega)]
  iterate 2 refine hK _ _ _ _ ?_
  refine And.intro (by first | omega | (rw [nI_clamp (by omega)]; omega)) (And.intro (vp_in_nI (n := 0) (by decide) (by decide)) ?_)
  rw [show (Int32.ofInt 0).toNatClampNeg = 0 from rfl]
  rw [show σ 6 p 0 = nI a from ea]
  iterate 5 refine hK _ _ _ _ ?_
  refine And.intro (vp_in_nI (n := p) (by omega) (by decide)) ?_
  rw [nI_clamp (show p < 2 ^ 31 by omega)]
  iterate 2 refine hK _ _ _ _ ?_
  refine And.intro (by first | omega | (rw [nI_clamp (by omega)]; omega)) (And.intro (vp_in_nI (n := 1) (by decide) (by decide)) ?_)
  rw [show (Int32.ofInt 1).toNatClampNeg = 1 from rfl]
  rw [show σ 6 p 1 = nI b from eb]
  iterate 5 refine hK _ _ _ _ ?_
  refine And.intro (vp_in_nI (n := s) (by omega) (by decide)) ?_
  rw [nI_clamp (show s < 2 ^ 31 by omega)]
  iterate 2 refine hK _ _ _ _ ?_
  refine And.intro (by first | omega | (rw [nI_clamp (by omega)]; omega)) (And.intro (vp_in_nI (n := 0) (by decide) (by decide)) ?_)
  rw [show (Int32.ofInt 0).toNatClampNeg = 0 from rfl]
  rw [show σ 8 s 0 = nI x from ex]
  iterate 5 refine hK _ _ _ _ ?_
  refine And.intro (vp_in_nI (n := s) (by omega) (by decide)) ?_
  rw [nI_clamp (show s < 2 ^ 31 by omega)]
  iterate 2 refine hK _ _ _ _ ?_
  refine And.intro (by first | omega | (rw [nI_clamp (by omega)]; omega)) (And.intro (vp_in_nI (n := 1) (by decide) (by decide)) ?_)
  rw [show (Int32.ofInt 1).toNatClampNeg = 1 from rfl]
  rw [show σ 8 s 1 = nI y from ey]
  iterate 5 refine hK _ _ _ _ ?_
  refine And.intro (vp_in_nI (n := p) (by omega) (by decide)) ?_
  rw [nI_clamp (show p < 2 ^ 31 by omega)]
  iterate 2 refine hK _ _ _ _ ?_
  refine And.intro (by first | omega | (rw [nI_clamp (by omega)]; omega)) (And.intro (vp_in_nI (n := 4) (by decide) (by decide)) ?_)
  rw [show (Int32.ofInt 4).toNatClampNeg = 4 from rfl]
  iterate 5 refine hK _ _ _ _ ?_
  have l97 : (((σ 6 p 4 >>> (nI y &&& 31)) &&& 1) = 0 ∨ ¬ σ 14 a b < 1000000 ∨ ¬ σ 14 a x < 1000000 ∨ ¬ σ 14 x y < 1000000 ∨ ¬ σ 14 y b < 1000000) → K 97 [some (aR 0), some (aI (nI p)), some (aI (nI s)), some (aI (nI a)), some (aI (nI b)), some (aI (nI x)), some (aI (nI y))] [] σ := by
    intro hq
    rw [if_pos hq] at hZ
    iterate 2 refine hK _ _ _ _ ?_
    exact ⟨by rw [← hZ], rfl⟩
  refine And.intro (fun h => l97 (Or.inl h)) (fun h => ?_)
  iterate 4 refine hK _ _ _ _ ?_
  refine calD (c9_isWay _ _ a b (by omega) (by omega)) ?_
  rintro r σ' ⟨rfl, hσ⟩
  subst σ'
  refine hK _ _ _ _ ?_
  refine And.intro (fun h0 => l97 (Or.inr (Or.inl (ite_eq h0)))) (fun h0 => ?_)
  iterate 4 refine hK _ _ _ _ ?_
  refine calD (c9_isWay _ _ a x (by omega) (by omega)) ?_
  rintro r σ' ⟨rfl, hσ⟩
  subst σ'
  refine hK _ _ _ _ ?_
  refine And.intro (fun h1 => l97 (Or.inr (Or.inr (Or.inl (ite_eq h1))))) (fun h1 => ?_)
  iterate 4 refine hK _ _ _ _ ?_
  refine calD (c9_isWay _ _ x y (by omega) (by omega)) ?_
  rintro r σ' ⟨rfl, hσ⟩
  subst σ'
  refine hK _ _ _ _ ?_
  refine And.intro (fun h2 => l97 (Or.inr (Or.inr (Or.inr (Or.inl (ite_eq h2)))))) (fun h2 => ?_)
  iterate 4 refine hK _ _ _ _ ?_
  refine calD (c9_isWay _ _ y b (by omega) (by omega)) ?_
  rintro r σ' ⟨rfl, hσ⟩
  subst σ'
  refine hK _ _ _ _ ?_
  refine And.intro (fun h3 => ?_) (fun h3 => l97 (Or.inr (Or.inr (Or.inr (Or.inr ((ite_eq h3)))))))
  rw [if_neg (fun q => q.elim h (fun q => q.elim (fun q => q (ite_ne h0)) (fun q => q.elim (fun q => q (ite_ne h1)) (fun q => q.elim (fun q => q (ite_ne h2)) (fun q => q (ite_ne h3))))))] at hZ
  iterate 4 refine hK _ _ _ _ ?_
  refine And.intro (vp_in_nI (n := p) (by omega) (by decide)) ?_
  rw [nI_clamp (show p < 2 ^ 31 by omega)]
  iterate 2 refine hK _ _ _ _ ?_
  refine And.intro (by first | omega | (rw [nI_clamp (by omega)]; omega)) (And.intro (vp_in_nI (n := 3) (by decide) (by decide)) ?_)
  rw [show (Int32.ofInt 3).toNatClampNeg = 3 from rfl]
  iterate 4 refine hK _ _ _ _ ?_
  refine And.intro (vp_in_nI (n := a) (by omega) (by decide)) ?_
  rw [nI_clamp (show a < 2 ^ 31 by omega)]
  iterate 2 refine hK _ _ _ _ ?_
  refine And.intro (by first | omega | (rw [nI_clamp (by omega)]; omega)) (And.intro (vp_in_nI (n := x) (by omega) (by decide)) ?_)
  rw [nI_clamp (show x < 2 ^ 31 by omega)]
  iterate 4 refine hK _ _ _ _ ?_
  refine And.intro (vp_in_nI (n := x) (by omega) (by decide)) ?_
  rw [nI_clamp (show x < 2 ^ 31 by omega)]
  iterate 2 refine hK _ _ _ _ ?_
  refine And.intro (by first | omega | (rw [nI_clamp (by omega)]; omega)) (And.intro (vp_in_nI (n := y) (by omega) (by decide)) ?_)
  rw [nI_clamp (show y < 2 ^ 31 by omega)]
  iterate 5 refine hK _ _ _ _ ?_
  refine And.intro (vp_in_nI (n := y) (by omega) (by decide)) ?_
  rw [nI_clamp (show y < 2 ^ 31 by omega)]
  iterate 2 refine hK _ _ _ _ ?_
  refine And.intro (by first | omega | (rw [nI_clamp (by omega)]; omega)) (And.intro (vp_in_nI (n := b) (by omega) (by decide)) ?_)
  rw [nI_clamp (show b < 2 ^ 31 by omega)]
  iterate 5 refine hK _ _ _ _ ?_
  refine And.intro (vp_in_nI (n := a) (by omega) (by decide)) ?_
  rw [nI_clamp (show a < 2 ^ 31 by omega)]
  iterate 2 refine hK _ _ _ _ ?_
  refine And.intro (by first | omega | (rw [nI_clamp (by omega)]; omega)) (And.intro (vp_in_nI (n := b) (by omega) (by decide)) ?_)
  rw [nI_clamp (show b < 2 ^ 31 by omega)]
  iterate 3 refine hK _ _ _ _ ?_
  exact ⟨by rw [← hZ], rfl⟩
theorem c9_bound (d : Nat) (σ : sMem) (N P S : Nat) (hT : TD σ N P S) : sMet l D b0 ty lay (d + 2) mX9_bound [aR 0] σ (fun r σ' => r = [aI (bdS (sUp σ 0 0 0 0) P S)] ∧ σ' = sUp σ 0 0 0 0) := by
  refine sMet_intro lay_nd kX9_bound xX9_ok (by decide +kernel) rfl ?_
  intro K hK
  iterate 3 refine hK _ _ _ _ ?_
  show K _ _ _ (sUp σ 0 0 0 0)
  have hz := hT.z0 0 0
  have hP := hT.2.2.2.1.2
  have hS := hT.2.2.2.2.1.2
  generalize sUp σ 0 0 0 0 = z at hz hK ⊢
  iterate 4 refine hK _ _ _ _ ?_
  have key : ∀ s, s ≤ S → ∀ e3 e4, K 9 [some (aR 0), some (aI (bdS z P s)), some (aI (nI s)), e3, e4] [] z := by
    refine kDown (P := fun s => ∀ e3 e4, K 9 [some (aR 0), some (aI (bdS z P s)), some (aI (nI s)), e3, e4] [] z) ?_ ?_
    · intro e3 e4
      iterate 5 refine hK _ _ _ _ ?_
      refine And.intro (vp_in_nI (n := 2) (by decide) (by decide)) ?_
      rw [show (Int32.ofInt 2).toNatClampNeg = 2 from rfl]
      rw [show z 3 0 2 = nI S from hz.2.2.2.2.1.1]
      refine hK _ _ _ _ ?_
      refine And.intro (fun _ => ?_) (fun h => absurd (Int32.le_refl _) h)
      iterate 2 refine hK _ _ _ _ ?_
      exact ⟨rfl, rfl⟩
    · intro s hs ih e3 e4
      unfold bdS at ih
      iterate 5 refine hK _ _ _ _ ?_
      refine And.intro (vp_in_nI (n := 2) (by decide) (by decide)) ?_
      rw [show (Int32.ofInt 2).toNatClampNeg = 2 from rfl]
      rw [show z 3 0 2 = nI S from hz.2.2.2.2.1.1]
      refine hK _ _ _ _ ?_
      refine And.intro (fun h => absurd h (nI_ge hs (by omega))) (fun _ => ?_)
      iterate 4 refine hK _ _ _ _ ?_
      have inn : ∀ p, p ≤ P → K 25 [some (aR 0), some (aI (bdS z P s)), some (aI (nI s)), some (aI (bdI z s p)), some (aI (nI p))] [] z := by
        refine kDown (P := fun p => K 25 [some (aR 0), some (aI (bdS z P s)), some (aI (nI s)), some (aI (bdI z s p)), some (aI (nI p))] [] z) ?_ ?_
        · generalize bdI z s P = v at ih ⊢
          have l77 : ∀ (c : Int32), (if v = 1000000 then 0 else v) = c → K 77 [some (aR 0), some (aI (bdS z P s)), some (aI (nI s)), some (aI (v)), some (aI (nI P))] [aI (c), aI (bdS z P s)] z := by
            intro c hc
            rw [hc] at ih
            iterate 3 refine hK _ _ _ _ ?_
            show K _ _ _ _
            rw [show nI s + Int32.ofInt 1 = nI (s + 1) from nIs _]
            refine hK _ _ _ _ ?_
            exact ih _ _
          iterate 5 refine hK _ _ _ _ ?_
          refine And.intro (vp_in_nI (n := 1) (by decide) (by decide)) ?_
          rw [show (Int32.ofInt 1).toNatClampNeg = 1 from rfl]
          rw [show z 3 0 1 = nI P from hz.2.2.2.1.1]
          refine hK _ _ _ _ ?_
          refine And.intro (fun _ => ?_) (fun h => absurd (Int32.le_refl _) h)
          iterate 4 refine hK _ _ _ _ ?_
          refine And.intro (fun h => ?_) (fun h => ?_)
          · refine hK _ _ _ _ ?_
            exact l77 _ (if_neg h)
          · iterate 2 refine hK _ _ _ _ ?_
            exact l77 _ (if_pos h)
        · intro p hp ih2
          unfold bdI at ih2
          have l58 : ∀ (c : Int32), (if lsB z p s < bdI z s p then lsB z p s else bdI z s p) = c → K 58 [some (aR 0), some (aI (bdS z P s)), some (aI (nI s)), some (aI (bdI z s p)), some (aI (nI p))] [aI (c)] z := by
            intro c hc
            rw [hc] at ih2
            iterate 2 refine hK _ _ _ _ ?_
            show K _ _ _ _
            rw [show nI p + Int32.ofInt 1 = nI (p + 1) from nIs _]
            refine hK _ _ _ _ ?_
            exact ih2
          iterate 5 refine hK _ _ _ _ ?_
          refine And.intro (vp_in_nI (n := 1) (by decide) (by decide)) ?_
          rw [show (Int32.ofInt 1).toNatClampNeg = 1 from rfl]
          rw [show z 3 0 1 = nI P from hz.2.2.2.1.1]
          refine hK _ _ _ _ ?_
          refine And.intro (fun h => absurd h (nI_ge hp (by omega))) (fun _ => ?_)
          iterate 4 refine hK _ _ _ _ ?_
          refine calD (c9_losesBy d z N P S hz p s hp hs) ?_
          rintro r σ' ⟨rfl, hσ⟩
          subst σ'
          iterate 2 refine hK _ _ _ _ ?_
          refine And.intro (fun h => ?_) (fun h => ?_)
          · refine hK _ _ _ _ ?_
            exact l58 _ (if_neg (Int32.not_lt.mpr h))
          · iterate 4 refine hK _ _ _ _ ?_
            refine calD (c9_losesBy d z N P S hz p s hp hs) ?_
            rintro r σ' ⟨rfl, hσ⟩
            subst σ'
            refine hK _ _ _ _ ?_
            exact l58 _ (if_pos (Int32.not_le.mp h))
      exact inn 0 (Nat.zero_le _)
  exact key 0 (Nat.zero_le _) _ _
end
