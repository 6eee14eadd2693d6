/-! THE REFERENCE, who can lead -/
/-- the town as the walks of a day rest on it: N places, P people, S strangers -/
def TD (σ : sMem) (N P S : Nat) : Prop := WI σ N ∧ 2 ≤ N ∧ (σ 3 0 0 = nI N) ∧ (σ 3 0 1 = nI P ∧ P ≤ 10) ∧ (σ 3 0 2 = nI S ∧ S ≤ 8) ∧
  (∀ i, i < P → ∃ a b t w : Nat, (σ 6 i 0 = nI a ∧ a < N) ∧ (σ 6 i 1 = nI b ∧ b < N) ∧ (σ 6 i 2 = nI t ∧ t ≤ 500) ∧ σ 6 i 3 = nI w ∧ 1 ≤ w ∧ w ≤ 99) ∧
  ∀ i, i < S → ∃ a b t c : Nat, (σ 8 i 0 = nI a ∧ a < N) ∧ (σ 8 i 1 = nI b ∧ b < N) ∧ (σ 8 i 2 = nI t ∧ t ≤ 500) ∧ σ 8 i 3 = nI c ∧ c ≤ 8
theorem TD.congr {σ σ' : sMem} {N P S : Nat} (h : TD σ N P S) (h3 : σ' 3 = σ 3) (h6 : σ' 6 = σ 6) (h8 : σ' 8 = σ 8) (h13 : σ' 13 = σ 13) (h14 : σ' 14 = σ 14) (h15 : σ' 15 = σ 15) : TD σ' N P S := by
  refine ⟨h.1.congr h13 h14 h15, ?_⟩
  rw [h3, h6, h8]
  exact h.2
theorem TD.up {σ : sMem} {N P S : Nat} (h : TD σ N P S) (i j k : Nat) (v : Int32) (hi : i ≠ 3 ∧ i ≠ 6 ∧ i ≠ 8 ∧ i ≠ 13 ∧ i ≠ 14 ∧ i ≠ 15) : TD (sUp σ i j k v) N P S :=
  h.congr (sUp_off (Ne.symm hi.1)) (sUp_off (Ne.symm hi.2.1)) (sUp_off (Ne.symm hi.2.2.1)) (sUp_off (Ne.symm hi.2.2.2.1)) (sUp_off (Ne.symm hi.2.2.2.2.1)) (sUp_off (Ne.symm hi.2.2.2.2.2))
/-- one of the first n entries of p is x at m -/
def atS (σ : sMem) (p : Nat) (x m : Int32) : Nat → Nat → Bool
  | 0, _ => false
  | f + 1, k => if σ 18 p k = x ∧ σ 19 p k = m then true else atS σ p x m f (k + 1)
def isAtM (σ : sMem) (p : Nat) (x m : Int32) : Bool := if m < σ 21 0 p then false else atS σ p x m (σ 20 0 p).toNatClampNeg 0
def bI (b : Bool) : Int32 := if b then 1 else 0
theorem bI_01 (b : Bool) : bI b = 0 ∨ bI b = 1 := by cases b <;> simp [bI]
theorem bI_t {b : Bool} (h : ¬ bI b = 0) : b = true := by cases b with
  | true => rfl
  | false => exact absurd rfl h
theorem bI_f {b : Bool} (h : bI b = 0) : b = false := by cases b with
  | false => rfl
  | true => exact absurd h (by decide)
section
variable {l : Launch} {D : va_G} {b0 : Nat} {ty : Nat → ClassId}
theorem c9_isAt (d : Nat) (σ : sMem) (p g : Nat) (x m : Int32) (hp : p < 10) (hg : σ 20 0 p = nI g) (hg13 : g ≤ 13) : sMet l D b0 ty lay d mX9_isAt [aR 0, aI (nI p), aI x, aI m] σ (fun r σ' => r = [aI (bI (isAtM σ p x m))] ∧ σ' = σ) := by
  refine sMet_intro lay_nd kX9_isAt xX9_ok (by decide +kernel) rfl ?_
  intro K hK
  iterate 5 refine hK _ _ _ _ ?_
  refine And.intro (vp_in_nI (by omega) (by decide)) ?_
  refine hK _ _ _ _ ?_
  rw [nI_clamp (show p < 2 ^ 31 by omega)]
  refine And.intro (fun h7 => ?_) (fun h7 => ?_)
  · have hb : ¬ m < σ 21 0 p := Int32.not_lt.mpr h7
    have hM : isAtM σ p x m = atS σ p x m g 0 := by
      unfold isAtM
      rw [if_neg hb, hg, nI_clamp (by omega)]
    rw [hM] at hK
    iterate 2 refine hK _ _ _ _ ?_
    generalize hG : atS σ p x m g 0 = G at hK
    have key : ∀ (f k : Nat), k + f = g → atS σ p x m f k = G → K 15 [some (aR 0), some (aI (nI p)), some (aI x), some (aI m), some (aI (nI k))] [] σ := by
      intro f
      induction f with
      | zero =>
        intro k hk he
        iterate 5 refine hK _ _ _ _ ?_
        refine And.intro (vp_in_nI (by omega) (by decide)) ?_
        refine hK _ _ _ _ ?_
        rw [nI_clamp (show p < 2 ^ 31 by omega), hg]
        have hkg : k = g := by omega
        subst hkg
        refine And.intro (fun _ => ?_) (fun h => absurd (Int32.le_refl _) h)
        iterate 2 refine hK _ _ _ _ ?_
        refine ⟨Or.inl rfl, ?_, rfl⟩
        rw [← he]; rfl
      | succ f ih =>
        intro k hk he
        unfold atS at he
        iterate 5 refine hK _ _ _ _ ?_
        refine And.intro (vp_in_nI (by omega) (by decide)) ?_
        refine hK _ _ _ _ ?_
        rw [nI_clamp (show p < 2 ^ 31 by omega), hg]
        refine And.intro (fun h => absurd h (nI_ge (by omega) (by omega))) (fun _ => ?_)
        have next : ¬ (σ 18 p k = x ∧ σ 19 p k = m) → K 54 [some (aR 0), some (aI (nI p)), some (aI x), some (aI m), some (aI (nI k))] [] σ := by
          intro hq
          rw [if_neg hq] at he
          refine hK _ _ _ _ ?_
          show K _ _ _ _
          rw [nIs]
          refine hK _ _ _ _ ?_
          exact ih (k + 1) (by omega) he
        iterate 4 refine hK _ _ _ _ ?_
        refine And.intro (vp_in_nI (by omega) (by decide)) ?_
        iterate 2 refine hK _ _ _ _ ?_
        refine And.intro (by first | omega | (rw [nI_clamp (by omega)]; omega)) (And.intro (vp_in_nI (by omega) (by decide)) ?_)
        iterate 2 refine hK _ _ _ _ ?_
        rw [nI_clamp (show p < 2 ^ 31 by omega), nI_clamp (show k < 2 ^ 31 by omega)]
        refine And.intro (fun h => next (fun q => h q.1)) (fun h1 => ?_)
        iterate 4 refine hK _ _ _ _ ?_
        refine And.intro (vp_in_nI (by omega) (by decide)) ?_
        iterate 2 refine hK _ _ _ _ ?_
        refine And.intro (by first | omega | (rw [nI_clamp (by omega)]; omega)) (And.intro (vp_in_nI (by omega) (by decide)) ?_)
        iterate 2 refine hK _ _ _ _ ?_
        rw [nI_clamp (show p < 2 ^ 31 by omega), nI_clamp (show k < 2 ^ 31 by omega)]
        refine And.intro (fun h => next (fun q => h q.2)) (fun h2 => ?_)
        rw [if_pos ⟨h1, h2⟩] at he
        iterate 2 refine hK _ _ _ _ ?_
        refine ⟨Or.inr rfl, ?_, rfl⟩
        rw [← he]; rfl
    exact key g 0 (by omega) hG
  · have hb : m < σ 21 0 p := Int32.not_le.mp h7
    iterate 2 refine hK _ _ _ _ ?_
    refine ⟨Or.inl rfl, ?_, rfl⟩
    unfold isAtM
    rw [if_pos hb]; rfl
/-- as far as the law makes one lead from z to y, k places led already -/
def ltM (σ : sMem) (y : Nat) (law : Int32) : Nat → Nat → Nat → Nat
  | 0, z, _ => z
  | f + 1, z, k => if z = y then z else if law = 0 ∨ nI k < law then ltM σ y law f (σ 15 z y).toNatClampNeg (k + 1) else z
def ledM (σ : sMem) (x y : Nat) : Nat := ltM σ y (σ 0 0 27) 12 x 0
theorem ledM_lt {σ : sMem} {N : Nat} (hW : WI σ N) {y : Nat} (hy : y < N) (law : Int32) : ∀ f z k, z < N → fN σ z y < 1000000 → ltM σ y law f z k < N ∧ fN σ (ltM σ y law f z k) y < 1000000
  | 0, z, k, hz, hf => ⟨hz, hf⟩
  | f + 1, z, k, hz, hf => by
    unfold ltM
    split
    · exact ⟨hz, hf⟩
    · rename_i hzy
      split
      · obtain ⟨c, w, hc, e15, -, hw1, -, hw⟩ := hW.2.2 z y hz hy hzy hf
        rw [e15, nI_clamp (by have := hW.1; omega)]
        exact ledM_lt hW hy law f c (k + 1) hc (by omega)
      · exact ⟨hz, hf⟩
theorem c9_ledTo (d : Nat) (σ : sMem) (N x y : Nat) (hW : WI σ N) (hx : x < N) (hy : y < N) (hf : fN σ x y < 1000000) : sMet l D b0 ty lay d mX9_ledTo [aR 0, aI (nI x), aI (nI y)] σ (fun r σ' => r = [aI (nI (ledM σ x y))] ∧ σ' = σ) := by
  refine sMet_intro lay_nd kX9_ledTo xX9_ok (by decide +kernel) rfl ?_
  intro K hK
  have hN := hW.1
  generalize hG : ledM σ x y = G at hK
  have out : ∀ (z k : Nat), z = G → K 41 [some (aR 0), some (aI (nI x)), some (aI (nI y)), some (aI (nI z)), some (aI (nI k))] [] σ := by
    intro z k hz
    iterate 2 refine hK _ _ _ _ ?_
    rw [hz]
    exact ⟨rfl, rfl⟩
  have key : ∀ (f z k : Nat), z < N → fN σ z y < 1000000 → rk σ N y z ≤ f → k + f ≤ 12 → ltM σ y (σ 0 0 27) f z k = G → K 5 [some (aR 0), some (aI (nI x)), some (aI (nI y)), some (aI (nI z)), some (aI (nI k))] [] σ := by
    intro f
    induction f with
    | zero =>
      intro z k hz hf' hr hk he
      have hzy : z = y := by
        by_cases q : z = y
        · exact q
        · obtain ⟨c, w, hc, -, -, hw1, -, hw⟩ := hW.2.2 z y hz hy q hf'
          have := rk_lt (σ := σ) (N := N) (b := y) (a := z) hc (by omega)
          omega
      iterate 3 refine hK _ _ _ _ ?_
      refine And.intro (fun _ => out z k he) (fun q => absurd (by rw [hzy]) q)
    | succ f ih =>
      intro z k hz hf' hr hk he
      unfold ltM at he
      iterate 3 refine hK _ _ _ _ ?_
      refine And.intro (fun q => ?_) (fun q => ?_)
      · have hzy : z = y := (nI_eq (by omega) (by omega)).mp q
        rw [if_pos hzy] at he
        exact out z k he
      · have hzy : ¬ z = y := fun t => q (by rw [t])
        rw [if_neg hzy] at he
        obtain ⟨c, w, hc, e15, -, hw1, -, hw⟩ := hW.2.2 z y hz hy hzy hf'
        have hrk := rk_lt (σ := σ) (N := N) (b := y) (a := z) hc (by omega)
        have go : (σ 0 0 27 = 0 ∨ nI k < σ 0 0 27) → K 26 [some (aR 0), some (aI (nI x)), some (aI (nI y)), some (aI (nI z)), some (aI (nI k))] [] σ := by
          intro hq
          rw [if_pos hq, e15, nI_clamp (by omega)] at he
          iterate 4 refine hK _ _ _ _ ?_
          refine And.intro (vp_in_nI (by omega) (by decide)) ?_
          iterate 2 refine hK _ _ _ _ ?_
          refine And.intro (by first | omega | (rw [nI_clamp (by omega)]; omega)) (And.intro (vp_in_nI (by omega) (by decide)) ?_)
          rw [nI_clamp (show z < 2 ^ 31 by omega), nI_clamp (show y < 2 ^ 31 by omega), e15]
          iterate 2 refine hK _ _ _ _ ?_
          show K _ _ _ _
          rw [nIs]
          refine hK _ _ _ _ ?_
          exact ih c (k + 1) hc (by omega) (by omega) (by omega) he
        iterate 3 refine hK _ _ _ _ ?_
        refine And.intro (fun h => go (Or.inl h)) (fun h => ?_)
        iterate 4 refine hK _ _ _ _ ?_
        refine And.intro (fun h2 => ?_) (fun h2 => go (Or.inr (Int32.not_le.mp h2)))
        rw [if_neg (fun t => t.elim h (fun u => Int32.not_lt.mpr h2 u))] at he
        exact out z k he
  iterate 4 refine hK _ _ _ _ ?_
  have hr := rk_le (σ := σ) (b := y) hx
  exact key 12 x 0 hx hf (by omega) (by omega) hG
end
