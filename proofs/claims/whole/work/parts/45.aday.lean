/-! A DAY, by numbers: what the class and the reference are both held against. The memory c holds the town and what the day is told. -/
def fu {α : Type} (f : Nat → α) (k : Nat) (v : α) : Nat → α := fun i => if i = k then v else f i
theorem fu_at {α : Type} (f : Nat → α) (k : Nat) (v : α) : fu f k v k = v := if_pos rfl
theorem fu_ne {α : Type} {f : Nat → α} {k i : Nat} {v : α} (h : i ≠ k) : fu f k v i = f i := if_neg h
def forG {α : Type} (f : Nat → α → α) (x : α) : Nat → α
  | 0 => x
  | n + 1 => f n (forG f x n)
theorem forG_I {α : Type} {I : Nat → α → Prop} {f : Nat → α → α} {x : α} (h0 : I 0 x) : ∀ n : Nat, (∀ k s, k < n → I k s → I (k + 1) (f k s)) → I n (forG f x n)
  | 0, _ => h0
  | n + 1, h => h n _ (Nat.lt_succ_self n) (forG_I h0 n fun k s hk => h k s (by omega))
def pP (c : sMem) (p : Nat) : Nat := (c 6 p 0).toNatClampNeg
def pQ (c : sMem) (p : Nat) : Nat := (c 6 p 1).toNatClampNeg
def pT (c : sMem) (p : Nat) : Nat := (c 6 p 2).toNatClampNeg
def pV (c : sMem) (p : Nat) : Nat := (c 6 p 3).toNatClampNeg
def sX (c : sMem) (s : Nat) : Nat := (c 8 s 0).toNatClampNeg
def sY (c : sMem) (s : Nat) : Nat := (c 8 s 1).toNatClampNeg
def sT (c : sMem) (s : Nat) : Nat := (c 8 s 2).toNatClampNeg
def gA (c : sMem) (g : Nat) : Nat := (c 10 g 0).toNatClampNeg
def gF (c : sMem) (g : Nat) : Nat := (c 10 g 1).toNatClampNeg
def lw (c : sMem) : Nat := (c 0 0 27).toNatClampNeg
def tlO (c : sMem) (s : Nat) : Option Nat := if c 16 0 s = -1 then none else some (c 16 0 s).toNatClampNeg
def bt (x : Int32) (y : Nat) : Bool := decide ((x >>> (nI y &&& 31)) &&& 1 = 1)
def ouP (c : sMem) (p : Nat) : Bool := !decide (nI p = c 0 0 28) && decide (fN c (pP c p) (pQ c p) < 1000000)
def sgB (c : sMem) (x y : Nat) : Bool := decide (c 0 0 29 = nI x) || bt (c 12 0 x) y
/-- people: the place and the minute from which they go; strangers: where, from when, THERE, who led; guides: free at; fees, how often led, waited -/
abbrev DA : Type := (Nat → Nat × Nat) × (Nat → Nat × Nat × Option Nat × List Nat) × (Nat → Nat) × Nat × Nat × Nat
def atP (c : sMem) (q x m : Nat) : Nat → Nat × Nat → Bool
  | 0, s => decide (s = (x, m))
  | f + 1, s => decide (s = (x, m)) || (if s.1 = q then false else atP c q x m f (st1 c q s))
def caA (c : sMem) (D : DA) (p s m : Nat) : Bool := (ouP c p && atP c (pQ c p) (D.2.1 s).1 m 12 (D.1 p)) && bt (c 6 p 4) (sY c s) && decide (fN c (D.2.1 s).1 (sY c s) < 1000000) && decide (fN c (sY c s) (pQ c p) < 1000000)
def losA (c : sMem) (p x z : Nat) : Nat := pV c p * (fN c x z + fN c z (pQ c p) - fN c x (pQ c p))
def pfA (c : sMem) (D : DA) (s m : Nat) (ch : Bool) : Nat → Nat → Option Nat → Option Nat
  | 0, _, b => b
  | f + 1, p, b => pfA c D s m ch f (p + 1) (if caA c D p s m then (match b with
    | none => some p
    | some q => if ch = true ∧ losA c p (D.2.1 s).1 (ledM c (D.2.1 s).1 (sY c s)) < losA c q (D.2.1 s).1 (ledM c (D.2.1 s).1 (sY c s)) then some p else some q) else b)
def gfA (c : sMem) (D : DA) (s m : Nat) : Nat → Nat → Option Nat
  | 0, _ => none
  | f + 1, g => if gA c g = (D.2.1 s).1 ∧ D.2.2.1 g ≤ m ∧ fN c (D.2.1 s).1 (sY c s) < 1000000 then some g else gfA c D s m f (g + 1)
def goA (c : sMem) (D : DA) (s z m : Nat) : DA := (D.1, fu D.2.1 s (z, m, (if z = sY c s then some m else (D.2.1 s).2.2.1), (D.2.1 s).2.2.2), D.2.2)
def ldA (D : DA) (s w : Nat) : DA := (D.1, fu D.2.1 s ((D.2.1 s).1, (D.2.1 s).2.1, (D.2.1 s).2.2.1, (D.2.1 s).2.2.2 ++ [w]), D.2.2.1, D.2.2.2.1, D.2.2.2.2.1 + 1, D.2.2.2.2.2)
def byPA (c : sMem) (D : DA) (p s m : Nat) : DA :=
  let x := (D.2.1 s).1
  let z := ledM c x (sY c s)
  let E := ldA D s p
  goA c (fu E.1 p (z, m + fN c x z), E.2) s z (m + fN c x z)
def byGA (c : sMem) (D : DA) (g s m : Nat) : DA :=
  let x := (D.2.1 s).1
  let E := ldA D s (100 + g)
  goA c (E.1, E.2.1, fu E.2.2.1 g (m + 2 * fN c x (sY c s)), E.2.2.2.1 + gF c g * 2 * fN c x (sY c s), E.2.2.2.2) s (sY c s) (m + fN c x (sY c s))
def asPA (c : sMem) (D : DA) (P s kd m : Nat) : Option Nat := if kd = 4 then (match tlO c s with
  | none => none
  | some p => if caA c D p s m then some p else none) else pfA c D s m (decide (kd = 1)) P 0 none
def asGA (c : sMem) (D : DA) (G s kd m : Nat) : Option Nat := if kd = 4 then none else gfA c D s m G 0
def asA (c : sMem) (P G kd s m : Nat) (D : DA) : DA :=
  let x := (D.2.1 s).1
  let y := sY c s
  if sgB c x y = true ∧ fN c x y < 1000000 then goA c D s y (m + fN c x y)
  else if kd = 3 ∧ fN c x y < 1000000 ∧ bt (c 8 s 4) (nxN c x y) = true then goA c D s (nxN c x y) (m + fN c x (nxN c x y))
  else match asGA c D G s kd m, asPA c D P s kd m with
    | some g, some p => if kd = 2 then byGA c D g s m else byPA c D p s m
    | some g, none => byGA c D g s m
    | none, some p => byPA c D p s m
    | none, none => (D.1, D.2.1, D.2.2.1, D.2.2.2.1, D.2.2.2.2.1, D.2.2.2.2.2 + 1)
def dsA (c : sMem) (P G kd m s : Nat) (D : DA) : DA := if (D.2.1 s).2.2.1 = none ∧ (D.2.1 s).2.1 ≤ m then asA c P G kd s m D else D
def dmA (c : sMem) (P G S kd m : Nat) (D : DA) : DA := forG (dsA c P G kd m) D S
def beA (c : sMem) (cm : Nat → Bool) : DA := (fun p => (pP c p, pT c p), fun s => (sX c s, (if cm s then sT c s else 1000000), none, []), fun _ => 0, 0, 0, 0)
def daA (c : sMem) (cm : Nat → Bool) (P G S kd : Nat) : DA := forG (dmA c P G S kd) (beA c cm) 1000
/-- the town's numbers -/
def MC (c : sMem) (N P S : Nat) : Prop := WY c N ∧ 2 ≤ N ∧ P ≤ 10 ∧ S ≤ 8 ∧
  (∀ p, p < P → (c 6 p 0 = nI (pP c p) ∧ pP c p < N) ∧ (c 6 p 1 = nI (pQ c p) ∧ pQ c p < N) ∧ (c 6 p 2 = nI (pT c p) ∧ pT c p ≤ 500) ∧ c 6 p 3 = nI (pV c p) ∧ 1 ≤ pV c p ∧ pV c p ≤ 99) ∧
  ∀ s, s < S → (c 8 s 0 = nI (sX c s) ∧ sX c s < N) ∧ (c 8 s 1 = nI (sY c s) ∧ sY c s < N) ∧ (c 8 s 2 = nI (sT c s) ∧ sT c s ≤ 500) ∧ sX c s ≠ sY c s
/-- what the day is told -/
def SC (c : sMem) (N P S G : Nat) : Prop := (c 0 0 27 = nI (lw c) ∧ lw c ≤ 9) ∧ G ≤ 6 ∧ (∀ g, g < G → (c 10 g 0 = nI (gA c g) ∧ gA c g < N) ∧ c 10 g 1 = nI (gF c g) ∧ gF c g ≤ 9) ∧ ∀ s, s < S → ∀ p, tlO c s = some p → p < P ∧ c 16 0 s = nI p
/-- how far is led: along the WAY, by a place at least -/
theorem ltM_at {c : sMem} {N : Nat} (h : WY c N) {y : Nat} (hy : y < N) (law : Int32) : ∀ f z k, z < N → fN c z y < 1000000 → ∃ j, j ≤ pl c y z ∧ ltM c y law f z k = (pth c y j (z, 0)).1
  | 0, z, k, _, _ => ⟨0, Nat.zero_le _, rfl⟩
  | f + 1, z, k, hz, hf => by
    unfold ltM
    split
    · exact ⟨0, Nat.zero_le _, rfl⟩
    · rename_i hzy
      split
      · obtain ⟨hc, e15, -, h3, -, h4⟩ := nx_at h hz hy hf hzy
        have h12 := h.1.1
        rw [e15, nI_clamp (by omega)]
        obtain ⟨j, hj, e⟩ := ltM_at h hy law f (nxN c z y) (k + 1) hc (by omega)
        refine ⟨j + 1, by rw [pl_s h hy hz hf hzy]; omega, ?_⟩
        rw [e]
        have e2 : ∀ j a w w', (pth c y j (a, w)).1 = (pth c y j (a, w')).1 := by
          intro j
          induction j with
          | zero => intro a w w'; rfl
          | succ j ih => intro a w w'; exact ih _ _ _
        show _ = (pth c y j (nxN c z y, 0 + fN c z (nxN c z y))).1
        exact e2 _ _ _ _
      · exact ⟨0, Nat.zero_le _, rfl⟩
theorem pth_far {c : sMem} {N q : Nat} (h : WY c N) (hq : q < N) {a : Nat} (ha : a < N) (hf : fN c a q < 1000000) : ∀ j, j ≤ pl c q a → fN c a (pth c q j (a, 0)).1 = (pth c q j (a, 0)).2
  | 0, _ => fN_self h ha
  | j + 1, hj => by
    have ih := pth_far h hq ha hf j (by omega)
    obtain ⟨i1, i2, i3, i4, i5⟩ := pth_at h hq j a 0 ha hf (by omega)
    obtain ⟨k1, k2, k3, k4, k5⟩ := pth_at h hq (j + 1) a 0 ha hf hj
    rw [pth_s] at k1 k2 k3 k4 k5 ⊢
    generalize pth c q j (a, 0) = s at *
    have h1 := h.2.1 a s.1 (st1 c q s).1 ha i1 k1
    have h2 := h.2.1 a (st1 c q s).1 q ha k1 hq
    have e1 : (st1 c q s).2 = s.2 + fN c s.1 (st1 c q s).1 := rfl
    omega
theorem led_at {c : sMem} {N : Nat} (h : WY c N) (hl : c 0 0 27 = nI (lw c) ∧ lw c ≤ 9) {x y : Nat} (hx : x < N) (hy : y < N) (hf : fN c x y < 1000000) : ledM c x y < N ∧ fN c (ledM c x y) y < 1000000 ∧ fN c x (ledM c x y) + fN c (ledM c x y) y = fN c x y ∧ pl c y (ledM c x y) ≤ pl c y x ∧ (x ≠ y → pl c y (ledM c x y) < pl c y x) := by
  obtain ⟨j, hj, e⟩ := ltM_at h hy (c 0 0 27) 12 x 0 hx hf
  have e' : ledM c x y = (pth c y j (x, 0)).1 := e
  obtain ⟨i1, i2, i3, i4, i5⟩ := pth_at h hy j x 0 hx hf hj
  have h5 := pth_far h hy hx hf j hj
  refine ⟨by rw [e']; exact i1, by rw [e']; exact i2, by rw [e']; omega, by rw [e']; omega, fun hne => ?_⟩
  obtain ⟨hc, e15, -, h3, -, h4⟩ := nx_at h hx hy hf hne
  have h12 := h.1.1
  have hcond : c 0 0 27 = 0 ∨ nI 0 < c 0 0 27 := by
    rw [hl.1]
    rcases Nat.eq_zero_or_pos (lw c) with h0 | h0
    · left; rw [h0]; rfl
    · right; exact (nI_ltI (by omega) (by omega)).mpr h0
  have e9 : ledM c x y = ltM c y (c 0 0 27) 11 (nxN c x y) 1 := by
    unfold ledM
    rw [show ltM c y (c 0 0 27) 12 x 0 = if x = y then x else if c 0 0 27 = 0 ∨ nI 0 < c 0 0 27 then ltM c y (c 0 0 27) 11 (c 15 x y).toNatClampNeg 1 else x from rfl, if_neg hne, if_pos hcond, e15, nI_clamp (by omega)]
  obtain ⟨j2, hj2, e2⟩ := ltM_at h hy (c 0 0 27) 11 (nxN c x y) 1 hc (by omega)
  rw [e9, e2]
  have h6 := (pth_at h hy j2 (nxN c x y) 0 hc (by omega) hj2).2.2.2.1
  have h7 := pl_s h hy hx hf hne
  omega
