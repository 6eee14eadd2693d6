/-! THE CLASS: way -/
theorem wy_far {t : sMem} {N b : Nat} (h : WY t N) (hb : b < N) : ∀ i p, p < N → fN t p b < 1000000 → pl t b p < i → wyS t b i p = -1
  | 0, _, _, _, h0 => absurd h0 (Nat.not_lt_zero _)
  | i + 1, p, hp, hf, hl => by
    have h12 := h.1.1
    unfold wyS
    by_cases e : p = b
    · rw [if_pos e]
    · rw [if_neg e]
      obtain ⟨n1, n2, -, -, -, n6⟩ := nx_at h hp hb hf e
      have hs := pl_s h hb hp hf e
      rw [n2, nI_clamp (by omega)]
      exact wy_far h hb i _ n1 (by omega) (by omega)
/-- the reference's answer -/
def wyR (t : sMem) (a b : Nat) (i : Int32) : Int32 := if fN t a b < 1000000 ∧ 0 ≤ i then wyS t b i.toNatClampNeg a else -1
section
variable {l : Launch} {D0 : va_G} {b0 : Nat} {ty : Nat → ClassId} {ad av : Nat → Nat}
theorem c8_way_36_x0 (d : Nat) (σ t : sMem) (N P S G : Nat) (h : HR σ t 36 N P S G) (x y i : Int32) (h0 : ¬ (0 ≤ x ∧ x ≤ nI N - 1)) : yMet l D0 b0 ty ad av lay (d + 7) 1 mX8_way [aR 34, aI (x), aI (y), aI (i)] σ (fun _ _ => False) (fun e σ' => e = yIOE ∧ σ' = σ) := by
  refine yMet_intro lay_nd kX8_way xX8_ok (yY8_ok _) (by decide +kernel) rfl ?_
  intro K hK
  have hN := h.2.2.1.1.1.1.1
  have hP := h.2.2.1.1.1.2.2.2.1.2
  have hS8 := h.2.2.1.1.1.2.2.2.2.1.2
  iterate 3 refine hK _ _ _ _ _ ?_
  refine Or.inr (Or.inr ⟨0, 1, rfl, yDX (c8_checkPlace_36_x _ _ N (by omega) h.1 h.2.1.1 x h0) (fun _ _ h => h.elim) ?_⟩)
  exact fun e σ' h => h
theorem c8_way_36_x1 (d : Nat) (σ t : sMem) (N P S G : Nat) (h : HR σ t 36 N P S G) (x y i : Int32) (h0 : 0 ≤ x ∧ x ≤ nI N - 1) (h1 : ¬ (0 ≤ y ∧ y ≤ nI N - 1)) : yMet l D0 b0 ty ad av lay (d + 7) 1 mX8_way [aR 34, aI (x), aI (y), aI (i)] σ (fun _ _ => False) (fun e σ' => e = yIOE ∧ σ' = σ) := by
  refine yMet_intro lay_nd kX8_way xX8_ok (yY8_ok _) (by decide +kernel) rfl ?_
  intro K hK
  have hN := h.2.2.1.1.1.1.1
  have hP := h.2.2.1.1.1.2.2.2.1.2
  have hS8 := h.2.2.1.1.1.2.2.2.2.1.2
  iterate 3 refine hK _ _ _ _ _ ?_
  refine Or.inl (calD (c8_checkPlace_36_ok _ _ N (by omega) h.1 h.2.1.1 x h0) ?_)
  rintro r σ' ⟨rfl, hσ⟩
  subst σ'
  iterate 3 refine hK _ _ _ _ _ ?_
  refine Or.inr (Or.inr ⟨0, 1, rfl, yDX (c8_checkPlace_36_x _ _ N (by omega) h.1 h.2.1.1 y h1) (fun _ _ h => h.elim) ?_⟩)
  exact fun e σ' h => h
theorem c8_way_36_ok (d : Nat) (σ t : sMem) (N P S G : Nat) (h : HR σ t 36 N P S G) (a b : Nat) (i : Int32) (ha : a < N) (hb : b < N) : sMet l D0 b0 ty lay (d + 1) mX8_way [aR 34, aI (nI a), aI (nI b), aI (i)] σ (fun r σ' => r = [aI (wyR t a b i)] ∧ σ' = σ) := by
  refine sMet_intro lay_nd kX8_way xX8_ok (by decide +kernel) rfl ?_
  intro K hK
  have hN := h.2.2.1.1.1.1.1
  have hP := h.2.2.1.1.1.2.2.2.1.2
  have hS8 := h.2.2.1.1.1.2.2.2.2.1.2
  iterate 3 refine hK _ _ _ _ ?_
  refine calD (c8_checkPlace_36_ok _ _ N (by omega) h.1 h.2.1.1 (nI a) (nI_isIn (by omega) ha)) ?_
  rintro r σ' ⟨rfl, hσ⟩
  subst σ'
  iterate 3 refine hK _ _ _ _ ?_
  refine calD (c8_checkPlace_36_ok _ _ N (by omega) h.1 h.2.1.1 (nI b) (nI_isIn (by omega) hb)) ?_
  rintro r σ' ⟨rfl, hσ⟩
  subst σ'
  iterate 2 refine hK _ _ _ _ ?_
  have hW := h.2.2.1.2.1
  generalize hZ : wyR t a b i = Z at hK
  unfold wyR at hZ
  have L35 : -1 = Z → K 35 [some (aR 34), some (aI (nI a)), some (aI (nI b)), some (aI (i)), none, none] [] σ := by
    intro hz
    iterate 2 refine hK _ _ _ _ ?_
    exact ⟨by rw [← hz]; rfl, rfl⟩
  refine And.intro (fun h9 => L35 (by rw [← hZ, if_neg (fun q => Int32.not_lt.mpr q.2 h9)])) (fun h9 => ?_)
  have h0 := Int32.not_lt.mp h9
  iterate 3 refine hK _ _ _ _ ?_
  have hbig : 12 ≤ i → -1 = Z := fun h8 => by
    rw [← hZ]
    by_cases hf : fN t a b < 1000000
    · have h12 : (12 : Int32).toInt = 12 := by decide
      have hi : (12 : Int32).toInt ≤ i.toInt := Int32.le_iff_toInt_le.mp h8
      have hc : i.toNatClampNeg = i.toInt.toNat := rfl
      have hpl := pl_le hW hb ha hf
      rw [if_pos ⟨hf, h0⟩, wy_far hW hb _ a ha hf (by rw [hc]; omega)]
    · rw [if_neg (fun q => hf q.1)]
  refine And.intro (fun h8 => L35 (hbig h8)) (fun h8 => ?_)
  obtain ⟨n, rfl, hn⟩ := in_nI (n := 12) (by decide) ⟨h0, (lt_pre (n := 12) (by decide) i).mp (Int32.not_le.mp h8)⟩
  rw [nI_clamp (show n < 2 ^ 31 by omega)] at hZ
  iterate 2 refine hK _ _ _ _ ?_
  show K _ _ _ _
  rw [show σ 34 0 3 = nI 36 from h.1]
  show K _ _ _ _
  rw [show (nI 36).toNatClampNeg = 36 from rfl]
  iterate 4 refine hK _ _ _ _ ?_
  refine calD (c6_reaches_36 _ _ t N P S G h.2.1 h.2.2.1 a b ha hb) ?_
  rintro r σ' ⟨rfl, hσ⟩
  subst σ'
  refine hK _ _ _ _ ?_
  refine And.intro (fun h7 => ?_) (fun h7 => ?_)
  · have hf := of_decide_eq_true (bI_t h7)
    rw [if_pos ⟨hf, h0⟩] at hZ
    iterate 4 refine hK _ _ _ _ ?_
    have L43 : ∀ (f : Nat) (p k : Nat), k + f = n → p < N → fN t p b < 1000000 → wyS t b f p = Z → K 43 [some (aR 34), some (aI (nI a)), some (aI (nI b)), some (aI (nI n)), some (aI (nI p)), some (aI (nI k))] [] σ := by
      intro f
      induction f with
      | zero =>
        intro p k hk hp hfp hz
        have ek : k = n := by omega
        subst ek
        iterate 3 refine hK _ _ _ _ ?_
        refine And.intro (fun _ => ?_) (fun h6 => absurd (Int32.le_refl _) h6)
        iterate 2 refine hK _ _ _ _ ?_
        exact ⟨by rw [← hz]; rfl, rfl⟩
      | succ f ih =>
        intro p k hk hp hfp hz
        have hw : wyS t b (f + 1) p = if p = b then -1 else wyS t b f (t 15 p b).toNatClampNeg := rfl
        rw [hw] at hz
        iterate 3 refine hK _ _ _ _ ?_
        refine And.intro (fun h6 => absurd ((nI_leI (by omega) (by omega)).mp h6) (by omega)) (fun _ => ?_)
        iterate 3 refine hK _ _ _ _ ?_
        refine And.intro (fun h5 => ?_) (fun h5 => ?_)
        · have hne : ¬ p = b := fun e => h5 (by rw [e])
          obtain ⟨n1, n2, -, -, -, n6⟩ := nx_at hW hp hb hfp hne
          rw [if_neg hne, n2, nI_clamp (by omega)] at hz
          have e4 : σ 40 p b = nI (nxN t p b) := by
            rw [(h.2.1.2.2.2.2.2.1 p b hp hb).2.2, n2, if_neg (nI_ne (by omega))]
          iterate 2 refine hK _ _ _ _ ?_
          show K _ _ _ _
          rw [show σ 34 0 3 = nI 36 from h.1]
          show K _ _ _ _
          rw [show (nI 36).toNatClampNeg = 36 from rfl]
          iterate 4 refine hK _ _ _ _ ?_
          refine And.intro (vp_in_nI (n := p) (by omega) (by decide)) ?_
          rw [nI_clamp (show p < 2 ^ 31 by omega)]
          iterate 2 refine hK _ _ _ _ ?_
          refine And.intro (by first | omega | (rw [nI_clamp (by omega)]; omega)) (And.intro (vp_in_nI (n := b) (by omega) (by decide)) ?_)
          rw [nI_clamp (show b < 2 ^ 31 by omega)]
          rw [show σ 40 p b = nI (nxN t p b) from e4]
          iterate 2 refine hK _ _ _ _ ?_
          show K _ _ _ _
          rw [show nI k + Int32.ofInt 1 = nI (k + 1) from nIs _]
          refine hK _ _ _ _ ?_
          exact ih (nxN t p b) (k + 1) (by omega) n1 (by omega) hz
        · have he : p = b := (nI_eq (by omega) (by omega)).mp h5
          rw [if_pos he] at hz
          iterate 2 refine hK _ _ _ _ ?_
          exact ⟨by rw [← hz]; rfl, rfl⟩
    exact L43 n a 0 (by omega) ha hf hZ
  · have hf := of_decide_eq_false (bI_f h7)
    rw [if_neg (fun q => hf q.1)] at hZ
    exact L35 hZ
theorem c8_way_54_x0 (d : Nat) (σ t : sMem) (N P S G : Nat) (h : HR σ t 54 N P S G) (x y i : Int32) (h0 : ¬ (0 ≤ x ∧ x ≤ nI N - 1)) : yMet l D0 b0 ty ad av lay (d + 7) 1 mX8_way [aR 34, aI (x), aI (y), aI (i)] σ (fun _ _ => False) (fun e σ' => e = yIOE ∧ σ' = σ) := by
  refine yMet_intro lay_nd kX8_way xX8_ok (yY8_ok _) (by decide +kernel) rfl ?_
  intro K hK
  have hN := h.2.2.1.1.1.1.1
  have hP := h.2.2.1.1.1.2.2.2.1.2
  have hS8 := h.2.2.1.1.1.2.2.2.2.1.2
  iterate 3 refine hK _ _ _ _ _ ?_
  refine Or.inr (Or.inr ⟨0, 1, rfl, yDX (c8_checkPlace_54_x _ _ N (by omega) h.1 h.2.1.1 x h0) (fun _ _ h => h.elim) ?_⟩)
  exact fun e σ' h => h
theorem c8_way_54_x1 (d : Nat) (σ t : sMem) (N P S G : Nat) (h : HR σ t 54 N P S G) (x y i : Int32) (h0 : 0 ≤ x ∧ x ≤ nI N - 1) (h1 : ¬ (0 ≤ y ∧ y ≤ nI N - 1)) : yMet l D0 b0 ty ad av lay (d + 7) 1 mX8_way [aR 34, aI (x), aI (y), aI (i)] σ (fun _ _ => False) (fun e σ' => e = yIOE ∧ σ' = σ) := by
  refine yMet_intro lay_nd kX8_way xX8_ok (yY8_ok _) (by decide +kernel) rfl ?_
  intro K hK
  have hN := h.2.2.1.1.1.1.1
  have hP := h.2.2.1.1.1.2.2.2.1.2
  have hS8 := h.2.2.1.1.1.2.2.2.2.1.2
  iterate 3 refine hK _ _ _ _ _ ?_
  refine Or.inl (calD (c8_checkPlace_54_ok _ _ N (by omega) h.1 h.2.1.1 x h0) ?_)
  rintro r σ' ⟨rfl, hσ⟩
  subst σ'
  iterate 3 refine hK _ _ _ _ _ ?_
  refine Or.inr (Or.inr ⟨0, 1, rfl, yDX (c8_checkPlace_54_x _ _ N (by omega) h.1 h.2.1.1 y h1) (fun _ _ h => h.elim) ?_⟩)
  exact fun e σ' h => h
theorem c8_way_54_ok (d : Nat) (σ t : sMem) (N P S G : Nat) (h : HR σ t 54 N P S G) (a b : Nat) (i : Int32) (ha : a < N) (hb : b < N) : sMet l D0 b0 ty lay (d + 1) mX8_way [aR 34, aI (nI a), aI (nI b), aI (i)] σ (fun r σ' => r = [aI (wyR t a b i)] ∧ σ' = σ) := by
  refine sMet_intro lay_nd kX8_way xX8_ok (by decide +kernel) rfl ?_
  intro K hK
  have hN := h.2.2.1.1.1.1.1
  have hP := h.2.2.1.1.1.2.2.2.1.2
  have hS8 := h.2.2.1.1.1.2.2.2.2.1.2
  iterate 3 refine hK _ _ _ _ ?_
  refine calD (c8_checkPlace_54_ok _ _ N (by omega) h.1 h.2.1.1 (nI a) (nI_isIn (by omega) ha)) ?_
  rintro r σ' ⟨rfl, hσ⟩
  subst σ'
  iterate 3 refine hK _ _ _ _ ?_
  refine calD (c8_checkPlace_54_ok _ _ N (by omega) h.1 h.2.1.1 (nI b) (nI_isIn (by omega) hb)) ?_
  rintro r σ' ⟨rfl, hσ⟩
  subst σ'
  iterate 2 refine hK _ _ _ _ ?_
  have hW := h.2.2.1.2.1
  generalize hZ : wyR t a b i = Z at hK
  unfold wyR at hZ
  have L35 : -1 = Z → K 35 [some (aR 34), some (aI (nI a)), some (aI (nI b)), some (aI (i)), none, none] [] σ := by
    intro hz
    iterate 2 refine hK _ _ _ _ ?_
    exact ⟨by rw [← hz]; rfl, rfl⟩
  refine And.intro (fun h9 => L35 (by rw [← hZ, if_neg (fun q => Int32.not_lt.mpr q.2 h9)])) (fun h9 => ?_)
  have h0 := Int32.not_lt.mp h9
  iterate 3 refine hK _ _ _ _ ?_
  have hbig : 12 ≤ i → -1 = Z := fun h8 => by
    rw [← hZ]
    by_cases hf : fN t a b < 1000000
    · have h12 : (12 : Int32).toInt = 12 := by decide
      have hi : (12 : Int32).toInt ≤ i.toInt := Int32.le_iff_toInt_le.mp h8
      have hc : i.toNatClampNeg = i.toInt.toNat := rfl
      have hpl := pl_le hW hb ha hf
      rw [if_pos ⟨hf, h0⟩, wy_far hW hb _ a ha hf (by rw [hc]; omega)]
    · rw [if_neg (fun q => hf q.1)]
  refine And.intro (fun h8 => L35 (hbig h8)) (fun h8 => ?_)
  obtain ⟨n, rfl, hn⟩ := in_nI (n := 12) (by decide) ⟨h0, (lt_pre (n := 12) (by decide) i).mp (Int32.not_le.mp h8)⟩
  rw [nI_clamp (show n < 2 ^ 31 by omega)] at hZ
  iterate 2 refine hK _ _ _ _ ?_
  show K _ _ _ _
  rw [show σ 34 0 3 = nI 54 from h.1]
  show K _ _ _ _
  rw [show (nI 54).toNatClampNeg = 54 from rfl]
  iterate 4 refine hK _ _ _ _ ?_
  refine calD (c6_reaches_54 _ _ t N P S G h.2.1 h.2.2.1 a b ha hb) ?_
  rintro r σ' ⟨rfl, hσ⟩
  subst σ'
  refine hK _ _ _ _ ?_
  refine And.intro (fun h7 => ?_) (fun h7 => ?_)
  · have hf := of_decide_eq_true (bI_t h7)
    rw [if_pos ⟨hf, h0⟩] at hZ
    iterate 4 refine hK _ _ _ _ ?_
    have L43 : ∀ (f : Nat) (p k : Nat), k + f = n → p < N → fN t p b < 1000000 → wyS t b f p = Z → K 43 [some (aR 34), some (aI (nI a)), some (aI (nI b)), some (aI (nI n)), some (aI (nI p)), some (aI (nI k))] [] σ := by
      intro f
      induction f with
      | zero =>
        intro p k hk hp hfp hz
        have ek : k = n := by omega
        subst ek
        iterate 3 refine hK _ _ _ _ ?_
        refine And.intro (fun _ => ?_) (fun h6 => absurd (Int32.le_refl _) h6)
        iterate 2 refine hK _ _ _ _ ?_
        exact ⟨by rw [← hz]; rfl, rfl⟩
      | succ f ih =>
        intro p k hk hp hfp hz
        have hw : wyS t b (f + 1) p = if p = b then -1 else wyS t b f (t 15 p b).toNatClampNeg := rfl
        rw [hw] at hz
        iterate 3 refine hK _ _ _ _ ?_
        refine And.intro (fun h6 => absurd ((nI_leI (by omega) (by omega)).mp h6) (by omega)) (fun _ => ?_)
        iterate 3 refine hK _ _ _ _ ?_
        refine And.intro (fun h5 => ?_) (fun h5 => ?_)
        · have hne : ¬ p = b := fun e => h5 (by rw [e])
          obtain ⟨n1, n2, -, -, -, n6⟩ := nx_at hW hp hb hfp hne
          rw [if_neg hne, n2, nI_clamp (by omega)] at hz
          have e4 : σ 58 p b = nI (nxN t p b) := by
            rw [(h.2.1.2.2.2.2.2.1 p b hp hb).2.2, n2, if_neg (nI_ne (by omega))]
          iterate 2 refine hK _ _ _ _ ?_
          show K _ _ _ _
          rw [show σ 34 0 3 = nI 54 from h.1]
          show K _ _ _ _
          rw [show (nI 54).toNatClampNeg = 54 from rfl]
          iterate 4 refine hK _ _ _ _ ?_
          refine And.intro (vp_in_nI (n := p) (by omega) (by decide)) ?_
          rw [nI_clamp (show p < 2 ^ 31 by omega)]
          iterate 2 refine hK _ _ _ _ ?_
          refine And.intro (by first | omega | (rw [nI_clamp (by omega)]; omega)) (And.intro (vp_in_nI (n := b) (by omega) (by decide)) ?_)
          rw [nI_clamp (show b < 2 ^ 31 by omega)]
          rw [show σ 58 p b = nI (nxN t p b) from e4]
          iterate 2 refine hK _ _ _ _ ?_
          show K _ _ _ _
          rw [show nI k + Int32.ofInt 1 = nI (k + 1) from nIs _]
          refine hK _ _ _ _ ?_
          exact ih (nxN t p b) (k + 1) (by omega) n1 (by omega) hz
        · have he : p = b := (nI_eq (by omega) (by omega)).mp h5
          rw [if_pos he] at hz
          iterate 2 refine hK _ _ _ _ ?_
          exact ⟨by rw [← hz]; rfl, rfl⟩
    exact L43 n a 0 (by omega) ha hf hZ
  · have hf := of_decide_eq_false (bI_f h7)
    rw [if_neg (fun q => hf q.1)] at hZ
    exact L35 hZ
end
