/-! THE RELATION HOLDS AT THE BEGINNING -/
def E4 (s s' : sMem) : Prop := ∀ i, i = 4 ∨ i = 13 ∨ i = 14 ∨ i = 15 → s i = s' i
theorem E4.up {s s' : sMem} (h : E4 s s') (i j k : Nat) (v : Int32) : E4 (sUp s i j k v) (sUp s' i j k v) := by
  intro a ha
  funext b c
  unfold sUp
  by_cases e : a = i ∧ b = j ∧ c = k
  · rw [if_pos e, if_pos e]
  · rw [if_neg e, if_neg e, h a ha]
theorem forM_R {R : sMem → sMem → Prop} {f : Nat → sMem → sMem} (hf : ∀ k s s', R s s' → R (f k s) (f k s')) : ∀ (n : Nat) {s s' : sMem}, R s s' → R (forM f s n) (forM f s' n)
  | 0, _, _, h => h
  | n + 1, _, _, h => hf n _ _ (forM_R hf n h)
theorem dnM_R {R : sMem → sMem → Prop} {f : Nat → sMem → sMem} (hf : ∀ k s s', R s s' → R (f k s) (f k s')) : ∀ (n : Nat) {s s' : sMem}, R s s' → R (dnM f n s) (dnM f n s')
  | 0, _, _, h => h
  | n + 1, _, _, h => dnM_R hf n (hf n _ _ h)
theorem lfM_cg (N Q : Nat) {s s' : sMem} (h : E4 s s') : E4 (lfM N Q s) (lfM N Q s') := by
  have h1 : ∀ {s s' : sMem}, E4 s s' → E4 (lfA N s) (lfA N s') := fun h => forM_R (f := fun a s => forM (lf1 a) s N) (fun a s s' h => forM_R (f := lf1 a) (fun b s s' h => (h.up _ _ _ _).up _ _ _ _) N h) N h
  have h2 : ∀ {s s' : sMem}, E4 s s' → E4 (lfB Q s) (lfB Q s') := fun h => forM_R (f := lf2) (fun k s s' h => by
    unfold lf2
    have e4 := h 4 (by omega)
    have e13 := h 13 (by omega)
    simp only [e4, e13]
    have h5 := h.up 13 (s' 4 k 0).toNatClampNeg (s' 4 k 1).toNatClampNeg (if s' 4 k 2 < s' 13 (s' 4 k 0).toNatClampNeg (s' 4 k 1).toNatClampNeg then s' 4 k 2 else s' 13 (s' 4 k 0).toNatClampNeg (s' 4 k 1).toNatClampNeg)
    have e5 := h5 13 (by omega)
    rw [e5]
    exact h5.up _ _ _ _) Q h
  have h3 : ∀ {s s' : sMem}, E4 s s' → E4 (lfC N s) (lfC N s') := fun h => forM_R (f := fun a s => forM (lf3 a) s N) (fun a s s' h => forM_R (f := lf3 a) (fun b s s' h => by
    unfold lf3
    rw [h 13 (by omega), h 14 (by omega)]
    exact h.up _ _ _ _) N h) N h
  have h4 : ∀ {s s' : sMem}, E4 s s' → E4 (lfD N s) (lfD N s') := fun h => forM_R (f := fun m s => forM (fun a s => forM (lf4 m a) s N) s N) (fun m s s' h => forM_R (f := fun a s => forM (lf4 m a) s N) (fun a s s' h => forM_R (f := lf4 m a) (fun b s s' h => by
    unfold lf4
    rw [h 14 (by omega)]
    split
    · exact h.up _ _ _ _
    · exact h) N h) N h) N h
  have h5 : ∀ {s s' : sMem}, E4 s s' → E4 (lfE N s) (lfE N s') := fun h => forM_R (f := fun a s => forM (lf5 N a) s N) (fun a s s' h => forM_R (f := lf5 N a) (fun b s s' h => by
    unfold lf5
    rw [h 14 (by omega)]
    split
    · refine dnM_R (fun c s s' h => ?_) N (h.up _ _ _ _)
      unfold lf5c
      rw [h 13 (by omega), h 14 (by omega)]
      split
      · exact h.up _ _ _ _
      · exact h
    · exact h.up _ _ _ _) N h) N h
  exact h5 (h4 (h3 (h2 (h1 h))))
theorem Z0_z {i : Nat} (h : i ≠ 0 ∧ i ≠ 2 ∧ i ≠ 11) : Z0 i = fun _ _ => 0 := (p0M_at (fun _ _ _ => 0) 0).1 i h.1 h.2.1 h.2.2
theorem s90_z {i : Nat} (h : i ≠ 0) : σ90 i = fun _ _ => 0 := by
  funext j k
  show zMem lay9 176 w9 i j k = 0
  unfold zMem
  have hob : (List.range 34).all (fun i => decide (i = 0) || (match w9[i]? with
    | some (.inl _) => false
    | _ => true)) = true := by decide +kernel
  by_cases hi : i < 34
  · have h1 := List.all_eq_true.mp hob i (List.mem_range.mpr hi)
    rw [decide_eq_false h, Bool.false_or] at h1
    cases hw : w9[i]? with
    | none => rfl
    | some x =>
      rw [hw] at h1
      rcases x with x | x
      · cases h1
      · rfl
  · have hl : w9.length = 34 := by decide +kernel
    rw [List.getElem?_eq_none (by omega)]
theorem jr_start {σ8 σ9 : sMem} (h8 : po8 σ8) (h9 : po9 σ9) : JR (σF σ8 σ9) := by
  obtain ⟨hW, hk8, h38⟩ := h8
  obtain ⟨Y, rfl, y1, y30, y3k, y16⟩ := h9
  obtain ⟨⟨a0, a1, a2, a3, a4, a5⟩, a11⟩ := Z0_at
  have hl : ∀ i, i ≠ 13 → i ≠ 14 → i ≠ 15 → lfM 4 0 Y i = Y i := fun i x0 x1 x2 => lfM_off _ _ _ ⟨x0, x1, x2⟩
  -- the reference's memory as after reading
  let Y' : sMem := fun i => if i = 3 then Y 3 else if i = 12 then Y 12 else if i = 16 then Y 16 else if i = 0 then (fun j k => if k = 3 then Z0 0 0 6 else Z0 0 j k) else Z0 i
  have hYz : ∀ i, i ≠ 3 → i ≠ 12 → i ≠ 16 → i ≠ 0 → Y' i = Z0 i := fun i h3 h12 h16 h0 => by
    show (if i = 3 then Y 3 else if i = 12 then Y 12 else if i = 16 then Y 16 else if i = 0 then _ else Z0 i) = Z0 i
    rw [if_neg h3, if_neg h12, if_neg h16, if_neg h0]
  have hC : TC Z0 Y' 6 12 0 0 0 8 := by
    refine ⟨fun i h0 h3 h6 h8 h10 h12 h16 => ?_, fun k hk _ => ?_, ?_, fun k hk => ?_, fun k hk => ?_, fun p k hp => absurd hp (Nat.not_lt_zero _), fun p k hp => absurd hp (Nat.not_lt_zero _), fun p k hp => absurd hp (Nat.not_lt_zero _), fun x hx => ?_⟩
    · show (if i = 3 then Y 3 else if i = 12 then Y 12 else if i = 16 then Y 16 else if i = 0 then _ else Z0 i) = Z0 i
      rw [if_neg h3, if_neg h12, if_neg h16, if_neg h0]
    · show (if k = 3 then Z0 0 0 6 else Z0 0 0 k) = Z0 0 0 k
      rw [if_neg hk]
    · rfl
    · show Y 3 0 k = Z0 2 0 k
      rcases (show k = 0 ∨ k = 1 ∨ k = 2 ∨ k = 3 ∨ k = 4 ∨ k = 5 by omega) with rfl | rfl | rfl | rfl | rfl | rfl
      · rw [y30, a0]
      · rw [y3k 1 (by decide), a1]; rfl
      · rw [y3k 2 (by decide), a2]; rfl
      · rw [y3k 3 (by decide), a3]; rfl
      · rw [y3k 4 (by decide), a4]; rfl
      · rw [y3k 5 (by decide), a5]; rfl
    · show Y 12 0 k = Z0 11 0 k
      rw [y1 12 (by decide) (by decide), s90_z (by decide), a11 k hk]
    · show Y 16 0 x = -1
      exact y16 x hx
  have hE : E4 (lfM 4 0 Y') (lfM 4 0 Y) := lfM_cg 4 0 (fun i hi => by
    have e1 : Y' i = Z0 i := by
      show (if i = 3 then Y 3 else if i = 12 then Y 12 else if i = 16 then Y 16 else if i = 0 then _ else Z0 i) = Z0 i
      rw [if_neg (by omega), if_neg (by omega), if_neg (by omega), if_neg (by omega)]
    rw [e1, Z0_z (by omega), y1 i (by omega) (by omega), s90_z (by omega)])
  have hl' : ∀ i, i ≠ 13 → i ≠ 14 → i ≠ 15 → lfM 4 0 Y' i = Y' i := fun i x0 x1 x2 => lfM_off _ _ _ ⟨x0, x1, x2⟩
  have eF : ∀ a, a = 3 ∨ a = 6 ∨ a = 8 ∨ a = 10 ∨ a = 12 ∨ a = 13 ∨ a = 14 ∨ a = 15 ∨ a = 16 → σF σ8 (lfM 4 0 Y) a = lfM 4 0 Y' a := fun a ha => by
    rw [σF_lo (by omega)]
    rcases ha with rfl | rfl | rfl | rfl | rfl | rfl | rfl | rfl | rfl
    · rw [hl 3 (by decide) (by decide) (by decide), hl' 3 (by decide) (by decide) (by decide)]; rfl
    · rw [hl 6 (by decide) (by decide) (by decide), hl' 6 (by decide) (by decide) (by decide), y1 6 (by decide) (by decide), s90_z (by decide), hYz 6 (by decide) (by decide) (by decide) (by decide), Z0_z (by decide)]
    · rw [hl 8 (by decide) (by decide) (by decide), hl' 8 (by decide) (by decide) (by decide), y1 8 (by decide) (by decide), s90_z (by decide), hYz 8 (by decide) (by decide) (by decide) (by decide), Z0_z (by decide)]
    · rw [hl 10 (by decide) (by decide) (by decide), hl' 10 (by decide) (by decide) (by decide), y1 10 (by decide) (by decide), s90_z (by decide), hYz 10 (by decide) (by decide) (by decide) (by decide), Z0_z (by decide)]
    · rw [hl 12 (by decide) (by decide) (by decide), hl' 12 (by decide) (by decide) (by decide)]; rfl
    · exact (hE 13 (by omega)).symm
    · exact (hE 14 (by omega)).symm
    · exact (hE 15 (by omega)).symm
    · rw [hl 16 (by decide) (by decide) (by decide), hl' 16 (by decide) (by decide) (by decide)]; rfl
  have hMI : MI (σF σ8 (lfM 4 0 Y)) 4 0 0 0 := (MI_town Z0_RVN hC).cg eF
  have hWF : TWF (σF σ8 (lfM 4 0 Y)) Z0 36 4 0 0 0 0 := by
    have r : ∀ i, i < 18 → σF σ8 (lfM 4 0 Y) (36 + i) = σ8 (2 + i) := fun i hi => by
      have := σF_row (σ8 := σ8) (σ9 := lfM 4 0 Y) (i := 2 + i) (by omega) (by omega)
      rw [show 34 + (2 + i) = 36 + i by omega] at this
      exact this
    have hT : TWR (σF σ8 (lfM 4 0 Y)) Z0 36 := by
      have := hW.1
      unfold TWR at this ⊢
      rw [show σF σ8 (lfM 4 0 Y) 36 = σ8 2 from r 0 (by decide), r 1 (by decide), r 2 (by decide), r 5 (by decide), r 6 (by decide), r 7 (by decide), r 8 (by decide), r 9 (by decide), r 10 (by decide), r 11 (by decide), r 12 (by decide), r 13 (by decide), r 14 (by decide), r 15 (by decide), r 16 (by decide), r 17 (by decide)]
      exact this
    refine ⟨hT, hW.2.1, ?_, ?_⟩
    · unfold RM; rw [r 3 (by decide)]; exact hW.2.2.1
    · rw [r 4 (by decide)]; exact hW.2.2.2
  have hCT : CT (σF σ8 (lfM 4 0 Y)) (σF σ8 (lfM 4 0 Y)) 36 4 0 0 0 := by
    refine (CT_town hWF hC).tg (fun a ha => eF a (by omega)) (fun g j hg => absurd hg (Nat.not_lt_zero _))
  have f34 : ∀ k, dyV 34 k = none → σF σ8 (lfM 4 0 Y) 34 0 k = σ80 0 0 k := fun k hk => by
    have := σF_fld (σ8 := σ8) (σ9 := lfM 4 0 Y) (i := 0) (j := 0) (k := k) (by decide) hk
    rw [show 34 + 0 = 34 from rfl] at this
    rw [this, hk8 0 (Or.inl (by decide)) (by decide)]
  have f0 : ∀ k, σF σ8 (lfM 4 0 Y) 0 0 k = σ90 0 0 k := fun k => by rw [σF_lo (by decide), hl 0 (by decide) (by decide) (by decide), y1 0 (by decide) (by decide)]
  have f72 : ∀ s, s < 8 → σF σ8 (lfM 4 0 Y) 72 0 s = -1 := fun s hs => by
    have := σF_row (σ8 := σ8) (σ9 := lfM 4 0 Y) (i := 38) (by decide) (by decide)
    rw [show 34 + 38 = 72 from rfl] at this
    rw [this]; exact h38 s hs
  refine ⟨36, 4, 0, 0, 0, 0, 0, Or.inl rfl, ⟨σF_dy (i := 0) (by decide) rfl, hCT, hMI, fun s hs => ?_⟩, ⟨?_, ?_, ?_⟩, σF_dy (i := 0) (by decide) rfl, ⟨by decide, ?_, ?_, fun j hj => absurd hj (Nat.not_lt_zero _)⟩, ⟨by decide, ?_, ?_, fun i hi => absurd hi (Nat.not_lt_zero _)⟩, ?_⟩
  · rw [f72 s hs, σF_lo (by decide), hl 16 (by decide) (by decide) (by decide)]; exact (y16 s hs).symm
  · rw [f0]; decide +kernel
  · rw [f0]; decide +kernel
  · rw [f0]; decide +kernel
  · rw [f34 1 rfl]; decide +kernel
  · rw [f0]; decide +kernel
  · rw [f34 7 rfl]; decide +kernel
  · rw [f0]; decide +kernel
  · rw [f34 2 rfl, f0]; decide +kernel
