/-! THE REFERENCE, reading -/
section
variable {l : Launch} {D : va_G} {b0 : Nat} {ty : Nat → ClassId}
theorem c9_thrown (d : Nat) (σ : sMem) : sMet l D b0 ty lay d mX9_thrown [aR 0] σ (fun r σ' => r = [aI (σ 0 0 0)] ∧ σ' = σ) := by
  refine sMet_intro lay_nd kX9_thrown xX9_ok (by decide +kernel) rfl ?_
  intro K hK
  iterate 3 refine hK _ _ _ _ ?_
  exact ⟨rfl, rfl⟩
theorem c9_in (d : Nat) (σ : sMem) (x a b : Int32) : sMet l D b0 ty lay d mX9_in [aI x, aI a, aI b] σ (fun r σ' => r = [aI (if a ≤ x ∧ x ≤ b then 1 else 0)] ∧ σ' = σ) := by
  refine sMet_intro lay_nd kX9_in xX9_ok (by decide +kernel) rfl ?_
  intro K hK
  iterate 3 refine hK _ _ _ _ ?_
  refine And.intro (fun h => ?_) (fun h => ?_)
  · iterate 2 refine hK _ _ _ _ ?_
    refine ⟨Or.inl rfl, ?_, rfl⟩
    rw [if_neg (fun q => Int32.not_le.mpr h q.1)]; rfl
  · iterate 3 refine hK _ _ _ _ ?_
    refine And.intro (fun h2 => ?_) (fun h2 => ?_)
    · iterate 2 refine hK _ _ _ _ ?_
      refine ⟨Or.inl rfl, ?_, rfl⟩
      rw [if_neg (fun q => Int32.not_le.mpr h2 q.2)]; rfl
    · iterate 3 refine hK _ _ _ _ ?_
      refine ⟨Or.inr rfl, ?_, rfl⟩
      rw [if_pos ⟨Int32.not_lt.mp h, Int32.not_lt.mp h2⟩]; rfl
/-- the text's byte j, or -1 behind its end -/
def bS (tx : Nat → Int32) (n j : Nat) : Int32 := if j < n then tx j else -1
theorem c9_byteAt (d : Nat) (σ : sMem) (n j : Nat) (hn : σ 0 0 2 = nI n) (h6 : n ≤ 600) (hj : j < 2 ^ 31) : sMet l D b0 ty lay d mX9_byteAt [aR 0, aI (nI j)] σ (fun r σ' => r = [aI (bS (σ 1 0) n j)] ∧ σ' = σ) := by
  refine sMet_intro lay_nd kX9_byteAt xX9_ok (by decide +kernel) rfl ?_
  intro K hK
  iterate 4 refine hK _ _ _ _ ?_
  rw [hn]
  refine And.intro (fun h => ?_) (fun h => ?_)
  · have hlt : j < n := (nI_ltI hj (by omega)).mp h
    iterate 4 refine hK _ _ _ _ ?_
    refine And.intro (vp_in_nI (by omega) (by omega)) ?_
    refine hK _ _ _ _ ?_
    refine ⟨?_, rfl⟩
    rw [nI_clamp hj]
    simp [bS, hlt]
  · have hlt : ¬ j < n := fun q => h ((nI_ltI hj (by omega)).mpr q)
    iterate 3 refine hK _ _ _ _ ?_
    refine ⟨?_, rfl⟩
    simp only [bS, hlt, if_false]
    rfl
theorem c9_wrong (d : Nat) (σ : sMem) (x y : Int32) : sMet l D b0 ty lay d mX9_wrong [aR 0, aI x, aI y] σ (fun r σ' => r = [] ∧ σ' = if σ 0 0 5 = 0 then sUp (sUp σ 0 0 5 x) 0 0 6 y else σ) := by
  refine sMet_intro lay_nd kX9_wrong xX9_ok (by decide +kernel) rfl ?_
  intro K hK
  iterate 3 refine hK _ _ _ _ ?_
  refine And.intro (fun h => ?_) (fun h => ?_)
  · refine hK _ _ _ _ ?_
    exact ⟨rfl, (if_neg h).symm⟩
  · iterate 7 refine hK _ _ _ _ ?_
    exact ⟨rfl, (if_pos h).symm⟩
theorem c9_isDigit (d : Nat) (σ : sMem) (x : Int32) : sMet l D b0 ty lay d mX9_isDigit [aI x] σ (fun r σ' => r = [aI (if 48 ≤ x ∧ x ≤ 57 then 1 else 0)] ∧ σ' = σ) := by
  refine sMet_intro lay_nd kX9_isDigit xX9_ok (by decide +kernel) rfl ?_
  intro K hK
  iterate 3 refine hK _ _ _ _ ?_
  refine And.intro (fun h => ?_) (fun h => ?_)
  · iterate 2 refine hK _ _ _ _ ?_
    refine ⟨Or.inl rfl, ?_, rfl⟩
    rw [if_neg (fun q => Int32.not_le.mpr h q.1)]; rfl
  · iterate 3 refine hK _ _ _ _ ?_
    refine And.intro (fun h2 => ?_) (fun h2 => ?_)
    · iterate 2 refine hK _ _ _ _ ?_
      refine ⟨Or.inl rfl, ?_, rfl⟩
      rw [if_neg (fun q => Int32.not_le.mpr h2 q.2)]; rfl
    · iterate 3 refine hK _ _ _ _ ?_
      refine ⟨Or.inr rfl, ?_, rfl⟩
      rw [if_pos ⟨Int32.not_lt.mp h, Int32.not_lt.mp h2⟩]; rfl
/-- where the blanks from a on end -/
def blS (tx : Nat → Int32) (n : Nat) : Nat → Nat → Nat
  | 0, a => a
  | f + 1, a => if bS tx n a = 32 then blS tx n f (a + 1) else a
theorem c9_blanks (d : Nat) (σ : sMem) (n a : Nat) (hn : σ 0 0 2 = nI n) (ha : σ 0 0 4 = nI a) (h6 : n ≤ 600) (hle : a ≤ n) : sMet l D b0 ty lay (d + 1) mX9_blanks [aR 0] σ (fun r σ' => r = [] ∧ σ' = sUp σ 0 0 4 (nI (blS (σ 1 0) n (n - a) a))) := by
  refine sMet_intro lay_nd kX9_blanks xX9_ok (by decide +kernel) rfl ?_
  intro K hK
  have key : ∀ (f a : Nat), a + f = n → K 0 [some (aR 0)] [] (sUp σ 0 0 4 (nI a)) := by
    intro f
    induction f with
    | zero => sorry
    | succ f ih => sorry
  have := key (n - a) a (by omega)
  rw [sUp_eq ha] at this
  exact this
end
