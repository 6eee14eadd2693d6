/-! THE CLASS: images, the tape -/
/-- what putOnTape lays, byte by byte -/
def pbB (x : Int32) (k : Nat) : Int32 := vp_nar FieldType.byte ((x.toUInt32 >>> ((nI (24 - 8 * k)).toUInt32 &&& Int32.toUInt32 31)).toInt32).toInt8.toInt32
def PB (σ : sMem) (x : Int32) (T : Nat) (σ' : sMem) : Prop := σ' 34 0 1 = nI (T + 4) ∧ (∀ i, i ≠ 34 → i ≠ 35 → σ' i = σ i) ∧ (∀ k, k ≠ 1 → σ' 34 0 k = σ 34 0 k) ∧ (∀ k, k < 4 → σ' 35 0 (T + k) = pbB x k) ∧ ∀ j, j < T → σ' 35 0 j = σ 35 0 j
section
variable {l : Launch} {D0 : va_G} {b0 : Nat} {ty : Nat → ClassId} {ad av : Nat → Nat}
theorem c8_image_no (d : Nat) (σ : sMem) (e7 : σ 34 0 7 = nI 3) : sMet l D0 b0 ty lay d mX8_image [aR 34] σ (fun r σ' => r = [aI (-1)] ∧ σ' = σ) := by
  refine sMet_intro lay_nd kX8_image xX8_ok (by decide +kernel) rfl ?_
  intro K hK
  iterate 2 refine hK _ _ _ _ ?_
  show K _ _ _ _
  rw [show σ 34 0 7 = nI 3 from e7]
  iterate 2 refine hK _ _ _ _ ?_
  refine And.intro (fun h9 => absurd h9 (by decide)) (fun _ => ?_)
  iterate 2 refine hK _ _ _ _ ?_
  exact ⟨rfl, rfl⟩
theorem c8_image_ok (d : Nat) (σ : sMem) (i : Nat) (hi : i < 3) (e7 : σ 34 0 7 = nI i) : yMet l D0 b0 ty ad av lay (d + 1) 0 mX8_image [aR 34] σ (fun r σ' => r = [aI (nI (i + 1))] ∧ σ' = sUp (sRow σ 73 i (va_cpy (σ 72 0) (σ 73 i) 0 0 8)) 34 0 7 (nI (i + 1))) (fun _ _ => False) := by
  refine yMet_intro lay_nd kX8_image xX8_ok (yY8_ok _) (by decide +kernel) rfl ?_
  intro K hK
  iterate 2 refine hK _ _ _ _ _ ?_
  show K _ _ _ _ _
  rw [show σ 34 0 7 = nI i from e7]
  iterate 2 refine hK _ _ _ _ _ ?_
  refine And.intro (fun _ => ?_) (fun h9 => absurd ((nI_ltI (b := 3) (by omega) (by decide)).mpr hi) h9)
  iterate 7 refine hK _ _ _ _ _ ?_
  show K _ _ _ _ _
  rw [show σ 34 0 7 = nI i from e7]
  refine hK _ _ _ _ _ ?_
  refine And.intro (vp_in_nI (n := i) (by omega) (by decide)) ?_
  rw [nI_clamp (show i < 2 ^ 31 by omega)]
  iterate 3 refine hK _ _ _ _ _ ?_
  refine ⟨72, 0, 8, 73, i, 8, 0, 0, 8, ⟨rfl, rfl, rfl⟩, ⟨by omega, rfl, rfl, rfl⟩, rfl, rfl, rfl, by decide, by decide, by decide, by decide, ?_⟩
  have q7 : (sRow σ 73 i (va_cpy (σ 72 0) (σ 73 i) 0 0 8)) 34 0 7 = nI i := by rw [sRow_off (by decide)]; exact e7
  generalize sRow σ 73 i (va_cpy (σ 72 0) (σ 73 i) 0 0 8) = m at q7 hK ⊢
  iterate 3 refine hK _ _ _ _ _ ?_
  show K _ _ _ _ _
  rw [show m 34 0 7 = nI i from q7]
  iterate 2 refine hK _ _ _ _ _ ?_
  show K _ _ _ _ _
  rw [show nI i + Int32.ofInt 1 = nI (i + 1) from nIs _]
  iterate 3 refine hK _ _ _ _ _ ?_
  show K _ _ _ _ _
  rw [sUp_at]
  refine hK _ _ _ _ _ ?_
  exact ⟨rfl, rfl⟩
theorem c8_restore_no (d : Nat) (σ : sMem) (e7 : σ 34 0 7 = nI 0) : sMet l D0 b0 ty lay d mX8_restore [aR 34] σ (fun r σ' => r = [aI (-1)] ∧ σ' = σ) := by
  refine sMet_intro lay_nd kX8_restore xX8_ok (by decide +kernel) rfl ?_
  intro K hK
  iterate 2 refine hK _ _ _ _ ?_
  show K _ _ _ _
  rw [show σ 34 0 7 = nI 0 from e7]
  refine hK _ _ _ _ ?_
  refine And.intro (fun h9 => absurd h9 (by decide)) (fun _ => ?_)
  iterate 2 refine hK _ _ _ _ ?_
  exact ⟨rfl, rfl⟩
theorem c8_restore_ok (d : Nat) (σ : sMem) (j : Nat) (hj : j < 3) (e7 : σ 34 0 7 = nI (j + 1)) : yMet l D0 b0 ty ad av lay (d + 1) 0 mX8_restore [aR 34] σ (fun r σ' => r = [aI (nI j)] ∧ ∃ m, m = sUp σ 34 0 7 (nI j) ∧ σ' = sRow m 72 0 (va_cpy (m 73 j) (m 72 0) 0 0 8)) (fun _ _ => False) := by
  refine yMet_intro lay_nd kX8_restore xX8_ok (yY8_ok _) (by decide +kernel) rfl ?_
  intro K hK
  iterate 2 refine hK _ _ _ _ _ ?_
  show K _ _ _ _ _
  rw [show σ 34 0 7 = nI (j + 1) from e7]
  refine hK _ _ _ _ _ ?_
  refine And.intro (fun _ => ?_) (fun h9 => absurd ((nI_ltI (a := 0) (by decide) (by omega)).mpr (by omega)) h9)
  iterate 3 refine hK _ _ _ _ _ ?_
  show K _ _ _ _ _
  rw [show σ 34 0 7 = nI (j + 1) from e7]
  iterate 2 refine hK _ _ _ _ _ ?_
  show K _ _ _ _ _
  rw [show nI (j + 1) - Int32.ofInt 1 = nI j from by rw [show nI (j + 1) = nI j + 1 from (nIs j).symm]; exact Int32.add_sub_cancel _ _]
  refine hK _ _ _ _ _ ?_
  show K _ _ _ _ _
  generalize hm : sUp σ 34 0 7 (nI j) = m
  have m7 : m 34 0 7 = nI j := by rw [← hm, sUp_at]
  iterate 4 refine hK _ _ _ _ _ ?_
  show K _ _ _ _ _
  rw [show m 34 0 7 = nI j from m7]
  refine hK _ _ _ _ _ ?_
  refine And.intro (vp_in_nI (n := j) (by omega) (by decide)) ?_
  rw [nI_clamp (show j < 2 ^ 31 by omega)]
  iterate 6 refine hK _ _ _ _ _ ?_
  refine ⟨73, j, 8, 72, 0, 8, 0, 0, 8, ⟨by omega, rfl, rfl, rfl⟩, ⟨rfl, rfl, rfl⟩, rfl, rfl, rfl, by decide, by decide, by decide, by decide, ?_⟩
  have q7 : (sRow m 72 0 (va_cpy (m 73 j) (m 72 0) 0 0 8)) 34 0 7 = nI j := by rw [sRow_off (by decide)]; exact m7
  generalize hx : sRow m 72 0 (va_cpy (m 73 j) (m 72 0) 0 0 8) = x at q7 ⊢
  iterate 2 refine hK _ _ _ _ _ ?_
  show K _ _ _ _ _
  rw [show x 34 0 7 = nI j from q7]
  refine hK _ _ _ _ _ ?_
  exact ⟨rfl, m, hm.symm, hx.symm⟩
set_option maxHeartbeats 1000000 in
theorem c8_putOnTape (d : Nat) (σ : sMem) (x : Int32) (T : Nat) (hT : T + 4 ≤ 600) (e1 : σ 34 0 1 = nI T) : sMet l D0 b0 ty lay d mX8_putOnTape [aR 34, aI (x)] σ (fun r σ' => r = [] ∧ PB σ x T σ') := by
  refine sMet_intro lay_nd kX8_putOnTape xX8_ok (by decide +kernel) rfl ?_
  intro K hK
  iterate 2 refine hK _ _ _ _ ?_
  show K _ [some (aR 34), some (aI x), some (aI (nI 24))] _ _
  iterate 2 refine hK _ _ _ _ ?_
  refine And.intro (fun h9 => absurd h9 (by decide)) (fun _ => ?_)
  iterate 4 refine hK _ _ _ _ ?_
  show K _ _ _ _
  rw [show σ 34 0 1 = nI T from e1]
  iterate 5 refine hK _ _ _ _ ?_
  refine And.intro (vp_in_nI (n := T) (by omega) (by decide)) ?_
  rw [nI_clamp (show T < 2 ^ 31 by omega)]
  iterate 3 refine hK _ _ _ _ ?_
  show K _ _ _ _
  rw [sUp_off (by decide), show σ 34 0 1 = nI T from e1]
  iterate 2 refine hK _ _ _ _ ?_
  show K _ _ _ _
  rw [show nI (T) + Int32.ofInt 1 = nI (T + 1) from nIs _]
  refine hK _ _ _ _ ?_
  show K _ _ _ (sUp (sUp σ 35 0 (T) (pbB x 0)) 34 0 1 (nI (T + 1)))
  generalize hm0 : sUp (sUp σ 35 0 (T) (pbB x 0)) 34 0 1 (nI (T + 1)) = m0
  have g0 : m0 34 0 1 = nI (T + 1) := by rw [← hm0, sUp_at]
  iterate 2 refine hK _ _ _ _ ?_
  show K _ [some (aR 34), some (aI x), some (aI (nI 16))] _ _
  iterate 2 refine hK _ _ _ _ ?_
  refine And.intro (fun h9 => absurd h9 (by decide)) (fun _ => ?_)
  iterate 4 refine hK _ _ _ _ ?_
  show K _ _ _ _
  rw [show m0 34 0 1 = nI (T + 1) from g0]
  iterate 5 refine hK _ _ _ _ ?_
  refine And.intro (vp_in_nI (n := (T + 1)) (by omega) (by decide)) ?_
  rw [nI_clamp (show (T + 1) < 2 ^ 31 by omega)]
  iterate 3 refine hK _ _ _ _ ?_
  show K _ _ _ _
  rw [sUp_off (by decide), show m0 34 0 1 = nI (T + 1) from g0]
  iterate 2 refine hK _ _ _ _ ?_
  show K _ _ _ _
  rw [show nI (T + 1) + Int32.ofInt 1 = nI (T + 2) from nIs _]
  refine hK _ _ _ _ ?_
  show K _ _ _ (sUp (sUp m0 35 0 (T + 1) (pbB x 1)) 34 0 1 (nI (T + 2)))
  generalize hm1 : sUp (sUp m0 35 0 (T + 1) (pbB x 1)) 34 0 1 (nI (T + 2)) = m1
  have g1 : m1 34 0 1 = nI (T + 2) := by rw [← hm1, sUp_at]
  iterate 2 refine hK _ _ _ _ ?_
  show K _ [some (aR 34), some (aI x), some (aI (nI 8))] _ _
  iterate 2 refine hK _ _ _ _ ?_
  refine And.intro (fun h9 => absurd h9 (by decide)) (fun _ => ?_)
  iterate 4 refine hK _ _ _ _ ?_
  show K _ _ _ _
  rw [show m1 34 0 1 = nI (T + 2) from g1]
  iterate 5 refine hK _ _ _ _ ?_
  refine And.intro (vp_in_nI (n := (T + 2)) (by omega) (by decide)) ?_
  rw [nI_clamp (show (T + 2) < 2 ^ 31 by omega)]
  iterate 3 refine hK _ _ _ _ ?_
  show K _ _ _ _
  rw [sUp_off (by decide), show m1 34 0 1 = nI (T + 2) from g1]
  iterate 2 refine hK _ _ _ _ ?_
  show K _ _ _ _
  rw [show nI (T + 2) + Int32.ofInt 1 = nI (T + 3) from nIs _]
  refine hK _ _ _ _ ?_
  show K _ _ _ (sUp (sUp m1 35 0 (T + 2) (pbB x 2)) 34 0 1 (nI (T + 3)))
  generalize hm2 : sUp (sUp m1 35 0 (T + 2) (pbB x 2)) 34 0 1 (nI (T + 3)) = m2
  have g2 : m2 34 0 1 = nI (T + 3) := by rw [← hm2, sUp_at]
  iterate 2 refine hK _ _ _ _ ?_
  show K _ [some (aR 34), some (aI x), some (aI (nI 0))] _ _
  iterate 2 refine hK _ _ _ _ ?_
  refine And.intro (fun h9 => absurd h9 (by decide)) (fun _ => ?_)
  iterate 4 refine hK _ _ _ _ ?_
  show K _ _ _ _
  rw [show m2 34 0 1 = nI (T + 3) from g2]
  iterate 5 refine hK _ _ _ _ ?_
  refine And.intro (vp_in_nI (n := (T + 3)) (by omega) (by decide)) ?_
  rw [nI_clamp (show (T + 3) < 2 ^ 31 by omega)]
  iterate 3 refine hK _ _ _ _ ?_
  show K _ _ _ _
  rw [sUp_off (by decide), show m2 34 0 1 = nI (T + 3) from g2]
  iterate 2 refine hK _ _ _ _ ?_
  show K _ _ _ _
  rw [show nI (T + 3) + Int32.ofInt 1 = nI (T + 4) from nIs _]
  refine hK _ _ _ _ ?_
  show K _ _ _ (sUp (sUp m2 35 0 (T + 3) (pbB x 3)) 34 0 1 (nI (T + 4)))
  generalize hm3 : sUp (sUp m2 35 0 (T + 3) (pbB x 3)) 34 0 1 (nI (T + 4)) = m3
  have g3 : m3 34 0 1 = nI (T + 4) := by rw [← hm3, sUp_at]
  iterate 2 refine hK _ _ _ _ ?_
  show K _ [some (aR 34), some (aI x), some (aI (-8))] _ _
  iterate 2 refine hK _ _ _ _ ?_
  refine And.intro (fun _ => ?_) (fun h9 => absurd (by decide) h9)
  refine hK _ _ _ _ ?_
  refine ⟨rfl, g3, fun i h1 h2 => ?_, fun k hk => ?_, fun k hk => ?_, fun j hj => ?_⟩
  · rw [← hm3, sUp_off h1, sUp_off h2, ← hm2, sUp_off h1, sUp_off h2, ← hm1, sUp_off h1, sUp_off h2, ← hm0, sUp_off h1, sUp_off h2]
  · rw [← hm3, sUp_k hk, sUp_off (by decide), ← hm2, sUp_k hk, sUp_off (by decide), ← hm1, sUp_k hk, sUp_off (by decide), ← hm0, sUp_k hk, sUp_off (by decide)]
  · rcases (show k = 0 ∨ k = 1 ∨ k = 2 ∨ k = 3 by omega) with rfl | rfl | rfl | rfl
    · rw [← hm3, sUp_off (by decide), sUp_k (by omega), ← hm2, sUp_off (by decide), sUp_k (by omega), ← hm1, sUp_off (by decide), sUp_k (by omega), ← hm0, sUp_off (by decide)]; exact sUp_at ..
    · rw [← hm3, sUp_off (by decide), sUp_k (by omega), ← hm2, sUp_off (by decide), sUp_k (by omega), ← hm1, sUp_off (by decide)]; exact sUp_at ..
    · rw [← hm3, sUp_off (by decide), sUp_k (by omega), ← hm2, sUp_off (by decide)]; exact sUp_at ..
    · rw [← hm3, sUp_off (by decide)]; exact sUp_at ..
  · rw [← hm3, sUp_off (by decide), sUp_k (by omega), ← hm2, sUp_off (by decide), sUp_k (by omega), ← hm1, sUp_off (by decide), sUp_k (by omega), ← hm0, sUp_off (by decide), sUp_k (by omega)]
theorem c8_feed_no (d : Nat) (σ : sMem) (T : Nat) (hT : T ≤ 600) (hT2 : 600 < T + 20) (e1 : σ 34 0 1 = nI T) (a b c e g : Int32) : sMet l D0 b0 ty lay d mX8_feed [aR 34, aI (a), aI (b), aI (c), aI (e), aI (g)] σ (fun r σ' => r = [aI (-1)] ∧ σ' = σ) := by
  refine sMet_intro lay_nd kX8_feed xX8_ok (by decide +kernel) rfl ?_
  intro K hK
  iterate 2 refine hK _ _ _ _ ?_
  show K _ _ _ _
  rw [show σ 34 0 1 = nI T from e1]
  iterate 4 refine hK _ _ _ _ ?_
  have hs : nI T + (Int8.ofInt 20).toInt32 = nI (T + 20) := nIa T 20
  refine And.intro (fun h9 => absurd ((nI_leI (a := T + 20) (b := 600) (by omega) (by decide)).mp (hs ▸ h9)) (by omega)) (fun _ => ?_)
  iterate 2 refine hK _ _ _ _ ?_
  exact ⟨rfl, rfl⟩
def PB5 (σ : sMem) (a b c e g : Int32) (T : Nat) (σ' : sMem) : Prop := ∃ m1 m2 m3 m4, PB σ a T m1 ∧ PB m1 b (T + 4) m2 ∧ PB m2 c (T + 8) m3 ∧ PB m3 e (T + 12) m4 ∧ PB m4 g (T + 16) σ'
theorem c8_feed_ok (d : Nat) (σ : sMem) (T : Nat) (hT : T + 20 ≤ 600) (e1 : σ 34 0 1 = nI T) (a b c e g : Int32) : sMet l D0 b0 ty lay (d + 1) mX8_feed [aR 34, aI (a), aI (b), aI (c), aI (e), aI (g)] σ (fun r σ' => r = [aI (nI (T + 20))] ∧ PB5 σ a b c e g T σ') := by
  refine sMet_intro lay_nd kX8_feed xX8_ok (by decide +kernel) rfl ?_
  intro K hK
  iterate 2 refine hK _ _ _ _ ?_
  show K _ _ _ _
  rw [show σ 34 0 1 = nI T from e1]
  iterate 4 refine hK _ _ _ _ ?_
  have hs : nI T + (Int8.ofInt 20).toInt32 = nI (T + 20) := nIa T 20
  refine And.intro (fun _ => ?_) (fun h9 => absurd (hs ▸ (nI_leI (a := T + 20) (b := 600) (by omega) (by decide)).mpr hT) h9)
  iterate 3 refine hK _ _ _ _ ?_
  refine calD (c8_putOnTape _ σ a (T + 0) (by omega) e1) ?_
  rintro r m1 ⟨rfl, h1⟩
  iterate 3 refine hK _ _ _ _ ?_
  refine calD (c8_putOnTape _ m1 b (T + 4) (by omega) h1.1) ?_
  rintro r m2 ⟨rfl, h2⟩
  iterate 3 refine hK _ _ _ _ ?_
  refine calD (c8_putOnTape _ m2 c (T + 8) (by omega) h2.1) ?_
  rintro r m3 ⟨rfl, h3⟩
  iterate 3 refine hK _ _ _ _ ?_
  refine calD (c8_putOnTape _ m3 e (T + 12) (by omega) h3.1) ?_
  rintro r m4 ⟨rfl, h4⟩
  iterate 3 refine hK _ _ _ _ ?_
  refine calD (c8_putOnTape _ m4 g (T + 16) (by omega) h4.1) ?_
  rintro r m5 ⟨rfl, h5⟩
  iterate 2 refine hK _ _ _ _ ?_
  show K _ _ _ _
  rw [show m5 34 0 1 = nI (T + 16 + 4) from h5.1]
  refine hK _ _ _ _ ?_
  exact ⟨rfl, m1, m2, m3, m4, h1, h2, h3, h4, h5⟩
end
