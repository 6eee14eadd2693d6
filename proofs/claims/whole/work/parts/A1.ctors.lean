/-! THE CONSTRUCTORS of the class and of the reference -/
def tX8_end : xCode := [(155, .aload_n 0, 1, 156, []), (156, .getfield 30, 3, 159, []), (159, .iconst (-1), 1, 160, []), (160, .invokestatic 91, 3, 163, []), (163, .aload_n 0, 1, 164, []), (164, .getfield 23, 3, 167, []), (167, .invokevirtual 97, 3, 170, []), (170, .aload_n 0, 1, 171, []), (171, .getfield 23, 3, 174, []), (174, .getfield 100, 3, 177, []), (177, .invokevirtual 104, 3, 180, []), (180, .return_, 1, 181, [])]
theorem kX8_end : xOK cX8_init tX8_end = true := by decide +kernel
def tX9_end : xCode := [(341, .aload_n 0, 1, 342, []), (342, .getfield 20, 3, 345, []), (345, .iconst 0, 1, 346, []), (346, .iconst 4, 1, 347, []), (347, .iastore, 1, 348, []), (348, .iconst 0, 1, 349, []), (349, .istore_n 1, 1, 350, []), (350, .iload_n 1, 1, 351, []), (351, .bipush 8, 2, 353, []), (353, .if_icmp .ge 16, 3, 356, [369]), (356, .aload_n 0, 1, 357, []), (357, .getfield 61, 3, 360, []), (360, .iload_n 1, 1, 361, []), (361, .iconst (-1), 1, 362, []), (362, .iastore, 1, 363, []), (363, .iinc 1 1, 3, 366, []), (366, .goto (-16), 3, 369, [350]), (369, .aload_n 0, 1, 370, []), (370, .invokevirtual 121, 3, 373, []), (373, .return_, 1, 374, [])]
theorem kX9_end : xOK cX9_init tX9_end = true := by decide +kernel
/-- what stands in the reading rows when a text's reading begins -/
def Z0 : sMem := p0M (fun _ _ _ => 0) 0
theorem Z0_at : (Z0 2 0 0 = nI 4 ∧ Z0 2 0 1 = nI 0 ∧ Z0 2 0 2 = nI 0 ∧ Z0 2 0 3 = nI 0 ∧ Z0 2 0 4 = nI 0 ∧ Z0 2 0 5 = nI 0) ∧ ∀ x, x < 12 → Z0 11 0 x = 0 := by
  obtain ⟨-, -, h2, h3⟩ := p0M_at (fun _ _ _ => 0) 0
  exact ⟨⟨h2 0 (by decide), h2 1 (by decide), h2 2 (by decide), h2 3 (by decide), h2 4 (by decide), h2 5 (by decide)⟩, h3⟩
theorem Z0_RVN : RVN Z0 4 0 0 0 0 := by
  obtain ⟨⟨a0, a1, a2, a3, a4, a5⟩, h⟩ := Z0_at
  exact ⟨⟨by decide, by decide, by decide, by decide, by decide, by decide⟩, ⟨a0, a1, a2, a3, a5, 0, a4, by decide⟩, fun p hp => absurd hp (Nat.not_lt_zero _), fun p hp => absurd hp (Nat.not_lt_zero _), fun p hp => absurd hp (Nat.not_lt_zero _), fun p hp => absurd hp (Nat.not_lt_zero _), fun x hx => ⟨0, h x hx, by decide⟩⟩
/-- the class's memory as its constructor leaves it, over its own layout -/
def po8 (σ : sMem) : Prop := TWF σ Z0 2 4 0 0 0 0 ∧ (∀ i, i < 2 ∨ 20 ≤ i → i ≠ 38 → σ i = σ80 i) ∧ ∀ k, k < 8 → σ 38 0 k = -1
/-- the reference's memory as its constructor leaves it -/
def po9 (σ : sMem) : Prop := ∃ Y : sMem, σ = lfM 4 0 Y ∧ (∀ i, i ≠ 3 → i ≠ 16 → Y i = σ90 i) ∧ Y 3 0 0 = nI 4 ∧ (∀ k, k ≠ 0 → Y 3 0 k = 0) ∧ ∀ x, x < 8 → Y 16 0 x = -1
section
variable {l : Launch} {D : va_G} {b0 : Nat} {ty : Nat → ClassId} {ad av : Nat → Nat}
theorem end8 (d : Nat) (K : Nat → List (Option AV) → List AV → sMem → Prop) (hK : ∀ pc E st σ, xw lay8 1 xX8 tX8_end none (tCal l D b0 ty ad av lay8 (d + 4)) none (fun _ σ => po8 σ) K pc E st σ → K pc E st σ) : K 155 [some (aR 0)] [] σ80 := by
  have e3 : σ80 0 0 3 = nI 2 := by decide +kernel
  generalize hσ : σ80 = σ at e3 ⊢
  iterate 4 refine hK _ _ _ _ ?_
  refine Or.inl (calD (cZ_fill38 _ σ _) ?_)
  rintro r μ ⟨rfl, h1⟩
  have hf1 : ∀ i, i ≠ 38 → μ i = σ i := fun i q => by rw [h1]; unfold flR; rw [sRow_off q]
  have hv1 : ∀ z, z < 8 → μ 38 0 z = -1 := fun z q => by rw [h1]; unfold flR; rw [sRow_at, if_pos q]; rfl
  have m3 : μ 0 0 3 = nI 2 := by rw [hf1 0 (by decide)]; exact e3
  clear h1
  iterate 2 refine hK _ _ _ _ ?_
  show K _ _ _ _
  rw [show μ 0 0 3 = nI 2 from m3]
  show K _ _ _ _
  rw [show (nI 2).toNatClampNeg = 2 from rfl]
  refine hK _ _ _ _ ?_
  refine Or.inl (calD (cz7_clear_2 _ μ Z0 Z0_at.1.1 Z0_at.1.2.1 Z0_at.1.2.2.1 Z0_at.1.2.2.2.1 Z0_at.1.2.2.2.2.1 Z0_at.1.2.2.2.2.2 Z0_at.2) ?_)
  rintro r ν ⟨rfl, hf2, hW⟩
  have n3 : ν 0 0 3 = nI 2 := by rw [hf2 0 (by decide)]; exact m3
  obtain ⟨hM4, hok⟩ := RM_of hW Z0_RVN
  have n30 : ν 3 0 0 = nI 4 := by have := hW.1.1; rw [Z0_at.1.1] at this; exact this
  iterate 2 refine hK _ _ _ _ ?_
  show K _ _ _ _
  rw [show ν 0 0 3 = nI 2 from n3]
  show K _ _ _ _
  rw [show (nI 2).toNatClampNeg = 2 from rfl]
  iterate 2 refine hK _ _ _ _ ?_
  refine Or.inr (yD0 (f6_findWays_z2 _ ν 4 (gN Z0 0) (by decide) n30 hM4 hok) ?_)
  rintro r κ ⟨rfl, hf3, hR, hS9⟩
  refine hK _ _ _ _ ?_
  show po8 κ
  refine ⟨⟨hW.cg2 (fun i h1 h2 h3 h4 => hf3 i h3 h4), Z0_RVN, hR, hS9⟩, fun i hi h38 => ?_, fun k hk => ?_⟩
  · rw [hf3 i (by omega) (by omega), hf2 i hi, hf1 i h38, hσ]
  · rw [hf3 38 (by decide) (by decide), hf2 38 (by decide)]; exact hv1 k hk
theorem end9 (d : Nat) (K : Nat → List (Option AV) → List AV → sMem → Prop) (hK : ∀ pc E st σ, xw lay9 2 xX9 tX9_end none (tCal l D b0 ty ad av lay9 (d + 4)) none (fun _ σ => po9 σ) K pc E st σ → K pc E st σ) : K 341 [some (aR 0), none] [] σ90 := by
  have z3 : ∀ k, σ90 3 0 k = 0 := fun k => rfl
  generalize hσ : σ90 = σ at z3 ⊢
  iterate 5 refine hK _ _ _ _ ?_
  refine And.intro (vp_in_nI (n := 0) (by decide) (by decide)) ?_
  rw [show (Int32.ofInt 0).toNatClampNeg = 0 from rfl]
  iterate 2 refine hK _ _ _ _ ?_
  have L350 : ∀ (f : Nat) (k : Nat) (μ : sMem), k + f = 8 → (∀ i, i ≠ 3 → i ≠ 16 → μ i = σ i) → μ 3 0 0 = nI 4 → (∀ k, k ≠ 0 → μ 3 0 k = 0) → (∀ x, x < k → μ 16 0 x = -1) → K 350 [some (aR 0), some (aI (nI k))] [] μ := by
    intro f
    induction f with
    | zero =>
      intro k μ hk hf h30 hk3 hd
      iterate 3 refine hK _ _ _ _ ?_
      refine And.intro (fun _ => ?_) (fun h9 => absurd ((nI_leI (a := 8) (by decide) (by omega)).mpr (by omega)) h9)
      iterate 2 refine hK _ _ _ _ ?_
      refine Or.inl (calD (cz9_layFar _ μ 4 0 (by decide) (by decide) (by decide) h30 (hk3 5 (by decide)) (fun k hk => absurd hk (Nat.not_lt_zero _))) ?_)
      rintro r σ' ⟨rfl, rfl⟩
      refine hK _ _ _ _ ?_
      show po9 (lfM 4 0 μ)
      exact ⟨μ, rfl, fun i h1 h2 => by rw [hσ]; exact hf i h1 h2, h30, hk3, fun x hx => hd x (by omega)⟩
    | succ f ih =>
      intro k μ hk hf h30 hk3 hd
      iterate 3 refine hK _ _ _ _ ?_
      refine And.intro (fun h9 => absurd ((nI_leI (a := 8) (by decide) (by omega)).mp h9) (by omega)) (fun _ => ?_)
      iterate 5 refine hK _ _ _ _ ?_
      refine And.intro (vp_in_nI (n := k) (by omega) (by decide)) ?_
      rw [nI_clamp (show k < 2 ^ 31 by omega)]
      refine hK _ _ _ _ ?_
      show K _ _ _ _
      rw [show nI k + Int32.ofInt 1 = nI (k + 1) from nIs _]
      refine hK _ _ _ _ ?_
      refine ih (k + 1) _ (by omega) (fun i h1 h2 => by rw [sUp_off h2]; exact hf i h1 h2) (by rw [sUp_off (by decide)]; exact h30) (fun j hj => by rw [sUp_off (by decide)]; exact hk3 j hj) (fun x hx => ?_)
      by_cases e : x = k
      · subst e; rw [sUp_at]; rfl
      · rw [sUp_k e]; exact hd x (by omega)
  refine L350 8 0 _ (by omega) (fun i h1 _ => sUp_off h1) ?_ (fun k hk => ?_) (fun x hx => absurd hx (Nat.not_lt_zero _))
  · rw [sUp_at]; rfl
  · rw [sUp_k hk]; exact z3 k
end
