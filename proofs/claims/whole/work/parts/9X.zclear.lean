/-! .. clear -/
section
variable {l : Launch} {D0 : va_G} {b0 : Nat} {ty : Nat → ClassId} {ad av : Nat → Nat}
theorem cz6_clear_2 (d : Nat) (σ : sMem) : sMet l D0 b0 ty lay8 (d + 1) mX6_clear [aR 3] σ (fun r σ' => r = [] ∧ (∀ i, i ≠ 3 → i ≠ 4 → σ' i = σ i) ∧ σ' 3 0 0 = nI 4 ∧ σ' 3 0 1 = nI 0 ∧ ∀ a b, a < 12 → b < 12 → σ' 4 a b = 1000000) := by
  refine sMet_intro lay8_nd kX6_clear xX6_ok (by decide +kernel) rfl ?_
  intro K hK
  iterate 8 refine hK _ _ _ _ ?_
  have L12 : ∀ (f : Nat) (k : Nat) (μ : sMem), k + f = 12 → (∀ i, i ≠ 3 → i ≠ 4 → μ i = σ i) → μ 3 0 0 = nI 4 → μ 3 0 1 = nI 0 → (∀ a b, a < k → b < 12 → μ 4 a b = 1000000) → K 12 [some (aR 3), some (aI (nI k))] [] μ := by
    intro f
    induction f with
    | zero =>
      intro k μ hk hf h0 h1 hd
      iterate 3 refine hK _ _ _ _ ?_
      refine And.intro (fun _ => ?_) (fun h9 => absurd ((nI_leI (a := 12) (by decide) (by omega)).mpr (by omega)) h9)
      refine hK _ _ _ _ ?_
      exact ⟨rfl, hf, h0, h1, fun a b ha hb => hd a b (by omega) hb⟩
    | succ f ih =>
      intro k μ hk hf h0 h1 hd
      iterate 3 refine hK _ _ _ _ ?_
      refine And.intro (fun h9 => absurd ((nI_leI (a := 12) (by decide) (by omega)).mp h9) (by omega)) (fun _ => ?_)
      iterate 4 refine hK _ _ _ _ ?_
      refine And.intro (vp_in_nI (n := k) (by omega) (by decide)) ?_
      rw [nI_clamp (show k < 2 ^ 31 by omega)]
      iterate 2 refine hK _ _ _ _ ?_
      refine calD (cZ_fill4 _ _ k (by omega) _) ?_
      rintro r ν ⟨rfl, e1⟩
      show K 29 [some (aR 3), some (aI (nI k))] [] ν
      have hfν : ∀ i, i ≠ 4 → ν i = μ i := fun i q => by rw [e1]; unfold flR; rw [sRow_off q]
      have hrν : ∀ a, a ≠ k → ν 4 a = μ 4 a := fun a q => by rw [e1]; unfold flR; rw [sRow_ne q]
      have hvν : ∀ b, b < 12 → ν 4 k b = 1000000 := fun b q => by rw [e1]; unfold flR; rw [sRow_at, if_pos q]
      clear e1
      refine hK _ _ _ _ ?_
      show K _ _ _ _
      rw [show nI k + Int32.ofInt 1 = nI (k + 1) from nIs _]
      refine hK _ _ _ _ ?_
      refine ih (k + 1) ν (by omega) (fun i a b => (hfν i b).trans (hf i a b)) (by rw [hfν 3 (by decide)]; exact h0) (by rw [hfν 3 (by decide)]; exact h1) (fun a b ha hb => ?_)
      by_cases e : a = k
      · subst e; exact hvν b hb
      · rw [hrν a e]; exact hd a b (by omega) hb
  exact L12 12 0 _ (by omega) (fun i a b => by rw [sUp_off a, sUp_off a]) (by rw [sUp_k (by decide), sUp_at]; rfl) (by rw [sUp_at]; rfl) (fun a b ha _ => absurd ha (Nat.not_lt_zero _))
theorem cz7_clear_2 (d : Nat) (σ ρ : sMem) (e0 : ρ 2 0 0 = nI 4) (e1 : ρ 2 0 1 = nI 0) (e2 : ρ 2 0 2 = nI 0) (e3 : ρ 2 0 3 = nI 0) (e4 : ρ 2 0 4 = nI 0) (e5 : ρ 2 0 5 = nI 0) (ex : ∀ x, x < 12 → ρ 11 0 x = 0) : sMet l D0 b0 ty lay8 (d + 2) mX7_clear [aR 2] σ (fun r σ' => r = [] ∧ (∀ i, i < 2 ∨ 20 ≤ i → σ' i = σ i) ∧ TWR σ' ρ 2) := by
  refine sMet_intro lay8_nd kX7_clear xX7_ok (by decide +kernel) rfl ?_
  intro K hK
  iterate 3 refine hK _ _ _ _ ?_
  refine calD (cz6_clear_2 _ _) ?_
  rintro r μ ⟨rfl, hf, h0, h1, hn⟩
  show K 7 [some (aR 2)] [] μ
  iterate 13 refine hK _ _ _ _ ?_
  refine calD (cZ_fill19 _ _ _) ?_
  rintro r ν ⟨rfl, eν⟩
  show K 30 [some (aR 2)] [] ν
  have hfν : ∀ i, i ≠ 19 → ν i = (sUp (sUp (sUp μ 2 0 1 (Int32.ofInt 0)) 2 0 7 (Int32.ofInt 0)) 2 0 13 (Int32.ofInt 0)) i := fun i q => by rw [eν]; unfold flR; rw [sRow_off q]
  have hvν : ∀ x, x < 12 → ν 19 0 x = 0 := fun x q => by rw [eν]; unfold flR; rw [sRow_at, if_pos q]; rfl
  clear eν
  iterate 4 refine hK _ _ _ _ ?_
  have r1 : rc ρ 1 = 0 := rc_at e1 (by decide)
  have r2 : rc ρ 2 = 0 := rc_at e2 (by decide)
  have r3 : rc ρ 3 = 0 := rc_at e3 (by decide)
  have r5 : rc ρ 5 = 0 := rc_at e5 (by decide)
  refine ⟨rfl, fun i hi => ?_, ⟨?_, ?_, ?_, ?_, ?_, ?_⟩, fun a b ha hb => ?_, ?_, ?_, ?_, fun x hx => ?_⟩
  · rw [sUp_off (by omega), hfν i (by omega), sUp_off (by omega), sUp_off (by omega), sUp_off (by omega)]; exact hf i (by omega) (by omega)
  · show sUp ν 2 0 17 (Int32.ofInt 0) 3 0 0 = _
    rw [sUp_off (by decide), hfν 3 (by decide), sUp_off (by decide), sUp_off (by decide), sUp_off (by decide), e0]; exact h0
  · show sUp ν 2 0 17 (Int32.ofInt 0) 3 0 1 = _
    rw [sUp_off (by decide), hfν 3 (by decide), sUp_off (by decide), sUp_off (by decide), sUp_off (by decide), e5]; exact h1
  · rw [sUp_k (by decide), hfν 2 (by decide), sUp_k (by decide), sUp_k (by decide), sUp_at, e1]; rfl
  · rw [sUp_k (by decide), hfν 2 (by decide), sUp_k (by decide), sUp_at, e2]; rfl
  · rw [sUp_k (by decide), hfν 2 (by decide), sUp_at, e3]; rfl
  · rw [sUp_at, e4]; rfl
  · show sUp ν 2 0 17 (Int32.ofInt 0) 4 a b = _
    rw [r5, sUp_off (by decide), hfν 4 (by decide), sUp_off (by decide), sUp_off (by decide), sUp_off (by decide)]; exact hn a b ha hb
  · rw [r1]; exact fun _ q => absurd q (Nat.not_lt_zero _)
  · rw [r2]; exact fun _ q => absurd q (Nat.not_lt_zero _)
  · rw [r3]; exact fun _ q => absurd q (Nat.not_lt_zero _)
  · show sUp ν 2 0 17 (Int32.ofInt 0) 19 0 x = _
    rw [sUp_off (by decide), ex x hx]; exact hvν x hx
end
