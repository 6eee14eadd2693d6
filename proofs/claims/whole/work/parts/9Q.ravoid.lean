/-! THE REFERENCE: avoid -/
theorem shB_bits {B a b z : Nat} (hz : z < 12) : (B &&& (4095 ^^^ 2 ^ a) &&& (4095 ^^^ 2 ^ b)).testBit z = shB (fun z => B.testBit z) a b z := by
  unfold shB
  rw [Nat.testBit_and, Nat.testBit_and, Nat.testBit_xor, Nat.testBit_xor, Nat.testBit_two_pow, Nat.testBit_two_pow, show (4095 : Nat) = 2 ^ 12 - 1 from rfl, Nat.testBit_two_pow_sub_one, decide_eq_true hz]
  by_cases h1 : a = z <;> by_cases h2 : b = z
  · subst h1; subst h2; simp
  · subst h1; simp [h2, Ne.symm h2]
  · subst h2; simp [h1, Ne.symm h1]
  · simp [h1, h2, Ne.symm h1, Ne.symm h2]
theorem sh_and {B a b : Nat} (hB : B < 2 ^ 12) (ha : a < 12) (hb9 : b < 12) : nI B &&& (((Int32.ofInt 1 <<< (nI a &&& 31)) ^^^ Int32.ofInt (-1)) &&& ((Int32.ofInt 1 <<< (nI b &&& 31)) ^^^ Int32.ofInt (-1))) = nI (B &&& (4095 ^^^ 2 ^ a) &&& (4095 ^^^ 2 ^ b)) := by
  rw [← Int32.and_assoc]
  rw [show nI B &&& ((Int32.ofInt 1 <<< (nI a &&& 31)) ^^^ Int32.ofInt (-1)) = nI (B &&& (4095 ^^^ 2 ^ a)) from nI_andn hB ha]
  exact nI_andn (Nat.lt_of_le_of_lt Nat.and_le_left hB) hb9
def A1 (σ : sMem) (c : Nat → Nat) (N : Nat) : Prop := ∀ z, z < N → σ 101 0 z = nI (c z) ∧ c z ≤ 1000000
theorem av0_le (f z : Nat) : av0 f z ≤ 1000000 := by unfold av0; split <;> omega
section
variable {l : Launch} {D : va_G} {b0 : Nat} {ty : Nat → ClassId} {ad av : Nat → Nat}
theorem c9_avoid (d : Nat) (σ : sMem) (N P S G : Nat) (hI : MI σ N P S G) (x : Int32) : yMet l D b0 ty ad av lay (d + 2) 1 mX9_avoid [aR 0, aI x] σ (fun r σ' => ((0 ≤ x ∧ x ≤ nI P - 1) → r = [aI (avO σ N S x.toNatClampNeg)] ∧ σ' = sUp σ 0 0 0 0) ∧ (¬ (0 ≤ x ∧ x ≤ nI P - 1) → r = [aI 0] ∧ σ' = sUp σ 0 0 0 1)) (fun _ _ => False) := by
  refine aMet_intro kX9_avoid xX9_ok (by decide +kernel) (by decide +kernel) rfl (pn := 51) (by decide +kernel) ?_
  intro K K2 hK hK2 hB
  have hJ := hI.1
  have hN := hJ.1.1.1
  have hN2 := hJ.1.2.1
  have hP := hJ.1.2.2.2.1.2
  have hS := hJ.1.2.2.2.2.1.2
  have hm := MC_of hI
  iterate 3 refine hK _ _ _ _ ?_
  show K _ _ _ (sUp σ 0 0 0 0)
  have z0 : sUp σ 0 0 0 0 0 0 0 = 0 := sUp_at _ _ _ _ _
  have hzo : ∀ i, i ≠ 0 → sUp σ 0 0 0 0 i = σ i := fun i h => sUp_off h
  generalize hz : sUp σ 0 0 0 0 = z at z0 hzo ⊢
  have z1 : z 3 0 1 = nI P := by rw [hzo 3 (by decide)]; exact hJ.1.2.2.2.1.1
  iterate 4 refine hK _ _ _ _ ?_
  refine calD (c9_isPerson _ _ _) ?_
  rintro r σ' ⟨rfl, hσ⟩
  subst σ'
  show K 11 [some (aR 0), some (aI (x)), none, none, none, none, none, none, none] [aI (if (0 ≤ x ∧ x ≤ z 3 0 1 - 1) then 1 else 0), aR 0] z
  rw [show z 3 0 1 = nI P from z1]
  refine hK _ _ _ _ ?_
  refine And.intro (fun h00 => ?_) (fun h00 => ?_)
  · have hg0 : (0 ≤ x ∧ x ≤ nI P - 1) := ite_ne h00
    iterate 3 refine hK _ _ _ _ ?_
    refine calD (c9_bad0 _ _ _ z0) ?_
    rintro r σ' ⟨rfl, hσ⟩
    subst σ'
    show K 23 [some (aR 0), some (aI (x)), none, none, none, none, none, none, none] [aI (0)] z
    refine hK _ _ _ _ ?_
    refine And.intro (fun _ => ?_) (fun h => absurd rfl h)
    obtain ⟨p, rfl, hpP⟩ := in_nI (by omega) hg0
    obtain ⟨⟨f6, ha⟩, ⟨f7, hq⟩, -, -⟩ := hm.2.2.2.2.1 p hpP
    have q0 : z 6 p 0 = nI (pP σ p) := by rw [hzo 6 (by decide)]; exact f6
    have q1 : z 6 p 1 = nI (pQ σ p) := by rw [hzo 6 (by decide)]; exact f7
    have hst : ∀ x y, x < N → y < N → σ 13 x y = nI (stN σ x y) ∧ stN σ x y ≤ 1000000 := fun x y hx hy => ⟨(st_at hI.2.1 hx hy).1, by have := (st_at hI.2.1 hx hy).2; omega⟩
    have hav : avO σ N S p = if avK (stN σ) N (pP σ p) (avB σ S) N (pQ σ p) < 1000000 then nI (avK (stN σ) N (pP σ p) (avB σ S) N (pQ σ p)) else -1 := rfl
    have hq9 := avK_q (g := stN σ) (N := N) (f := pP σ p) (u := pQ σ p) (bl := avB σ S) (fun a b ha hb => by have := (st_at hI.2.1 ha hb).2; omega) hq N
    rw [← hq9.1] at hav
    have hsb : ∀ z, z < 12 → (blN σ S &&& (4095 ^^^ 2 ^ pP σ p) &&& (4095 ^^^ 2 ^ pQ σ p)).testBit z = shB (avB σ S) (pP σ p) (pQ σ p) z := fun z hz => shB_bits hz
    have hab : nI (blN σ S) &&& (((Int32.ofInt 1 <<< (nI (pP σ p) &&& 31)) ^^^ Int32.ofInt (-1)) &&& ((Int32.ofInt 1 <<< (nI (pQ σ p) &&& 31)) ^^^ Int32.ofInt (-1))) = nI (blN σ S &&& (4095 ^^^ 2 ^ pP σ p) &&& (4095 ^^^ 2 ^ pQ σ p)) := sh_and (blN_lt hm S (Nat.le_refl _)) (by omega) (by omega)
    have hp9 : (nI p).toNatClampNeg = p := nI_clamp (by omega)
    clear hq9
    generalize blN σ S &&& (4095 ^^^ 2 ^ pP σ p) &&& (4095 ^^^ 2 ^ pQ σ p) = B at hsb hab
    generalize avB σ S = bl at hav hsb
    generalize pP σ p = a at ha q0 hav hsb hab
    generalize pQ σ p = b at hq q1 hav hsb hab
    iterate 4 refine hK _ _ _ _ ?_
    refine And.intro (vp_in_nI (n := p) (by omega) (by decide)) ?_
    rw [nI_clamp (show p < 2 ^ 31 by omega)]
    iterate 2 refine hK _ _ _ _ ?_
    refine And.intro (by first | omega | (rw [nI_clamp (by omega)]; omega)) (And.intro (vp_in_nI (n := 0) (by decide) (by decide)) ?_)
    rw [show (Int32.ofInt 0).toNatClampNeg = 0 from rfl]
    rw [show z 6 p 0 = nI a from q0]
    iterate 5 refine hK _ _ _ _ ?_
    refine And.intro (vp_in_nI (n := p) (by omega) (by decide)) ?_
    rw [nI_clamp (show p < 2 ^ 31 by omega)]
    iterate 2 refine hK _ _ _ _ ?_
    refine And.intro (by first | omega | (rw [nI_clamp (by omega)]; omega)) (And.intro (vp_in_nI (n := 1) (by decide) (by decide)) ?_)
    rw [show (Int32.ofInt 1).toNatClampNeg = 1 from rfl]
    rw [show z 6 p 1 = nI b from q1]
    iterate 4 refine hK _ _ _ _ ?_
    refine hB [some (aR 0), some (aI (nI p)), some (aI (nI a)), some (aI (nI b)), some (aI 0), none, none, none, none] [] z ?_ ?_ ?_
    · intro v hv
      simp only [List.mem_cons, Option.some.injEq, reduceCtorEq, List.mem_nil_iff, List.not_mem_nil, or_false, false_or] at hv
      rcases hv with h | h | h | h | h <;> subst h
      · show (0 : Nat) ≠ 101; decide
      all_goals trivial
    · intro v hv; cases hv
    intro o
    have hf0 : ∀ i, i ≠ 101 → sRow (nz z) 101 0 (fun _ => 0) i = nz z i := fun i hi => sRow_off hi
    generalize sRow (nz z) 101 0 (fun _ => 0) = μ0 at hf0 ⊢
    have hn3 : nz z 3 = σ 3 := by rw [nz_row (fun _ => rfl)]; exact hzo 3 (by decide)
    have hn8 : nz z 8 = σ 8 := by rw [nz_row (fun _ => rfl)]; exact hzo 8 (by decide)
    have hn13 : nz z 13 = σ 13 := by rw [nz_row (fun _ => rfl)]; exact hzo 13 (by decide)
    have c0 : σ 3 0 0 = nI N := hJ.1.2.2.1
    have c2 : σ 3 0 2 = nI S := hJ.1.2.2.2.2.1.1
    iterate 3 refine hK2 _ _ _ _ _ ?_
    have L58 : ∀ (f : Nat) (k : Nat) (y : Int32), k + f = S → y = nI (blN σ k) → K2 o 58 [some (aR 0), some (aI (nI p)), some (aI (nI a)), some (aI (nI b)), some (aI (y)), some (aR 101), some (aI (nI k)), none, none] [] μ0 := by
      intro f
      induction f with
      | zero =>
        intro k y hk hy
        have n0 : μ0 3 0 0 = nI N := by rw [hf0 3 (by decide), hn3]; exact c0
        have n2 : μ0 3 0 2 = nI S := by rw [hf0 3 (by decide), hn3]; exact c2
        have ek : k = S := by omega
        rw [ek] at hy
        subst hy
        iterate 5 refine hK2 _ _ _ _ _ ?_
        refine And.intro (vp_in_nI (n := 2) (by decide) (by decide)) ?_
        rw [show (Int32.ofInt 2).toNatClampNeg = 2 from rfl]
        rw [show μ0 3 0 2 = nI S from n2]
        refine hK2 _ _ _ _ _ ?_
        refine And.intro (fun _ => ?_) (fun h9 => absurd ((nI_leI (by omega) (by omega)).mpr (by omega)) h9)
        iterate 13 refine hK2 _ _ _ _ _ ?_
        show K2 _ _ _ _ _
        rw [show nI (blN σ S) &&& (((Int32.ofInt 1 <<< (nI a &&& 31)) ^^^ Int32.ofInt (-1)) &&& ((Int32.ofInt 1 <<< (nI b &&& 31)) ^^^ Int32.ofInt (-1))) = nI B from hab]
        iterate 3 refine hK2 _ _ _ _ _ ?_
        have L110 : ∀ (f : Nat) (k : Nat) (μ : sMem), k + f = N → (∀ i, i ≠ 101 → μ i = nz z i) → A1 μ (av0 a) k → K2 o 110 [some (aR 0), some (aI (nI p)), some (aI (nI a)), some (aI (nI b)), some (aI (nI B)), some (aR 101), some (aI (nI k)), none, none] [] μ := by
          intro f
          induction f with
          | zero =>
            intro k μ hk hf hA
            have n0 : μ 3 0 0 = nI N := by rw [hf 3 (by decide), hn3]; exact c0
            have n2 : μ 3 0 2 = nI S := by rw [hf 3 (by decide), hn3]; exact c2
            iterate 5 refine hK2 _ _ _ _ _ ?_
            refine And.intro (vp_in_nI (n := 0) (by decide) (by decide)) ?_
            rw [show (Int32.ofInt 0).toNatClampNeg = 0 from rfl]
            rw [show μ 3 0 0 = nI N from n0]
            refine hK2 _ _ _ _ _ ?_
            refine And.intro (fun _ => ?_) (fun h9 => absurd ((nI_leI (by omega) (by omega)).mpr (by omega)) h9)
            iterate 2 refine hK2 _ _ _ _ _ ?_
            have L147 : ∀ (f : Nat) (k : Nat) (e7 e8 : Option AV) (μ : sMem), k + f = N → (∀ i, i ≠ 101 → μ i = nz z i) → A1 μ (rvK (stN σ) N a b bl k) N → K2 o 147 [some (aR 0), some (aI (nI p)), some (aI (nI a)), some (aI (nI b)), some (aI (nI B)), some (aR 101), some (aI (nI k)), e7, e8] [] μ := by
              intro f
              induction f with
              | zero =>
                intro k e7 e8 μ hk hf hA
                have n0 : μ 3 0 0 = nI N := by rw [hf 3 (by decide), hn3]; exact c0
                have n2 : μ 3 0 2 = nI S := by rw [hf 3 (by decide), hn3]; exact c2
                have ek : k = N := by omega
                rw [ek] at hA ⊢
                iterate 5 refine hK2 _ _ _ _ _ ?_
                refine And.intro (vp_in_nI (n := 0) (by decide) (by decide)) ?_
                rw [show (Int32.ofInt 0).toNatClampNeg = 0 from rfl]
                rw [show μ 3 0 0 = nI N from n0]
                refine hK2 _ _ _ _ _ ?_
                refine And.intro (fun _ => ?_) (fun h9 => absurd ((nI_leI (by omega) (by omega)).mpr (by omega)) h9)
                obtain ⟨kb, kl⟩ := hA b hq
                iterate 3 refine hK2 _ _ _ _ _ ?_
                refine And.intro (vp_in_nI (n := b) (by omega) (by decide)) ?_
                rw [nI_clamp (show b < 2 ^ 31 by omega)]
                rw [show μ 101 0 b = nI (rvK (stN σ) N a b bl N b) from kb]
                iterate 2 refine hK2 _ _ _ _ _ ?_
                
                refine And.intro (fun h8 => ?_) (fun h8 => ?_)
                · have g8 : ¬ rvK (stN σ) N a b bl N b < 1000000 := fun q => absurd ((nI_leI (a := 1000000) (by decide) (by omega)).mp h8) (by omega)
                  iterate 2 refine hK2 _ _ _ _ _ ?_
                  refine ⟨fun v hv => ?_, fun i k hd => ?_, z, hf, ?_⟩
                  · rw [List.mem_singleton.mp hv]; trivial
                  · by_cases e : i = 101
                    · subst e; rw [dy_101] at hd; cases hd
                    · rw [hf i e]; exact nz_ne i 0 k hd
                  refine ⟨fun _ => ?_, fun n => absurd hg0 n⟩
                  refine ⟨?_, hz.symm⟩
                  rw [hp9, hav]
                  rw [if_neg g8]; rfl
                · have g8 : rvK (stN σ) N a b bl N b < 1000000 := Decidable.byContradiction fun q => h8 ((nI_leI (a := 1000000) (by decide) (by omega)).mpr (by omega))
                  iterate 3 refine hK2 _ _ _ _ _ ?_
                  refine And.intro (vp_in_nI (n := b) (by omega) (by decide)) ?_
                  rw [nI_clamp (show b < 2 ^ 31 by omega)]
                  rw [show μ 101 0 b = nI (rvK (stN σ) N a b bl N b) from kb]
                  iterate 2 refine hK2 _ _ _ _ _ ?_
                  refine ⟨fun v hv => ?_, fun i k hd => ?_, z, hf, ?_⟩
                  · rw [List.mem_singleton.mp hv]; trivial
                  · by_cases e : i = 101
                    · subst e; rw [dy_101] at hd; cases hd
                    · rw [hf i e]; exact nz_ne i 0 k hd
                  refine ⟨fun _ => ?_, fun n => absurd hg0 n⟩
                  refine ⟨?_, hz.symm⟩
                  rw [hp9, hav]
                  rw [if_pos g8]
              | succ f ih =>
                intro k e7 e8 μ hk hf hA
                have n0 : μ 3 0 0 = nI N := by rw [hf 3 (by decide), hn3]; exact c0
                have n2 : μ 3 0 2 = nI S := by rw [hf 3 (by decide), hn3]; exact c2
                iterate 5 refine hK2 _ _ _ _ _ ?_
                refine And.intro (vp_in_nI (n := 0) (by decide) (by decide)) ?_
                rw [show (Int32.ofInt 0).toNatClampNeg = 0 from rfl]
                rw [show μ 3 0 0 = nI N from n0]
                refine hK2 _ _ _ _ _ ?_
                refine And.intro (fun h9 => absurd ((nI_leI (by omega) (by omega)).mp h9) (by omega)) (fun _ => ?_)
                iterate 2 refine hK2 _ _ _ _ _ ?_
                have L161 : ∀ (f2 : Nat) (x : Nat) (e8 : Option AV) (ν : sMem), x + f2 = N → (∀ i, i ≠ 101 → ν i = nz z i) → A1 ν (forG (rvA (stN σ) N a b bl) (rvK (stN σ) N a b bl k) x) N → K2 o 161 [some (aR 0), some (aI (nI p)), some (aI (nI a)), some (aI (nI b)), some (aI (nI B)), some (aR 101), some (aI (nI k)), some (aI (nI x)), e8] [] ν := by
                  intro f2
                  induction f2 with
                  | zero =>
                    intro x e8 ν hx hf2 hA2
                    have n0 : ν 3 0 0 = nI N := by rw [hf2 3 (by decide), hn3]; exact c0
                    have n2 : ν 3 0 2 = nI S := by rw [hf2 3 (by decide), hn3]; exact c2
                    iterate 5 refine hK2 _ _ _ _ _ ?_
                    refine And.intro (vp_in_nI (n := 0) (by decide) (by decide)) ?_
                    rw [show (Int32.ofInt 0).toNatClampNeg = 0 from rfl]
                    rw [show ν 3 0 0 = nI N from n0]
                    refine hK2 _ _ _ _ _ ?_
                    refine And.intro (fun _ => ?_) (fun h9 => absurd ((nI_leI (by omega) (by omega)).mpr (by omega)) h9)
                    refine hK2 _ _ _ _ _ ?_
                    show K2 _ _ _ _ _
                    rw [show nI k + Int32.ofInt 1 = nI (k + 1) from nIs _]
                    refine hK2 _ _ _ _ _ ?_
                    exact ih (k + 1) _ _ ν (by omega) hf2 (by rw [show x = N by omega] at hA2; exact hA2)
                  | succ f2 ih2 =>
                    intro x e8 ν hx hf2 hA2
                    have n0 : ν 3 0 0 = nI N := by rw [hf2 3 (by decide), hn3]; exact c0
                    have n2 : ν 3 0 2 = nI S := by rw [hf2 3 (by decide), hn3]; exact c2
                    have hs9 : forG (rvA (stN σ) N a b bl) (rvK (stN σ) N a b bl k) (x + 1) = forG (rvC (stN σ) a b bl x) (forG (rvA (stN σ) N a b bl) (rvK (stN σ) N a b bl k) x) N := rfl
                    generalize forG (rvA (stN σ) N a b bl) (rvK (stN σ) N a b bl k) x = c at hA2 hs9
                    have hxN : x < N := by omega
                    iterate 5 refine hK2 _ _ _ _ _ ?_
                    refine And.intro (vp_in_nI (n := 0) (by decide) (by decide)) ?_
                    rw [show (Int32.ofInt 0).toNatClampNeg = 0 from rfl]
                    rw [show ν 3 0 0 = nI N from n0]
                    refine hK2 _ _ _ _ _ ?_
                    refine And.intro (fun h9 => absurd ((nI_leI (by omega) (by omega)).mp h9) (by omega)) (fun _ => ?_)
                    iterate 2 refine hK2 _ _ _ _ _ ?_
                    have L175 : ∀ (f3 : Nat) (y : Nat) (κ : sMem), y + f3 = N → (∀ i, i ≠ 101 → κ i = nz z i) → A1 κ (forG (rvC (stN σ) a b bl x) c y) N → K2 o 175 [some (aR 0), some (aI (nI p)), some (aI (nI a)), some (aI (nI b)), some (aI (nI B)), some (aR 101), some (aI (nI k)), some (aI (nI x)), some (aI (nI y))] [] κ := by
                      intro f3
                      induction f3 with
                      | zero =>
                        intro y κ hy hf3 hA3
                        have n0 : κ 3 0 0 = nI N := by rw [hf3 3 (by decide), hn3]; exact c0
                        have n2 : κ 3 0 2 = nI S := by rw [hf3 3 (by decide), hn3]; exact c2
                        iterate 5 refine hK2 _ _ _ _ _ ?_
                        refine And.intro (vp_in_nI (n := 0) (by decide) (by decide)) ?_
                        rw [show (Int32.ofInt 0).toNatClampNeg = 0 from rfl]
                        rw [show κ 3 0 0 = nI N from n0]
                        refine hK2 _ _ _ _ _ ?_
                        refine And.intro (fun _ => ?_) (fun h9 => absurd ((nI_leI (by omega) (by omega)).mpr (by omega)) h9)
                        refine hK2 _ _ _ _ _ ?_
                        show K2 _ _ _ _ _
                        rw [show nI x + Int32.ofInt 1 = nI (x + 1) from nIs _]
                        refine hK2 _ _ _ _ _ ?_
                        exact ih2 (x + 1) _ κ (by omega) hf3 (by rw [hs9]; rw [show y = N by omega] at hA3; exact hA3)
                      | succ f3 ih3 =>
                        intro y κ hy hf3 hA3
                        have n0 : κ 3 0 0 = nI N := by rw [hf3 3 (by decide), hn3]; exact c0
                        have n2 : κ 3 0 2 = nI S := by rw [hf3 3 (by decide), hn3]; exact c2
                        have hs7 : forG (rvC (stN σ) a b bl x) c (y + 1) = rvC (stN σ) a b bl x y (forG (rvC (stN σ) a b bl x) c y) := rfl
                        generalize forG (rvC (stN σ) a b bl x) c y = c3 at hA3 hs7
                        have hyN : y < N := by omega
                        obtain ⟨vy, ly⟩ := hA3 y hyN
                        obtain ⟨vx3, lx3⟩ := hA3 x hxN
                        obtain ⟨s13, sl⟩ := hst x y hxN hyN
                        have k13 : κ 13 x y = nI (stN σ x y) := by rw [hf3 13 (by decide), hn13]; exact s13
                        have L279 : (shB bl a b x = true ∨ shB bl a b y = true ∨ stN σ x y = 1000000) → K2 o 279 [some (aR 0), some (aI (nI p)), some (aI (nI a)), some (aI (nI b)), some (aI (nI B)), some (aR 101), some (aI (nI k)), some (aI (nI x)), some (aI (nI y))] [] κ := by
                          intro hs
                          refine hK2 _ _ _ _ _ ?_
                          show K2 _ _ _ _ _
                          rw [show nI y + Int32.ofInt 1 = nI (y + 1) from nIs _]
                          refine hK2 _ _ _ _ _ ?_
                          exact ih3 (y + 1) κ (by omega) hf3 (by rw [hs7]; unfold rvC; rw [if_pos hs]; exact hA3)
                        have L278 : ∀ (v : Nat), ¬ (shB bl a b x = true ∨ shB bl a b y = true ∨ stN σ x y = 1000000) → v = (if c3 x + stN σ x y < c3 y then c3 x + stN σ x y else c3 y) → K2 o 278 [some (aR 0), some (aI (nI p)), some (aI (nI a)), some (aI (nI b)), some (aI (nI B)), some (aR 101), some (aI (nI k)), some (aI (nI x)), some (aI (nI y))] [aI (nI v), aI (nI y), aR 101] κ := by
                          intro v hs hv
                          refine hK2 _ _ _ _ _ ?_
                          refine And.intro (vp_in_nI (n := y) (by omega) (by decide)) ?_
                          rw [nI_clamp (show y < 2 ^ 31 by omega)]
                          refine hK2 _ _ _ _ _ ?_
                          show K2 _ _ _ _ _
                          rw [show nI y + Int32.ofInt 1 = nI (y + 1) from nIs _]
                          refine hK2 _ _ _ _ _ ?_
                          refine ih3 (y + 1) _ (by omega) (fun i hi => by rw [sUp_off hi]; exact hf3 i hi) (fun z hz => ?_)
                          rw [hs7]
                          unfold rvC
                          rw [if_neg hs, ← hv]
                          have hv9 : v ≤ 1000000 := by rw [hv]; split <;> omega
                          by_cases e : z = y
                          · subst e; rw [sUp_at, fu_at]; exact ⟨rfl, hv9⟩
                          · rw [sUp_k e, fu_ne e]; exact hA3 z hz
                        iterate 5 refine hK2 _ _ _ _ _ ?_
                        refine And.intro (vp_in_nI (n := 0) (by decide) (by decide)) ?_
                        rw [show (Int32.ofInt 0).toNatClampNeg = 0 from rfl]
                        rw [show κ 3 0 0 = nI N from n0]
                        refine hK2 _ _ _ _ _ ?_
                        refine And.intro (fun h9 => absurd ((nI_leI (by omega) (by omega)).mp h9) (by omega)) (fun _ => ?_)
                        iterate 7 refine hK2 _ _ _ _ _ ?_
                        refine And.intro (fun h8 => L279 (Or.inl ((hsb x (by omega)).symm.trans ((bit_one (by omega)).mp h8)))) (fun h8 => ?_)
                        iterate 7 refine hK2 _ _ _ _ _ ?_
                        refine And.intro (fun h7 => L279 (Or.inr (Or.inl ((hsb y (by omega)).symm.trans ((bit_one (by omega)).mp h7))))) (fun h7 => ?_)
                        iterate 4 refine hK2 _ _ _ _ _ ?_
                        refine And.intro (vp_in_nI (n := x) (by omega) (by decide)) ?_
                        rw [nI_clamp (show x < 2 ^ 31 by omega)]
                        iterate 2 refine hK2 _ _ _ _ _ ?_
                        refine And.intro (by first | omega | (rw [nI_clamp (by omega)]; omega)) (And.intro (vp_in_nI (n := y) (by omega) (by decide)) ?_)
                        rw [nI_clamp (show y < 2 ^ 31 by omega)]
                        rw [show κ 13 x y = nI (stN σ x y) from k13]
                        iterate 2 refine hK2 _ _ _ _ _ ?_
                        refine And.intro (fun h6 => ?_) (fun h6 => ?_)
                        · iterate 5 refine hK2 _ _ _ _ _ ?_
                          refine And.intro (vp_in_nI (n := x) (by omega) (by decide)) ?_
                          rw [nI_clamp (show x < 2 ^ 31 by omega)]
                          rw [show κ 101 0 x = nI (c3 x) from vx3]
                          iterate 4 refine hK2 _ _ _ _ _ ?_
                          refine And.intro (vp_in_nI (n := x) (by omega) (by decide)) ?_
                          rw [nI_clamp (show x < 2 ^ 31 by omega)]
                          iterate 2 refine hK2 _ _ _ _ _ ?_
                          refine And.intro (by first | omega | (rw [nI_clamp (by omega)]; omega)) (And.intro (vp_in_nI (n := y) (by omega) (by decide)) ?_)
                          rw [nI_clamp (show y < 2 ^ 31 by omega)]
                          rw [show κ 13 x y = nI (stN σ x y) from k13]
                          refine hK2 _ _ _ _ _ ?_
                          show K2 _ _ _ _ _
                          rw [nIa]
                          iterate 3 refine hK2 _ _ _ _ _ ?_
                          refine And.intro (vp_in_nI (n := y) (by omega) (by decide)) ?_
                          rw [nI_clamp (show y < 2 ^ 31 by omega)]
                          rw [show κ 101 0 y = nI (c3 y) from vy]
                          refine hK2 _ _ _ _ _ ?_
                          refine And.intro (fun h5 => ?_) (fun h5 => ?_)
                          · iterate 3 refine hK2 _ _ _ _ _ ?_
                            refine And.intro (vp_in_nI (n := y) (by omega) (by decide)) ?_
                            rw [nI_clamp (show y < 2 ^ 31 by omega)]
                            rw [show κ 101 0 y = nI (c3 y) from vy]
                            exact L278 (c3 y) (fun q => q.elim (fun q => h8 ((bit_one (by omega)).mpr ((hsb x (by omega)).trans q))) (fun q => q.elim (fun q => h7 ((bit_one (by omega)).mpr ((hsb y (by omega)).trans q))) (fun q => h6 (by rw [q]; rfl)))) (by rw [if_neg (fun q => absurd ((nI_leI (by omega) (by omega)).mp h5) (by omega))])
                          · iterate 3 refine hK2 _ _ _ _ _ ?_
                            refine And.intro (vp_in_nI (n := x) (by omega) (by decide)) ?_
                            rw [nI_clamp (show x < 2 ^ 31 by omega)]
                            rw [show κ 101 0 x = nI (c3 x) from vx3]
                            iterate 4 refine hK2 _ _ _ _ _ ?_
                            refine And.intro (vp_in_nI (n := x) (by omega) (by decide)) ?_
                            rw [nI_clamp (show x < 2 ^ 31 by omega)]
                            iterate 2 refine hK2 _ _ _ _ _ ?_
                            refine And.intro (by first | omega | (rw [nI_clamp (by omega)]; omega)) (And.intro (vp_in_nI (n := y) (by omega) (by decide)) ?_)
                            rw [nI_clamp (show y < 2 ^ 31 by omega)]
                            rw [show κ 13 x y = nI (stN σ x y) from k13]
                            refine hK2 _ _ _ _ _ ?_
                            show K2 _ _ _ _ _
                            rw [nIa]
                            refine hK2 _ _ _ _ _ ?_
                            exact L278 (c3 x + stN σ x y) (fun q => q.elim (fun q => h8 ((bit_one (by omega)).mpr ((hsb x (by omega)).trans q))) (fun q => q.elim (fun q => h7 ((bit_one (by omega)).mpr ((hsb y (by omega)).trans q))) (fun q => h6 (by rw [q]; rfl)))) (by rw [if_pos (Decidable.byContradiction fun q => h5 ((nI_leI (by omega) (by omega)).mpr (by omega)))])
                        · refine hK2 _ _ _ _ _ ?_
                          exact L279 (Or.inr (Or.inr ((nI_eq (b := 1000000) (by omega) (by decide)).mp h6)))
                    exact L175 N 0 ν (by omega) hf2 hA2
                exact L161 N 0 _ μ (by omega) hf hA
            exact L147 N 0 _ _ μ (by omega) hf (fun z hz => hA z (by omega))
          | succ f ih =>
            intro k μ hk hf hA
            have n0 : μ 3 0 0 = nI N := by rw [hf 3 (by decide), hn3]; exact c0
            have n2 : μ 3 0 2 = nI S := by rw [hf 3 (by decide), hn3]; exact c2
            iterate 5 refine hK2 _ _ _ _ _ ?_
            refine And.intro (vp_in_nI (n := 0) (by decide) (by decide)) ?_
            rw [show (Int32.ofInt 0).toNatClampNeg = 0 from rfl]
            rw [show μ 3 0 0 = nI N from n0]
            refine hK2 _ _ _ _ _ ?_
            refine And.intro (fun h9 => absurd ((nI_leI (by omega) (by omega)).mp h9) (by omega)) (fun _ => ?_)
            have L137 : ∀ (v : Nat), v = av0 a k → K2 o 137 [some (aR 0), some (aI (nI p)), some (aI (nI a)), some (aI (nI b)), some (aI (nI B)), some (aR 101), some (aI (nI k)), none, none] [aI (nI v), aI (nI k), aR 101] μ := by
              intro v hv
              refine hK2 _ _ _ _ _ ?_
              refine And.intro (vp_in_nI (n := k) (by omega) (by decide)) ?_
              rw [nI_clamp (show k < 2 ^ 31 by omega)]
              refine hK2 _ _ _ _ _ ?_
              show K2 _ _ _ _ _
              rw [show nI k + Int32.ofInt 1 = nI (k + 1) from nIs _]
              refine hK2 _ _ _ _ _ ?_
              refine ih (k + 1) _ (by omega) (fun i hi => by rw [sUp_off hi]; exact hf i hi) (fun z hz => ?_)
              by_cases e : z = k
              · subst e; rw [sUp_at, ← hv]; exact ⟨rfl, by rw [hv]; exact av0_le _ _⟩
              · rw [sUp_k e]; exact hA z (by omega)
            iterate 5 refine hK2 _ _ _ _ _ ?_
            refine And.intro (fun h7 => ?_) (fun h7 => ?_)
            · refine hK2 _ _ _ _ _ ?_
              exact L137 1000000 (by unfold av0; rw [if_neg (fun e => h7 (by rw [e]))])
            · iterate 2 refine hK2 _ _ _ _ _ ?_
              exact L137 0 (by unfold av0; rw [if_pos ((nI_eq (by omega) (by omega)).mp h7)])
        exact L110 N 0 μ0 (by omega) hf0 (fun z hz => absurd hz (Nat.not_lt_zero _))
      | succ f ih =>
        intro k y hk hy
        have n0 : μ0 3 0 0 = nI N := by rw [hf0 3 (by decide), hn3]; exact c0
        have n2 : μ0 3 0 2 = nI S := by rw [hf0 3 (by decide), hn3]; exact c2
        obtain ⟨⟨g8, hX⟩, -⟩ := hm.2.2.2.2.2 k (by omega)
        have g10 : μ0 8 k 0 = nI (sX σ k) := by rw [hf0 8 (by decide), hn8]; exact g8
        subst hy
        iterate 5 refine hK2 _ _ _ _ _ ?_
        refine And.intro (vp_in_nI (n := 2) (by decide) (by decide)) ?_
        rw [show (Int32.ofInt 2).toNatClampNeg = 2 from rfl]
        rw [show μ0 3 0 2 = nI S from n2]
        refine hK2 _ _ _ _ _ ?_
        refine And.intro (fun h9 => absurd ((nI_leI (by omega) (by omega)).mp h9) (by omega)) (fun _ => ?_)
        iterate 6 refine hK2 _ _ _ _ _ ?_
        refine And.intro (vp_in_nI (n := k) (by omega) (by decide)) ?_
        rw [nI_clamp (show k < 2 ^ 31 by omega)]
        iterate 2 refine hK2 _ _ _ _ _ ?_
        refine And.intro (by first | omega | (rw [nI_clamp (by omega)]; omega)) (And.intro (vp_in_nI (n := 0) (by decide) (by decide)) ?_)
        rw [show (Int32.ofInt 0).toNatClampNeg = 0 from rfl]
        rw [show μ0 8 k 0 = nI (sX σ k) from g10]
        iterate 4 refine hK2 _ _ _ _ _ ?_
        show K2 _ _ _ _ _
        rw [show nI k + Int32.ofInt 1 = nI (k + 1) from nIs _]
        refine hK2 _ _ _ _ _ ?_
        exact ih (k + 1) _ (by omega) (by exact nI_orp _ _ (by omega))
    exact L58 S 0 _ (by omega) rfl
  · have hn : ¬ (0 ≤ x ∧ x ≤ nI P - 1) := ite_eq h00
    iterate 4 refine hK _ _ _ _ ?_
    refine calD (c9_bad1 _ _ _ z0 (by decide)) ?_
    rintro r σ' ⟨rfl, rfl⟩
    show K 23 [some (aR 0), some (aI (x)), none, none, none, none, none, none, none] [aI (1)] (sUp z 0 0 0 1)
    refine hK _ _ _ _ ?_
    refine And.intro (fun h => absurd h (by decide)) (fun _ => ?_)
    iterate 2 refine hK _ _ _ _ ?_
    exact ⟨fun q0 => absurd q0 hn, fun _ => ⟨rfl, by rw [← hz, sUp_twice]; try rfl⟩⟩
end
