/-! THE REFERENCE: hand -/
theorem fN_cg {t u : sMem} (h14 : u 14 = t 14) : fN u = fN t := by
  funext a b
  unfold fN
  rw [h14]
theorem nxN_cg {t u : sMem} (h15 : u 15 = t 15) : nxN u = nxN t := by
  funext a q
  unfold nxN
  rw [h15]
theorem pth_cg {t u : sMem} (h14 : u 14 = t 14) (h15 : u 15 = t 15) : pth u = pth t := by
  funext q k
  induction k with
  | zero => rfl
  | succ k ih =>
    funext s
    show pth u q k (st1 u q s) = pth t q k (st1 t q s)
    rw [ih]
    unfold st1
    rw [fN_cg h14, nxN_cg h15]
theorem plN_cg {t u : sMem} (h15 : u 15 = t 15) : plN u = plN t := by
  funext q f
  induction f with
  | zero => rfl
  | succ f ih =>
    funext a
    show (if a = q then 0 else plN u q f (nxN u a q) + 1) = (if a = q then 0 else plN t q f (nxN t a q) + 1)
    rw [ih, nxN_cg h15]
theorem pl_cg {t u : sMem} (h15 : u 15 = t 15) : pl u = pl t := by
  funext q a
  unfold pl
  rw [plN_cg h15]
theorem hd1_cg {t u : sMem} (h6 : u 6 = t 6) (h14 : u 14 = t 14) (h15 : u 15 = t 15) : hd1 u = hd1 t := by
  funext P y R x m U l p o
  unfold hd1 hcQ hdZ wayQ psQ losA pP pQ pT pV
  rw [fN_cg h14, pth_cg h14 h15, pl_cg h15, h6]
theorem hdN_cg {t u : sMem} (h6 : u 6 = t 6) (h14 : u 14 = t 14) (h15 : u 15 = t 15) (P y n : Nat) : hdN u P y n = hdN t P y n := by
  induction n with
  | zero => rfl
  | succ n ih =>
    funext x m U l o
    show (∃ p, hd1 u P y (hdN u P y n) x m U l p o) = ∃ p, hd1 t P y (hdN t P y n) x m U l p o
    rw [ih, hd1_cg h6 h14 h15]
section
variable {l : Launch} {D : va_G} {b0 : Nat} {ty : Nat → ClassId}
theorem c9_handsU (d : Nat) (t : sMem) (N P S y : Nat) (hm : MC t N P S) (hy : y < N) (n : Nat) (hn : n ≤ 2) (σ : sMem) (x m : Nat) (hH : HRr σ t N P S) (hx : x < N) (hxy : x ≠ y) (hm3 : m ≤ 3000) (hE : hER σ none) : sMet l D b0 ty lay (d + 3) mX9_hands [aR 0, aI (nI y), aI (nI x), aI (nI m), aI (nI 0), aI (nI n), aI (nI 0)] σ (fun r σ' => r = [] ∧ HG σ σ' ∧ ∃ B', LU none (hdN t P y (n + 1) x m 0 0) B' ∧ hER σ' B' ∧ hOK B') := by
  rcases (show n = 0 ∨ n = 1 ∨ n = 2 by omega) with rfl | rfl | rfl
  · exact c9_hands t N P S y (d + 2) hm hy 0 hn σ x m 0 0 none hH hx hxy hm3 (by decide) (by decide) hE (fun b hb => by cases hb)
  · exact c9_hands t N P S y (d + 1) hm hy 1 hn σ x m 0 0 none hH hx hxy hm3 (by decide) (by decide) hE (fun b hb => by cases hb)
  · exact c9_hands t N P S y d hm hy 2 hn σ x m 0 0 none hH hx hxy hm3 (by decide) (by decide) hE (fun b hb => by cases hb)
theorem c9_hand (d : Nat) (σ : sMem) (N P S G : Nat) (hJ : MJ σ N P S G) (x n w : Int32) (hm : MC σ N P S) (h28 : σ 0 0 28 = -1) : sMet l D b0 ty lay (d + 5) mX9_hand [aR 0, aI (x), aI (n), aI (w)] σ (fun r σ' => ((0 ≤ x ∧ x ≤ nI S - 1) → ((0 ≤ n ∧ n ≤ 2) ∧ (0 ≤ w ∧ w ≤ 1)) → KP G (sUp σ 0 0 0 0) σ' ∧ ∃ B, LU none (hdN σ P (sY σ x.toNatClampNeg) (n.toNatClampNeg + 1) (sX σ x.toNatClampNeg) (sT σ x.toNatClampNeg) 0 0) B ∧ r = [aI (if w = 0 then haA B 0 else haA B 1)]) ∧ (¬ (0 ≤ x ∧ x ≤ nI S - 1) → r = [aI 0] ∧ σ' = sUp σ 0 0 0 1) ∧ ((0 ≤ x ∧ x ≤ nI S - 1) → ¬ ((0 ≤ n ∧ n ≤ 2) ∧ (0 ≤ w ∧ w ≤ 1)) → r = [aI 0] ∧ σ' = sUp σ 0 0 0 2)) := by
  refine sMet_intro lay_nd kX9_hand xX9_ok (by decide +kernel) rfl ?_
  intro K hK
  have hN := hJ.1.1.1
  have hN2 := hJ.1.2.1
  have hP := hJ.1.2.2.2.1.2
  have hS := hJ.1.2.2.2.2.1.2
  have hG4 := hJ.2.2.2.2.2
  iterate 3 refine hK _ _ _ _ ?_
  show K _ _ _ (sUp σ 0 0 0 0)
  have hJz := hJ.z0 0 0
  have z0 : sUp σ 0 0 0 0 0 0 0 = 0 := sUp_at _ _ _ _ _
  generalize hz : sUp σ 0 0 0 0 = z at hJz z0 ⊢
  iterate 4 refine hK _ _ _ _ ?_
  refine calD (c9_isStranger _ _ _) ?_
  rintro r σ' ⟨rfl, hσ⟩
  subst σ'
  show K 11 [some (aR 0), some (aI (x)), some (aI (n)), some (aI (w))] [aI (if (0 ≤ x ∧ x ≤ z 3 0 2 - 1) then 1 else 0), aR 0] z
  rw [show z 3 0 2 = nI S from hJz.1.2.2.2.2.1.1]
  refine hK _ _ _ _ ?_
  refine And.intro (fun h00 => ?_) (fun h00 => ?_)
  · have hg0 : (0 ≤ x ∧ x ≤ nI S - 1) := ite_ne h00
    iterate 3 refine hK _ _ _ _ ?_
    refine calD (c9_bad0 _ _ _ z0) ?_
    rintro r σ' ⟨rfl, hσ⟩
    subst σ'
    show K 23 [some (aR 0), some (aI (x)), some (aI (n)), some (aI (w))] [aI (0)] z
    refine hK _ _ _ _ ?_
    refine And.intro (fun h => absurd rfl h) (fun _ => ?_)
    iterate 5 refine hK _ _ _ _ ?_
    refine calD (c9_in _ _ _ _ _) ?_
    rintro r σ' ⟨rfl, hσ⟩
    subst σ'
    show K 33 [some (aR 0), some (aI (x)), some (aI (n)), some (aI (w))] [aI (if (0 ≤ n ∧ n ≤ 2) then 1 else 0), aR 0] z
    refine hK _ _ _ _ ?_
    refine And.intro (fun h10 => ?_) (fun h10 => ?_)
    · have hn : ¬ ((0 ≤ n ∧ n ≤ 2) ∧ (0 ≤ w ∧ w ≤ 1)) := fun q => ite_eq h10 q.1
      iterate 4 refine hK _ _ _ _ ?_
      refine calD (c9_bad1 _ _ _ z0 (by decide)) ?_
      rintro r σ' ⟨rfl, rfl⟩
      show K 54 [some (aR 0), some (aI (x)), some (aI (n)), some (aI (w))] [aI (1)] (sUp z 0 0 0 2)
      refine hK _ _ _ _ ?_
      refine And.intro (fun h => absurd h (by decide)) (fun _ => ?_)
      iterate 2 refine hK _ _ _ _ ?_
      exact ⟨fun q0 q1 => absurd q1 hn, fun n => absurd hg0 n, fun _ _ => ⟨rfl, by rw [← hz, sUp_twice]; try rfl⟩⟩
    · iterate 4 refine hK _ _ _ _ ?_
      refine calD (c9_in _ _ _ _ _) ?_
      rintro r σ' ⟨rfl, hσ⟩
      subst σ'
      show K 42 [some (aR 0), some (aI (x)), some (aI (n)), some (aI (w))] [aI (if (0 ≤ w ∧ w ≤ 1) then 1 else 0), aR 0] z
      refine hK _ _ _ _ ?_
      refine And.intro (fun h11 => ?_) (fun h11 => ?_)
      · have hg1 : ((0 ≤ n ∧ n ≤ 2) ∧ (0 ≤ w ∧ w ≤ 1)) := ⟨ite_ne h10, ite_ne h11⟩
        iterate 3 refine hK _ _ _ _ ?_
        refine calD (c9_bad0 _ _ _ z0) ?_
        rintro r σ' ⟨rfl, hσ⟩
        subst σ'
        show K 54 [some (aR 0), some (aI (x)), some (aI (n)), some (aI (w))] [aI (0)] z
        refine hK _ _ _ _ ?_
        refine And.intro (fun _ => ?_) (fun h => absurd rfl h)
        obtain ⟨a, haS, rfl⟩ := inN hg0 (by omega)
        obtain ⟨k, hk3, rfl⟩ : ∃ k : Nat, k < 3 ∧ n = nI k := inN (N := 3) hg1.1 (by decide)
        rw [nI_clamp (show a < 2 ^ 31 by omega), nI_clamp (show k < 2 ^ 31 by omega)] at hK
        iterate 3 refine hK _ _ _ _ ?_
        show K _ _ _ (sUp z 0 0 26 (Int32.ofInt 0))
        have hz1 : ∀ i, i ≠ 0 → sUp z 0 0 26 (Int32.ofInt 0) i = σ i := fun i hi => by rw [sUp_off hi, ← hz, sUp_off hi]
        have hKP1 : KP G z (sUp z 0 0 26 (Int32.ofInt 0)) := KP.z0 z 26 _ (Or.inl rfl)
        have z26 : sUp z 0 0 26 (Int32.ofInt 0) 0 0 26 = nI 0 := sUp_at _ _ _ _ _
        have z28 : sUp z 0 0 26 (Int32.ofInt 0) 0 0 28 = -1 := by rw [sUp_k (by decide), ← hz, sUp_k (by decide)]; exact h28
        generalize sUp z 0 0 26 (Int32.ofInt 0) = u at hz1 hKP1 z26 z28 ⊢
        have hmu : MC u N P S := hm.cg (fun i hi => hz1 i (by omega))
        have hJu : MJ u N P S G := hKP1.MJ hJz
        obtain ⟨⟨gx, hX⟩, ⟨gy, hY⟩, ⟨gt, hT5⟩, hne⟩ := hm.2.2.2.2.2 a haS
        have hRA := (be_RA (c := u) (t := u) (G := 0) hmu ⟨fun _ _ => rfl, fun _ _ h _ => absurd h (Nat.not_lt_zero _), fun _ _ => rfl⟩).1
        have hKP2 := beM_KP G u P 0 S
        iterate 2 refine hK _ _ _ _ ?_
        refine calD (c9_begins _ u N P S 0 hJu.1 z26 (by decide)) ?_
        rintro r σ' ⟨rfl, rfl⟩
        show K 68 [some (aR 0), some (aI (nI a)), some (aI (nI k)), some (aI (w))] [] (beM u P 0 S)
        have hgp : gpQ (beM u P 0 S) u P := fun p hp => by
          obtain ⟨r1, r2⟩ := hRA.2.1 p hp
          have hou : ouP u p = decide (fN u (pP u p) (pQ u p) < 1000000) := by
            unfold ouP
            rw [z28, decide_eq_false (nI_ne (show p < 2 ^ 31 by omega))]
            rfl
          constructor
          · intro hf
            obtain ⟨q1, q2, -, q4, -⟩ := r1 (by rw [hou]; exact decide_eq_true hf)
            exact ⟨q1, q2, q4⟩
          · intro hf
            exact (r2 (by rw [hou]; exact decide_eq_false hf)).1
        have hb1 : ∀ i, i = 3 ∨ i = 6 ∨ i = 8 ∨ i = 13 ∨ i = 14 ∨ i = 15 → beM u P 0 S i = u i := fun i hi => hKP2.1 i (by omega) (by omega) (by omega)
        have hKP3 := hKP1.trans hKP2
        generalize beM u P 0 S = b at hgp hb1 hKP3 ⊢
        have b80 : b 8 a 0 = nI (sX σ a) := by rw [hb1 8 (by decide), hz1 8 (by decide)]; exact gx
        have b81 : b 8 a 1 = nI (sY σ a) := by rw [hb1 8 (by decide), hz1 8 (by decide)]; exact gy
        have b82 : b 8 a 2 = nI (sT σ a) := by rw [hb1 8 (by decide), hz1 8 (by decide)]; exact gt
        iterate 11 refine hK _ _ _ _ ?_
        refine And.intro (vp_in_nI (n := a) (by omega) (by decide)) ?_
        rw [nI_clamp (show a < 2 ^ 31 by omega)]
        iterate 2 refine hK _ _ _ _ ?_
        refine And.intro (by first | omega | (rw [nI_clamp (by omega)]; omega)) (And.intro (vp_in_nI (n := 1) (by decide) (by decide)) ?_)
        rw [show (Int32.ofInt 1).toNatClampNeg = 1 from rfl]
        rw [sUp_off (by decide), sUp_off (by decide), show b 8 a 1 = nI (sY σ a) from b81]
        iterate 4 refine hK _ _ _ _ ?_
        refine And.intro (vp_in_nI (n := a) (by omega) (by decide)) ?_
        rw [nI_clamp (show a < 2 ^ 31 by omega)]
        iterate 2 refine hK _ _ _ _ ?_
        refine And.intro (by first | omega | (rw [nI_clamp (by omega)]; omega)) (And.intro (vp_in_nI (n := 0) (by decide) (by decide)) ?_)
        rw [show (Int32.ofInt 0).toNatClampNeg = 0 from rfl]
        rw [sUp_off (by decide), sUp_off (by decide), show b 8 a 0 = nI (sX σ a) from b80]
        iterate 4 refine hK _ _ _ _ ?_
        refine And.intro (vp_in_nI (n := a) (by omega) (by decide)) ?_
        rw [nI_clamp (show a < 2 ^ 31 by omega)]
        iterate 2 refine hK _ _ _ _ ?_
        refine And.intro (by first | omega | (rw [nI_clamp (by omega)]; omega)) (And.intro (vp_in_nI (n := 2) (by decide) (by decide)) ?_)
        rw [show (Int32.ofInt 2).toNatClampNeg = 2 from rfl]
        rw [sUp_off (by decide), sUp_off (by decide), show b 8 a 2 = nI (sT σ a) from b82]
        iterate 4 refine hK _ _ _ _ ?_
        have hHG : HG b (sUp (sUp b 0 0 50 (Int32.ofInt (-1))) 0 0 51 (Int32.ofInt (-1))) := ⟨fun i hi => by rw [sUp_off hi, sUp_off hi], fun k h1 h2 => by rw [sUp_k h2, sUp_k h1]⟩
        have hTb : TD b N P S := hJu.1.congr (hb1 3 (by decide)) (hb1 6 (by decide)) (hb1 8 (by decide)) (hb1 13 (by decide)) (hb1 14 (by decide)) (hb1 15 (by decide))
        have hHR : HRr b u N P S := ⟨hTb, hb1 6 (by decide), hb1 14 (by decide), hb1 15 (by decide), hgp⟩
        have hEn : hER (sUp (sUp b 0 0 50 (Int32.ofInt (-1))) 0 0 51 (Int32.ofInt (-1))) none := ⟨by rw [sUp_k (by decide), sUp_at]; rfl, by rw [sUp_at]; rfl⟩
        refine calD (c9_handsU _ u N P S (sY σ a) hmu hY k (by omega) (sUp (sUp b 0 0 50 (Int32.ofInt (-1))) 0 0 51 (Int32.ofInt (-1))) (sX σ a) (sT σ a) (hHR.cg hHG) hX hne (by omega) hEn) ?_
        rintro r q ⟨rfl, hHq, B, hL, hE9, hO9⟩
        show K 109 [some (aR 0), some (aI (nI a)), some (aI (nI k)), some (aI (w))] [] q
        rw [hdN_cg (hz1 6 (by decide)) (hz1 14 (by decide)) (hz1 15 (by decide))] at hL
        have hKq : KP G z q := hKP3.trans (KP.of (fun i h1 _ => (hHG.tr hHq).1 i h1) (fun k _ _ _ h4 => (hHG.tr hHq).2 k (by omega) (by omega)))
        rcases B with _ | bb
        · obtain ⟨e3, e4⟩ := hE9
          iterate 2 refine hK _ _ _ _ ?_
          refine And.intro (fun h8 => ?_) (fun h8 => ?_)
          · have hw0 : ¬ w = 0 := h8
            iterate 2 refine hK _ _ _ _ ?_
            show K _ _ _ _
            rw [show q 0 0 51 = -1 from e4]
            refine hK _ _ _ _ ?_
            refine ⟨fun _ _ => ?_, fun n => absurd hg0 n, fun _ n => absurd hg1 n⟩
            exact ⟨by rw [hz]; exact hKq, none, hL, by rw [if_neg hw0]; rfl⟩
          · have hw0 : w = 0 := h8
            iterate 2 refine hK _ _ _ _ ?_
            show K _ _ _ _
            rw [show q 0 0 50 = -1 from e3]
            iterate 2 refine hK _ _ _ _ ?_
            refine ⟨fun _ _ => ?_, fun n => absurd hg0 n, fun _ n => absurd hg1 n⟩
            exact ⟨by rw [hz]; exact hKq, none, hL, by rw [if_pos hw0]; rfl⟩
        · obtain ⟨e3, e4⟩ := hE9
          iterate 2 refine hK _ _ _ _ ?_
          refine And.intro (fun h8 => ?_) (fun h8 => ?_)
          · have hw0 : ¬ w = 0 := h8
            iterate 2 refine hK _ _ _ _ ?_
            show K _ _ _ _
            rw [show q 0 0 51 = nI bb.2 from e4]
            refine hK _ _ _ _ ?_
            refine ⟨fun _ _ => ?_, fun n => absurd hg0 n, fun _ n => absurd hg1 n⟩
            exact ⟨by rw [hz]; exact hKq, some bb, hL, by rw [if_neg hw0]; rfl⟩
          · have hw0 : w = 0 := h8
            iterate 2 refine hK _ _ _ _ ?_
            show K _ _ _ _
            rw [show q 0 0 50 = nI bb.1 from e3]
            iterate 2 refine hK _ _ _ _ ?_
            refine ⟨fun _ _ => ?_, fun n => absurd hg0 n, fun _ n => absurd hg1 n⟩
            exact ⟨by rw [hz]; exact hKq, some bb, hL, by rw [if_pos hw0]; rfl⟩
      · have hn : ¬ ((0 ≤ n ∧ n ≤ 2) ∧ (0 ≤ w ∧ w ≤ 1)) := fun q => ite_eq h11 q.2
        iterate 4 refine hK _ _ _ _ ?_
        refine calD (c9_bad1 _ _ _ z0 (by decide)) ?_
        rintro r σ' ⟨rfl, rfl⟩
        show K 54 [some (aR 0), some (aI (x)), some (aI (n)), some (aI (w))] [aI (1)] (sUp z 0 0 0 2)
        refine hK _ _ _ _ ?_
        refine And.intro (fun h => absurd h (by decide)) (fun _ => ?_)
        iterate 2 refine hK _ _ _ _ ?_
        exact ⟨fun q0 q1 => absurd q1 hn, fun n => absurd hg0 n, fun _ _ => ⟨rfl, by rw [← hz, sUp_twice]; try rfl⟩⟩
  · have hn : ¬ (0 ≤ x ∧ x ≤ nI S - 1) := ite_eq h00
    iterate 4 refine hK _ _ _ _ ?_
    refine calD (c9_bad1 _ _ _ z0 (by decide)) ?_
    rintro r σ' ⟨rfl, rfl⟩
    show K 23 [some (aR 0), some (aI (x)), some (aI (n)), some (aI (w))] [aI (1)] (sUp z 0 0 0 1)
    refine hK _ _ _ _ ?_
    refine And.intro (fun _ => ?_) (fun h => absurd h (by decide))
    iterate 2 refine hK _ _ _ _ ?_
    exact ⟨fun q0 q1 => absurd q0 hn, fun _ => ⟨rfl, by rw [← hz, sUp_twice]; try rfl⟩, fun q0 _ => absurd q0 hn⟩
end
