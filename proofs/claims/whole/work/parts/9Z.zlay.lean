/-! THE REFERENCE ALONE: layFar over its own layout -/
section
variable {l : Launch} {D : va_G} {b0 : Nat} {ty : Nat → ClassId}
theorem cz9_layFar (d : Nat) (σ : sMem) (N P : Nat) (hN0 : 1 ≤ N) (hN : N ≤ 12) (hP : P ≤ 20) (h30 : σ 3 0 0 = nI N) (h35 : σ 3 0 5 = nI P) (hst : ∀ k, k < P → ∃ a b : Nat, σ 4 k 0 = nI a ∧ a < N ∧ σ 4 k 1 = nI b ∧ b < N) : sMet l D b0 ty lay9 d mX9_layFar [aR 0] σ (fun r σ' => r = [] ∧ σ' = lfM N P σ) := by
  refine sMet_intro lay9_nd kX9_layFar xX9_ok (by decide +kernel) rfl ?_
  intro K hK
  have L336 : ∀ (s : sMem), lfE N s = lfM N P σ → ∀ k, k ≤ N → ∀ e3 e4 e5, K 336 [some (aR 0), some (aI (nI N)), some (aI (nI k)), e3, e4, e5] [] (forM (fun a s => forM (lf5 N a) s N) s k) := by
    intro s hs
    refine kDown ?_ ?_
    · intro e3 e4 e5
      iterate 3 refine hK _ _ _ _ ?_
      refine And.intro (fun _ => ?_) (fun h => absurd (Int32.le_refl _) h)
      refine hK _ _ _ _ ?_
      exact ⟨rfl, hs⟩
    · intro a ha ih e3 e4 e5
      iterate 3 refine hK _ _ _ _ ?_
      refine And.intro (fun h => absurd h (nI_ge ha (by omega))) (fun _ => ?_)
      iterate 2 refine hK _ _ _ _ ?_
      show K 343 [some (aR 0), some (aI (nI N)), some (aI (nI a)), some (aI (nI 0)), e4, e5] [] _
      have ih' : ∀ e4 e5, K 336 [some (aR 0), some (aI (nI N)), some (aI (nI (a + 1))), some (aI (nI N)), e4, e5] [] (forM (lf5 N a) (forM (fun a s => forM (lf5 N a) s N) s a) N) := fun e4 e5 => ih _ e4 e5
      clear ih
      generalize forM (fun a s => forM (lf5 N a) s N) s a = s at ih'
      have key : ∀ b, b ≤ N → ∀ e4 e5, K 343 [some (aR 0), some (aI (nI N)), some (aI (nI a)), some (aI (nI b)), e4, e5] [] (forM (lf5 N a) s b) := by
        refine kDown ?_ ?_
        · intro e4 e5
          iterate 3 refine hK _ _ _ _ ?_
          refine And.intro (fun _ => ?_) (fun h => absurd (Int32.le_refl _) h)
          refine hK _ _ _ _ ?_
          show K _ _ _ _
          rw [nIs]
          refine hK _ _ _ _ ?_
          exact ih' e4 e5
        · intro b hb ihb e4 e5
          iterate 3 refine hK _ _ _ _ ?_
          refine And.intro (fun h => absurd h (nI_ge hb (by omega))) (fun _ => ?_)
          have ihb' : ∀ e4 e5, K 343 [some (aR 0), some (aI (nI N)), some (aI (nI a)), some (aI (nI (b + 1))), e4, e5] [] (lf5 N a b (forM (lf5 N a) s b)) := ihb
          clear ihb
          generalize forM (lf5 N a) s b = s at ihb'
          iterate 4 refine hK _ _ _ _ ?_
          refine And.intro (vp_in_nI (by omega) (by decide)) ?_
          iterate 3 refine hK _ _ _ _ ?_
          refine And.intro (by first | omega | (rw [nI_clamp (by omega)]; omega)) (And.intro (vp_in_nI (by omega) (by decide)) ?_)
          rw [nI_clamp (by omega), nI_clamp (by omega)]
          show K _ _ _ (sUp s 15 a b (-1))
          iterate 4 refine hK _ _ _ _ ?_
          have out : ∀ (c : Int32) (t : sMem), lf5 N a b s = t → K 445 [some (aR 0), some (aI (nI N)), some (aI (nI a)), some (aI (nI b)), some (aI c), e5] [] t := by
            intro c t ht
            refine hK _ _ _ _ ?_
            show K _ _ _ _
            rw [nIs, ← ht]
            refine hK _ _ _ _ ?_
            exact ihb' _ _
          show K 362 [some (aR 0), some (aI (nI N)), some (aI (nI a)), some (aI (nI b)), some (aI (nI N - 1)), e5] [] _
          have e14 : ∀ s' : sMem, s' 13 = s 13 → s' 14 = s 14 → ∀ k, k ≤ N → (¬ a = b ∧ s 14 a b < 1000000 → dnM (lf5c a b) k s' = lf5 N a b s) → (¬ (¬ a = b ∧ s 14 a b < 1000000) → s' = lf5 N a b s) → K 362 [some (aR 0), some (aI (nI N)), some (aI (nI a)), some (aI (nI b)), some (aI (nI k - 1)), e5] [] s' := by
            intro s' e13 e14 k
            induction k generalizing s' with
            | zero =>
              intro hk h1 h2
              iterate 2 refine hK _ _ _ _ ?_
              refine And.intro (fun _ => ?_) (fun h => absurd (by decide) h)
              refine out _ _ ?_
              by_cases hq : ¬ a = b ∧ s 14 a b < 1000000
              · exact (h1 hq).symm
              · exact (h2 hq).symm
            | succ c ihc =>
              intro hk h1 h2
              rw [nI_pred]
              iterate 2 refine hK _ _ _ _ ?_
              refine And.intro (fun h => absurd h (nI_pos (by omega))) (fun _ => ?_)
              iterate 3 refine hK _ _ _ _ ?_
              refine And.intro (fun h => ?_) (fun h => ?_)
              · have hab : a = b := (nI_eq (by omega) (by omega)).mp h
                exact out _ _ (h2 (fun q => q.1 hab)).symm
              · have hab : ¬ a = b := fun q => h (by rw [q])
                iterate 4 refine hK _ _ _ _ ?_
                refine And.intro (vp_in_nI (by omega) (by decide)) ?_
                iterate 2 refine hK _ _ _ _ ?_
                refine And.intro (by first | omega | (rw [nI_clamp (by omega)]; omega)) (And.intro (vp_in_nI (by omega) (by decide)) ?_)
                iterate 2 refine hK _ _ _ _ ?_
                rw [nI_clamp (by omega), nI_clamp (by omega), e14]
                refine And.intro (fun h => ?_) (fun h => ?_)
                · have hf : ¬ s 14 a b < 1000000 := Int32.not_lt.mpr h
                  exact out _ _ (h2 (fun q => hf q.2)).symm
                · have hf : s 14 a b < 1000000 := Int32.not_le.mp h
                  have h1' := h1 ⟨hab, hf⟩
                  have e0 : nI c + Int32.ofInt (-1) = nI c - 1 := by rw [Int32.sub_eq_add_neg]; rfl
                  have stay : lf5c a b c s' = s' → K 439 [some (aR 0), some (aI (nI N)), some (aI (nI a)), some (aI (nI b)), some (aI (nI c)), e5] [] s' := by
                    intro hs'
                    refine hK _ _ _ _ ?_
                    show K _ _ _ _
                    rw [e0]
                    refine hK _ _ _ _ ?_
                    refine ihc s' e13 e14 (by omega) (fun _ => ?_) (fun q => absurd ⟨hab, hf⟩ q)
                    rw [← h1']
                    show _ = dnM (lf5c a b) c (lf5c a b c s')
                    rw [hs']
                  iterate 4 refine hK _ _ _ _ ?_
                  refine And.intro (vp_in_nI (by omega) (by decide)) ?_
                  iterate 2 refine hK _ _ _ _ ?_
                  refine And.intro (by first | omega | (rw [nI_clamp (by omega)]; omega)) (And.intro (vp_in_nI (by omega) (by decide)) ?_)
                  iterate 2 refine hK _ _ _ _ ?_
                  rw [nI_clamp (by omega), nI_clamp (by omega)]
                  refine And.intro (fun h => ?_) (fun h => ?_)
                  · refine stay ?_
                    unfold lf5c
                    rw [if_neg (fun q => Int32.not_lt.mpr h q.1)]
                  · have hq1 : s' 13 a c < 1000000 := Int32.not_le.mp h
                    iterate 4 refine hK _ _ _ _ ?_
                    refine And.intro (vp_in_nI (by omega) (by decide)) ?_
                    iterate 2 refine hK _ _ _ _ ?_
                    refine And.intro (by first | omega | (rw [nI_clamp (by omega)]; omega)) (And.intro (vp_in_nI (by omega) (by decide)) ?_)
                    iterate 4 refine hK _ _ _ _ ?_
                    refine And.intro (vp_in_nI (by omega) (by decide)) ?_
                    iterate 2 refine hK _ _ _ _ ?_
                    refine And.intro (by first | omega | (rw [nI_clamp (by omega)]; omega)) (And.intro (vp_in_nI (by omega) (by decide)) ?_)
                    iterate 5 refine hK _ _ _ _ ?_
                    refine And.intro (vp_in_nI (by omega) (by decide)) ?_
                    iterate 2 refine hK _ _ _ _ ?_
                    refine And.intro (by first | omega | (rw [nI_clamp (by omega)]; omega)) (And.intro (vp_in_nI (by omega) (by decide)) ?_)
                    refine hK _ _ _ _ ?_
                    rw [nI_clamp (by omega), nI_clamp (by omega), nI_clamp (by omega)]
                    refine And.intro (fun h => ?_) (fun h => ?_)
                    · refine stay ?_
                      unfold lf5c
                      rw [if_neg (fun q => h q.2)]
                    · have hq2 : s' 13 a c + s' 14 c b = s' 14 a b := h
                      iterate 4 refine hK _ _ _ _ ?_
                      refine And.intro (vp_in_nI (by omega) (by decide)) ?_
                      iterate 3 refine hK _ _ _ _ ?_
                      refine And.intro (by first | omega | (rw [nI_clamp (by omega)]; omega)) (And.intro (vp_in_nI (by omega) (by decide)) ?_)
                      rw [nI_clamp (by omega), nI_clamp (by omega)]
                      refine hK _ _ _ _ ?_
                      show K _ _ _ _
                      rw [e0]
                      refine hK _ _ _ _ ?_
                      refine ihc (sUp s' 15 a b (nI c)) (by rw [sUp_off (by decide)]; exact e13) (by rw [sUp_off (by decide)]; exact e14) (by omega) (fun _ => ?_) (fun q => absurd ⟨hab, hf⟩ q)
                      rw [← h1']
                      show _ = dnM (lf5c a b) c (lf5c a b c s')
                      have : lf5c a b c s' = sUp s' 15 a b (nI c) := by
                        unfold lf5c
                        rw [if_pos ⟨hq1, hq2⟩]
                      rw [this]
          refine e14 _ (sUp_off (by decide)) (sUp_off (by decide)) N (Nat.le_refl _) (fun q => ?_) (fun q => ?_)
          · unfold lf5
            rw [if_pos q]
          · unfold lf5
            rw [if_neg q]
      exact key 0 (Nat.zero_le _) _ _
  have L238 : ∀ (s : sMem), lfE N (lfD N s) = lfM N P σ → ∀ k, k ≤ N → ∀ e3 e4 e5, K 238 [some (aR 0), some (aI (nI N)), some (aI (nI k)), e3, e4, e5] [] (forM (fun m s => forM (fun a s => forM (lf4 m a) s N) s N) s k) := by
    intro s hs
    refine kDown ?_ ?_
    · intro e3 e4 e5
      iterate 3 refine hK _ _ _ _ ?_
      refine And.intro (fun _ => ?_) (fun h => absurd (Int32.le_refl _) h)
      iterate 2 refine hK _ _ _ _ ?_
      exact L336 _ hs 0 (Nat.zero_le _) e3 e4 e5
    · intro m hm ih e3 e4 e5
      iterate 3 refine hK _ _ _ _ ?_
      refine And.intro (fun h => absurd h (nI_ge hm (by omega))) (fun _ => ?_)
      iterate 2 refine hK _ _ _ _ ?_
      show K 245 [some (aR 0), some (aI (nI N)), some (aI (nI m)), some (aI (nI 0)), e4, e5] [] _
      have ih' : ∀ e3 e4 e5, K 238 [some (aR 0), some (aI (nI N)), some (aI (nI (m + 1))), e3, e4, e5] [] (forM (fun a s => forM (lf4 m a) s N) (forM (fun m s => forM (fun a s => forM (lf4 m a) s N) s N) s m) N) := ih
      clear ih
      generalize forM (fun m s => forM (fun a s => forM (lf4 m a) s N) s N) s m = s at ih'
      have key : ∀ a, a ≤ N → ∀ e4 e5, K 245 [some (aR 0), some (aI (nI N)), some (aI (nI m)), some (aI (nI a)), e4, e5] [] (forM (fun a s => forM (lf4 m a) s N) s a) := by
        refine kDown ?_ ?_
        · intro e4 e5
          iterate 3 refine hK _ _ _ _ ?_
          refine And.intro (fun _ => ?_) (fun h => absurd (Int32.le_refl _) h)
          refine hK _ _ _ _ ?_
          show K _ _ _ _
          rw [nIs]
          refine hK _ _ _ _ ?_
          exact ih' _ e4 e5
        · intro a ha iha e4 e5
          iterate 3 refine hK _ _ _ _ ?_
          refine And.intro (fun h => absurd h (nI_ge ha (by omega))) (fun _ => ?_)
          iterate 2 refine hK _ _ _ _ ?_
          have iha' : ∀ e4 e5, K 245 [some (aR 0), some (aI (nI N)), some (aI (nI m)), some (aI (nI (a + 1))), e4, e5] [] (forM (lf4 m a) (forM (fun a s => forM (lf4 m a) s N) s a) N) := iha
          clear iha
          generalize forM (fun a s => forM (lf4 m a) s N) s a = s at iha'
          show K 253 [some (aR 0), some (aI (nI N)), some (aI (nI m)), some (aI (nI a)), some (aI (nI 0)), e5] [] s
          have keyb : ∀ b, b ≤ N → ∀ e5, K 253 [some (aR 0), some (aI (nI N)), some (aI (nI m)), some (aI (nI a)), some (aI (nI b)), e5] [] (forM (lf4 m a) s b) := by
            refine kDown ?_ ?_
            · intro e5
              iterate 3 refine hK _ _ _ _ ?_
              refine And.intro (fun _ => ?_) (fun h => absurd (Int32.le_refl _) h)
              refine hK _ _ _ _ ?_
              show K _ _ _ _
              rw [nIs]
              refine hK _ _ _ _ ?_
              exact iha' _ e5
            · intro b hb ihb e5
              iterate 3 refine hK _ _ _ _ ?_
              refine And.intro (fun h => absurd h (nI_ge hb (by omega))) (fun _ => ?_)
              have ihb' : ∀ e5, K 253 [some (aR 0), some (aI (nI N)), some (aI (nI m)), some (aI (nI a)), some (aI (nI (b + 1))), e5] [] (lf4 m a b (forM (lf4 m a) s b)) := ihb
              clear ihb
              generalize forM (lf4 m a) s b = s at ihb'
              iterate 4 refine hK _ _ _ _ ?_
              refine And.intro (vp_in_nI (by omega) (by decide)) ?_
              iterate 2 refine hK _ _ _ _ ?_
              refine And.intro (by first | omega | (rw [nI_clamp (by omega)]; omega)) (And.intro (vp_in_nI (by omega) (by decide)) ?_)
              iterate 4 refine hK _ _ _ _ ?_
              refine And.intro (vp_in_nI (by omega) (by decide)) ?_
              iterate 2 refine hK _ _ _ _ ?_
              refine And.intro (by first | omega | (rw [nI_clamp (by omega)]; omega)) (And.intro (vp_in_nI (by omega) (by decide)) ?_)
              iterate 5 refine hK _ _ _ _ ?_
              refine And.intro (vp_in_nI (by omega) (by decide)) ?_
              iterate 2 refine hK _ _ _ _ ?_
              refine And.intro (by first | omega | (rw [nI_clamp (by omega)]; omega)) (And.intro (vp_in_nI (by omega) (by decide)) ?_)
              refine hK _ _ _ _ ?_
              rw [nI_clamp (by omega), nI_clamp (by omega), nI_clamp (by omega)]
              refine And.intro (fun h => ?_) (fun h => ?_)
              · refine hK _ _ _ _ ?_
                show K _ _ _ _
                rw [nIs]
                refine hK _ _ _ _ ?_
                have := ihb' e5
                unfold lf4 at this
                rw [if_neg (Int32.not_lt.mpr h)] at this
                exact this
              · have hq := Int32.not_le.mp h
                iterate 4 refine hK _ _ _ _ ?_
                refine And.intro (vp_in_nI (by omega) (by decide)) ?_
                iterate 5 refine hK _ _ _ _ ?_
                refine And.intro (vp_in_nI (by omega) (by decide)) ?_
                iterate 2 refine hK _ _ _ _ ?_
                refine And.intro (by first | omega | (rw [nI_clamp (by omega)]; omega)) (And.intro (vp_in_nI (by omega) (by decide)) ?_)
                iterate 4 refine hK _ _ _ _ ?_
                refine And.intro (vp_in_nI (by omega) (by decide)) ?_
                iterate 2 refine hK _ _ _ _ ?_
                refine And.intro (by first | omega | (rw [nI_clamp (by omega)]; omega)) (And.intro (vp_in_nI (by omega) (by decide)) ?_)
                iterate 2 refine hK _ _ _ _ ?_
                refine And.intro (by first | omega | (rw [nI_clamp (by omega)]; omega)) (And.intro (vp_in_nI (by omega) (by decide)) ?_)
                rw [nI_clamp (by omega), nI_clamp (by omega), nI_clamp (by omega)]
                refine hK _ _ _ _ ?_
                show K _ _ _ _
                rw [nIs]
                refine hK _ _ _ _ ?_
                have := ihb' e5
                unfold lf4 at this
                rw [if_pos hq] at this
                exact this
          exact keyb 0 (Nat.zero_le _) _
      exact key 0 (Nat.zero_le _) _ _
  have L166 : ∀ (s : sMem), lfE N (lfD N (lfC N s)) = lfM N P σ → ∀ k, k ≤ N → ∀ e3 e4 e5, K 166 [some (aR 0), some (aI (nI N)), some (aI (nI k)), e3, e4, e5] [] (forM (fun a s => forM (lf3 a) s N) s k) := by
    intro s hs
    refine kDown ?_ ?_
    · intro e3 e4 e5
      iterate 3 refine hK _ _ _ _ ?_
      refine And.intro (fun _ => ?_) (fun h => absurd (Int32.le_refl _) h)
      iterate 2 refine hK _ _ _ _ ?_
      exact L238 _ hs 0 (Nat.zero_le _) e3 e4 e5
    · intro a ha ih e3 e4 e5
      iterate 3 refine hK _ _ _ _ ?_
      refine And.intro (fun h => absurd h (nI_ge ha (by omega))) (fun _ => ?_)
      iterate 2 refine hK _ _ _ _ ?_
      show K 173 [some (aR 0), some (aI (nI N)), some (aI (nI a)), some (aI (nI 0)), e4, e5] [] _
      have ih' : ∀ e3 e4 e5, K 166 [some (aR 0), some (aI (nI N)), some (aI (nI (a + 1))), e3, e4, e5] [] (forM (lf3 a) (forM (fun a s => forM (lf3 a) s N) s a) N) := ih
      clear ih
      generalize forM (fun a s => forM (lf3 a) s N) s a = s at ih'
      have key : ∀ b, b ≤ N → ∀ e4 e5, K 173 [some (aR 0), some (aI (nI N)), some (aI (nI a)), some (aI (nI b)), e4, e5] [] (forM (lf3 a) s b) := by
        refine kDown ?_ ?_
        · intro e4 e5
          iterate 3 refine hK _ _ _ _ ?_
          refine And.intro (fun _ => ?_) (fun h => absurd (Int32.le_refl _) h)
          refine hK _ _ _ _ ?_
          show K _ _ _ _
          rw [nIs]
          refine hK _ _ _ _ ?_
          exact ih' _ e4 e5
        · intro b hb ihb e4 e5
          iterate 3 refine hK _ _ _ _ ?_
          refine And.intro (fun h => absurd h (nI_ge hb (by omega))) (fun _ => ?_)
          have ihb' : ∀ e4 e5, K 173 [some (aR 0), some (aI (nI N)), some (aI (nI a)), some (aI (nI (b + 1))), e4, e5] [] (lf3 a b (forM (lf3 a) s b)) := ihb
          clear ihb
          generalize forM (lf3 a) s b = s at ihb'
          iterate 4 refine hK _ _ _ _ ?_
          refine And.intro (vp_in_nI (by omega) (by decide)) ?_
          iterate 5 refine hK _ _ _ _ ?_
          refine And.intro (vp_in_nI (by omega) (by decide)) ?_
          iterate 2 refine hK _ _ _ _ ?_
          refine And.intro (by first | omega | (rw [nI_clamp (by omega)]; omega)) (And.intro (vp_in_nI (by omega) (by decide)) ?_)
          iterate 4 refine hK _ _ _ _ ?_
          refine And.intro (vp_in_nI (by omega) (by decide)) ?_
          iterate 2 refine hK _ _ _ _ ?_
          refine And.intro (by first | omega | (rw [nI_clamp (by omega)]; omega)) (And.intro (vp_in_nI (by omega) (by decide)) ?_)
          refine hK _ _ _ _ ?_
          rw [nI_clamp (by omega), nI_clamp (by omega)]
          refine And.intro (fun h => ?_) (fun h => ?_)
          · have hq := Int32.not_lt.mpr h
            iterate 4 refine hK _ _ _ _ ?_
            refine And.intro (vp_in_nI (by omega) (by decide)) ?_
            iterate 2 refine hK _ _ _ _ ?_
            refine And.intro (by first | omega | (rw [nI_clamp (by omega)]; omega)) (And.intro (vp_in_nI (by omega) (by decide)) ?_)
            iterate 1 refine hK _ _ _ _ ?_
            refine And.intro (by first | omega | (rw [nI_clamp (by omega)]; omega)) (And.intro (vp_in_nI (by omega) (by decide)) ?_)
            rw [nI_clamp (by omega), nI_clamp (by omega)]
            refine hK _ _ _ _ ?_
            show K _ _ _ _
            rw [nIs]
            refine hK _ _ _ _ ?_
            have := ihb' e4 e5
            unfold lf3 at this
            rw [if_neg hq] at this
            exact this
          · have hq := Int32.not_le.mp h
            iterate 4 refine hK _ _ _ _ ?_
            refine And.intro (vp_in_nI (by omega) (by decide)) ?_
            iterate 2 refine hK _ _ _ _ ?_
            refine And.intro (by first | omega | (rw [nI_clamp (by omega)]; omega)) (And.intro (vp_in_nI (by omega) (by decide)) ?_)
            iterate 2 refine hK _ _ _ _ ?_
            refine And.intro (by first | omega | (rw [nI_clamp (by omega)]; omega)) (And.intro (vp_in_nI (by omega) (by decide)) ?_)
            rw [nI_clamp (by omega), nI_clamp (by omega)]
            refine hK _ _ _ _ ?_
            show K _ _ _ _
            rw [nIs]
            refine hK _ _ _ _ ?_
            have := ihb' e4 e5
            unfold lf3 at this
            rw [if_pos hq] at this
            exact this
      exact key 0 (Nat.zero_le _) _ _
  have L64 : ∀ (s : sMem), lfQ σ s → lfE N (lfD N (lfC N (lfB P s))) = lfM N P σ → ∀ k, k ≤ P → ∀ e3 e4 e5, K 64 [some (aR 0), some (aI (nI N)), some (aI (nI k)), e3, e4, e5] [] (forM lf2 s k) := by
    intro s hQ hs
    have hQk : ∀ k, lfQ σ (forM lf2 s k) := fun k => lfB_Q k hQ
    refine kDown ?_ ?_
    · intro e3 e4 e5
      iterate 5 refine hK _ _ _ _ ?_
      refine And.intro (vp_in_nI (n := 5) (by decide) (by decide)) ?_
      refine hK _ _ _ _ ?_
      rw [(hQk P).1]
      refine And.intro (fun _ => ?_) (fun h => absurd (by show σ 3 0 5 ≤ nI P; rw [h35]; exact Int32.le_refl _) h)
      iterate 2 refine hK _ _ _ _ ?_
      exact L166 _ hs 0 (Nat.zero_le _) e3 e4 e5
    · intro k hk ih e3 e4 e5
      iterate 5 refine hK _ _ _ _ ?_
      refine And.intro (vp_in_nI (n := 5) (by decide) (by decide)) ?_
      refine hK _ _ _ _ ?_
      rw [(hQk k).1]
      refine And.intro (fun h => absurd (show nI P ≤ nI k by rw [← h35]; exact h) (nI_ge hk (by omega))) (fun _ => ?_)
      have ih' : ∀ e3 e4 e5, K 64 [some (aR 0), some (aI (nI N)), some (aI (nI (k + 1))), e3, e4, e5] [] (lf2 k (forM lf2 s k)) := ih
      obtain ⟨a, b, ea, ha, eb, hb⟩ := hst k hk
      have hQ4 := (hQk k).2
      clear ih hs hQk
      generalize forM lf2 s k = s at ih' hQ4
      have ea' : s 4 k 0 = nI a := by rw [hQ4]; exact ea
      have eb' : s 4 k 1 = nI b := by rw [hQ4]; exact eb
      iterate 4 refine hK _ _ _ _ ?_
      refine And.intro (vp_in_nI (by omega) (by decide)) ?_
      iterate 2 refine hK _ _ _ _ ?_
      refine And.intro (by first | omega | (rw [nI_clamp (by omega)]; omega)) (And.intro (vp_in_nI (n := 0) (by decide) (by decide)) ?_)
      iterate 5 refine hK _ _ _ _ ?_
      refine And.intro (vp_in_nI (by omega) (by decide)) ?_
      iterate 2 refine hK _ _ _ _ ?_
      refine And.intro (by first | omega | (rw [nI_clamp (by omega)]; omega)) (And.intro (vp_in_nI (n := 1) (by decide) (by decide)) ?_)
      iterate 5 refine hK _ _ _ _ ?_
      refine And.intro (vp_in_nI (by omega) (by decide)) ?_
      iterate 2 refine hK _ _ _ _ ?_
      refine And.intro (by first | omega | (rw [nI_clamp (by omega)]; omega)) (And.intro (vp_in_nI (n := 2) (by decide) (by decide)) ?_)
      rw [nI_clamp (by omega)]
      have ea2 : s 4 k (Int32.ofInt 0).toNatClampNeg = nI a := ea'
      have eb2 : s 4 k (Int32.ofInt 1).toNatClampNeg = nI b := eb'
      rw [ea2, eb2]
      show K _ _ [aI (s 4 k 2)] _
      iterate 5 refine hK _ _ _ _ ?_
      refine And.intro (vp_in_nI (by omega) (by decide)) ?_
      iterate 6 refine hK _ _ _ _ ?_
      refine And.intro (vp_in_nI (by omega) (by decide)) ?_
      iterate 2 refine hK _ _ _ _ ?_
      refine And.intro (by first | omega | (rw [nI_clamp (by omega)]; omega)) (And.intro (vp_in_nI (by omega) (by decide)) ?_)
      refine hK _ _ _ _ ?_
      rw [nI_clamp (by omega), nI_clamp (by omega)]
      have tail : ∀ v : Int32, v = (if s 4 k 2 < s 13 a b then s 4 k 2 else s 13 a b) → K 140 [some (aR 0), some (aI (nI N)), some (aI (nI k)), some (aI (nI a)), some (aI (nI b)), some (aI (s 4 k 2))] [] (sUp s 13 a b v) := by
        intro v hv
        iterate 4 refine hK _ _ _ _ ?_
        refine And.intro (vp_in_nI (by omega) (by decide)) ?_
        iterate 5 refine hK _ _ _ _ ?_
        refine And.intro (vp_in_nI (by omega) (by decide)) ?_
        iterate 2 refine hK _ _ _ _ ?_
        refine And.intro (by first | omega | (rw [nI_clamp (by omega)]; omega)) (And.intro (vp_in_nI (by omega) (by decide)) ?_)
        iterate 1 refine hK _ _ _ _ ?_
        refine And.intro (by first | omega | (rw [nI_clamp (by omega)]; omega)) (And.intro (vp_in_nI (by omega) (by decide)) ?_)
        rw [nI_clamp (by omega), nI_clamp (by omega)]
        refine hK _ _ _ _ ?_
        show K _ _ _ _
        rw [nIs]
        refine hK _ _ _ _ ?_
        have := ih' (some (aI (nI a))) (some (aI (nI b))) (some (aI (s 4 k 2)))
        unfold lf2 at this
        simp only [ea', eb', nI_clamp (show a < 2 ^ 31 by omega), nI_clamp (show b < 2 ^ 31 by omega)] at this
        rw [← hv] at this
        exact this
      refine And.intro (fun h => ?_) (fun h => ?_)
      · have hq := Int32.not_lt.mpr h
        iterate 4 refine hK _ _ _ _ ?_
        refine And.intro (vp_in_nI (by omega) (by decide)) ?_
        iterate 2 refine hK _ _ _ _ ?_
        refine And.intro (by first | omega | (rw [nI_clamp (by omega)]; omega)) (And.intro (vp_in_nI (by omega) (by decide)) ?_)
        iterate 1 refine hK _ _ _ _ ?_
        refine And.intro (by first | omega | (rw [nI_clamp (by omega)]; omega)) (And.intro (vp_in_nI (by omega) (by decide)) ?_)
        (try rw [nI_clamp (show a < 2 ^ 31 by omega)])
        (try rw [nI_clamp (show b < 2 ^ 31 by omega)])
        exact tail _ (by rw [if_neg hq])
      · have hq := Int32.not_le.mp h
        iterate 3 refine hK _ _ _ _ ?_
        refine And.intro (by first | omega | (rw [nI_clamp (by omega)]; omega)) (And.intro (vp_in_nI (by omega) (by decide)) ?_)
        (try rw [nI_clamp (show a < 2 ^ 31 by omega)])
        (try rw [nI_clamp (show b < 2 ^ 31 by omega)])
        exact tail _ (by rw [if_pos hq])
  have L9 : ∀ k, k ≤ N → ∀ e3 e4 e5, K 9 [some (aR 0), some (aI (nI N)), some (aI (nI k)), e3, e4, e5] [] (forM (fun a s => forM (lf1 a) s N) σ k) := by
    refine kDown ?_ ?_
    · intro e3 e4 e5
      iterate 3 refine hK _ _ _ _ ?_
      refine And.intro (fun _ => ?_) (fun h => absurd (Int32.le_refl _) h)
      iterate 2 refine hK _ _ _ _ ?_
      exact L64 _ (lfA_Q N ⟨rfl, rfl⟩) rfl 0 (Nat.zero_le _) e3 e4 e5
    · intro a ha ih e3 e4 e5
      iterate 3 refine hK _ _ _ _ ?_
      refine And.intro (fun h => absurd h (nI_ge ha (by omega))) (fun _ => ?_)
      iterate 2 refine hK _ _ _ _ ?_
      show K 16 [some (aR 0), some (aI (nI N)), some (aI (nI a)), some (aI (nI 0)), e4, e5] [] _
      have ih' : ∀ e3 e4 e5, K 9 [some (aR 0), some (aI (nI N)), some (aI (nI (a + 1))), e3, e4, e5] [] (forM (lf1 a) (forM (fun a s => forM (lf1 a) s N) σ a) N) := ih
      clear ih
      generalize forM (fun a s => forM (lf1 a) s N) σ a = s at ih'
      have key : ∀ b, b ≤ N → ∀ e4 e5, K 16 [some (aR 0), some (aI (nI N)), some (aI (nI a)), some (aI (nI b)), e4, e5] [] (forM (lf1 a) s b) := by
        refine kDown ?_ ?_
        · intro e4 e5
          iterate 3 refine hK _ _ _ _ ?_
          refine And.intro (fun _ => ?_) (fun h => absurd (Int32.le_refl _) h)
          refine hK _ _ _ _ ?_
          show K _ _ _ _
          rw [nIs]
          refine hK _ _ _ _ ?_
          exact ih' _ e4 e5
        · intro b hb ihb e4 e5
          iterate 3 refine hK _ _ _ _ ?_
          refine And.intro (fun h => absurd h (nI_ge hb (by omega))) (fun _ => ?_)
          have ihb' : ∀ e4 e5, K 16 [some (aR 0), some (aI (nI N)), some (aI (nI a)), some (aI (nI (b + 1))), e4, e5] [] (lf1 a b (forM (lf1 a) s b)) := ihb
          clear ihb
          generalize forM (lf1 a) s b = s at ihb'
          iterate 4 refine hK _ _ _ _ ?_
          refine And.intro (vp_in_nI (by omega) (by decide)) ?_
          iterate 3 refine hK _ _ _ _ ?_
          refine And.intro (by first | omega | (rw [nI_clamp (by omega)]; omega)) (And.intro (vp_in_nI (by omega) (by decide)) ?_)
          iterate 4 refine hK _ _ _ _ ?_
          refine And.intro (vp_in_nI (by omega) (by decide)) ?_
          iterate 4 refine hK _ _ _ _ ?_
          refine And.intro (fun h => ?_) (fun h => ?_)
          · have hq : ¬ a = b := fun q => h (by rw [q])
            iterate 2 refine hK _ _ _ _ ?_
            refine And.intro (by first | omega | (rw [nI_clamp (by omega)]; omega)) (And.intro (vp_in_nI (by omega) (by decide)) ?_)
            rw [nI_clamp (by omega), nI_clamp (by omega)]
            refine hK _ _ _ _ ?_
            show K _ _ _ _
            rw [nIs]
            refine hK _ _ _ _ ?_
            have := ihb' e4 e5
            unfold lf1 at this
            rw [if_neg hq] at this
            exact this
          · have hq : a = b := (nI_eq (by omega) (by omega)).mp h
            iterate 3 refine hK _ _ _ _ ?_
            refine And.intro (by first | omega | (rw [nI_clamp (by omega)]; omega)) (And.intro (vp_in_nI (by omega) (by decide)) ?_)
            rw [nI_clamp (by omega), nI_clamp (by omega)]
            refine hK _ _ _ _ ?_
            show K _ _ _ _
            rw [nIs]
            refine hK _ _ _ _ ?_
            have := ihb' e4 e5
            unfold lf1 at this
            rw [if_pos hq] at this
            exact this
      exact key 0 (Nat.zero_le _) _ _
  iterate 4 refine hK _ _ _ _ ?_
  refine And.intro (vp_in_nI (n := 0) (by decide) (by decide)) ?_
  iterate 3 refine hK _ _ _ _ ?_
  have e0 : σ 3 0 (Int32.ofInt 0).toNatClampNeg = nI N := h30
  rw [e0]
  exact L9 0 (Nat.zero_le _) none none none
end
