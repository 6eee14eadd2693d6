/-! .. over another layout -/
section
variable {l : Launch} {D0 : va_G} {b0 : Nat} {ty : Nat → ClassId} {ad av : Nat → Nat}
theorem f6_reaches_z2 (d : Nat) (σ : sMem) (a b x : Nat) (ha : a < 12) (hb9 : b < 12) (e : σ 5 a b = nI x) (hx : x ≤ 1000000) : sMet l D0 b0 ty lay8 d mX6_reaches [aR 3, aI (nI a), aI (nI b)] σ (fun r σ' => r = [aI (bI (decide (x < 1000000)))] ∧ σ' = σ) := by
  refine sMet_intro lay8_nd kX6_reaches xX6_ok (by decide +kernel) rfl ?_
  intro K hK
  iterate 4 refine hK _ _ _ _ ?_
  refine And.intro (vp_in_nI (n := a) (by omega) (by decide)) ?_
  rw [nI_clamp (show a < 2 ^ 31 by omega)]
  iterate 2 refine hK _ _ _ _ ?_
  refine And.intro (by first | omega | (rw [nI_clamp (by omega)]; omega)) (And.intro (vp_in_nI (n := b) (by omega) (by decide)) ?_)
  rw [nI_clamp (show b < 2 ^ 31 by omega)]
  rw [show σ 5 a b = nI x from e]
  iterate 2 refine hK _ _ _ _ ?_
  refine And.intro (fun h9 => ?_) (fun h9 => ?_)
  · have g9 : ¬ x < 1000000 := fun q => absurd ((nI_leI (a := 1000000) (by decide) (by omega)).mp h9) (by omega)
    iterate 2 refine hK _ _ _ _ ?_
    exact ⟨Or.inl rfl, by rw [decide_eq_false g9]; rfl, rfl⟩
  · have g9 : x < 1000000 := Decidable.byContradiction fun q => h9 ((nI_leI (a := 1000000) (by decide) (by omega)).mpr (by omega))
    iterate 3 refine hK _ _ _ _ ?_
    exact ⟨Or.inr rfl, by rw [decide_eq_true g9]; rfl, rfl⟩
theorem f6_firstStep_z2 (d : Nat) (σ : sMem) (N a b : Nat) (g F : mtx) (hN : N ≤ 12) (h0 : σ 3 0 0 = nI N) (hg : RM σ 4 N g) (hF : RM σ 5 N F) (ha : a < N) (hb9 : b < N) : sMet l D0 b0 ty lay8 (d + 1) mX6_firstStep [aR 3, aI (nI a), aI (nI b)] σ (fun r σ' => r = [aI (nI (fsG g F N a b))] ∧ σ' = σ) := by
  refine sMet_intro lay8_nd kX6_firstStep xX6_ok (by decide +kernel) rfl ?_
  intro K hK
  obtain ⟨eF, lF⟩ := hF a b ha hb9
  generalize hZ : fsG g F N a b = Z at hK
  unfold fsG fsN at hZ
  have L14 : (a = b ∨ ¬ F a b < 1000000) → K 14 [some (aR 3), some (aI (nI a)), some (aI (nI b)), none] [] σ := by
    intro hq
    rw [if_pos hq] at hZ
    iterate 2 refine hK _ _ _ _ ?_
    exact ⟨by rw [← hZ]; rfl, rfl⟩
  iterate 3 refine hK _ _ _ _ ?_
  refine And.intro (fun h9 => L14 (Or.inl ((nI_eq (by omega) (by omega)).mp h9))) (fun h9 => ?_)
  have hab : a ≠ b := fun e => h9 (by rw [e])
  iterate 4 refine hK _ _ _ _ ?_
  refine calD (f6_reaches_z2 _ σ a b (F a b) (by omega) (by omega) eF lF) ?_
  rintro r σ' ⟨rfl, hσ⟩
  subst σ'
  show K 11 [some (aR 3), some (aI (nI a)), some (aI (nI b)), none] [aI (bI (decide (F a b < 1000000)))] σ
  refine hK _ _ _ _ ?_
  refine And.intro (fun h8 => ?_) (fun h8 => ?_)
  · have hr := of_decide_eq_true (bI_t h8)
    rw [if_neg (fun q => q.elim hab (fun q => q hr))] at hZ
    iterate 2 refine hK _ _ _ _ ?_
    have L18 : ∀ (f : Nat) (c : Nat), c + f = N → (fsF g F a b f c).getD a = Z → K 18 [some (aR 3), some (aI (nI a)), some (aI (nI b)), some (aI (nI c))] [] σ := by
      intro f
      induction f with
      | zero =>
        intro c hc hz
        iterate 3 refine hK _ _ _ _ ?_
        show K _ _ _ _
        rw [show σ 3 0 0 = nI N from h0]
        refine hK _ _ _ _ ?_
        refine And.intro (fun _ => ?_) (fun h7 => absurd ((nI_leI (by omega) (by omega)).mpr (by omega)) h7)
        iterate 2 refine hK _ _ _ _ ?_
        exact ⟨by rw [← hz]; rfl, rfl⟩
      | succ f ih =>
        intro c hc hz
        have hst : fsF g F a b (f + 1) c = if g a c < 1000000 ∧ g a c + F c b = F a b then some c else fsF g F a b f (c + 1) := rfl
        rw [hst] at hz
        obtain ⟨e1, l1⟩ := hg a c ha (by omega)
        obtain ⟨e2, l2⟩ := hF c b (by omega) hb9
        iterate 3 refine hK _ _ _ _ ?_
        show K _ _ _ _
        rw [show σ 3 0 0 = nI N from h0]
        refine hK _ _ _ _ ?_
        refine And.intro (fun h7 => absurd ((nI_leI (by omega) (by omega)).mp h7) (by omega)) (fun _ => ?_)
        iterate 4 refine hK _ _ _ _ ?_
        refine And.intro (vp_in_nI (n := a) (by omega) (by decide)) ?_
        rw [nI_clamp (show a < 2 ^ 31 by omega)]
        iterate 2 refine hK _ _ _ _ ?_
        refine And.intro (by first | omega | (rw [nI_clamp (by omega)]; omega)) (And.intro (vp_in_nI (n := c) (by omega) (by decide)) ?_)
        rw [nI_clamp (show c < 2 ^ 31 by omega)]
        rw [show σ 4 a c = nI (g a c) from e1]
        iterate 2 refine hK _ _ _ _ ?_
        refine And.intro (fun h6 => ?_) (fun h6 => ?_)
        · rw [if_neg (fun q => absurd ((nI_leI (a := 1000000) (by decide) (by omega)).mp h6) (by omega))] at hz
          refine hK _ _ _ _ ?_
          show K _ _ _ _
          rw [show nI c + Int32.ofInt 1 = nI (c + 1) from nIs _]
          refine hK _ _ _ _ ?_
          exact ih (c + 1) (by omega) hz
        · have g6 : g a c < 1000000 := Decidable.byContradiction fun q => h6 ((nI_leI (a := 1000000) (by decide) (by omega)).mpr (by omega))
          iterate 4 refine hK _ _ _ _ ?_
          refine And.intro (vp_in_nI (n := a) (by omega) (by decide)) ?_
          rw [nI_clamp (show a < 2 ^ 31 by omega)]
          iterate 2 refine hK _ _ _ _ ?_
          refine And.intro (by first | omega | (rw [nI_clamp (by omega)]; omega)) (And.intro (vp_in_nI (n := c) (by omega) (by decide)) ?_)
          rw [nI_clamp (show c < 2 ^ 31 by omega)]
          rw [show σ 4 a c = nI (g a c) from e1]
          iterate 4 refine hK _ _ _ _ ?_
          refine And.intro (vp_in_nI (n := c) (by omega) (by decide)) ?_
          rw [nI_clamp (show c < 2 ^ 31 by omega)]
          iterate 2 refine hK _ _ _ _ ?_
          refine And.intro (by first | omega | (rw [nI_clamp (by omega)]; omega)) (And.intro (vp_in_nI (n := b) (by omega) (by decide)) ?_)
          rw [nI_clamp (show b < 2 ^ 31 by omega)]
          rw [show σ 5 c b = nI (F c b) from e2]
          refine hK _ _ _ _ ?_
          show K _ _ _ _
          rw [nIa]
          iterate 4 refine hK _ _ _ _ ?_
          refine And.intro (vp_in_nI (n := a) (by omega) (by decide)) ?_
          rw [nI_clamp (show a < 2 ^ 31 by omega)]
          iterate 2 refine hK _ _ _ _ ?_
          refine And.intro (by first | omega | (rw [nI_clamp (by omega)]; omega)) (And.intro (vp_in_nI (n := b) (by omega) (by decide)) ?_)
          rw [nI_clamp (show b < 2 ^ 31 by omega)]
          rw [show σ 5 a b = nI (F a b) from eF]
          refine hK _ _ _ _ ?_
          refine And.intro (fun h5 => ?_) (fun h5 => ?_)
          · rw [if_neg (fun q => h5 (by rw [q.2]))] at hz
            refine hK _ _ _ _ ?_
            show K _ _ _ _
            rw [show nI c + Int32.ofInt 1 = nI (c + 1) from nIs _]
            refine hK _ _ _ _ ?_
            exact ih (c + 1) (by omega) hz
          · rw [if_pos ⟨g6, (nI_eq (by omega) (by omega)).mp h5⟩] at hz
            iterate 2 refine hK _ _ _ _ ?_
            exact ⟨by rw [← hz]; rfl, rfl⟩
    exact L18 N 0 (by omega) hZ
  · exact L14 (Or.inr (of_decide_eq_false (bI_f h8)))
theorem f6_findWays_z2 (d : Nat) (σ : sMem) (N : Nat) (g : mtx) (hN : N ≤ 12) (h0 : σ 3 0 0 = nI N) (hg : RM σ 4 N g) (hok : gOK N g) : yMet l D0 b0 ty ad av lay8 (d + 2) 0 mX6_findWays [aR 3] σ (fun r σ' => r = [] ∧ (∀ i, i ≠ 5 → i ≠ 6 → σ' i = σ i) ∧ RM σ' 5 N (flM N (m0 g) N) ∧ ∀ a b, a < N → b < N → σ' 6 a b = nI (fsG g (flM N (m0 g) N) N a b)) (fun _ _ => False) := by
  refine yMet_intro lay8_nd kX6_findWays xX6_ok (yY6_ok _) (by decide +kernel) rfl ?_
  intro K hK
  iterate 2 refine hK _ _ _ _ _ ?_
  have L2 : ∀ (f : Nat) (a : Nat) (μ : sMem), a + f = N → (∀ i, i ≠ 5 → i ≠ 6 → μ i = σ i) → (∀ x y, x < a → y < N → μ 5 x y = nI (m0 g x y)) → K 0 2 [some (aR 3), some (aI (nI a)), none, none] [] μ := by
    intro f
    induction f with
    | zero =>
      intro a μ ha hf hd
      have p_μ : μ 3 0 0 = nI N := by rw [hf 3 (by decide) (by decide)]; exact h0
      iterate 3 refine hK _ _ _ _ _ ?_
      show K _ _ _ _ _
      rw [show μ 3 0 0 = nI N from p_μ]
      refine hK _ _ _ _ _ ?_
      refine And.intro (fun _ => ?_) (fun h9 => absurd ((nI_leI (by omega) (by omega)).mpr (by omega)) h9)
      iterate 2 refine hK _ _ _ _ _ ?_
      have hR0 : RM μ 5 N (flM N (m0 g) 0) := fun x y hx hy => ⟨hd x y (by omega) hy, ((fIv_0 hok).1 x y hx hy).1⟩
      have L46 : ∀ (f2 : Nat) (k : Nat) (e2 e3 : Option AV) (ν : sMem), k + f2 = N → (∀ i, i ≠ 5 → i ≠ 6 → ν i = σ i) → RM ν 5 N (flM N (m0 g) k) → K 0 46 [some (aR 3), some (aI (nI k)), e2, e3] [] ν := by
        intro f2
        induction f2 with
        | zero =>
          intro k e2 e3 ν hk hf2 hR
          have p_ν : ν 3 0 0 = nI N := by rw [hf2 3 (by decide) (by decide)]; exact h0
          iterate 3 refine hK _ _ _ _ _ ?_
          show K _ _ _ _ _
          rw [show ν 3 0 0 = nI N from p_ν]
          refine hK _ _ _ _ _ ?_
          refine And.intro (fun _ => ?_) (fun h9 => absurd ((nI_leI (by omega) (by omega)).mpr (by omega)) h9)
          rw [show k = N by omega] at hR
          iterate 2 refine hK _ _ _ _ _ ?_
          have L130 : ∀ (f5 : Nat) (a : Nat) (e2 : Option AV) (κ : sMem), a + f5 = N → (∀ i, i ≠ 5 → i ≠ 6 → κ i = σ i) → RM κ 5 N (flM N (m0 g) N) → (∀ x y, x < a → y < N → κ 6 x y = nI (fsG g (flM N (m0 g) N) N x y)) → K 0 130 [some (aR 3), some (aI (nI a)), e2, e3] [] κ := by
            intro f5
            induction f5 with
            | zero =>
              intro a e2 κ ha hf5 hR5 hd5
              have p_κ : κ 3 0 0 = nI N := by rw [hf5 3 (by decide) (by decide)]; exact h0
              iterate 3 refine hK _ _ _ _ _ ?_
              show K _ _ _ _ _
              rw [show κ 3 0 0 = nI N from p_κ]
              refine hK _ _ _ _ _ ?_
              refine And.intro (fun _ => ?_) (fun h9 => absurd ((nI_leI (by omega) (by omega)).mpr (by omega)) h9)
              refine hK _ _ _ _ _ ?_
              exact ⟨rfl, hf5, hR5, fun x y hx hy => hd5 x y (by omega) hy⟩
            | succ f5 ih5 =>
              intro a e2 κ ha hf5 hR5 hd5
              have p_κ : κ 3 0 0 = nI N := by rw [hf5 3 (by decide) (by decide)]; exact h0
              iterate 3 refine hK _ _ _ _ _ ?_
              show K _ _ _ _ _
              rw [show κ 3 0 0 = nI N from p_κ]
              refine hK _ _ _ _ _ ?_
              refine And.intro (fun h9 => absurd ((nI_leI (by omega) (by omega)).mp h9) (by omega)) (fun _ => ?_)
              iterate 2 refine hK _ _ _ _ _ ?_
              have L140 : ∀ (f6 : Nat) (b : Nat) (η : sMem), b + f6 = N → (∀ i, i ≠ 5 → i ≠ 6 → η i = σ i) → RM η 5 N (flM N (m0 g) N) → (∀ x y, x < a + 1 → y < N → (x < a ∨ y < b) → η 6 x y = nI (fsG g (flM N (m0 g) N) N x y)) → K 0 140 [some (aR 3), some (aI (nI a)), some (aI (nI b)), e3] [] η := by
                intro f6
                induction f6 with
                | zero =>
                  intro b η hb9 hf6 hR6 hd6
                  have p_η : η 3 0 0 = nI N := by rw [hf6 3 (by decide) (by decide)]; exact h0
                  iterate 3 refine hK _ _ _ _ _ ?_
                  show K _ _ _ _ _
                  rw [show η 3 0 0 = nI N from p_η]
                  refine hK _ _ _ _ _ ?_
                  refine And.intro (fun _ => ?_) (fun h9 => absurd ((nI_leI (by omega) (by omega)).mpr (by omega)) h9)
                  refine hK _ _ _ _ _ ?_
                  show K _ _ _ _ _
                  rw [show nI a + Int32.ofInt 1 = nI (a + 1) from nIs _]
                  refine hK _ _ _ _ _ ?_
                  exact ih5 (a + 1) _ η (by omega) hf6 hR6 (fun x y hx hy => hd6 x y (by omega) hy (by omega))
                | succ f6 ih6 =>
                  intro b η hb9 hf6 hR6 hd6
                  have p_η : η 3 0 0 = nI N := by rw [hf6 3 (by decide) (by decide)]; exact h0
                  iterate 3 refine hK _ _ _ _ _ ?_
                  show K _ _ _ _ _
                  rw [show η 3 0 0 = nI N from p_η]
                  refine hK _ _ _ _ _ ?_
                  refine And.intro (fun h9 => absurd ((nI_leI (by omega) (by omega)).mp h9) (by omega)) (fun _ => ?_)
                  iterate 4 refine hK _ _ _ _ _ ?_
                  refine And.intro (vp_in_nI (n := a) (by omega) (by decide)) ?_
                  rw [nI_clamp (show a < 2 ^ 31 by omega)]
                  iterate 5 refine hK _ _ _ _ _ ?_
                  refine Or.inl (calD (f6_firstStep_z2 _ η N a b g (flM N (m0 g) N) hN p_η (fun x y hx hy => by rw [hf6 4 (by decide) (by decide)]; exact hg x y hx hy) hR6 (by omega) (by omega)) ?_)
                  rintro r σ' ⟨rfl, hσ⟩
                  subst σ'
                  show K 0 161 [some (aR 3), some (aI (nI a)), some (aI (nI b)), e3] [aI (nI (fsG g (flM N (m0 g) N) N a b)), aI (nI b), .inr (6, a)] η
                  refine hK _ _ _ _ _ ?_
                  refine And.intro (by first | omega | (rw [nI_clamp (by omega)]; omega)) (And.intro (vp_in_nI (n := b) (by omega) (by decide)) ?_)
                  rw [nI_clamp (show b < 2 ^ 31 by omega)]
                  refine hK _ _ _ _ _ ?_
                  show K _ _ _ _ _
                  rw [show nI b + Int32.ofInt 1 = nI (b + 1) from nIs _]
                  refine hK _ _ _ _ _ ?_
                  refine ih6 (b + 1) _ (by omega) (fun i h1 h2 => by rw [sUp_off h2]; exact hf6 i h1 h2) (fun x y hx hy => by rw [sUp_off (by decide)]; exact hR6 x y hx hy) (fun x y hx hy hxy => ?_)
                  by_cases e : x = a
                  · subst e
                    by_cases e2 : y = b
                    · subst e2; rw [sUp_at]
                    · rw [sUp_k e2]; exact hd6 x y hx hy (by omega)
                  · rw [sUp_rowne e]; exact hd6 x y hx hy (by omega)
              exact L140 N 0 κ (by omega) hf5 hR5 (fun x y hx hy q => hd5 x y (by omega) hy)
          exact L130 N 0 _ ν (by omega) hf2 hR (fun x y hx _ => absurd hx (Nat.not_lt_zero _))
        | succ f2 ih2 =>
          intro k e2 e3 ν hk hf2 hR
          have p_ν : ν 3 0 0 = nI N := by rw [hf2 3 (by decide) (by decide)]; exact h0
          have hs1 : flM N (m0 g) (k + 1) = forG (flR9 N k) (flM N (m0 g) k) N := rfl
          iterate 3 refine hK _ _ _ _ _ ?_
          show K _ _ _ _ _
          rw [show ν 3 0 0 = nI N from p_ν]
          refine hK _ _ _ _ _ ?_
          refine And.intro (fun h9 => absurd ((nI_leI (by omega) (by omega)).mp h9) (by omega)) (fun _ => ?_)
          iterate 2 refine hK _ _ _ _ _ ?_
          have L56 : ∀ (f3 : Nat) (a : Nat) (e3 : Option AV) (κ : sMem), a + f3 = N → (∀ i, i ≠ 5 → i ≠ 6 → κ i = σ i) → RM κ 5 N (forG (flR9 N k) (flM N (m0 g) k) a) → K 0 56 [some (aR 3), some (aI (nI k)), some (aI (nI a)), e3] [] κ := by
            intro f3
            induction f3 with
            | zero =>
              intro a e3 κ ha hf3 hR3
              have p_κ : κ 3 0 0 = nI N := by rw [hf3 3 (by decide) (by decide)]; exact h0
              iterate 3 refine hK _ _ _ _ _ ?_
              show K _ _ _ _ _
              rw [show κ 3 0 0 = nI N from p_κ]
              refine hK _ _ _ _ _ ?_
              refine And.intro (fun _ => ?_) (fun h9 => absurd ((nI_leI (by omega) (by omega)).mpr (by omega)) h9)
              refine hK _ _ _ _ _ ?_
              show K _ _ _ _ _
              rw [show nI k + Int32.ofInt 1 = nI (k + 1) from nIs _]
              refine hK _ _ _ _ _ ?_
              exact ih2 (k + 1) _ _ κ (by omega) hf3 (by rw [hs1]; rw [show a = N by omega] at hR3; exact hR3)
            | succ f3 ih3 =>
              intro a e3 κ ha hf3 hR3
              have p_κ : κ 3 0 0 = nI N := by rw [hf3 3 (by decide) (by decide)]; exact h0
              have hs2 : forG (flR9 N k) (flM N (m0 g) k) (a + 1) = forG (flS k a) (forG (flR9 N k) (flM N (m0 g) k) a) N := rfl
              generalize forG (flR9 N k) (flM N (m0 g) k) a = M at hR3 hs2
              iterate 3 refine hK _ _ _ _ _ ?_
              show K _ _ _ _ _
              rw [show κ 3 0 0 = nI N from p_κ]
              refine hK _ _ _ _ _ ?_
              refine And.intro (fun h9 => absurd ((nI_leI (by omega) (by omega)).mp h9) (by omega)) (fun _ => ?_)
              iterate 2 refine hK _ _ _ _ _ ?_
              have L66 : ∀ (f4 : Nat) (b : Nat) (η : sMem), b + f4 = N → (∀ i, i ≠ 5 → i ≠ 6 → η i = σ i) → RM η 5 N (forG (flS k a) M b) → K 0 66 [some (aR 3), some (aI (nI k)), some (aI (nI a)), some (aI (nI b))] [] η := by
                intro f4
                induction f4 with
                | zero =>
                  intro b η hb9 hf4 hR4
                  have p_η : η 3 0 0 = nI N := by rw [hf4 3 (by decide) (by decide)]; exact h0
                  iterate 3 refine hK _ _ _ _ _ ?_
                  show K _ _ _ _ _
                  rw [show η 3 0 0 = nI N from p_η]
                  refine hK _ _ _ _ _ ?_
                  refine And.intro (fun _ => ?_) (fun h9 => absurd ((nI_leI (by omega) (by omega)).mpr (by omega)) h9)
                  refine hK _ _ _ _ _ ?_
                  show K _ _ _ _ _
                  rw [show nI a + Int32.ofInt 1 = nI (a + 1) from nIs _]
                  refine hK _ _ _ _ _ ?_
                  exact ih3 (a + 1) _ η (by omega) hf4 (by rw [hs2]; rw [show b = N by omega] at hR4; exact hR4)
                | succ f4 ih4 =>
                  intro b η hb9 hf4 hR4
                  have p_η : η 3 0 0 = nI N := by rw [hf4 3 (by decide) (by decide)]; exact h0
                  have hs3 : forG (flS k a) M (b + 1) = flS k a b (forG (flS k a) M b) := rfl
                  generalize forG (flS k a) M b = X at hR4 hs3
                  obtain ⟨e1, l1⟩ := hR4 a b (by omega) (by omega)
                  obtain ⟨e2, l2⟩ := hR4 a k (by omega) (by omega)
                  obtain ⟨e3, l3⟩ := hR4 k b (by omega) (by omega)
                  iterate 3 refine hK _ _ _ _ _ ?_
                  show K _ _ _ _ _
                  rw [show η 3 0 0 = nI N from p_η]
                  refine hK _ _ _ _ _ ?_
                  refine And.intro (fun h9 => absurd ((nI_leI (by omega) (by omega)).mp h9) (by omega)) (fun _ => ?_)
                  iterate 4 refine hK _ _ _ _ _ ?_
                  refine And.intro (vp_in_nI (n := a) (by omega) (by decide)) ?_
                  rw [nI_clamp (show a < 2 ^ 31 by omega)]
                  iterate 5 refine hK _ _ _ _ _ ?_
                  refine And.intro (vp_in_nI (n := a) (by omega) (by decide)) ?_
                  rw [nI_clamp (show a < 2 ^ 31 by omega)]
                  iterate 2 refine hK _ _ _ _ _ ?_
                  refine And.intro (by first | omega | (rw [nI_clamp (by omega)]; omega)) (And.intro (vp_in_nI (n := b) (by omega) (by decide)) ?_)
                  rw [nI_clamp (show b < 2 ^ 31 by omega)]
                  rw [show η 5 a b = nI (X a b) from e1]
                  iterate 4 refine hK _ _ _ _ _ ?_
                  refine And.intro (vp_in_nI (n := a) (by omega) (by decide)) ?_
                  rw [nI_clamp (show a < 2 ^ 31 by omega)]
                  iterate 2 refine hK _ _ _ _ _ ?_
                  refine And.intro (by first | omega | (rw [nI_clamp (by omega)]; omega)) (And.intro (vp_in_nI (n := k) (by omega) (by decide)) ?_)
                  rw [nI_clamp (show k < 2 ^ 31 by omega)]
                  rw [show η 5 a k = nI (X a k) from e2]
                  iterate 4 refine hK _ _ _ _ _ ?_
                  refine And.intro (vp_in_nI (n := k) (by omega) (by decide)) ?_
                  rw [nI_clamp (show k < 2 ^ 31 by omega)]
                  iterate 2 refine hK _ _ _ _ _ ?_
                  refine And.intro (by first | omega | (rw [nI_clamp (by omega)]; omega)) (And.intro (vp_in_nI (n := b) (by omega) (by decide)) ?_)
                  rw [nI_clamp (show b < 2 ^ 31 by omega)]
                  rw [show η 5 k b = nI (X k b) from e3]
                  refine hK _ _ _ _ _ ?_
                  show K _ _ _ _ _
                  rw [nIa]
                  refine hK _ _ _ _ _ ?_
                  show K _ _ _ _ _
                  rw [mnI_nI (by omega) (by omega)]
                  refine hK _ _ _ _ _ ?_
                  refine And.intro (by first | omega | (rw [nI_clamp (by omega)]; omega)) (And.intro (vp_in_nI (n := b) (by omega) (by decide)) ?_)
                  rw [nI_clamp (show b < 2 ^ 31 by omega)]
                  refine hK _ _ _ _ _ ?_
                  show K _ _ _ _ _
                  rw [show nI b + Int32.ofInt 1 = nI (b + 1) from nIs _]
                  refine hK _ _ _ _ _ ?_
                  exact ih4 (b + 1) _ (by omega) (fun i h1 h2 => by rw [sUp_off h1]; exact hf4 i h1 h2) (by rw [hs3]; exact hR4.s (by omega) (by omega) (by omega))
              exact L66 N 0 κ (by omega) hf3 hR3
          exact L56 N 0 _ ν (by omega) hf2 hR
      exact L46 N 0 _ _ μ (by omega) hf hR0
    | succ f ih =>
      intro a μ ha hf hd
      have p_μ : μ 3 0 0 = nI N := by rw [hf 3 (by decide) (by decide)]; exact h0
      iterate 3 refine hK _ _ _ _ _ ?_
      show K _ _ _ _ _
      rw [show μ 3 0 0 = nI N from p_μ]
      refine hK _ _ _ _ _ ?_
      refine And.intro (fun h9 => absurd ((nI_leI (by omega) (by omega)).mp h9) (by omega)) (fun _ => ?_)
      iterate 4 refine hK _ _ _ _ _ ?_
      refine And.intro (vp_in_nI (n := a) (by omega) (by decide)) ?_
      rw [nI_clamp (show a < 2 ^ 31 by omega)]
      iterate 5 refine hK _ _ _ _ _ ?_
      refine And.intro (vp_in_nI (n := a) (by omega) (by decide)) ?_
      rw [nI_clamp (show a < 2 ^ 31 by omega)]
      iterate 3 refine hK _ _ _ _ _ ?_
      refine ⟨4, a, 12, 5, a, 12, 0, 0, 12, ⟨by omega, rfl, rfl, rfl⟩, ⟨by omega, rfl, rfl, rfl⟩, rfl, rfl, rfl, by decide, by decide, by decide, by decide, ?_⟩
      have f1 : ∀ i, i ≠ 5 → (sRow μ 5 a (va_cpy (μ 4 a) (μ 5 a) 0 0 12)) i = μ i := fun i hi => sRow_off hi
      have f2 : ∀ x, x ≠ a → (sRow μ 5 a (va_cpy (μ 4 a) (μ 5 a) 0 0 12)) 5 x = μ 5 x := fun x hx => sRow_ne hx
      have f3 : ∀ y, y < 12 → (sRow μ 5 a (va_cpy (μ 4 a) (μ 5 a) 0 0 12)) 5 a y = μ 4 a y := fun y hy => by rw [sRow_at, cpy_at hy]
      generalize (sRow μ 5 a (va_cpy (μ 4 a) (μ 5 a) 0 0 12)) = ξ at f1 f2 f3 ⊢
      iterate 4 refine hK _ _ _ _ _ ?_
      refine And.intro (vp_in_nI (n := a) (by omega) (by decide)) ?_
      rw [nI_clamp (show a < 2 ^ 31 by omega)]
      iterate 3 refine hK _ _ _ _ _ ?_
      refine And.intro (by first | omega | (rw [nI_clamp (by omega)]; omega)) (And.intro (vp_in_nI (n := a) (by omega) (by decide)) ?_)
      rw [nI_clamp (show a < 2 ^ 31 by omega)]
      refine hK _ _ _ _ _ ?_
      show K _ _ _ _ _
      rw [show nI a + Int32.ofInt 1 = nI (a + 1) from nIs _]
      refine hK _ _ _ _ _ ?_
      refine ih (a + 1) _ (by omega) (fun i h1 h2 => by rw [sUp_off h1, f1 i h1]; exact hf i h1 h2) (fun x y hx hy => ?_)
      unfold m0
      by_cases e : x = a
      · subst e
        by_cases e2 : y = x
        · subst e2; rw [sUp_at, if_pos rfl]; rfl
        · rw [sUp_k e2, if_neg (fun q => e2 q.symm), f3 y (by omega), hf 4 (by decide) (by decide)]; exact (hg x y (by omega) hy).1
      · rw [sUp_rowne e, f2 x e]; exact hd x y (by omega) hy
  exact L2 N 0 σ (by omega) (fun _ _ _ => rfl) (fun x y hx _ => absurd hx (Nat.not_lt_zero _))
end
