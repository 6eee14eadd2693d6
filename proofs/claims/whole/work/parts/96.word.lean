/-! THE CLASS: Reader, words -/
def yY4s : yTb := ([], [(105, 0), (107, 1), (109, 2), (111, 3), (113, 4), (115, 5), (117, 6), (119, 7), (121, 8), (123, 9)], [], [], [])
theorem yY4s_c : ∀ q ∈ yY4s.2.1, q.1 = 105 + 2 * q.2 ∧ q.2 < 10 := by decide
theorem yY4s_ok {l : Launch} {ad av : Nat → Nat} (cc : ByteArray) : yOKY l ad av RX4 cc yY4s := ⟨fun _ h => absurd h List.not_mem_nil, fun q hq => ⟨rfl, yY4s_c q hq⟩, fun _ h => absurd h List.not_mem_nil, fun _ h => absurd h List.not_mem_nil, fun _ h => absurd h List.not_mem_nil⟩
def yY4p : yTb := ([], [], [(97, 0), (101, 1)], [], [])
theorem yY4p_ok {l : Launch} {ad av : Nat → Nat} (hl : jLen l ad av) (hc : jChr l ad av) (cc : ByteArray) : yOKY l ad av RX4 cc yY4p := ⟨fun _ h => absurd h List.not_mem_nil, fun _ h => absurd h List.not_mem_nil, List.forall_mem_cons.mpr ⟨⟨fun _ => ⟨wq 874 (by decide +kernel) (by decide +kernel), hl⟩, fun h => absurd h (by decide), fun h => absurd h (by decide), fun h => absurd h (by decide)⟩, List.forall_mem_cons.mpr ⟨⟨fun h => absurd h (by decide), fun _ => ⟨wq 884 (by decide +kernel) (by decide +kernel), hc⟩, fun h => absurd h (by decide), fun h => absurd h (by decide)⟩, fun _ h => absurd h List.not_mem_nil⟩⟩, fun _ h => absurd h List.not_mem_nil, fun _ h => absurd h List.not_mem_nil⟩
theorem TXR.b {σ : sMem} {tx : Nat → Int32} {n : Nat} (h : TXR σ tx n) : TXB tx n := fun j hj => (h.2.2.2 j hj).elim fun b hb => ⟨b, hb.1, hb.2.1⟩
def JST (l : Launch) (ad av : Nat → Nat) : Prop := jLen l ad av ∧ jChr l ad av
/-- which word the letters are: the first, from j on -/
def wdF (tx : Nat → Int32) (n b : Nat) : Nat → Nat → Int32
  | 0, _ => -1
  | f + 1, j => if (ltS tx n (n - b) b - b = yLen.getD j 0 ∧ ∀ i, i < yLen.getD j 0 → tx (b + i) = (yByt.getD j []).getD i 0) then nI j else wdF tx n b f (j + 1)
theorem wdF_at {tx : Nat → Int32} {n b : Nat} : ∀ f j, j + f = 10 → (∃ k, k < 10 ∧ wdF tx n b f j = nI k ∧ isWd tx n b k) ∨ (wdF tx n b f j = -1 ∧ ∀ k, j ≤ k → k < 10 → ¬ isWd tx n b k)
  | 0, j, h => Or.inr ⟨rfl, fun k h1 h2 => by omega⟩
  | f + 1, j, h => by
    unfold wdF
    by_cases hc : ltS tx n (n - b) b - b = yLen.getD j 0 ∧ ∀ i, i < yLen.getD j 0 → tx (b + i) = (yByt.getD j []).getD i 0
    · rw [if_pos hc]
      exact Or.inl ⟨j, by omega, rfl, hc⟩
    · rw [if_neg hc]
      rcases wdF_at (tx := tx) (n := n) (b := b) f (j + 1) (by omega) with ⟨k, h1, h2, h3⟩ | ⟨h1, h2⟩
      · exact Or.inl ⟨k, h1, h2, h3⟩
      · refine Or.inr ⟨h1, fun k k1 k2 => ?_⟩
        by_cases e : k = j
        · subst e; exact hc
        · exact h2 k (by omega) k2
section
variable {l : Launch} {D0 : va_G} {b0 : Nat} {ty : Nat → ClassId} {ad av : Nat → Nat}
theorem c4_spelling (d : Nat) (σ : sMem) (j : Nat) (hj : j < 10) : yMet l D0 b0 ty ad av lay d 0 mX4_spelling [aI (nI j)] σ (fun r σ' => r = [.inl (.retAddr (ad j))] ∧ σ' = σ) (fun _ _ => False) := by
  refine yMet_intro lay_nd kX4_spelling xX4_ok (yY4s_ok _) (by decide +kernel) rfl ?_
  intro K hK
  have kt : ∀ i : Nat, (nI j).toInt = (i : Int) → j = i := fun i hi => by rw [nI_toInt (by omega)] at hi; omega
  iterate 2 refine hK _ _ _ _ _ ?_
  refine ⟨fun hsw => ?_, fun hsw => ?_, fun hsw => ?_, fun hsw => ?_, fun hsw => ?_, fun hsw => ?_, fun hsw => ?_, fun hsw => ?_, fun hsw => ?_, fun hsw => ?_, trivial⟩
  · have e9 : j = 9 := by
      rw [nI_toInt (by omega)] at hsw
      omega
    subst e9
    iterate 2 refine hK _ _ _ _ _ ?_
    exact ⟨rfl, rfl⟩
  · have e := kt 0 hsw
    subst e
    iterate 2 refine hK _ _ _ _ _ ?_
    exact ⟨rfl, rfl⟩
  · have e := kt 1 hsw
    subst e
    iterate 2 refine hK _ _ _ _ _ ?_
    exact ⟨rfl, rfl⟩
  · have e := kt 2 hsw
    subst e
    iterate 2 refine hK _ _ _ _ _ ?_
    exact ⟨rfl, rfl⟩
  · have e := kt 3 hsw
    subst e
    iterate 2 refine hK _ _ _ _ _ ?_
    exact ⟨rfl, rfl⟩
  · have e := kt 4 hsw
    subst e
    iterate 2 refine hK _ _ _ _ _ ?_
    exact ⟨rfl, rfl⟩
  · have e := kt 5 hsw
    subst e
    iterate 2 refine hK _ _ _ _ _ ?_
    exact ⟨rfl, rfl⟩
  · have e := kt 6 hsw
    subst e
    iterate 2 refine hK _ _ _ _ _ ?_
    exact ⟨rfl, rfl⟩
  · have e := kt 7 hsw
    subst e
    iterate 2 refine hK _ _ _ _ _ ?_
    exact ⟨rfl, rfl⟩
  · have e := kt 8 hsw
    subst e
    iterate 2 refine hK _ _ _ _ _ ?_
    exact ⟨rfl, rfl⟩
theorem c4_isSpelled (d : Nat) (hJ : JST l ad av) (σ : sMem) (tx : Nat → Int32) (n b e j : Nat) (f fa : Int32) (hT : TXR σ tx n) (hbe : b ≤ e) (hen : e ≤ n) (hL : ∀ i, b ≤ i → i < e → 97 ≤ tx i ∧ tx i ≤ 122) (hj : j < 10) : yMet l D0 b0 ty ad av lay (d + 5) 0 mX4_isSpelled [aR 74, .inl (.retAddr (ad j)), aI (nI b)] (cS σ e f fa) (fun r σ' => r = [aI (bI (decide (e - b = yLen.getD j 0 ∧ ∀ i, i < yLen.getD j 0 → tx (b + i) = (yByt.getD j []).getD i 0)))] ∧ σ' = cS σ e f fa) (fun _ _ => False) := by
  refine yMet_intro lay_nd kX4_isSpelled xX4_ok (yY4p_ok hJ.1 hJ.2 _) (by decide +kernel) rfl ?_
  intro K hK
  have hn := hT.2.2.1
  have hTe := hT.cS e f fa
  obtain ⟨w1, w2, -, -⟩ := wl_ok j hj
  generalize hlen : yLen.getD j 0 = m at w1 w2 hK
  iterate 2 refine hK _ _ _ _ _ ?_
  refine ⟨j, hj, rfl, ?_⟩
  show K _ _ _ _ _
  rw [hlen]
  iterate 2 refine hK _ _ _ _ _ ?_
  show K _ _ _ _ _
  rw [show (cS σ e f fa) 74 0 4 = nI e from cS_4 σ e f fa]
  iterate 2 refine hK _ _ _ _ _ ?_
  show K _ _ _ _ _
  rw [nIm hbe]
  refine hK _ _ _ _ _ ?_
  refine And.intro (fun h9 => ?_) (fun h9 => ?_)
  · have hl : e - b = m := ((nI_eq (by omega) (by omega)).mp h9).symm
    iterate 2 refine hK _ _ _ _ _ ?_
    have L17 : ∀ (g : Nat) (k : Nat), k + g = m → (∀ i, i < k → tx (b + i) = (yByt.getD j []).getD i 0) → K 0 17 [some (aR 74), some (.inl (.retAddr (ad j))), some (aI (nI b)), some (aI (nI k))] [] (cS σ e f fa) := by
      intro g
      induction g with
      | zero =>
        intro k hk hd
        iterate 3 refine hK _ _ _ _ _ ?_
        refine ⟨j, hj, rfl, ?_⟩
        show K _ _ _ _ _
        rw [hlen]
        refine hK _ _ _ _ _ ?_
        refine And.intro (fun _ => ?_) (fun h8 => absurd ((nI_leI (by omega) (by omega)).mpr (by omega)) h8)
        iterate 2 refine hK _ _ _ _ _ ?_
        exact ⟨Or.inr rfl, by rw [decide_eq_true ⟨hl, fun i hi => hd i (by omega)⟩]; rfl, rfl⟩
      | succ g ih =>
        intro k hk hd
        obtain ⟨c, hc, ec, es⟩ := hTe.2.2.2 (b + k) (by omega)
        have hlt := hL (b + k) (by omega) (by omega)
        have hsp := sg_at hc
        rw [ec] at hlt
        have es2 : (cS σ e f fa) 35 0 (b + k) = tx (b + k) := by rw [es, ec]; exact hsp.2.2.2.2.2 hlt
        iterate 3 refine hK _ _ _ _ _ ?_
        refine ⟨j, hj, rfl, ?_⟩
        show K _ _ _ _ _
        rw [hlen]
        refine hK _ _ _ _ _ ?_
        refine And.intro (fun h8 => absurd ((nI_leI (by omega) (by omega)).mp h8) (by omega)) (fun _ => ?_)
        iterate 3 refine hK _ _ _ _ _ ?_
        refine ⟨j, k, hj, rfl, by omega, rfl, ?_⟩
        show K _ _ _ _ _
        iterate 2 refine hK _ _ _ _ _ ?_
        show K _ _ _ _ _
        rw [show (cS σ e f fa) 74 0 2 = nI 35 from hTe.1]
        show K _ _ _ _ _
        rw [show (nI 35).toNatClampNeg = 35 from rfl]
        iterate 3 refine hK _ _ _ _ _ ?_
        show K _ _ _ _ _
        rw [nIa]
        refine hK _ _ _ _ _ ?_
        refine And.intro (vp_in_nI (n := (b + k)) (by omega) (by decide)) ?_
        rw [nI_clamp (show (b + k) < 2 ^ 31 by omega)]
        rw [show (cS σ e f fa) 35 0 (b + k) = tx (b + k) from es2]
        refine hK _ _ _ _ _ ?_
        refine And.intro (fun h7 => ?_) (fun h7 => ?_)
        · refine hK _ _ _ _ _ ?_
          show K _ _ _ _ _
          rw [show nI k + Int32.ofInt 1 = nI (k + 1) from nIs _]
          refine hK _ _ _ _ _ ?_
          refine ih (k + 1) (by omega) (fun i hi => ?_)
          by_cases q : i = k
          · subst q; exact h7.symm
          · exact hd i (by omega)
        · iterate 2 refine hK _ _ _ _ _ ?_
          exact ⟨Or.inl rfl, by rw [decide_eq_false (fun q => h7 (q.2 k (by omega)).symm)]; rfl, rfl⟩
    exact L17 m 0 (by omega) (fun i hi => absurd hi (Nat.not_lt_zero _))
  · have hl : ¬ e - b = m := fun e9 => h9 (by rw [e9])
    iterate 2 refine hK _ _ _ _ _ ?_
    exact ⟨Or.inl rfl, by rw [decide_eq_false (fun q => hl q.1)]; rfl, rfl⟩
theorem c4_readWord (d : Nat) (hJ : JST l ad av) (σ : sMem) (tx : Nat → Int32) (n b : Nat) (f fa : Int32) (hT : TXR σ tx n) (hbn : b ≤ n) : yMet l D0 b0 ty ad av lay (d + 6) 0 mX4_readWord [aR 74] (cS σ b f fa) (fun r σ' => r = [aI (wdF tx n b 10 0)] ∧ σ' = cS σ (ltS tx n (n - b) b) f fa) (fun _ _ => False) := by
  refine yMet_intro lay_nd kX4_readWord xX4_ok (yY4_ok _) (by decide +kernel) rfl ?_
  intro K hK
  have hn := hT.2.2.1
  have hle := ltS_le tx n (n - b) b (by omega)
  obtain ⟨l1, l2⟩ := lt_at (tx := tx) (n := n) (n - b) b (by omega)
  generalize hZ : wdF tx n b 10 0 = Z at hK
  have hZ9 : wdF tx n b 10 0 = Z := hZ
  clear hZ
  generalize hE : ltS tx n (n - b) b = E at hK hle l1 l2
  iterate 2 refine hK _ _ _ _ _ ?_
  show K _ _ _ _ _
  rw [show (cS σ b f fa) 74 0 4 = nI b from cS_4 σ b f fa]
  refine hK _ _ _ _ _ ?_
  have L57 : K 0 57 [some (aR 74), some (aI (nI b)), none] [] (cS σ E f fa) := by
    iterate 2 refine hK _ _ _ _ _ ?_
    have L59 : ∀ (g : Nat) (j : Nat), j + g = 10 → wdF tx n b g j = Z → K 0 59 [some (aR 74), some (aI (nI b)), some (aI (nI j))] [] (cS σ E f fa) := by
      intro g
      induction g with
      | zero =>
        intro j hj hz
        iterate 3 refine hK _ _ _ _ _ ?_
        refine And.intro (fun _ => ?_) (fun h9 => absurd ((nI_leI (a := 10) (by decide) (by omega)).mpr (by omega)) h9)
        iterate 2 refine hK _ _ _ _ _ ?_
        exact ⟨by rw [← hz]; rfl, rfl⟩
      | succ g ih =>
        intro j hj hz
        have hst : wdF tx n b (g + 1) j = if (ltS tx n (n - b) b - b = yLen.getD j 0 ∧ ∀ i, i < yLen.getD j 0 → tx (b + i) = (yByt.getD j []).getD i 0) then nI j else wdF tx n b g (j + 1) := rfl
        rw [hst, hE] at hz
        iterate 3 refine hK _ _ _ _ _ ?_
        refine And.intro (fun h9 => absurd ((nI_leI (a := 10) (by decide) (by omega)).mp h9) (by omega)) (fun _ => ?_)
        iterate 3 refine hK _ _ _ _ _ ?_
        refine Or.inr (Or.inl (yD0 (c4_spelling _ _ j (by omega)) ?_))
        rintro r σ' ⟨rfl, rfl⟩
        show K 0 70 [some (aR 74), some (aI (nI b)), some (aI (nI j))] [.inl (.retAddr (ad j)), aR 74] (cS σ E f fa)
        iterate 2 refine hK _ _ _ _ _ ?_
        refine Or.inr (Or.inl (yD0 (c4_isSpelled _ hJ σ tx n b E j f fa hT hle.1 hle.2 (fun i h1 h2 => by rw [← bS_in (tx := tx) (n := n) (show i < n by omega)]; exact l1 i h1 h2) (by omega)) ?_))
        rintro r σ' ⟨rfl, rfl⟩
        show K 0 74 [some (aR 74), some (aI (nI b)), some (aI (nI j))] [aI (bI (decide (E - b = yLen.getD j 0 ∧ ∀ i, i < yLen.getD j 0 → tx (b + i) = (yByt.getD j []).getD i 0)))] (cS σ E f fa)
        refine hK _ _ _ _ _ ?_
        refine And.intro (fun h8 => ?_) (fun h8 => ?_)
        · rw [if_neg (of_decide_eq_false (bI_f h8))] at hz
          refine hK _ _ _ _ _ ?_
          show K _ _ _ _ _
          rw [show nI j + Int32.ofInt 1 = nI (j + 1) from nIs _]
          refine hK _ _ _ _ _ ?_
          exact ih (j + 1) (by omega) hz
        · rw [if_pos (of_decide_eq_true (bI_t h8))] at hz
          iterate 2 refine hK _ _ _ _ _ ?_
          exact ⟨by rw [← hz], rfl⟩
    exact L59 10 0 (by omega) hZ9
  have L5 : ∀ (g : Nat) (c : Nat), c + g = n → ltS tx n g c = E → K 0 5 [some (aR 74), some (aI (nI b)), none] [] (cS σ c f fa) := by
    intro g
    induction g with
    | zero =>
      intro c hc hz
      have hTc := hT.cS c f fa
      iterate 2 refine hK _ _ _ _ _ ?_
      show K _ _ _ _ _
      rw [show (cS σ c f fa) 74 0 4 = nI c from cS_4 σ c f fa]
      iterate 2 refine hK _ _ _ _ _ ?_
      show K _ _ _ _ _
      rw [show (cS σ c f fa) 74 0 3 = nI n from hTc.2.1]
      refine hK _ _ _ _ _ ?_
      refine And.intro (fun _ => ?_) (fun h9 => absurd ((nI_leI (by omega) (by omega)).mpr (by omega)) h9)
      have ec : c = E := hz
      subst ec
      exact L57
    | succ g ih =>
      intro c hc hz
      have hTc := hT.cS c f fa
      rw [ltS_s] at hz
      obtain ⟨x, hx, ex, es⟩ := hTc.2.2.2 c (by omega)
      have hsp := sg_at hx
      rw [bS_in (show c < n by omega), ex] at hz
      iterate 2 refine hK _ _ _ _ _ ?_
      show K _ _ _ _ _
      rw [show (cS σ c f fa) 74 0 4 = nI c from cS_4 σ c f fa]
      iterate 2 refine hK _ _ _ _ _ ?_
      show K _ _ _ _ _
      rw [show (cS σ c f fa) 74 0 3 = nI n from hTc.2.1]
      refine hK _ _ _ _ _ ?_
      refine And.intro (fun h9 => absurd ((nI_leI (by omega) (by omega)).mp h9) (by omega)) (fun _ => ?_)
      iterate 2 refine hK _ _ _ _ _ ?_
      show K _ _ _ _ _
      rw [show (cS σ c f fa) 74 0 2 = nI 35 from hTc.1]
      show K _ _ _ _ _
      rw [show (nI 35).toNatClampNeg = 35 from rfl]
      iterate 2 refine hK _ _ _ _ _ ?_
      show K _ _ _ _ _
      rw [show (cS σ c f fa) 74 0 4 = nI c from cS_4 σ c f fa]
      refine hK _ _ _ _ _ ?_
      refine And.intro (vp_in_nI (n := c) (by omega) (by decide)) ?_
      rw [nI_clamp (show c < 2 ^ 31 by omega)]
      rw [show (cS σ c f fa) 35 0 c = syB x from es]
      iterate 2 refine hK _ _ _ _ _ ?_
      refine And.intro (fun h8 => ?_) (fun h8 => ?_)
      · rw [if_neg (fun q => absurd (hsp.2.1.mpr q).1 (Int32.not_le.mpr h8))] at hz
        subst hz
        exact L57
      · iterate 2 refine hK _ _ _ _ _ ?_
        show K _ _ _ _ _
        rw [show (cS σ c f fa) 74 0 2 = nI 35 from hTc.1]
        show K _ _ _ _ _
        rw [show (nI 35).toNatClampNeg = 35 from rfl]
        iterate 2 refine hK _ _ _ _ _ ?_
        show K _ _ _ _ _
        rw [show (cS σ c f fa) 74 0 4 = nI c from cS_4 σ c f fa]
        refine hK _ _ _ _ _ ?_
        refine And.intro (vp_in_nI (n := c) (by omega) (by decide)) ?_
        rw [nI_clamp (show c < 2 ^ 31 by omega)]
        rw [show (cS σ c f fa) 35 0 c = syB x from es]
        iterate 2 refine hK _ _ _ _ _ ?_
        refine And.intro (fun h7 => ?_) (fun h7 => ?_)
        · rw [if_neg (fun q => absurd (hsp.2.1.mpr q).2 (Int32.not_le.mpr h7))] at hz
          subst hz
          exact L57
        · rw [if_pos (hsp.2.1.mp ⟨Int32.not_lt.mp h8, Int32.not_lt.mp h7⟩)] at hz
          iterate 3 refine hK _ _ _ _ _ ?_
          show K _ _ _ _ _
          rw [show (cS σ c f fa) 74 0 4 = nI c from cS_4 σ c f fa]
          iterate 2 refine hK _ _ _ _ _ ?_
          show K _ _ _ _ _
          rw [show nI c + Int32.ofInt 1 = nI (c + 1) from nIs _]
          iterate 2 refine hK _ _ _ _ _ ?_
          rw [cS_u4]
          exact ih (c + 1) (by omega) hz
  exact L5 (n - b) b (by omega) hE
end
