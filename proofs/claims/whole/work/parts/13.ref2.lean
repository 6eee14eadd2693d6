/-! THE REFERENCE, words -/
theorem ite_ne {P : Prop} [Decidable P] (h : ¬ (if P then (1 : Int32) else 0) = 0) : P := by
  by_cases q : P
  · exact q
  · rw [if_neg q] at h; exact absurd rfl h
theorem ite_eq {P : Prop} [Decidable P] (h : (if P then (1 : Int32) else 0) = 0) : ¬ P := fun q => by
  rw [if_pos q] at h; exact absurd h (by decide)
theorem blS_end (tx : Nat → Int32) (n : Nat) : ∀ f a, a + f = n → bS tx n (blS tx n f a) ≠ 32
  | 0, a, h => by
    show bS tx n a ≠ 32
    rw [bS_out _ (by omega)]; decide
  | f + 1, a, h => by
    unfold blS
    split
    · exact blS_end tx n f (a + 1) (by omega)
    · rename_i q; exact q
theorem blk_end (tx : Nat → Int32) {n a : Nat} (h : a ≤ n) : bS tx n (blk tx n a) ≠ 32 := blS_end tx n (n - a) a (by omega)
theorem blk_self (tx : Nat → Int32) {n a : Nat} (h : bS tx n a ≠ 32) : blk tx n a = a := by
  unfold blk
  cases n - a with
  | zero => rfl
  | succ f => unfold blS; rw [if_neg h]
theorem blk_idem (tx : Nat → Int32) {n a : Nat} (h : a ≤ n) : blk tx n (blk tx n a) = blk tx n a := blk_self tx (blk_end tx h)
/-- letters from b on: how many, and the word's number -/
def wdS (tx : Nat → Int32) (n b : Nat) : Nat → Nat → Int64 → Nat × Int64
  | 0, k, v => (k, v)
  | f + 1, k, v => if 97 ≤ bS tx n (b + k) ∧ bS tx n (b + k) ≤ 122 then wdS tx n b f (k + 1) (if k < 8 then 27 * v + (bS tx n (b + k)).toInt64 - 97 + 1 else v) else (k, v)
def wordS (tx : Nat → Int32) (n b : Nat) : Int64 := if (wdS tx n b (n - b) 0 0).1 ≤ 8 then (wdS tx n b (n - b) 0 0).2 else -1
def sixS (a b c d e f : Int32) : Int64 :=
  let v := 27 * (27 * a.toInt64 + b.toInt64) + c.toInt64
  let v := if d = 0 then v else 27 * v + d.toInt64
  let v := if e = 0 then v else 27 * v + e.toInt64
  if f = 0 then v else 27 * v + f.toInt64
def kindM (w : Int64) : Int32 := if w = sixS 16 12 1 3 5 19 then 0 else if w = sixS 16 5 18 19 15 14 then 1 else if w = 27 * (27 * sixS 19 20 18 1 14 7 + 5) + 18 then 2 else if w = sixS 7 21 9 4 5 0 then 3 else if w = sixS 12 1 23 0 0 0 then 4 else if w = sixS 19 20 18 5 5 20 then 5 else if w = sixS 14 15 20 0 0 0 then 6 else if w = sixS 6 9 14 4 19 0 then 7 else if w = sixS 3 8 1 14 3 5 then 8 else if w = sixS 19 9 7 14 0 0 then 9 else -1
section
variable {l : Launch} {D : va_G} {b0 : Nat} {ty : Nat → ClassId}
theorem c9_wordHere (d : Nat) (σ : sMem) (n a : Nat) (f fa : Int32) (hn : σ 0 0 2 = nI n) (h6 : n ≤ 600) (hle : a ≤ n) : sMet l D b0 ty lay (d + 2) mX9_wordHere [aR 0] (pS σ a f fa) (fun r σ' => r = [aL (wordS (σ 1 0) n (blk (σ 1 0) n a))] ∧ σ' = pS σ (blk (σ 1 0) n a) f fa) := by
  refine sMet_intro lay_nd kX9_wordHere xX9_ok (by decide +kernel) rfl ?_
  intro K hK
  have hn' : ∀ (a : Nat) (f fa : Int32), pS σ a f fa 0 0 2 = nI n := fun a f fa => by rw [pS_0 _ _ _ _ _ (by decide) (by decide) (by decide)]; exact hn
  have h1 : ∀ (a : Nat) (f fa : Int32), pS σ a f fa 1 = σ 1 := fun a f fa => pS_i _ _ _ _ _ (by decide)
  obtain ⟨hb1, hb2⟩ := blk_le (σ 1 0) hle
  generalize hB : blk (σ 1 0) n a = b at hb1 hb2 hK
  have hW : wordS (σ 1 0) n b = if (wdS (σ 1 0) n b (n - b) 0 0).1 ≤ 8 then (wdS (σ 1 0) n b (n - b) 0 0).2 else -1 := rfl
  rw [hW] at hK
  generalize hDq : wdS (σ 1 0) n b (n - b) 0 0 = Dq at hK
  have fin : ∀ (k : Nat) (v : Int64), b + k ≤ n → (k, v) = Dq → K 78 [some (aR 0), some (aL v), none, some (aI (nI k))] [] (pS σ b f fa) := by
    intro k v hk hcv
    subst hcv
    iterate 3 refine hK _ _ _ _ ?_
    refine And.intro (fun h81 => ?_) (fun h81 => ?_)
    · have h81' : nI k ≤ nI 8 := h81
      iterate 2 refine hK _ _ _ _ ?_
      refine ⟨?_, rfl⟩
      rw [if_pos ((nI_leI (by omega) (by decide)).mp h81')]
    · have h81' : ¬ nI k ≤ nI 8 := h81
      iterate 3 refine hK _ _ _ _ ?_
      refine ⟨?_, rfl⟩
      rw [if_neg (fun q => h81' ((nI_leI (by omega) (by decide)).mpr q))]
  have key : ∀ (g k : Nat) (v : Int64), b + k + g = n → wdS (σ 1 0) n b g k v = Dq → K 8 [some (aR 0), some (aL v), none, some (aI (nI k))] [] (pS σ b f fa) := by
    intro g
    have byte : ∀ (k : Nat) (v : Int64) (P : List AV → sMem → Prop), b + k ≤ n → P [aI (bS (σ 1 0) n (b + k))] (pS σ b f fa) → sCalD l D b0 ty lay (d + 2) mX9_byteAt [aR 0, aI (pS σ b f fa 0 0 4 + nI k)] (pS σ b f fa) P := by
      intro k v P hk hP
      rw [pS_4, nI_add]
      refine calD (c9_byteAt _ _ n (b + k) (hn' _ _ _) h6 (by omega)) ?_
      rintro r σ' ⟨rfl, rfl⟩
      rw [h1]
      exact hP
    induction g with
    | zero =>
      intro k v hk he
      iterate 6 refine hK _ _ _ _ ?_
      refine byte k v _ (by omega) ?_
      iterate 2 refine hK _ _ _ _ ?_
      rw [bS_out _ (by omega)]
      refine And.intro (fun h20 => fin k v (by omega) he) (fun h20 => absurd h20 (by decide))
    | succ g ih =>
      intro k v hk he
      unfold wdS at he
      iterate 6 refine hK _ _ _ _ ?_
      refine byte k v _ (by omega) ?_
      iterate 2 refine hK _ _ _ _ ?_
      refine And.intro (fun h20 => ?_) (fun h20 => ?_)
      · have h20' : bS (σ 1 0) n (b + k) < 97 := h20
        rw [if_neg (fun q => Int32.not_le.mpr h20' q.1)] at he
        exact fin k v (by omega) he
      · have h20' : ¬ bS (σ 1 0) n (b + k) < 97 := h20
        iterate 6 refine hK _ _ _ _ ?_
        refine byte k v _ (by omega) ?_
        iterate 2 refine hK _ _ _ _ ?_
        refine And.intro (fun h35 => ?_) (fun h35 => ?_)
        · have h35' : 122 < bS (σ 1 0) n (b + k) := h35
          rw [if_neg (fun q => Int32.not_le.mpr h35' q.2)] at he
          exact fin k v (by omega) he
        · have h35' : ¬ 122 < bS (σ 1 0) n (b + k) := h35
          rw [if_pos ⟨Int32.not_lt.mp h20', Int32.not_lt.mp h35'⟩] at he
          iterate 3 refine hK _ _ _ _ ?_
          have hk1 : nI k + Int32.ofInt 1 = nI (k + 1) := by rw [nI_succ]; rfl
          refine And.intro (fun h41 => ?_) (fun h41 => ?_)
          · have h41' : nI 8 ≤ nI k := h41
            rw [if_neg (fun q => absurd ((nI_leI (by decide) (by omega)).mp h41') (by omega))] at he
            iterate 3 refine hK _ _ _ _ ?_
            show K _ _ _ _
            rw [hk1]
            refine hK _ _ _ _ ?_
            exact ih (k + 1) v (by omega) he
          · have h41' : ¬ nI 8 ≤ nI k := h41
            rw [if_pos (by
              by_cases q : k < 8
              · exact q
              · exact absurd ((nI_leI (by decide) (by omega)).mpr (by omega)) h41')] at he
            iterate 9 refine hK _ _ _ _ ?_
            refine byte k v _ (by omega) ?_
            iterate 9 refine hK _ _ _ _ ?_
            show K _ _ _ _
            rw [hk1]
            refine hK _ _ _ _ ?_
            exact ih (k + 1) _ (by omega) he
  iterate 2 refine hK _ _ _ _ ?_
  refine calD (c9_blanks d σ n a f fa hn h6 hle) ?_
  rintro r σ' ⟨rfl, rfl⟩
  rw [hB]
  iterate 4 refine hK _ _ _ _ ?_
  exact key (n - b) 0 0 (by omega) hDq
theorem c9_six (d' : Nat) (σ : sMem) (a b c d e f : Int32) : sMet l D b0 ty lay d' mX9_six [aI a, aI b, aI c, aI d, aI e, aI f] σ (fun r σ' => r = [aL (sixS a b c d e f)] ∧ σ' = σ) := by
  refine sMet_intro lay_nd kX9_six xX9_ok (by decide +kernel) rfl ?_
  intro K hK
  have l80 : ∀ v : Int64, v = sixS a b c d e f → ∀ E, K 80 E [aL v] σ := by
    intro v hv E
    refine hK _ _ _ _ ?_
    exact ⟨by rw [hv], rfl⟩
  have l58 : ∀ v w : Int64, (if f = 0 then v else 27 * v + f.toInt64) = sixS a b c d e f → K 58 [some (aI a), some (aI b), some (aI c), some (aI d), some (aI e), some (aI f), some (aL w), none] [aL v] σ := by
    intro v w hv
    iterate 3 refine hK _ _ _ _ ?_
    refine And.intro (fun h62 => ?_) (fun h62 => ?_)
    · rw [if_neg h62] at hv
      iterate 6 refine hK _ _ _ _ ?_
      exact l80 _ hv _
    · rw [if_pos h62] at hv
      iterate 2 refine hK _ _ _ _ ?_
      exact l80 _ hv _
  have l36 : ∀ v w : Int64, (let v := if e = 0 then v else 27 * v + e.toInt64; if f = 0 then v else 27 * v + f.toInt64) = sixS a b c d e f → K 36 [some (aI a), some (aI b), some (aI c), some (aI d), some (aI e), some (aI f), some (aL w), none] [aL v] σ := by
    intro v w hv
    iterate 3 refine hK _ _ _ _ ?_
    refine And.intro (fun h40 => ?_) (fun h40 => ?_)
    · simp only [if_neg h40] at hv
      iterate 6 refine hK _ _ _ _ ?_
      exact l58 _ _ hv
    · simp only [if_pos h40] at hv
      iterate 2 refine hK _ _ _ _ ?_
      exact l58 _ _ hv
  iterate 15 refine hK _ _ _ _ ?_
  refine And.intro (fun h19 => ?_) (fun h19 => ?_)
  · iterate 6 refine hK _ _ _ _ ?_
    refine l36 _ _ ?_
    simp only [sixS, if_neg h19]
  · iterate 2 refine hK _ _ _ _ ?_
    refine l36 _ _ ?_
    simp only [sixS, if_pos h19]
theorem lgc_eq (x y : Int64) : lg_cmp x y = 0 ↔ x = y := by
  unfold lg_cmp
  constructor
  · intro h
    by_cases h1 : y < x
    · rw [if_pos h1] at h; exact absurd h (by decide)
    · rw [if_neg h1] at h
      by_cases h2 : x = y
      · exact h2
      · rw [if_neg h2] at h; exact absurd h (by decide)
  · rintro rfl
    simp
theorem c9_isWord (d : Nat) (σ : sMem) (n a : Nat) (fa : Int32) (w : Int64) (hn : σ 0 0 2 = nI n) (h6 : n ≤ 600) (hle : a ≤ n) : sMet l D b0 ty lay (d + 3) mX9_isWord [aR 0, aL w] (pS σ a 0 fa) (fun r σ' => r = [aI (if wordS (σ 1 0) n (blk (σ 1 0) n a) = w then 1 else 0)] ∧ σ' = pS σ (blk (σ 1 0) n a) 0 fa) := by
  refine sMet_intro lay_nd kX9_isWord xX9_ok (by decide +kernel) rfl ?_
  intro K hK
  iterate 3 refine hK _ _ _ _ ?_
  rw [pS_5]
  refine And.intro (fun h4 => absurd rfl h4) (fun h4 => ?_)
  iterate 2 refine hK _ _ _ _ ?_
  refine calD (c9_wordHere d σ n a 0 fa hn h6 hle) ?_
  rintro r σ' ⟨rfl, rfl⟩
  iterate 3 refine hK _ _ _ _ ?_
  refine And.intro (fun h13 => ?_) (fun h13 => ?_)
  · iterate 2 refine hK _ _ _ _ ?_
    refine ⟨Or.inl rfl, ?_, rfl⟩
    rw [if_neg (fun q => h13 ((lgc_eq _ _).mpr q))]; rfl
  · iterate 3 refine hK _ _ _ _ ?_
    refine ⟨Or.inr rfl, ?_, rfl⟩
    rw [if_pos ((lgc_eq _ _).mp h13)]; rfl
theorem c9_kindHere (d : Nat) (σ : sMem) (n a : Nat) (fa : Int32) (hn : σ 0 0 2 = nI n) (h6 : n ≤ 600) (hle : a ≤ n) : sMet l D b0 ty lay (d + 4) mX9_kindHere [aR 0] (pS σ a 0 fa) (fun r σ' => r = [aI (kindM (wordS (σ 1 0) n (blk (σ 1 0) n a)))] ∧ σ' = pS σ (blk (σ 1 0) n a) 0 fa) := by
  refine sMet_intro lay_nd kX9_kindHere xX9_ok (by decide +kernel) rfl ?_
  intro K hK
  obtain ⟨hb1, hb2⟩ := blk_le (σ 1 0) hle
  have hid := blk_idem (σ 1 0) hle
  generalize hB : blk (σ 1 0) n a = b at hb1 hb2 hK hid
  generalize hW : wordS (σ 1 0) n b = w at hK
  iterate 8 refine hK _ _ _ _ ?_
  refine calD (c9_six _ _ _ _ _ _ _ _) ?_
  rintro r σ' ⟨rfl, rfl⟩
  refine hK _ _ _ _ ?_
  refine calD (c9_isWord d σ n a fa _ hn h6 hle) ?_
  rintro r σ' ⟨rfl, rfl⟩
  rw [hB, hW]
  refine hK _ _ _ _ ?_
  refine And.intro (fun z => ?_) (fun z => ?_)
  rotate_left
  · have e0 : w = sixS 16 12 1 3 5 19 := ite_ne z
    iterate 2 refine hK _ _ _ _ ?_
    refine ⟨?_, rfl⟩
    simp only [kindM, if_pos e0]
    rfl
  have e0 : ¬ w = sixS 16 12 1 3 5 19 := ite_eq z
  iterate 8 refine hK _ _ _ _ ?_
  refine calD (c9_six _ _ _ _ _ _ _ _) ?_
  rintro r σ' ⟨rfl, rfl⟩
  refine hK _ _ _ _ ?_
  refine calD (c9_isWord d σ n b fa _ hn h6 hb2) ?_
  rintro r σ' ⟨rfl, rfl⟩
  rw [hid, hW]
  refine hK _ _ _ _ ?_
  refine And.intro (fun z => ?_) (fun z => ?_)
  rotate_left
  · have e1 : w = sixS 16 5 18 19 15 14 := ite_ne z
    iterate 2 refine hK _ _ _ _ ?_
    refine ⟨?_, rfl⟩
    simp only [kindM, if_neg e0, if_pos e1]
    rfl
  have e1 : ¬ w = sixS 16 5 18 19 15 14 := ite_eq z
  iterate 10 refine hK _ _ _ _ ?_
  refine calD (c9_six _ _ _ _ _ _ _ _) ?_
  rintro r σ' ⟨rfl, rfl⟩
  iterate 7 refine hK _ _ _ _ ?_
  refine calD (c9_isWord d σ n b fa _ hn h6 hb2) ?_
  rintro r σ' ⟨rfl, rfl⟩
  rw [hid, hW]
  refine hK _ _ _ _ ?_
  refine And.intro (fun z => ?_) (fun z => ?_)
  rotate_left
  · have e2 : w = 27 * (27 * sixS 19 20 18 1 14 7 + 5) + 18 := ite_ne z
    iterate 2 refine hK _ _ _ _ ?_
    refine ⟨?_, rfl⟩
    simp only [kindM, if_neg e0, if_neg e1, if_pos e2]
    rfl
  have e2 : ¬ w = 27 * (27 * sixS 19 20 18 1 14 7 + 5) + 18 := ite_eq z
  iterate 8 refine hK _ _ _ _ ?_
  refine calD (c9_six _ _ _ _ _ _ _ _) ?_
  rintro r σ' ⟨rfl, rfl⟩
  refine hK _ _ _ _ ?_
  refine calD (c9_isWord d σ n b fa _ hn h6 hb2) ?_
  rintro r σ' ⟨rfl, rfl⟩
  rw [hid, hW]
  refine hK _ _ _ _ ?_
  refine And.intro (fun z => ?_) (fun z => ?_)
  rotate_left
  · have e3 : w = sixS 7 21 9 4 5 0 := ite_ne z
    iterate 2 refine hK _ _ _ _ ?_
    refine ⟨?_, rfl⟩
    simp only [kindM, if_neg e0, if_neg e1, if_neg e2, if_pos e3]
    rfl
  have e3 : ¬ w = sixS 7 21 9 4 5 0 := ite_eq z
  iterate 8 refine hK _ _ _ _ ?_
  refine calD (c9_six _ _ _ _ _ _ _ _) ?_
  rintro r σ' ⟨rfl, rfl⟩
  refine hK _ _ _ _ ?_
  refine calD (c9_isWord d σ n b fa _ hn h6 hb2) ?_
  rintro r σ' ⟨rfl, rfl⟩
  rw [hid, hW]
  refine hK _ _ _ _ ?_
  refine And.intro (fun z => ?_) (fun z => ?_)
  rotate_left
  · have e4 : w = sixS 12 1 23 0 0 0 := ite_ne z
    iterate 2 refine hK _ _ _ _ ?_
    refine ⟨?_, rfl⟩
    simp only [kindM, if_neg e0, if_neg e1, if_neg e2, if_neg e3, if_pos e4]
    rfl
  have e4 : ¬ w = sixS 12 1 23 0 0 0 := ite_eq z
  iterate 8 refine hK _ _ _ _ ?_
  refine calD (c9_six _ _ _ _ _ _ _ _) ?_
  rintro r σ' ⟨rfl, rfl⟩
  refine hK _ _ _ _ ?_
  refine calD (c9_isWord d σ n b fa _ hn h6 hb2) ?_
  rintro r σ' ⟨rfl, rfl⟩
  rw [hid, hW]
  refine hK _ _ _ _ ?_
  refine And.intro (fun z => ?_) (fun z => ?_)
  rotate_left
  · have e5 : w = sixS 19 20 18 5 5 20 := ite_ne z
    iterate 2 refine hK _ _ _ _ ?_
    refine ⟨?_, rfl⟩
    simp only [kindM, if_neg e0, if_neg e1, if_neg e2, if_neg e3, if_neg e4, if_pos e5]
    rfl
  have e5 : ¬ w = sixS 19 20 18 5 5 20 := ite_eq z
  iterate 8 refine hK _ _ _ _ ?_
  refine calD (c9_six _ _ _ _ _ _ _ _) ?_
  rintro r σ' ⟨rfl, rfl⟩
  refine hK _ _ _ _ ?_
  refine calD (c9_isWord d σ n b fa _ hn h6 hb2) ?_
  rintro r σ' ⟨rfl, rfl⟩
  rw [hid, hW]
  refine hK _ _ _ _ ?_
  refine And.intro (fun z => ?_) (fun z => ?_)
  rotate_left
  · have e6 : w = sixS 14 15 20 0 0 0 := ite_ne z
    iterate 2 refine hK _ _ _ _ ?_
    refine ⟨?_, rfl⟩
    simp only [kindM, if_neg e0, if_neg e1, if_neg e2, if_neg e3, if_neg e4, if_neg e5, if_pos e6]
    rfl
  have e6 : ¬ w = sixS 14 15 20 0 0 0 := ite_eq z
  iterate 8 refine hK _ _ _ _ ?_
  refine calD (c9_six _ _ _ _ _ _ _ _) ?_
  rintro r σ' ⟨rfl, rfl⟩
  refine hK _ _ _ _ ?_
  refine calD (c9_isWord d σ n b fa _ hn h6 hb2) ?_
  rintro r σ' ⟨rfl, rfl⟩
  rw [hid, hW]
  refine hK _ _ _ _ ?_
  refine And.intro (fun z => ?_) (fun z => ?_)
  rotate_left
  · have e7 : w = sixS 6 9 14 4 19 0 := ite_ne z
    iterate 2 refine hK _ _ _ _ ?_
    refine ⟨?_, rfl⟩
    simp only [kindM, if_neg e0, if_neg e1, if_neg e2, if_neg e3, if_neg e4, if_neg e5, if_neg e6, if_pos e7]
    rfl
  have e7 : ¬ w = sixS 6 9 14 4 19 0 := ite_eq z
  iterate 8 refine hK _ _ _ _ ?_
  refine calD (c9_six _ _ _ _ _ _ _ _) ?_
  rintro r σ' ⟨rfl, rfl⟩
  refine hK _ _ _ _ ?_
  refine calD (c9_isWord d σ n b fa _ hn h6 hb2) ?_
  rintro r σ' ⟨rfl, rfl⟩
  rw [hid, hW]
  refine hK _ _ _ _ ?_
  refine And.intro (fun z => ?_) (fun z => ?_)
  rotate_left
  · have e8 : w = sixS 3 8 1 14 3 5 := ite_ne z
    iterate 2 refine hK _ _ _ _ ?_
    refine ⟨?_, rfl⟩
    simp only [kindM, if_neg e0, if_neg e1, if_neg e2, if_neg e3, if_neg e4, if_neg e5, if_neg e6, if_neg e7, if_pos e8]
    rfl
  have e8 : ¬ w = sixS 3 8 1 14 3 5 := ite_eq z
  iterate 8 refine hK _ _ _ _ ?_
  refine calD (c9_six _ _ _ _ _ _ _ _) ?_
  rintro r σ' ⟨rfl, rfl⟩
  refine hK _ _ _ _ ?_
  refine calD (c9_isWord d σ n b fa _ hn h6 hb2) ?_
  rintro r σ' ⟨rfl, rfl⟩
  rw [hid, hW]
  refine hK _ _ _ _ ?_
  refine And.intro (fun z => ?_) (fun z => ?_)
  rotate_left
  · have e9 : w = sixS 19 9 7 14 0 0 := ite_ne z
    iterate 3 refine hK _ _ _ _ ?_
    refine ⟨?_, rfl⟩
    simp only [kindM, if_neg e0, if_neg e1, if_neg e2, if_neg e3, if_neg e4, if_neg e5, if_neg e6, if_neg e7, if_neg e8, if_pos e9]
    rfl
  have e9 : ¬ w = sixS 19 9 7 14 0 0 := ite_eq z
  iterate 2 refine hK _ _ _ _ ?_
  refine ⟨?_, rfl⟩
  simp only [kindM, if_neg e0, if_neg e1, if_neg e2, if_neg e3, if_neg e4, if_neg e5, if_neg e6, if_neg e7, if_neg e8, if_neg e9]
  rfl
theorem c9_closes (d : Nat) (σ : sMem) (n a : Nat) (fa : Int32) (hn : σ 0 0 2 = nI n) (h6 : n ≤ 600) (hle : a ≤ n) : sMet l D b0 ty lay (d + 2) mX9_closes [aR 0] (pS σ a 0 fa) (fun r σ' => r = [] ∧ σ' = if bS (σ 1 0) n (blk (σ 1 0) n a) = 59 then pS σ (blk (σ 1 0) n a + 1) 0 fa else pS σ (blk (σ 1 0) n a) 1 (nI (blk (σ 1 0) n a))) := by
  refine sMet_intro lay_nd kX9_closes xX9_ok (by decide +kernel) rfl ?_
  intro K hK
  have hn' : ∀ (a : Nat) (f fa : Int32), pS σ a f fa 0 0 2 = nI n := fun a f fa => by rw [pS_0 _ _ _ _ _ (by decide) (by decide) (by decide)]; exact hn
  have h1 : ∀ (a : Nat) (f fa : Int32), pS σ a f fa 1 = σ 1 := fun a f fa => pS_i _ _ _ _ _ (by decide)
  obtain ⟨hb1, hb2⟩ := blk_le (σ 1 0) hle
  generalize hB : blk (σ 1 0) n a = b at hb1 hb2 hK
  iterate 3 refine hK _ _ _ _ ?_
  rw [pS_5]
  refine And.intro (fun h4 => ?_) (fun h4 => absurd rfl h4)
  iterate 2 refine hK _ _ _ _ ?_
  refine calD (c9_blanks d σ n a 0 fa hn h6 hle) ?_
  rintro r σ' ⟨rfl, rfl⟩
  rw [hB]
  iterate 4 refine hK _ _ _ _ ?_
  rw [pS_4]
  refine calD (c9_byteAt _ _ n b (hn' _ _ _) h6 (by omega)) ?_
  rintro r σ' ⟨rfl, rfl⟩
  iterate 2 refine hK _ _ _ _ ?_
  rw [h1]
  refine And.intro (fun h22 => ?_) (fun h22 => ?_)
  · have h22' : ¬ bS (σ 1 0) n b = 59 := h22
    iterate 5 refine hK _ _ _ _ ?_
    rw [pS_4]
    refine calD (c9_wrongP _ σ b 0 fa _ b) ?_
    rintro r σ' ⟨rfl, rfl⟩
    refine hK _ _ _ _ ?_
    refine ⟨rfl, ?_⟩
    rw [if_neg h22']
    rfl
  · have h22' : bS (σ 1 0) n b = 59 := h22
    iterate 6 refine hK _ _ _ _ ?_
    show K _ _ _ _
    rw [pS_4]
    have e1 : nI b + Int32.ofInt 1 = nI (b + 1) := by rw [nI_succ]; rfl
    rw [e1, pS_u4]
    iterate 2 refine hK _ _ _ _ ?_
    refine ⟨rfl, ?_⟩
    rw [if_pos h22']
theorem c9_closes0 (d : Nat) (σ : sMem) (h0 : ¬ σ 0 0 5 = 0) : sMet l D b0 ty lay d mX9_closes [aR 0] σ (fun r σ' => r = [] ∧ σ' = σ) := by
  refine sMet_intro lay_nd kX9_closes xX9_ok (by decide +kernel) rfl ?_
  intro K hK
  iterate 3 refine hK _ _ _ _ ?_
  refine And.intro (fun h4 => absurd h4 h0) (fun h4 => ?_)
  refine hK _ _ _ _ ?_
  exact ⟨rfl, rfl⟩
def mostS (k : Int32) : Int32 := if k = 1 then 10 else if k = 2 then 8 else if k = 3 then 4 else 20
theorem c9_mostOf (d : Nat) (σ : sMem) (k : Int32) : sMet l D b0 ty lay d mX9_mostOf [aI k] σ (fun r σ' => r = [aI (mostS k)] ∧ σ' = σ) := by
  refine sMet_intro lay_nd kX9_mostOf xX9_ok (by decide +kernel) rfl ?_
  intro K hK
  iterate 3 refine hK _ _ _ _ ?_
  refine And.intro (fun h2 => ?_) (fun h2 => ?_)
  · have h2' : ¬ k = 1 := h2
    iterate 3 refine hK _ _ _ _ ?_
    refine And.intro (fun h12 => ?_) (fun h12 => ?_)
    · have h12' : ¬ k = 2 := h12
      iterate 3 refine hK _ _ _ _ ?_
      refine And.intro (fun h22 => ?_) (fun h22 => ?_)
      · have h22' : ¬ k = 3 := h22
        iterate 2 refine hK _ _ _ _ ?_
        refine ⟨?_, rfl⟩
        simp only [mostS, if_neg h2', if_neg h12', if_neg h22']; rfl
      · have h22' : k = 3 := h22
        iterate 3 refine hK _ _ _ _ ?_
        refine ⟨?_, rfl⟩
        simp only [mostS, if_neg h2', if_neg h12', if_pos h22']; rfl
    · have h12' : k = 2 := h12
      iterate 3 refine hK _ _ _ _ ?_
      refine ⟨?_, rfl⟩
      simp only [mostS, if_neg h2', if_pos h12']; rfl
  · have h2' : k = 1 := h2
    iterate 3 refine hK _ _ _ _ ?_
    refine ⟨?_, rfl⟩
    simp only [mostS, if_pos h2']; rfl
end
