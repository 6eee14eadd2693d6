/-! String.length and charAt of the reader's ten words -/
theorem j_nar0 : narrow .byte (.int 0) = .int 0 ∧ narrow .boolean (.int 1) = .int 1 := by decide +kernel
theorem j_len : ∀ j, j < 10 → nI (yLen.getD j 0) >>> ((0 : Int32) &&& 31) = nI (yLen.getD j 0) ∧ yLen.getD j 0 < 100 ∧ Int32.ofNat (yLen.getD j 0) = nI (yLen.getD j 0) := by decide +kernel
theorem j_chr : ∀ j, j < 10 → ∀ m, m < yLen.getD j 0 → ((((yByt.getD j []).getD m 0 &&& (Int16.ofInt 255).toInt32).toUInt32 % 65536).toInt32 = (yByt.getD j []).getD m 0 ∧ narrow .char (.int ((yByt.getD j []).getD m 0)) = .int ((yByt.getD j []).getD m 0)) := by decide +kernel
theorem va_S.any {A : Nat → Prop} {H0 H : Heap} {lo : List Loc} (h : va_S (fun _ => False) H0 H lo) : va_S A H0 H lo := ⟨h.1, fun q h1 _ => h.2.1 q h1 (fun z => z), fun q hq => (h.2.2 q hq).elim⟩
theorem jPc_blind {ad av : Nat → Nat} {A : Nat → Prop} {as : List Value} : FrameBlind (va_Pc as (fun U => yEnv ad av A U U.heap)) := fun a U g mk h => ⟨h.1, yEnv.warm (State.WarmedH.refl U) h.2⟩
theorem jPt_blind {as : List Value} : FrameBlind (va_Pc as (fun _ => True)) := fun a U g mk h => ⟨h.1, trivial⟩
def jQ (P : Int32 → Prop) : Array Value → State → Outcome → State → Prop := va_Qi (fun r (_ : Unit) => P r) (fun _ _ => True) (fun _ => False)
theorem jk1 : Cond.fieldLink RJ0 38 RJ0 "COMPACT_STRINGS" "Z" ∈ sTB := by decide +kernel
theorem jk2 : Cond.fieldLink RJ0 15 RJ0 "coder" "B" ∈ sTB := by decide +kernel
theorem jk3 : Cond.fieldLink RJ0 9 RJ0 "value" "[B" ∈ sTB := by decide +kernel
theorem jk4 : Cond.fieldLink RJ0 1053 RJ3 "SIOOBE_FORMATTER" "Ljava/util/function/BiFunction;" ∈ sTB := by decide +kernel
theorem jg1 : GoodIn sTB (wsV RJ0 335 RJ0 yJ0_coder_7d493 (Cond.code yJ0_coder_7d493 cJ0_coder_7d493 1 (some .byte) :: sTB)) := by
  have h1 : ∀ w ∈ (wsV RJ0 335 RJ0 yJ0_coder_7d493 [Cond.code yJ0_coder_7d493 cJ0_coder_7d493 1 (some .byte)]), w ∈ sTB := by decide +kernel
  intro w hw
  have hm : w ∈ sTB := by
    unfold wsV at hw h1
    simp only [List.cons_append, List.nil_append, List.mem_cons, List.not_mem_nil, or_false] at hw h1
    rcases hw with h | h | h | h | h | h
    · exact h1 w (Or.inl h)
    · exact h1 w (Or.inr (Or.inl h))
    · exact h1 w (Or.inr (Or.inr (Or.inl h)))
    · exact h1 w (Or.inr (Or.inr (Or.inr (Or.inl h))))
    · exact h1 w (Or.inr (Or.inr (Or.inr (Or.inr h))))
    · exact h
  exact sTB_good w hm
theorem jg2 : GoodIn sTB (wsV RJ0 492 RJ0 yJ0_isLatin1_aae02 (Cond.code yJ0_isLatin1_aae02 cJ0_isLatin1_aae02 1 (some .boolean) :: sTB)) := by
  have h1 : ∀ w ∈ (wsV RJ0 492 RJ0 yJ0_isLatin1_aae02 [Cond.code yJ0_isLatin1_aae02 cJ0_isLatin1_aae02 1 (some .boolean)]), w ∈ sTB := by decide +kernel
  intro w hw
  have hm : w ∈ sTB := by
    unfold wsV at hw h1
    simp only [List.cons_append, List.nil_append, List.mem_cons, List.not_mem_nil, or_false] at hw h1
    rcases hw with h | h | h | h | h | h
    · exact h1 w (Or.inl h)
    · exact h1 w (Or.inr (Or.inl h))
    · exact h1 w (Or.inr (Or.inr (Or.inl h)))
    · exact h1 w (Or.inr (Or.inr (Or.inr (Or.inl h))))
    · exact h1 w (Or.inr (Or.inr (Or.inr (Or.inr h))))
    · exact h
  exact sTB_good w hm
theorem jg3 : GoodIn sTB (va_wsS RJ0 495 yJ1_charAt_3b067 (Cond.code yJ1_charAt_3b067 cJ1_charAt_3b067 2 (some .char) :: sTB)) := by
  have h1 : ∀ w ∈ (va_wsS RJ0 495 yJ1_charAt_3b067 [Cond.code yJ1_charAt_3b067 cJ1_charAt_3b067 2 (some .char)]), w ∈ sTB := by decide +kernel
  intro w hw
  have hm : w ∈ sTB := by
    unfold va_wsS at hw h1
    simp only [List.cons_append, List.nil_append, List.mem_cons, List.not_mem_nil, or_false] at hw h1
    rcases hw with h | h | h | h | h
    · exact h1 w (Or.inl h)
    · exact h1 w (Or.inr (Or.inl h))
    · exact h1 w (Or.inr (Or.inr (Or.inl h)))
    · exact h1 w (Or.inr (Or.inr (Or.inr h)))
    · exact h
  exact sTB_good w hm
theorem jg4 : GoodIn sTB (va_wsS RJ1 9 yJ0_checkIndex_df160 (Cond.code yJ0_checkIndex_df160 cJ0_checkIndex_df160 2 none :: sTB)) := by
  have h1 : ∀ w ∈ (va_wsS RJ1 9 yJ0_checkIndex_df160 [Cond.code yJ0_checkIndex_df160 cJ0_checkIndex_df160 2 none]), w ∈ sTB := by decide +kernel
  intro w hw
  have hm : w ∈ sTB := by
    unfold va_wsS at hw h1
    simp only [List.cons_append, List.nil_append, List.mem_cons, List.not_mem_nil, or_false] at hw h1
    rcases hw with h | h | h | h | h
    · exact h1 w (Or.inl h)
    · exact h1 w (Or.inr (Or.inl h))
    · exact h1 w (Or.inr (Or.inr (Or.inl h)))
    · exact h1 w (Or.inr (Or.inr (Or.inr h)))
    · exact h
  exact sTB_good w hm
theorem jg5 : GoodIn sTB (va_wsS RJ0 1059 yJ3_checkIndex_8e157 (Cond.code yJ3_checkIndex_8e157 cJ3_checkIndex_8e157 3 (some .int) :: sTB)) := by
  have h1 : ∀ w ∈ (va_wsS RJ0 1059 yJ3_checkIndex_8e157 [Cond.code yJ3_checkIndex_8e157 cJ3_checkIndex_8e157 3 (some .int)]), w ∈ sTB := by decide +kernel
  intro w hw
  have hm : w ∈ sTB := by
    unfold va_wsS at hw h1
    simp only [List.cons_append, List.nil_append, List.mem_cons, List.not_mem_nil, or_false] at hw h1
    rcases hw with h | h | h | h | h
    · exact h1 w (Or.inl h)
    · exact h1 w (Or.inr (Or.inl h))
    · exact h1 w (Or.inr (Or.inr (Or.inl h)))
    · exact h1 w (Or.inr (Or.inr (Or.inr h)))
    · exact h
  exact sTB_good w hm
section
variable {l : Launch} {ad av : Nat → Nat}
theorem j_coder (A : Nat → Prop) (j : Nat) (hj : j < 10) : Met l yJ0_coder_7d493 (Cond.code yJ0_coder_7d493 cJ0_coder_7d493 1 (some .byte) :: sTB) (sRm 0) (va_Pc [.ref (ad j)] (fun U => yEnv ad av A U U.heap)) (va_Qi (fun r (_ : Unit) => r = 0) (fun _ _ => True) (fun _ => False)) 0 0 (fun _ => False) := by
  refine Met.ofW (cc := cJ0_coder_7d493) (maxL := 1) (ret := (some .byte)) (by decide) rfl ?_
  intro p e s m args below meth c s₁ B hml hv
  obtain ⟨rfl, hE⟩ := hv
  have hts0 := atoms_spec (ws := Cond.code yJ0_coder_7d493 cJ0_coder_7d493 1 (some .byte) :: sTB) B.pre
  have hts : ∀ w ∈ sTB, w.before _ s = true := fun w h => hts0 w (List.mem_cons_of_mem _ h)
  have hown : s.vm.findClass RJ0 = some m.cls := findClass_of_methodNamed B.named
  have S0 : va_S (fun _ => False) s.heap s.heap [] := va_S.rf
  rw [lg_entry_eq]
  obtain ⟨-, -, -, -, -, -, eS, eC, -, eF⟩ := id hE
  refine va_gets B.exec B.bytes eC S0.any hown (hts _ jk1) (fun _ h => h) (show decode cJ0_coder_7d493 0 = .ok (.getstatic 38, 3) by decide +kernel) ?_
  refine lv_if_eq B.exec B.bytes (show decode cJ0_coder_7d493 3 = .ok (.ifCond .eq 10, 3) by decide +kernel) (tgt := 13) (by decide) (fun q => absurd q (by decide)) (fun _ => ?_)
  refine lv_aload_n B.exec B.bytes (show decode cJ0_coder_7d493 6 = .ok (.aload_n 0, 1) by decide +kernel) rfl rfl ?_
  refine vk_getf B.exec B.bytes (eS.1 j hj).2.1 S0.any hown (hts _ jk2) (fun _ h => h) (show decode cJ0_coder_7d493 7 = .ok (.getfield 15, 3) by decide +kernel) ?_
  refine lv_goto B.exec B.bytes (show decode cJ0_coder_7d493 10 = .ok (.goto 4, 3) by decide +kernel) (tgt := 14) (by decide) ?_
  exact W.zret B.exec B.bytes B.returns j_nar0.1 (fun t ht hW => ⟨⟨0, (), rfl, rfl, trivial⟩, S0.F ht⟩) S0.2.2 (show decode cJ0_coder_7d493 14 = .ok (.ireturn, 1) by decide +kernel) B.notSynchronized
theorem j_isLatin1 (A : Nat → Prop) (j : Nat) (hj : j < 10) : Met l yJ0_isLatin1_aae02 (Cond.code yJ0_isLatin1_aae02 cJ0_isLatin1_aae02 1 (some .boolean) :: sTB) (sRm 0) (va_Pc [.ref (ad j)] (fun U => yEnv ad av A U U.heap)) (va_Qi (fun r (_ : Unit) => r = 1) (fun _ _ => True) (fun _ => False)) 0 0 (fun _ => False) := by
  refine Met.ofW (cc := cJ0_isLatin1_aae02) (maxL := 1) (ret := (some .boolean)) (by decide) rfl ?_
  intro p e s m args below meth c s₁ B hml hv
  obtain ⟨rfl, hE⟩ := hv
  have hts0 := atoms_spec (ws := Cond.code yJ0_isLatin1_aae02 cJ0_isLatin1_aae02 1 (some .boolean) :: sTB) B.pre
  have hts : ∀ w ∈ sTB, w.before _ s = true := fun w h => hts0 w (List.mem_cons_of_mem _ h)
  have hown : s.vm.findClass RJ0 = some m.cls := findClass_of_methodNamed B.named
  have S0 : va_S (fun _ => False) s.heap s.heap [] := va_S.rf
  rw [lg_entry_eq]
  obtain ⟨-, -, -, -, -, -, eS, eC, -, eF⟩ := id hE
  refine va_gets B.exec B.bytes eC S0.any hown (hts _ jk1) (fun _ h => h) (show decode cJ0_isLatin1_aae02 0 = .ok (.getstatic 38, 3) by decide +kernel) ?_
  refine lv_if_eq B.exec B.bytes (show decode cJ0_isLatin1_aae02 3 = .ok (.ifCond .eq 14, 3) by decide +kernel) (tgt := 17) (by decide) (fun q => absurd q (by decide)) (fun _ => ?_)
  refine lv_aload_n B.exec B.bytes (show decode cJ0_isLatin1_aae02 6 = .ok (.aload_n 0, 1) by decide +kernel) rfl rfl ?_
  refine vk_getf B.exec B.bytes (eS.1 j hj).2.1 S0.any hown (hts _ jk2) (fun _ h => h) (show decode cJ0_isLatin1_aae02 7 = .ok (.getfield 15, 3) by decide +kernel) ?_
  refine lv_if_ne B.exec B.bytes (show decode cJ0_isLatin1_aae02 10 = .ok (.ifCond .ne 7, 3) by decide +kernel) (tgt := 17) (by decide) (fun q => absurd rfl q) (fun _ => ?_)
  refine lv_iconst B.exec B.bytes (show decode cJ0_isLatin1_aae02 13 = .ok (.iconst 1, 1) by decide +kernel) (v := 1) (by decide) ?_
  refine lv_goto B.exec B.bytes (show decode cJ0_isLatin1_aae02 14 = .ok (.goto 4, 3) by decide +kernel) (tgt := 18) (by decide) ?_
  exact W.zret B.exec B.bytes B.returns j_nar0.2 (fun t ht hW => ⟨⟨1, (), rfl, rfl, trivial⟩, S0.F ht⟩) S0.2.2 (show decode cJ0_isLatin1_aae02 18 = .ok (.ireturn, 1) by decide +kernel) B.notSynchronized
theorem j_length (A : Nat → Prop) (j : Nat) (hj : j < 10) : Met l yJ0_length_8abf5 (Cond.code yJ0_length_8abf5 cJ0_length_8abf5 1 (some .int) :: sTB) (sRm 4) (va_Pc [.ref (ad j)] (fun U => yEnv ad av A U U.heap)) (va_Qi (fun r (_ : Unit) => r = nI (yLen.getD j 0)) (fun _ _ => True) (fun _ => False)) 0 0 (fun _ => False) := by
  refine Met.ofW (cc := cJ0_length_8abf5) (maxL := 1) (ret := (some .int)) (by decide) rfl ?_
  intro p e s m args below meth c s₁ B hml hv
  obtain ⟨rfl, hE⟩ := hv
  have hts0 := atoms_spec (ws := Cond.code yJ0_length_8abf5 cJ0_length_8abf5 1 (some .int) :: sTB) B.pre
  have hts : ∀ w ∈ sTB, w.before _ s = true := fun w h => hts0 w (List.mem_cons_of_mem _ h)
  have hown : s.vm.findClass RJ0 = some m.cls := findClass_of_methodNamed B.named
  have S0 : va_S (fun _ => False) s.heap s.heap [] := va_S.rf
  rw [lg_entry_eq]
  obtain ⟨-, -, -, -, -, -, eS, eC, -, eF⟩ := id hE
  obtain ⟨v1, v2, v3⟩ := j_len j hj
  refine lv_aload_n B.exec B.bytes (show decode cJ0_length_8abf5 0 = .ok (.aload_n 0, 1) by decide +kernel) rfl rfl ?_
  refine vk_getf B.exec B.bytes (eS.1 j hj).2.2.1 S0.any hown (hts _ jk3) (fun _ h => h) (show decode cJ0_length_8abf5 1 = .ok (.getfield 9, 3) by decide +kernel) ?_
  refine va_tlen B.exec B.bytes (eS.1 j hj).2.2.2 S0.any v3 (show decode cJ0_length_8abf5 4 = .ok (.arraylength, 1) by decide +kernel) ?_
  refine lv_aload_n B.exec B.bytes (show decode cJ0_length_8abf5 5 = .ok (.aload_n 0, 1) by decide +kernel) rfl rfl ?_
  have cw := cwV (R := (headSpec (Cond.code yJ0_length_8abf5 cJ0_length_8abf5 1 (some .int) :: sTB) (sRm 4)).room) (s := s) (args := _) (own := RJ0) (C := RJ0) (index := 335) (y := yJ0_coder_7d493) (bytes := cJ0_coder_7d493) (maxL := 1) (ret := (some .byte)) (Ts := sTB) (ws := Cond.code yJ0_coder_7d493 cJ0_coder_7d493 1 (some .byte) :: sTB) (rm := sRm 0) (mc := 0) (ms := 0) 0 hts jg1 rfl rfl rfl ⟨rfl, by decide, by decide, by decide +kernel⟩ ⟨by show 0 + 1 ≤ 4; decide, by show 8 + (1 + 11) + 64 * 0 ≤ 64 * 4; decide⟩
  refine va_calli (va_runV (H := s.heap) (locs := []) (cells := 0) (slots := 0) (below := below) (e := e) (meth := meth) (b := ad j) (As := []) (rest := [.int (nI (yLen.getD j 0))]) ⟨B.exec, B.bytes, hml, hown, hts⟩ (j_coder (ad := ad) (av := av) A j hj) cw ⟨jPc_blind, vk_recv (A := A) eS hj S0.any, fun U hU hW => ⟨rfl, by show yEnv ad av A U U.heap; rw [hU]; exact yEnv.warm hW hE⟩⟩ rfl rfl rfl rfl (show 2 * 0 + (1 + 0) ≤ 8 by decide) (show decode cJ0_length_8abf5 6 = .ok (.invokevirtual 335, 3) by decide +kernel) ⟨by decide, by decide⟩) S0 (fun _ _ z => z) (fun _ z => z) ?_
  rintro r u t H1 locs1 ht hal rfl - hsz hk S1
  refine lv_ishr B.exec B.bytes (show decode cJ0_length_8abf5 9 = .ok (.ishr, 1) by decide +kernel) ?_
  rw [v1]
  exact W.iret B.exec B.bytes B.returns (fun t ht hW => ⟨⟨_, (), rfl, rfl, trivial⟩, S1.F ht⟩) S1.2.2 (show decode cJ0_length_8abf5 10 = .ok (.ireturn, 1) by decide +kernel) B.notSynchronized
theorem j_pre (m n : Nat) (v : Value) (hv9 : v = .null ∨ ∃ t, v = .ref t) (hmn : m < n) (hn : n < 100) : Met l yJ3_checkIndex_8e157 (Cond.code yJ3_checkIndex_8e157 cJ3_checkIndex_8e157 3 (some .int) :: sTB) (sRm 0) (va_Pc [.int (nI m), .int (nI n), v] (fun U => True)) (va_Qi (fun r (_ : Unit) => True) (fun _ _ => True) (fun _ => False)) 0 0 (fun _ => False) := by
  refine Met.ofW (cc := cJ3_checkIndex_8e157) (maxL := 3) (ret := (some .int)) (by decide) rfl ?_
  intro p e s m_ args below meth c s₁ B hml hv
  obtain ⟨rfl, -⟩ := hv
  have hts0 := atoms_spec (ws := Cond.code yJ3_checkIndex_8e157 cJ3_checkIndex_8e157 3 (some .int) :: sTB) B.pre
  have hts : ∀ w ∈ sTB, w.before _ s = true := fun w h => hts0 w (List.mem_cons_of_mem _ h)
  have hown : s.vm.findClass RJ3 = some m_.cls := findClass_of_methodNamed B.named
  have S0 : va_S (fun _ => False) s.heap s.heap [] := va_S.rf
  rw [lg_entry_eq]
  have go : ∀ ls : Array Slot, ls[0]? = some (.val (.int (nI m))) → ls[1]? = some (.val (.int (nI n))) → W p l e (headSpec (Cond.code yJ3_checkIndex_8e157 cJ3_checkIndex_8e157 3 (some .int) :: sTB) (sRm 0)).room s m_ [.int (nI m), .int (nI n), v].toArray below meth c s.heap [] 0 0 (MQ below (va_Qi (fun r (_ : Unit) => True) (fun _ _ => True) (fun _ => False)) [.int (nI m), .int (nI n), v].toArray s 0 0 (fun _ => False)) (F0 m_ 0 ls []) := by
    intro ls l0 l1
    refine lv_iload_n B.exec B.bytes (show decode cJ3_checkIndex_8e157 0 = .ok (.iload_n 0, 1) by decide +kernel) rfl l0 ?_
    refine lv_if_lt B.exec B.bytes (show decode cJ3_checkIndex_8e157 1 = .ok (.ifCond .lt 8, 3) by decide +kernel) (tgt := 9) (by decide) (fun q => absurd q (nI_pos (by omega))) (fun _ => ?_)
    refine lv_iload_n B.exec B.bytes (show decode cJ3_checkIndex_8e157 4 = .ok (.iload_n 0, 1) by decide +kernel) rfl l0 ?_
    refine lv_iload_n B.exec B.bytes (show decode cJ3_checkIndex_8e157 5 = .ok (.iload_n 1, 1) by decide +kernel) rfl l1 ?_
    refine lv_icmp_lt B.exec B.bytes (show decode cJ3_checkIndex_8e157 6 = .ok (.if_icmp .lt 10, 3) by decide +kernel) (tgt := 16) (by decide) (fun _ => ?_) (fun q => absurd ((nI_ltI (by omega) (by omega)).mpr hmn) q)
    refine lv_iload_n B.exec B.bytes (show decode cJ3_checkIndex_8e157 16 = .ok (.iload_n 0, 1) by decide +kernel) rfl l0 ?_
    exact W.iret B.exec B.bytes B.returns (fun t ht hW => ⟨⟨_, (), rfl, trivial, trivial⟩, S0.F ht⟩) S0.2.2 (show decode cJ3_checkIndex_8e157 17 = .ok (.ireturn, 1) by decide +kernel) B.notSynchronized
  rcases hv9 with rfl | ⟨t, rfl⟩
  · exact go _ rfl rfl
  · exact go _ rfl rfl
theorem j_chk (A : Nat → Prop) (m n : Nat) (hmn : m < n) (hn : n < 100) : Met l yJ0_checkIndex_df160 (Cond.code yJ0_checkIndex_df160 cJ0_checkIndex_df160 2 none :: sTB) (sRm 1) (va_Pc [.int (nI m), .int (nI n)] (fun U => yEnv ad av A U U.heap)) (va_Qv (fun (_ : Unit) => True) (fun _ _ => True) (fun _ => False)) 0 0 (fun _ => False) := by
  refine Met.ofW (cc := cJ0_checkIndex_df160) (maxL := 2) (ret := none) (by decide) rfl ?_
  intro p e s m_ args below meth c s₁ B hml hv
  obtain ⟨rfl, hE⟩ := hv
  have hts0 := atoms_spec (ws := Cond.code yJ0_checkIndex_df160 cJ0_checkIndex_df160 2 none :: sTB) B.pre
  have hts : ∀ w ∈ sTB, w.before _ s = true := fun w h => hts0 w (List.mem_cons_of_mem _ h)
  have hown : s.vm.findClass RJ0 = some m_.cls := findClass_of_methodNamed B.named
  have S0 : va_S (fun _ => False) s.heap s.heap [] := va_S.rf
  rw [lg_entry_eq]
  obtain ⟨-, -, -, -, -, -, eS, eC, -, eF⟩ := id hE
  obtain ⟨v, hv9, eF⟩ : ∃ v : Value, (v = .null ∨ ∃ t, v = .ref t) ∧ va_Z "jdk/internal/util/Preconditions" "SIOOBE_FORMATTER" "Ljava/util/function/BiFunction;" v A s s.heap := by
    rcases eF with h | ⟨t, h⟩
    · exact ⟨_, Or.inl rfl, h⟩
    · exact ⟨_, Or.inr ⟨t, rfl⟩, h⟩
  refine lv_iload_n B.exec B.bytes (show decode cJ0_checkIndex_df160 0 = .ok (.iload_n 0, 1) by decide +kernel) rfl rfl ?_
  refine lv_iload_n B.exec B.bytes (show decode cJ0_checkIndex_df160 1 = .ok (.iload_n 1, 1) by decide +kernel) rfl rfl ?_
  refine va_gets B.exec B.bytes eF S0.any hown (hts _ jk4) (fun _ h => h) (show decode cJ0_checkIndex_df160 2 = .ok (.getstatic 1053, 3) by decide +kernel) ?_
  have cw := va_cwS (R := (headSpec (Cond.code yJ0_checkIndex_df160 cJ0_checkIndex_df160 2 none :: sTB) (sRm 1)).room) (s := s) (args := _) (own := RJ0) (index := 1059) (y := yJ3_checkIndex_8e157) (bytes := cJ3_checkIndex_8e157) (maxL := 3) (ret := (some .int)) (Ts := sTB) (ws := Cond.code yJ3_checkIndex_8e157 cJ3_checkIndex_8e157 3 (some .int) :: sTB) (rm := sRm 0) (mc := 0) (ms := 0) 3 hts jg5 rfl rfl rfl ⟨by decide, by decide, by decide +kernel⟩ ⟨by show 0 + 1 ≤ 1; decide, by show 8 + (3 + 11) + 64 * 0 ≤ 64 * 1; decide⟩
  refine va_calli (va_runS (H := s.heap) (locs := []) (cells := 0) (slots := 0) (below := below) (e := e) (meth := meth) (As := [.int (nI m), .int (nI n), v]) (rest := []) ⟨B.exec, B.bytes, hml, hown, hts⟩ (j_pre m n v hv9 hmn hn) cw ⟨jPt_blind, fun U hU hW => ⟨rfl, trivial⟩⟩ rfl rfl rfl rfl (show 2 * 0 + 0 ≤ 8 by decide) (show decode cJ0_checkIndex_df160 5 = .ok (.invokestatic 1059, 3) by decide +kernel) ⟨by decide, by decide⟩) S0 (fun _ _ z => z) (fun _ z => z) ?_
  rintro r u t H1 locs1 ht hal - - hsz hk S1
  refine lv_pop B.exec B.bytes (show decode cJ0_checkIndex_df160 8 = .ok (.pop, 1) by decide +kernel) rfl ?_
  exact W.vret B.exec B.bytes B.returns (fun t ht hW => ⟨⟨(), rfl, trivial, trivial⟩, S1.F ht⟩) S1.2.2 (show decode cJ0_checkIndex_df160 9 = .ok (.return_, 1) by decide +kernel) B.notSynchronized
theorem j_l1 (A : Nat → Prop) (j m : Nat) (hj : j < 10) (hm : m < yLen.getD j 0) : Met l yJ1_charAt_3b067 (Cond.code yJ1_charAt_3b067 cJ1_charAt_3b067 2 (some .char) :: sTB) (sRm 2) (va_Pc [.ref (av j), .int (nI m)] (fun U => yEnv ad av A U U.heap)) (va_Qi (fun r (_ : Unit) => r = (yByt.getD j []).getD m 0) (fun _ _ => True) (fun _ => False)) 0 0 (fun _ => False) := by
  refine Met.ofW (cc := cJ1_charAt_3b067) (maxL := 2) (ret := (some .char)) (by decide) rfl ?_
  intro p e s m_ args below meth c s₁ B hml hv
  obtain ⟨rfl, hE⟩ := hv
  have hts0 := atoms_spec (ws := Cond.code yJ1_charAt_3b067 cJ1_charAt_3b067 2 (some .char) :: sTB) B.pre
  have hts : ∀ w ∈ sTB, w.before _ s = true := fun w h => hts0 w (List.mem_cons_of_mem _ h)
  have hown : s.vm.findClass RJ1 = some m_.cls := findClass_of_methodNamed B.named
  have S0 : va_S (fun _ => False) s.heap s.heap [] := va_S.rf
  rw [lg_entry_eq]
  obtain ⟨-, -, -, -, -, -, eS, eC, -, eF⟩ := id hE
  obtain ⟨v1, v2, v3⟩ := j_len j hj
  obtain ⟨x1, x2⟩ := j_chr j hj m hm
  refine lv_iload_n B.exec B.bytes (show decode cJ1_charAt_3b067 0 = .ok (.iload_n 1, 1) by decide +kernel) rfl rfl ?_
  refine lv_aload_n B.exec B.bytes (show decode cJ1_charAt_3b067 1 = .ok (.aload_n 0, 1) by decide +kernel) rfl rfl ?_
  refine va_tlen B.exec B.bytes (eS.1 j hj).2.2.2 S0.any v3 (show decode cJ1_charAt_3b067 2 = .ok (.arraylength, 1) by decide +kernel) ?_
  have cw := va_cwS (R := (headSpec (Cond.code yJ1_charAt_3b067 cJ1_charAt_3b067 2 (some .char) :: sTB) (sRm 2)).room) (s := s) (args := _) (own := RJ1) (index := 9) (y := yJ0_checkIndex_df160) (bytes := cJ0_checkIndex_df160) (maxL := 2) (ret := none) (Ts := sTB) (ws := Cond.code yJ0_checkIndex_df160 cJ0_checkIndex_df160 2 none :: sTB) (rm := sRm 1) (mc := 0) (ms := 0) 2 hts jg4 rfl rfl rfl ⟨by decide, by decide, by decide +kernel⟩ ⟨by show 1 + 1 ≤ 2; decide, by show 8 + (2 + 11) + 64 * 1 ≤ 64 * 2; decide⟩
  refine va_callv (va_runS (H := s.heap) (locs := []) (cells := 0) (slots := 0) (below := below) (e := e) (meth := meth) (As := [.int (nI m), .int (nI (yLen.getD j 0))]) (rest := []) ⟨B.exec, B.bytes, hml, hown, hts⟩ (j_chk (ad := ad) (av := av) A m (yLen.getD j 0) hm v2) cw ⟨jPc_blind, fun U hU hW => ⟨rfl, by show yEnv ad av A U U.heap; rw [hU]; exact yEnv.warm hW hE⟩⟩ rfl rfl rfl rfl (show 2 * 0 + 0 ≤ 8 by decide) (show decode cJ1_charAt_3b067 3 = .ok (.invokestatic 9, 3) by decide +kernel) ⟨by decide, by decide⟩) S0 (fun _ _ z => z) (fun _ z => z) ?_
  rintro u t H1 locs1 ht hal - - hsz hk S1
  refine lv_aload_n B.exec B.bytes (show decode cJ1_charAt_3b067 6 = .ok (.aload_n 0, 1) by decide +kernel) rfl rfl ?_
  refine lv_iload_n B.exec B.bytes (show decode cJ1_charAt_3b067 7 = .ok (.iload_n 1, 1) by decide +kernel) rfl rfl ?_
  refine va_tb B.exec B.bytes (eS.1 j hj).2.2.2 S1.any (i := nI m) (vp_in_nI hm (by omega)) (v := .int ((yByt.getD j []).getD m 0)) (by rw [nI_clamp (by omega)]) (show decode cJ1_charAt_3b067 8 = .ok (.baload, 1) by decide +kernel) ?_
  refine lv_sipush B.exec B.bytes (show decode cJ1_charAt_3b067 9 = .ok (.sipush 255, 3) by decide +kernel) rfl ?_
  refine lv_iand B.exec B.bytes (show decode cJ1_charAt_3b067 12 = .ok (.iand, 1) by decide +kernel) ?_
  refine lv_i2c B.exec B.bytes (show decode cJ1_charAt_3b067 13 = .ok (.i2c, 1) by decide +kernel) x1 ?_
  exact W.zret B.exec B.bytes B.returns x2 (fun t ht hW => ⟨⟨_, (), rfl, rfl, trivial⟩, S1.F ht⟩) S1.2.2 (show decode cJ1_charAt_3b067 14 = .ok (.ireturn, 1) by decide +kernel) B.notSynchronized
theorem j_charAt (A : Nat → Prop) (j m : Nat) (hj : j < 10) (hm : m < yLen.getD j 0) : Met l yJ0_charAt_5068e (Cond.code yJ0_charAt_5068e cJ0_charAt_5068e 2 (some .char) :: sTB) (sRm 4) (va_Pc [.ref (ad j), .int (nI m)] (fun U => yEnv ad av A U U.heap)) (va_Qi (fun r (_ : Unit) => r = (yByt.getD j []).getD m 0) (fun _ _ => True) (fun _ => False)) 0 0 (fun _ => False) := by
  refine Met.ofW (cc := cJ0_charAt_5068e) (maxL := 2) (ret := (some .char)) (by decide) rfl ?_
  intro p e s m_ args below meth c s₁ B hml hv
  obtain ⟨rfl, hE⟩ := hv
  have hts0 := atoms_spec (ws := Cond.code yJ0_charAt_5068e cJ0_charAt_5068e 2 (some .char) :: sTB) B.pre
  have hts : ∀ w ∈ sTB, w.before _ s = true := fun w h => hts0 w (List.mem_cons_of_mem _ h)
  have hown : s.vm.findClass RJ0 = some m_.cls := findClass_of_methodNamed B.named
  have S0 : va_S (fun _ => False) s.heap s.heap [] := va_S.rf
  rw [lg_entry_eq]
  obtain ⟨-, -, -, -, -, -, eS, eC, -, eF⟩ := id hE
  obtain ⟨x1, x2⟩ := j_chr j hj m hm
  refine lv_aload_n B.exec B.bytes (show decode cJ0_charAt_5068e 0 = .ok (.aload_n 0, 1) by decide +kernel) rfl rfl ?_
  have cw := cwV (R := (headSpec (Cond.code yJ0_charAt_5068e cJ0_charAt_5068e 2 (some .char) :: sTB) (sRm 4)).room) (s := s) (args := _) (own := RJ0) (C := RJ0) (index := 492) (y := yJ0_isLatin1_aae02) (bytes := cJ0_isLatin1_aae02) (maxL := 1) (ret := (some .boolean)) (Ts := sTB) (ws := Cond.code yJ0_isLatin1_aae02 cJ0_isLatin1_aae02 1 (some .boolean) :: sTB) (rm := sRm 0) (mc := 0) (ms := 0) 0 hts jg2 rfl rfl rfl ⟨rfl, by decide, by decide, by decide +kernel⟩ ⟨by show 0 + 1 ≤ 4; decide, by show 8 + (1 + 11) + 64 * 0 ≤ 64 * 4; decide⟩
  refine va_calli (va_runV (H := s.heap) (locs := []) (cells := 0) (slots := 0) (below := below) (e := e) (meth := meth) (b := ad j) (As := []) (rest := []) ⟨B.exec, B.bytes, hml, hown, hts⟩ (j_isLatin1 (ad := ad) (av := av) A j hj) cw ⟨jPc_blind, vk_recv (A := A) eS hj S0.any, fun U hU hW => ⟨rfl, by show yEnv ad av A U U.heap; rw [hU]; exact yEnv.warm hW hE⟩⟩ rfl rfl rfl rfl (show 2 * 0 + 0 ≤ 8 by decide) (show decode cJ0_charAt_5068e 1 = .ok (.invokevirtual 492, 3) by decide +kernel) ⟨by decide, by decide⟩) S0 (fun _ _ z => z) (fun _ z => z) ?_
  rintro r u t H1 locs1 ht hal rfl - hsz hk S1
  have hE1 := hE.kept (H1 := H1) (S1.any (A := A)).2.1
  refine lv_if_eq B.exec B.bytes (show decode cJ0_charAt_5068e 4 = .ok (.ifCond .eq 12, 3) by decide +kernel) (tgt := 16) (by decide) (fun q => absurd q (by decide)) (fun _ => ?_)
  refine lv_aload_n B.exec B.bytes (show decode cJ0_charAt_5068e 7 = .ok (.aload_n 0, 1) by decide +kernel) rfl rfl ?_
  refine vk_getf B.exec B.bytes (eS.1 j hj).2.2.1 S1.any hown (hts _ jk3) (fun _ h => h) (show decode cJ0_charAt_5068e 8 = .ok (.getfield 9, 3) by decide +kernel) ?_
  refine lv_iload_n B.exec B.bytes (show decode cJ0_charAt_5068e 11 = .ok (.iload_n 1, 1) by decide +kernel) rfl rfl ?_
  have cw2 := va_cwS (R := (headSpec (Cond.code yJ0_charAt_5068e cJ0_charAt_5068e 2 (some .char) :: sTB) (sRm 4)).room) (s := s) (args := _) (own := RJ0) (index := 495) (y := yJ1_charAt_3b067) (bytes := cJ1_charAt_3b067) (maxL := 2) (ret := (some .char)) (Ts := sTB) (ws := Cond.code yJ1_charAt_3b067 cJ1_charAt_3b067 2 (some .char) :: sTB) (rm := sRm 2) (mc := 0) (ms := 0) 2 hts jg3 rfl rfl rfl ⟨by decide, by decide, by decide +kernel⟩ ⟨by show 2 + 1 ≤ 4; decide, by show 8 + (2 + 11) + 64 * 2 ≤ 64 * 4; decide⟩
  refine va_calli (va_runS (H := H1) (locs := locs1) (cells := 0) (slots := 0) (below := below) (e := e) (meth := meth) (As := [.ref (av j), .int (nI m)]) (rest := []) ⟨B.exec, B.bytes, hml, hown, hts⟩ (j_l1 (ad := ad) (av := av) A j m hj hm) cw2 ⟨jPc_blind, fun U hU hW => ⟨rfl, by show yEnv ad av A U U.heap; rw [hU]; exact yEnv.warm hW hE1⟩⟩ rfl rfl rfl rfl (show 2 * 0 + 0 ≤ 8 by decide) (show decode cJ0_charAt_5068e 12 = .ok (.invokestatic 495, 3) by decide +kernel) ⟨by decide, by decide⟩) S1 (fun _ _ z => z) (fun _ z => z) ?_
  rintro r u t H2 locs2 ht2 hal2 rfl - hsz2 hk2 S2
  exact W.zret B.exec B.bytes B.returns x2 (fun t ht hW => ⟨⟨_, (), rfl, rfl, trivial⟩, S2.F ht⟩) S2.2.2 (show decode cJ0_charAt_5068e 15 = .ok (.ireturn, 1) by decide +kernel) B.notSynchronized
theorem j_JST (l : Launch) (ad av : Nat → Nat) : JST l ad av := ⟨fun A j hj => j_length A j hj, fun A j m hj hm => j_charAt A j m hj hm⟩
end
