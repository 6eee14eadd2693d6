/-! WHAT STANDS AT THE START: links, texts, statics, the reader's words -/
def fl1 : List Cond := flatC (Jvm.Cond.and given_1 narrow_1)
def fB : List Nat := [80, 91, 103, 116, 127, 144, 159, 176, 192, 210]
def fN9 : List Nat := [0, 102, 114, 124, 140, 154, 170, 185, 202, 218]
theorem f_ex0 : ∀ i, i < 10 → fl1[fB.getD i 0]? = some (Cond.exactly (Term.string RX4 (105 + 2 * i)) "java/lang/String") := by decide +kernel
theorem f_ex (i : Nat) (hi : i < 10) : (Cond.exactly (Term.string RX4 (105 + 2 * i)) "java/lang/String") ∈ fl1 := List.mem_of_getElem? (f_ex0 i hi)
theorem f_co0 : ∀ i, i < 10 → fl1[fB.getD i 0 + 1]? = some (Cond.eq (.field (Term.string RX4 (105 + 2 * i)) "java/lang/String" "coder" "B") (.int 0)) := by decide +kernel
theorem f_co (i : Nat) (hi : i < 10) : (Cond.eq (.field (Term.string RX4 (105 + 2 * i)) "java/lang/String" "coder" "B") (.int 0)) ∈ fl1 := List.mem_of_getElem? (f_co0 i hi)
theorem f_ar0 : ∀ i, i < 10 → fl1[fB.getD i 0 + 2]? = some (Cond.arrayOf (.field (Term.string RX4 (105 + 2 * i)) "java/lang/String" "value" "[B") .byte) := by decide +kernel
theorem f_ar (i : Nat) (hi : i < 10) : (Cond.arrayOf (.field (Term.string RX4 (105 + 2 * i)) "java/lang/String" "value" "[B") .byte) ∈ fl1 := List.mem_of_getElem? (f_ar0 i hi)
theorem f_le0 : ∀ i, i < 10 → fl1[fB.getD i 0 + 3]? = some (Cond.eq (.length (.field (Term.string RX4 (105 + 2 * i)) "java/lang/String" "value" "[B")) (.int (Int32.ofNat (yLen.getD i 0)))) := by decide +kernel
theorem f_le (i : Nat) (hi : i < 10) : (Cond.eq (.length (.field (Term.string RX4 (105 + 2 * i)) "java/lang/String" "value" "[B")) (.int (Int32.ofNat (yLen.getD i 0)))) ∈ fl1 := List.mem_of_getElem? (f_le0 i hi)
theorem f_el0 : ∀ i, i < 10 → ∀ j, j < yLen.getD i 0 → fl1[fB.getD i 0 + 4 + j]? = some (Cond.eq (.elem (.field (Term.string RX4 (105 + 2 * i)) "java/lang/String" "value" "[B") (.int (Int32.ofNat j))) (.int ((yByt.getD i []).getD j 0))) := by decide +kernel
theorem f_el (i : Nat) (hi : i < 10) (j : Nat) (hj : j < yLen.getD i 0) : (Cond.eq (.elem (.field (Term.string RX4 (105 + 2 * i)) "java/lang/String" "value" "[B") (.int (Int32.ofNat j))) (.int ((yByt.getD i []).getD j 0))) ∈ fl1 := List.mem_of_getElem? (f_el0 i hi j hj)
theorem f_ne0 : ∀ j, j < 10 → ∀ i, i < j → fl1[fN9.getD j 0 + i]? = some (Cond.not (Cond.eq (Term.string RX4 (105 + 2 * i)) (Term.string RX4 (105 + 2 * j)))) := by decide +kernel
theorem f_ne (i : Nat) (hi : i < 10) (j : Nat) (hj : j < 10) (hij : i ≠ j) : (Cond.not (Cond.eq (Term.string RX4 (105 + 2 * i)) (Term.string RX4 (105 + 2 * j)))) ∈ fl1 ∨ (Cond.not (Cond.eq (Term.string RX4 (105 + 2 * j)) (Term.string RX4 (105 + 2 * i)))) ∈ fl1 := by
  rcases Nat.lt_or_ge i j with h | h
  · exact Or.inl (List.mem_of_getElem? (f_ne0 j hj i h))
  · exact Or.inr (List.mem_of_getElem? (f_ne0 i hi j (by omega)))
theorem f_tx : ∀ q ∈ yTxt, (Cond.exactly (Term.string RX8 q.1) "java/lang/String") ∈ fl1 ∧ Cond.stringRef RX8 q.1 q.2 ∈ lw_tbl := by decide +kernel
theorem f_sr : ∀ i, i < 10 → Cond.stringRef RX4 (105 + 2 * i) (yWd.getD i "") ∈ lw_tbl := by decide +kernel
theorem f_ns : ∀ q ∈ yNest, Cond.methodLinkNest q.1 q.2.1 q.2.2 RX8 ∈ lw_tbl := by decide +kernel
theorem f_zn : ∀ q ∈ zNest, Cond.methodLinkNest q.1 q.2.1 q.2.2 RX8 ∈ lw_tbl := by decide +kernel
theorem f_tw : ∀ w ∈ yTw, w ∈ lw_tbl := by decide +kernel
theorem env_start {s : State} {b : Nat} (hts : ∀ w ∈ lw_tbl, w.before #[Value.ref b] s = true) (hgv : (Jvm.Cond.and given_1 narrow_1).before #[Value.ref b] s = true) : ∃ ad av, yEnv ad av (fun q => s.heap.size ≤ q) s s.heap := by
  have hA : ∀ a : Nat, a < s.heap.size → ¬ (s.heap.size ≤ a) := fun a h => Nat.not_le.mpr h
  have hs : ∀ c ∈ fl1, c.before #[Value.ref b] s = true := flat_of_before _ hgv
  obtain ⟨ad, av, hS, hE⟩ := vk_Sof (args := #[Value.ref b]) (s := s) (N := 10) (tm := fun i => Term.string RX4 (105 + 2 * i)) (len := yLen) (byt := yByt) (A := fun q => s.heap.size ≤ q) (by decide) (fun i hi => hs _ (f_ex i hi)) (fun i hi => hs _ (f_co i hi)) (fun i hi => hs _ (f_ar i hi)) (fun i hi => hs _ (f_le i hi)) (fun i hi j hj => hs _ (f_el i hi j hj)) (fun i j hi hj hij => (f_ne i hi j hj hij).imp (hs _) (hs _)) hA
  refine ⟨ad, av, fun q hq => va_Nw.of rfl (hts _ (f_ns q hq)), fun q hq => ?_, fun w hw => va_Nw.of (yTw_on w hw) (hts _ (f_tw w hw)), vx_Zqof (hts _ (by decide +kernel)) (hts _ (by decide +kernel)) (hs _ (by decide +kernel)) hA, vx_Zqof (hts _ (by decide +kernel)) (hts _ (by decide +kernel)) (hs _ (by decide +kernel)) hA, fun i hi => vk_R.of (hts _ (f_sr i hi)) (hE i hi), hS, va_Zof (hts _ (by decide +kernel)) (hts _ (by decide +kernel)) (va_eqt (hs _ (by decide +kernel))) hA, va_Nc.of (hs _ (by decide +kernel)), va_Zqof (hts _ (by decide +kernel)) (hts _ (by decide +kernel)) (hs _ (by decide +kernel)) hA⟩
  obtain ⟨h1, h2⟩ := f_tx q hq
  obtain ⟨a, c, cA, kA, q1, -⟩ := Cond.exactly_spec (args := #[Value.ref b]) (first := s) (o := none) (s := s) (idx := []) (hs _ h1)
  exact ⟨a, vk_R.of (hts _ h2) q1⟩
theorem env_z {s : State} {b : Nat} (hts : ∀ w ∈ lw_tbl, w.before #[Value.ref b] s = true) : zEnv s := ⟨fun q hq => va_Nw.of rfl (hts _ (f_zn q hq)), va_AOA.of (hts _ (by decide +kernel))⟩
theorem yEnv.narrow {ad av : Nat → Nat} {A B : Nat → Prop} {U : State} {H : Heap} (h : yEnv ad av A U H) (hAB : ∀ q, B q → A q) : yEnv ad av B U H :=
  ⟨h.1, h.2.1, h.2.2.1, h.2.2.2.1.narrow hAB, h.2.2.2.2.1.narrow hAB, h.2.2.2.2.2.1, h.2.2.2.2.2.2.1.narrow hAB, h.2.2.2.2.2.2.2.1.narrow hAB, h.2.2.2.2.2.2.2.2.1, h.2.2.2.2.2.2.2.2.2.narrow hAB⟩
