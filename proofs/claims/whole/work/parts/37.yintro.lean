section
variable {p : Program} {l : Launch} {e : Env} {R : Room} {s : State} {m : MethodId} {args : Array Value} {below : List Frame} {meth : Method} {c : Code} {D : va_G} {b0 : Nat} {ty : Nat → ClassId} {L : sLay} {nL : Nat} {cc : ByteArray} {own : String} {post : List AV → sMem → Prop} {xp : String → sMem → Prop} {ad av : Nat → Nat}
theorem yP_kept {ws : va_W} {H H1 : Heap} (h : va_P D vwCl ws H) (hq : ∀ q : Nat, q < H.size → H1[q]? = H[q]?) : va_P D vwCl ws H1 := h.kept fun k q hk => hq q.1 (vx_lt h hk)
theorem nI_nneg (n : Nat) (h : n < 2 ^ 31) : ¬ nI n < 0 := nI_pos h
set_option maxHeartbeats 4000000 in
set_option maxRecDepth 100000 in
theorem yi_sound (hx : p.tables.exec = Jvm.exec) (hb : c.code = cc) (hml : c.maxLocals = nL) (hts : ∀ w ∈ sTB, w.before args s = true) (hown : s.vm.findClass own = some m.cls) (hK : va_K D vwCl (sTys ty) s) (hnd : (sAdr L).Nodup) {X : xTb} (hX : xOKX own X) {Y : yTb} (hY : yOKY l ad av own cc Y) (hE : yEnv ad av (sA b0 L) s s.heap) (hlt : l.stackTraces = false) {d n : Nat} (hRf : R.frames = d) (hRl : R.locals = 64 * d) (hRc : n ≤ R.cells) (hRs : 12 * n ≤ R.slots) (hlocks : meth.locks = false)
    {scr : Option (Nat × Nat × (Nat → Int32))} (hscr : ∀ b n xs, scr = some (b, n, xs) → va_X b n xs s s.heap ∧ b < s.heap.size ∧ ¬ sA b0 L b ∧ n < 2 ^ 31) {ret : Option FieldType} {Q : State → Prop} {xh : Nat → Nat → List (Option AV) → String → sMem → Prop}
    (hret : ∀ k i pc r σ, k ≤ n → (xRet i ret r ∨ (i = .areturn ∧ (∃ x, r = [.inl (.retAddr x)]) ∧ ∃ nm, ret = some (.object nm))) → decode cc pc = .ok (i, 1) → post r σ → ∀ (H : Heap) (locs : List Loc) (ls : Array Slot), va_P D vwCl (sFl b0 ty L σ 0 L) H → va_S (sA b0 L) s.heap H locs → W p l e R s m args below meth c H locs (n - k) (12 * (n - k)) Q (F0 m pc ls (r.map (sCv b0 L))))
    (hthr : ∀ q ∈ Y.2.2.2.2, (∀ x ∈ c.exceptionTable.toList, False) ∧ ∃ Qc, Q = vx_MQ below Qc (yX D b0 ty L xp) args s n (12 * n) (sA b0 L))
    (hxh : ∀ k pc E en σ', k ≤ n → xh k (pc + 3) E en σ' → ∀ (H1 : Heap) (locs1 : List Loc) (ls : Array Slot) (q : Addr) (ce : Cell) (st : List Value), va_P D vwCl (sFl b0 ty L σ' 0 L) H1 → va_S (sA b0 L) s.heap H1 locs1 → lv_has ls nL (sLv b0 L 0 E) → H1[q]? = some ce → ce.vm = .none → s.vm.findClass en = some ce.cls → vx_W p l e R s m args below meth c H1 locs1 (n - k) (12 * (n - k)) Q (F0 m pc ls st) q)
    {i : Instr} {len nx : Nat} {tg : List Nat} {pc : Nat} {k : Nat} {E : List (Option AV)} {st : List AV} {σ : sMem} (hd : decode cc pc = .ok (i, len)) (hnx : nx = pc + len) (htg : xTg pc i tg = true)
    (h : yi L nL X Y scr ad d (sCalD l D b0 ty L d) (yCalD l D b0 ty ad av L d) ret post xp xh (yK p l e R s m args below meth c D b0 ty L nL n Q) k nx E st σ i len tg) : yK p l e R s m args below meth c D b0 ty L nL n Q k pc E st σ := by
  intro hkn
  have hxi : ∀ (i : Instr) (len : Nat), decode cc pc = .ok (i, len) → nx = pc + len → xTg pc i tg = true → xi L nL X scr (fun _ _ _ _ => False) ret post (yK p l e R s m args below meth c D b0 ty L nL n Q k) nx E st σ i len tg → sK p l e R s m args below meth c D b0 ty L nL (fun _ => n - k) (fun _ => 12 * (n - k)) Q pc E st σ := by
    intro i len hd hnx htg h
    refine xi_sound (own := own) (post := post) (nc := fun _ => n - k) (ns := fun _ => 12 * (n - k)) hx hb hml hts hown hK hnd hX (fun _ _ _ _ _ _ _ => rfl) (fun _ _ _ _ _ _ _ => rfl) (scr := scr) hscr (ret := ret) (cal := fun _ _ _ _ => False) (fun i pc r σ hi hd hp H locs ls hP hS => hret k i pc r σ hkn (Or.inl hi) hd hp H locs ls hP hS) (fun _ _ _ _ _ _ _ _ _ hc => hc.elim) hd hnx htg ?_
    have e1 : yK p l e R s m args below meth c D b0 ty L nL n Q k = sK p l e R s m args below meth c D b0 ty L nL (fun _ => n - k) (fun _ => 12 * (n - k)) Q := by
      funext pc E st σ
      exact propext ⟨fun q => q hkn, fun q _ => q⟩
    rw [e1] at h
    exact h
  have hyc : ∀ (q : xMe) (nn : Nat) (as rest : List AV), X.2.2.2.lookup nn = some q → as.length = q.1 → avSum rest ≤ 8 → (match q.2.1 with
      | none => decode cc pc = .ok (.invokestatic nn, 3)
      | some ci => decode cc pc = .ok (.invokevirtual nn, 3) ∧ ∃ v bs o fs, as = aR v :: bs ∧ L[v]? = some (o, .inl (ci, fs))) →
      yc (sCalD l D b0 ty L d) (yCalD l D b0 ty ad av L d) xh (yK p l e R s m args below meth c D b0 ty L nL n Q) k (pc + 3) E rest q as σ → sK p l e R s m args below meth c D b0 ty L nL (fun _ => n - k) (fun _ => 12 * (n - k)) Q pc E (as.reverse ++ rest) σ := by
    intro q nn as rest hq hlen hsum hdg hc H locs ls hP hS hl
    cases d with
    | zero => rcases hc with h1 | h1 | ⟨_, _, _, h1⟩ <;> exact h1.elim
    | succ d =>
      have yy : ∀ k' n0, k = k' + n0 → yCalD l D b0 ty ad av L (d + 1) n0 q as σ (fun r σ' => yK p l e R s m args below meth c D b0 ty L nL n Q k' (pc + 3) E (r ++ rest) σ') (fun en σ' => xh k' (pc + 3) E en σ') → W p l e R s m args below meth c H locs (n - k) (12 * (n - k)) Q (F0 m pc ls ((as.reverse ++ rest).map (sCv b0 L))) := by
        intro k' n0 hk' h1
        exact y_on (n := n) (k := k) (k' := k') (n0 := n0) (as := as) hk' hkn rfl (y_run hx hb hml hts hown hK hE hlt hX hq h1 (by omega) (by omega) (by omega) (by omega) hlen hsum hdg hP hS hl) hS hl (fun r σ' hp => hp) (fun en σ' hp H1 locs1 q ce hP1 hS1 h1 h2 h3 => hxh k' pc E en σ' (by omega) hp H1 locs1 ls q ce _ hP1 hS1 hl h1 h2 h3)
      rcases hc with h1 | h1 | ⟨k', n0, hk', h1⟩
      · exact run_on (σ := σ) (as := as) (nc := fun _ => n - k) (ns := fun _ => 12 * (n - k)) (plain_run hx hb hml hts hown hK hX hq h1 (by omega) (by omega) (by omega) (by omega) hlen hsum hdg hP hl) hS hl (fun _ _ _ => ⟨rfl, rfl⟩) (fun r σ' hp => hp hkn)
      · exact yy k 0 rfl h1
      · exact yy k' n0 hk' h1
  unfold yi at h
  split at h
  · rename_i n1
    subst hnx
    split at h
    · rename_i hY1
      split at h
      · rename_i a r
        split at h
        · rename_i b1 b2
          obtain ⟨j, hj, rfl, hk⟩ := h
          intro H locs ls hP hS hl
          obtain ⟨w1, hM⟩ := (hY.2.2.1 _ (lookup_mem hY1)).1 rfl
          have hd5 : 5 ≤ d := Nat.le_of_ble_eq_true b2
          have hG : GoodIn sTB (wsV own n1 yJ0_length_8abf5.cls yJ0_length_8abf5 (Cond.code yJ0_length_8abf5 cJ0_length_8abf5 1 (some .int) :: sTB)) := by
            intro w hw
            have hm : w ∈ sTB := by
              unfold wsV at hw
              simp only [List.cons_append, List.nil_append, List.mem_cons] at hw
              rcases hw with rfl | rfl | rfl | rfl | rfl | hw
              · exact w1
              · exact wq 875 (by decide +kernel) (by decide +kernel)
              · exact wq 876 (by decide +kernel) (by decide +kernel)
              · exact wq 123 (by decide +kernel) (by decide +kernel)
              · exact wq 877 (by decide +kernel) (by decide +kernel)
              · exact hw
            exact sTB_good w hm
          have cw := cwV (R := R) (s := s) (args := args) (own := own) (C := yJ0_length_8abf5.cls) (index := n1) (y := yJ0_length_8abf5) (bytes := cJ0_length_8abf5) (maxL := 1) (ret := some .int) (Ts := sTB) (ws := Cond.code yJ0_length_8abf5 cJ0_length_8abf5 1 (some .int) :: sTB) (rm := sRm 4) (mc := 0) (ms := 0) 0 hts hG rfl rfl rfl ⟨rfl, by decide +kernel, by decide +kernel, by decide +kernel⟩ ⟨by show 4 + 1 ≤ R.frames; omega, by show 8 + (1 + 11) + 64 * 4 ≤ R.locals; omega⟩
          obtain ⟨cell, c1, c2, c3⟩ := vk_recv (i := j) hE.2.2.2.2.2.2.1 hj hS
          have hr := va_runV (H := H) (locs := locs) (cells := n - k) (slots := 12 * (n - k)) (below := below) (e := e) (meth := meth) (b := ad j) (As := []) (rest := r.map (sCv b0 L)) (g := F0 m pc ls ((.inl (.retAddr (ad j)) :: r : List AV).map (sCv b0 L))) ⟨hx, hb, hml, hown, hts⟩ (hM (sA b0 L) j hj) cw
            ⟨fun a U g mk h => ⟨h.1, yEnv.warm (State.WarmedH.refl U) h.2⟩, ⟨cell, c1, c2, c3⟩, fun U hU hW => ⟨rfl, by show yEnv ad av (sA b0 L) U U.heap; rw [hU]; exact yEnv.warm hW (hE.kept hS.2.1)⟩⟩ rfl rfl hl.1 rfl (by show 2 * 0 + _ ≤ 8; rw [avSum_eq]; simpa using Nat.le_of_ble_eq_true b1) hd ⟨by omega, by omega⟩
          refine va_calli hr hS (fun q _ h => h.elim) (fun q h => h.elim) ?_
          rintro x u t H1 locs1 hH1 hal rfl - hz hkp hS1
          refine hk hkn H1 locs1 ls ?_ hS1 hl
          have e9 : ∀ q : Nat, q < H.size → H1[q]? = H[q]? := fun q hq => hkp q hq (fun h => h)
          exact yP_kept hP e9
        · exact h.elim
      · exact h.elim
    · rename_i hY1
      split at h
      · rename_i kv a r
        split at h
        · rename_i b1 b2
          obtain ⟨j, mm, hj, rfl, hm, rfl, hk⟩ := h
          intro H locs ls hP hS hl
          obtain ⟨w1, hM⟩ := (hY.2.2.1 _ (lookup_mem hY1)).2.1 rfl
          have hd5 : 5 ≤ d := Nat.le_of_ble_eq_true b2
          have hG : GoodIn sTB (wsV own n1 yJ0_charAt_5068e.cls yJ0_charAt_5068e (Cond.code yJ0_charAt_5068e cJ0_charAt_5068e 2 (some .char) :: sTB)) := by
            intro w hw
            have hm : w ∈ sTB := by
              unfold wsV at hw
              simp only [List.cons_append, List.nil_append, List.mem_cons] at hw
              rcases hw with rfl | rfl | rfl | rfl | rfl | hw
              · exact w1
              · exact wq 885 (by decide +kernel) (by decide +kernel)
              · exact wq 886 (by decide +kernel) (by decide +kernel)
              · exact wq 123 (by decide +kernel) (by decide +kernel)
              · exact wq 887 (by decide +kernel) (by decide +kernel)
              · exact hw
            exact sTB_good w hm
          have cw := cwV (R := R) (s := s) (args := args) (own := own) (C := yJ0_charAt_5068e.cls) (index := n1) (y := yJ0_charAt_5068e) (bytes := cJ0_charAt_5068e) (maxL := 2) (ret := some .char) (Ts := sTB) (ws := Cond.code yJ0_charAt_5068e cJ0_charAt_5068e 2 (some .char) :: sTB) (rm := sRm 4) (mc := 0) (ms := 0) 1 hts hG rfl rfl rfl ⟨rfl, by decide +kernel, by decide +kernel, by decide +kernel⟩ ⟨by show 4 + 1 ≤ R.frames; omega, by show 8 + (2 + 11) + 64 * 4 ≤ R.locals; omega⟩
          obtain ⟨cell, c1, c2, c3⟩ := vk_recv (i := j) hE.2.2.2.2.2.2.1 hj hS
          have hr := va_runV (H := H) (locs := locs) (cells := n - k) (slots := 12 * (n - k)) (below := below) (e := e) (meth := meth) (b := ad j) (As := [.int (nI mm)]) (rest := r.map (sCv b0 L)) (g := F0 m pc ls ((.inl (.int (nI mm)) :: .inl (.retAddr (ad j)) :: r : List AV).map (sCv b0 L))) ⟨hx, hb, hml, hown, hts⟩ (hM (sA b0 L) j mm hj hm) cw
            ⟨fun a U g mk h => ⟨h.1, yEnv.warm (State.WarmedH.refl U) h.2⟩, ⟨cell, c1, c2, c3⟩, fun U hU hW => ⟨rfl, by show yEnv ad av (sA b0 L) U U.heap; rw [hU]; exact yEnv.warm hW (hE.kept hS.2.1)⟩⟩ rfl rfl hl.1 rfl (by show 2 * 0 + _ ≤ 8; rw [avSum_eq]; simpa using Nat.le_of_ble_eq_true b1) hd ⟨by omega, by omega⟩
          refine va_calli hr hS (fun q _ h => h.elim) (fun q h => h.elim) ?_
          rintro x u t H1 locs1 hH1 hal rfl - hz hkp hS1
          refine hk hkn H1 locs1 ls ?_ hS1 hl
          have e9 : ∀ q : Nat, q < H.size → H1[q]? = H[q]? := fun q hq => hkp q hq (fun h => h)
          exact yP_kept hP e9
        · exact h.elim
      · exact h.elim
    · exact h.elim
    · split at h
      · rename_i k1 ci q1 hX1
        split at h
        · rename_i v as hk1 hk2 hk3
          split at h
          · rename_i o cj fs hL1
            split at h
            · rename_i hbq
              have hcc : ci = cj := Nat.eq_of_beq_eq_true hbq
              subst hcc
              have hlen : (aR v :: as).length = k1 := by
                have h5 : ((st.take k1).reverse).length = k1 := by
                  rw [List.length_reverse, List.length_take]
                  exact Nat.min_eq_left (Nat.le_of_ble_eq_true hk1)
                rw [hk3] at h5
                exact h5
              have hst : (aR v :: as).reverse ++ st.drop k1 = st := by
                have h7 := congrArg List.reverse hk3
                rw [List.reverse_reverse] at h7
                rw [← h7, List.take_append_drop]
              have := hyc (k1, some ci, q1) n1 (aR v :: as) (st.drop k1) hX1 hlen (Nat.le_of_ble_eq_true hk2) ⟨hd, v, as, o, fs, rfl, hL1⟩ h
              rw [hst] at this
              exact this
            · exact h.elim
          · exact h.elim
        · exact h.elim
      · exact h.elim
  · rename_i n1
    subst hnx
    split at h
    · rename_i hY1
      split at h
      · rename_i y x r
        split at h
        · rename_i b1 b2
          intro H locs ls hP hS hl
          have hd1 : 1 ≤ d := Nat.le_of_ble_eq_true b2
          have h8 := Nat.le_of_ble_eq_true b1
          refine va_mmin hx hb (hml.trans hl.1.symm) hown (hts _ ((hY.2.2.1 _ (lookup_mem hY1)).2.2.1 rfl)) (hts _ (wq 518 (by decide +kernel) (by decide +kernel))) (hts _ (wq 117 (by decide +kernel) (by decide +kernel))) (hts _ (wq 519 (by decide +kernel) (by decide +kernel))) (by omega) (by rw [avSum_eq, hRl]; omega) (by show n - k ≤ R.cells; omega) (by show 12 * (n - k) ≤ R.slots; omega) hd ?_
          exact h hkn H locs ls hP hS hl
        · exact h.elim
      · exact h.elim
    · rename_i hY1
      split at h
      · rename_i y x r
        split at h
        · rename_i b1 b2
          intro H locs ls hP hS hl
          have hd1 : 1 ≤ d := Nat.le_of_ble_eq_true b2
          have h8 := Nat.le_of_ble_eq_true b1
          refine va_mmax hx hb (hml.trans hl.1.symm) hown (hts _ ((hY.2.2.1 _ (lookup_mem hY1)).2.2.2 rfl)) (hts _ (wq 702 (by decide +kernel) (by decide +kernel))) (hts _ (wq 117 (by decide +kernel) (by decide +kernel))) (hts _ (wq 703 (by decide +kernel) (by decide +kernel))) (by omega) (by rw [avSum_eq, hRl]; omega) (by show n - k ≤ R.cells; omega) (by show 12 * (n - k) ≤ R.slots; omega) hd ?_
          exact h hkn H locs ls hP hS hl
        · exact h.elim
      · exact h.elim
    · exact h.elim
    · split at h
      · rename_i hcp
        split at h
        · rename_i x dp dst sp src r
          split at h
          · rename_i b1 b2
            obtain ⟨i, j, n2, i', j', n2', a, b, kk, hr1, hr2, rfl, rfl, rfl, h1, h2, h3, h4, hk⟩ := h
            intro H locs ls hP hS hl
            have w1 := hY.2.2.2.1 _ (List.contains_iff_mem.mp hcp)
            have hd1 : 1 ≤ d := Nat.le_of_ble_eq_true b2
            obtain ⟨q0, a0, s1, s2, -⟩ := yRw_at (b0 := b0) (ty := ty) (σ := σ) hr1
            obtain ⟨q1, a1, t1, t2, t3⟩ := yRw_at (b0 := b0) (ty := ty) (σ := σ) hr2
            have hD : va_D (sA b0 L) (sFl b0 ty L σ 0 L) := sD_of hnd
            have hst : (.inl (.int (nI kk)) :: .inl (.int (nI b)) :: dst :: .inl (.int (nI a)) :: src :: r : List AV).map (sCv b0 L) = .int (nI kk) :: .int (nI b) :: .ref a1 :: .int (nI a) :: .ref a0 :: r.map (sCv b0 L) := by
              simp only [List.map_cons, s1, t1]
              rfl
            rw [hst]
            refine va_copyi hx hb (hml.trans hl.1.symm) hown (hts _ w1) (hts _ (wq 516 (by decide +kernel) (by decide +kernel))) (hts _ (wq 515 (by decide +kernel) (by decide +kernel))) (hts _ (wq 116 (by decide +kernel) (by decide +kernel))) hK hP hD hS q0 q1 0 0 s2 t2 rfl rfl rfl (nI_nneg a (by omega)) (nI_nneg b (by omega)) (nI_nneg kk (by omega)) (by rw [nI_clamp (by omega), nI_clamp (by omega)]; exact h1) (by rw [nI_clamp (by omega), nI_clamp (by omega)]; exact h2) (fun _ _ => rfl) (by omega) ?_ hd ?_
            · rw [avSum_eq, hRl]
              have h9 : nativeFrameWords "java/lang/System" "arraycopy" 5 ≤ 20 := by decide +kernel
              have h8 := Nat.le_of_ble_eq_true b1
              omega
            · intro H1 locs1 hP1 hD1 hS1
              rw [nI_clamp (by omega), nI_clamp (by omega), nI_clamp (by omega), ← t3] at hP1
              exact hk hkn H1 locs1 ls hP1 hS1 hl
          · exact h.elim
        · exact h.elim
      · split at h
        · rename_i k1 q1 hX1
          split at h
          · rename_i hk1 hk2
            obtain ⟨w1, w2, w3⟩ := hY.1 _ (lookup_mem hX1)
            have hlen : ((st.take k1).reverse).length = k1 := by
              rw [List.length_reverse, List.length_take]
              exact Nat.min_eq_left (Nat.le_of_ble_eq_true hk1)
            intro H locs ls hP hS hl
            cases d with
            | zero => exact h.elim
            | succ d =>
              have hr := nest_run (nc := n - k) (ns := 12 * (n - k)) (q := (k1, none, q1)) (as := (st.take k1).reverse) (rest := st.drop k1) (R := R) (locs := locs) (below := below) (e := e) (meth := meth) hx hb hml hts hown hK (hE.1 _ w1) rfl w3 h (by omega) (by omega) (by omega) (by omega) hlen (Nat.le_of_ble_eq_true hk2) hd hP hl
              rw [List.reverse_reverse, List.take_append_drop] at hr
              exact run_on (σ := σ) (as := (st.take k1).reverse) (nc := fun _ => n - k) (ns := fun _ => 12 * (n - k)) hr hS hl (fun _ _ _ => ⟨rfl, rfl⟩) (fun r σ' hp => hp hkn)
          · exact h.elim
        · exact h.elim
        · split at h
          · rename_i k1 q1 hX1
            split at h
            · rename_i hk1 hk2
              have hlen : ((st.take k1).reverse).length = k1 := by
                rw [List.length_reverse, List.length_take]
                exact Nat.min_eq_left (Nat.le_of_ble_eq_true hk1)
              have := hyc (k1, none, q1) n1 (st.take k1).reverse (st.drop k1) hX1 hlen (Nat.le_of_ble_eq_true hk2) hd h
              rw [List.reverse_reverse, List.take_append_drop] at this
              exact this
            · exact h.elim
          · exact h.elim
  · rename_i n1
    split at h
    · rename_i j hY1
      subst hnx
      obtain ⟨w1, w2, w3⟩ := hY.2.1 _ (lookup_mem hY1)
      intro H locs ls hP hS hl
      have hv := hE.2.2.2.2.2.1 j w3
      have w2' : n1 = 105 + 2 * j := w2
      rw [w1] at hown
      refine va_ldcS (own := RX4) (index := n1) (tx := yWd.getD j "") (q := ad j) hx hb hown (by rw [w2']; exact hv) hd ?_
      exact h hkn H locs ls hP hS hl
    · exact hxi _ _ hd hnx htg h
  · split at h
    · rename_i x nm
      subst hnx
      intro H locs ls hP hS hl
      exact hret k .areturn pc [.inl (.retAddr x)] σ hkn (Or.inr ⟨rfl, ⟨x, rfl⟩, nm, rfl⟩) hd h H locs ls hP hS
    · exact hxi _ _ hd hnx htg h
  · rename_i n1
    split at h
    · rename_i q hY1 hsum hd6
      obtain ⟨k', rfl, hq⟩ := h
      subst hnx
      obtain ⟨ik, is, ic, cls, text, wide⟩ := q
      obtain ⟨-, z2, z3, z4, z5, z6, z7, z8, z9, z10, z11⟩ := hY.2.2.2.2 _ (lookup_mem hY1)
      have hm9 := lookup_mem hY1
      obtain ⟨g1, Qc, rfl⟩ := hthr _ hm9
      intro H locs ls hP hS hl
      have hd6' : 6 ≤ d := Nat.le_of_ble_eq_true hd6
      have hsum' := Nat.le_of_ble_eq_true hsum
      subst z2
      obtain ⟨sa, hsa⟩ := hE.2.1 _ z3
      generalize hAT : (if cls = yNSE then nAt RX8 ic else vx_atS RX8 ic cls yNms) = AT at z8
      have hat : ∀ w ∈ AT, w.before args s = true := fun w hw => (z8 w hw).elim (fun h => hts w h) (fun h => va_Nw.use (yTw_on w h) (hE.2.2.1 w h))
      have hgd : ∀ w ∈ Cond.classLink RX8 ik cls :: Cond.initialized cls :: AT, vx_ot w = true := by
        have hg : ∀ w ∈ sTB, vx_ot w = true := fun w hw => by
          unfold vx_ot
          rw [(List.mem_filter.mp hw).2]
          simp
        intro w hw
        rcases List.mem_cons.mp hw with rfl | hw
        · exact hg _ z6
        · rcases List.mem_cons.mp hw with rfl | hw
          · exact hg _ z7
          · rcases z8 w hw with h | h
            · exact hg _ h
            · unfold vx_ot
              rw [yTw_on w h]
              rfl
      have hxx : ∀ t : State, s.vm.Alike t.vm → H.size ≤ t.heap.size → (∀ q : Nat, q < H.size → t.heap[q]? = H[q]?) → yX D b0 ty L xp cls s t := by
        intro t hal hz hk
        refine ⟨⟨σ, hq, yP_kept hP hk⟩, Nat.le_trans hS.1 hz, fun q h1 h2 => ?_⟩
        rw [hk q (Nat.lt_of_lt_of_le h1 hS.1)]
        exact hS.2.1 q h1 h2
      have hnm : ∀ n ∈ yNms, Bundle.fit n = true := by decide +kernel
      have hfr : yNms.length + 3 < R.frames := by
        show 2 + 3 < R.frames
        omega
      have hlo : ((st.map (sCv b0 L)).map fun v => v.category).sum + (13 * (yNms.length + 1) + 43) ≤ R.locals := by
        rw [avSum_eq]
        show avSum st + (13 * (2 + 1) + 43) ≤ R.locals
        omega
      have e3 : pc + 3 - 3 = pc := by omega
      have z9' : decode cc pc = .ok (.new ik, 3) := by
        have q9 : decode cc (pc + 3 - 3) = .ok (.new ik, 3) := z9
        rw [e3] at q9
        exact q9
      by_cases hcn : cls = yNSE
      · subst hcn
        rw [if_pos rfl] at hAT
        subst hAT
        cases wide with
        | true =>
          obtain ⟨y1, y2, y3⟩ := z11
          exact n_throwSW (own := RX8) (A := sA b0 L) hx hb hlt hown (hts _ z6) (hts _ z7) hsa hat hgd hE.2.2.2.1 hE.2.2.2.2.1 hS (hl.1.trans hml.symm) z9' z10 y1 y2 y3 (fun x hx => (g1 x hx).elim) hfr hlo (by show n - (k' + 1) + 1 ≤ R.cells; omega) (by show 12 * (n - (k' + 1)) + 6 ≤ R.slots; omega) hlocks hxx hS.2.2 (by show n - (k' + 1) + 1 ≤ n; omega) (by show 12 * (n - (k' + 1)) + 6 ≤ 12 * n; omega)
        | false =>
          obtain ⟨y1, y2, y3⟩ := z11
          exact n_throwS (own := RX8) (A := sA b0 L) hx hb hlt hown (hts _ z6) (hts _ z7) hsa hat hgd hE.2.2.2.1 hE.2.2.2.2.1 hS (hl.1.trans hml.symm) z9' z10 y1 y2 y3 (fun x hx => (g1 x hx).elim) hfr hlo (by show n - (k' + 1) + 1 ≤ R.cells; omega) (by show 12 * (n - (k' + 1)) + 6 ≤ R.slots; omega) hlocks hxx hS.2.2 (by show n - (k' + 1) + 1 ≤ n; omega) (by show 12 * (n - (k' + 1)) + 6 ≤ 12 * n; omega)
      · rw [if_neg hcn] at hAT
        subst hAT
        cases wide with
        | true =>
          obtain ⟨y1, y2, y3⟩ := z11
          exact vx_throwSW (own := RX8) (names := yNms) (A := sA b0 L) hx hb hlt hown z5 hnm (hts _ z6) (hts _ z7) hsa hat hgd hE.2.2.2.1 hE.2.2.2.2.1 hS (hl.1.trans hml.symm) z9' z10 y1 y2 y3 (fun x hx => (g1 x hx).elim) hfr hlo (by show n - (k' + 1) + 1 ≤ R.cells; omega) (by show 12 * (n - (k' + 1)) + 6 ≤ R.slots; omega) hlocks hxx hS.2.2 (by show n - (k' + 1) + 1 ≤ n; omega) (by show 12 * (n - (k' + 1)) + 6 ≤ 12 * n; omega)
        | false =>
          obtain ⟨y1, y2, y3⟩ := z11
          exact vx_throwS (own := RX8) (names := yNms) (A := sA b0 L) hx hb hlt hown z5 hnm (hts _ z6) (hts _ z7) hsa hat hgd hE.2.2.2.1 hE.2.2.2.2.1 hS (hl.1.trans hml.symm) z9' z10 y1 y2 y3 (fun x hx => (g1 x hx).elim) hfr hlo (by show n - (k' + 1) + 1 ≤ R.cells; omega) (by show 12 * (n - (k' + 1)) + 6 ≤ R.slots; omega) hlocks hxx hS.2.2 (by show n - (k' + 1) + 1 ≤ n; omega) (by show 12 * (n - (k' + 1)) + 6 ≤ 12 * n; omega)
    · exact h.elim
  · exact hxi _ _ hd hnx htg h
end
section
variable {l : Launch} {D : va_G} {b0 : Nat} {ty : Nat → ClassId} {ad av : Nat → Nat} {L : sLay}
set_option maxHeartbeats 1000000 in
theorem yMet_intro (hnd : (sAdr L).Nodup) {d n k nL : Nat} {rc : Option Nat} {y : MethodName} {cc : ByteArray} {ret : Option FieldType} {X : xTb} {Y : yTb} {T : xCode} (hT : xOK cc T = true) (hX : xOKX y.cls X) (hY : yOKY l ad av y.cls cc Y) (hpl : plainName y.cls = true)
    {as : List AV} {σ : sMem} {post : List AV → sMem → Prop} {xp : String → sMem → Prop} (hlen : Nat.ble (eArg as).length nL = true)
    (body : ∀ K : Nat → Nat → List (Option AV) → List AV → sMem → Prop, (∀ c pc E st σ, yw L nL X Y T none ad d (sCalD l D b0 ty L d) (yCalD l D b0 ty ad av L d) ret post xp (fun _ _ _ e σ => xp e σ) K c pc E st σ → K c pc E st σ) → K n 0 (eArgs nL as) [] σ) : yMet l D b0 ty ad av L d n (k, rc, y, cc, nL, ret) as σ post xp := by
  intro hlt
  refine vx_ofW (cc := cc) (maxL := nL) (ret := ret) hpl rfl ?_
  intro p e s m args below meth c s₁ B hml htab hv
  obtain ⟨rfl, hP, hK, hE⟩ := hv
  have hts0 := atoms_spec (ws := sWs (k, rc, y, cc, nL, ret)) B.pre
  have hts : ∀ w ∈ sTB, w.before ((as.map (sCv b0 L)).toArray) s = true := fun w h => hts0 w (List.mem_cons_of_mem _ h)
  have hown : s.vm.findClass y.cls = some m.cls := findClass_of_methodNamed B.named
  have hle : (eArg as).length ≤ nL := Nat.le_of_ble_eq_true hlen
  have hl0 := lv_entry (as.map (sCv b0 L)) (n := nL) (by rw [eArg_len]; exact hle)
  rw [lg_entry_eq]
  generalize (lg_sl (as.map (sCv b0 L)) ++ List.replicate (nL - (lg_sl (as.map (sCv b0 L))).length) Slot.unset).toArray = ls at hl0 ⊢
  have hl : lv_has ls nL (sLv b0 L 0 (eArgs nL as)) := by
    unfold eArgs
    rw [sLv_app, sLv_args]
    exact hl0
  have key := body (yK p l e (yRm d n) s m ((as.map (sCv b0 L)).toArray) below meth c D b0 ty L nL n (vx_MQ below (sQ D b0 ty L post) (yX D b0 ty L xp) ((as.map (sCv b0 L)).toArray) s n (12 * n) (sA b0 L))) ?_ (Nat.le_refl _) s.heap [] ls hP va_S.rf hl
  · have h9 : n - n = 0 := by omega
    have key2 : W p l e (yRm d n) s m ((as.map (sCv b0 L)).toArray) below meth c s.heap [] (n - n) (12 * (n - n)) (vx_MQ below (sQ D b0 ty L post) (yX D b0 ty L xp) ((as.map (sCv b0 L)).toArray) s n (12 * n) (sA b0 L)) (F0 m 0 ls []) := key
    rw [h9] at key2
    exact key2
  intro c1 pc E st σ h
  unfold yw at h
  split at h
  · rename_i i len nx tg hlk
    have hq := List.all_eq_true.mp hT _ (lookup_mem hlk)
    simp only [Bool.and_eq_true, decide_eq_true_eq] at hq
    exact yi_sound (own := y.cls) (xp := xp) B.exec B.bytes hml hts hown hK hnd hX hY hE hlt (d := d) (n := n) rfl rfl (Nat.le_refl _) (Nat.le_refl _) B.notSynchronized (scr := none) (fun _ _ _ h => by cases h)
      (fun k i pc r σ hk hi hd hp H locs ls hP hS => y_ret (n := n) (by omega) (by omega) B.exec B.bytes B.returns B.notSynchronized i pc r σ hi hd hp H locs ls hP hS)
      (fun q _ => ⟨htab, _, rfl⟩)
      (fun k pc E en σ' hk hp H1 locs1 ls q ce st hP1 hS1 hl1 h1 h2 h3 => vx_out (fun x hx => (htab x hx).elim) B.notSynchronized h1 h2 h3 (fun t ht hal => ⟨⟨σ', hp, by rw [ht]; exact hP1⟩, by rw [ht]; exact hS1.1, fun q h4 h5 => by rw [ht]; exact hS1.2.1 q h4 h5⟩) hS1.2.2 (by omega) (by omega)) hq.1.1 hq.2 hq.1.2 h
  · exact h.elim
/-- weaker ends -/
theorem yMet_mono {d n : Nat} {q : xMe} {as : List AV} {σ : sMem} {P P' : List AV → sMem → Prop} {XP XP' : String → sMem → Prop} (h : yMet l D b0 ty ad av L d n q as σ P XP) (hp : ∀ r σ', P r σ' → P' r σ') (hx : ∀ e σ', XP e σ' → XP' e σ') : yMet l D b0 ty ad av L d n q as σ P' XP' := by
  intro hlt
  replace h := h hlt
  unfold vx_Met at h ⊢
  refine Jvm.Free.MetFree.mono (P := yPc D b0 ty L ad av as σ) h (fun _ _ q => q) (fun _ _ _ _ _ q => q) ?_
  rintro a s o s' - (⟨⟨⟨r, σ', h1, h2, h3, h4⟩, h5⟩, h6⟩ | ⟨q, h0, E, ce, L9, ⟨⟨σ', h1, h2⟩, h3⟩, h4⟩)
  · exact Or.inl ⟨⟨⟨r, σ', h1, h2, hp _ _ h3, h4⟩, h5⟩, h6⟩
  · exact Or.inr ⟨q, h0, E, ce, L9, ⟨⟨σ', hx _ _ h1, h2⟩, h3⟩, h4⟩
/-- calls out of contracts: of one that doesn't throw, of one that may -/
theorem yD0 {d : Nat} {q : xMe} {as : List AV} {σ : sMem} {P P' : List AV → sMem → Prop} {XP : String → sMem → Prop} (h : yMet l D b0 ty ad av L d 0 q as σ P (fun _ _ => False)) (hp : ∀ r σ', P r σ' → P' r σ') : yCalD l D b0 ty ad av L (d + 1) 0 q as σ P' XP := yMet_mono h hp (fun _ _ h => h.elim)
theorem yDX {d n0 : Nat} {q : xMe} {as : List AV} {σ : sMem} {P P' : List AV → sMem → Prop} {XP XP' : String → sMem → Prop} (h : yMet l D b0 ty ad av L d n0 q as σ P XP) (hp : ∀ r σ', P r σ' → P' r σ') (hx : ∀ e σ', XP e σ' → XP' e σ') : yCalD l D b0 ty ad av L (d + 1) n0 q as σ P' XP' := yMet_mono h hp hx
end
