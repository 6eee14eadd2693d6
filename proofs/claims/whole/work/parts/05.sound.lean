/-! ONE INSTRUCTION, SOUND -/
section
variable {p : Program} {l : Launch} {e : Env} {R : Room} {s : State} {m : MethodId} {args : Array Value} {below : List Frame} {meth : Method} {c : Code} {D : va_G} {b0 : Nat} {ty : Nat → ClassId} {L : sLay} {nL : Nat} {cc : ByteArray} {own : String} {post : List AV → sMem → Prop} {nc ns : sMem → Nat} {Q : State → Prop}
/-- from this place the body goes on to its end: 'nc', 'ns' cells and words made so far -/
def sK (p : Program) (l : Launch) (e : Env) (R : Room) (s : State) (m : MethodId) (args : Array Value) (below : List Frame) (meth : Method) (c : Code) (D : va_G) (b0 : Nat) (ty : Nat → ClassId) (L : sLay) (nL : Nat) (nc ns : sMem → Nat) (Q : State → Prop) (pc : Nat) (E : List (Option AV)) (st : List AV) (σ : sMem) : Prop :=
  ∀ (H : Heap) (locs : List Loc) (ls : Array Slot), va_P D vwCl (sFl b0 ty L σ 0 L) H → va_S (sA b0 L) s.heap H locs → lv_has ls nL (sLv b0 L 0 E) → W p l e R s m args below meth c H locs (nc σ) (ns σ) Q (F0 m pc ls (st.map (sCv b0 L)))
/-- writes to the world's own variables make nothing -/
def sNc (L : sLay) (nc : sMem → Nat) : Prop := ∀ (σ : sMem) (i j k : Nat) (v : Int32) (q : Nat × sKd), L[i]? = some q → nc (sUp σ i j k v) = nc σ
theorem sK_up {σ : sMem} {i j k : Nat} {v : Int32} {q : Nat × sKd} {pc : Nat} {E : List (Option AV)} {st : List AV} (h1 : sNc L nc) (h2 : sNc L ns) (hi : L[i]? = some q) (h : sK p l e R s m args below meth c D b0 ty L nL nc ns Q pc E st (sUp σ i j k v)) (H : Heap) (locs : List Loc) (ls : Array Slot) (hP : va_P D vwCl (sFl b0 ty L (sUp σ i j k v) 0 L) H) (hS : va_S (sA b0 L) s.heap H locs) (hl : lv_has ls nL (sLv b0 L 0 E)) :
    W p l e R s m args below meth c H locs (nc σ) (ns σ) Q (F0 m pc ls (st.map (sCv b0 L))) := by
  have := h H locs ls hP hS hl
  rw [h1 σ i j k v q hi, h2 σ i j k v q hi] at this
  exact this
theorem sOff_at {i : Nat} {q : Nat × sKd} (h : L[i]? = some q) : sOff L i = q.1 := by
  unfold sOff
  rw [h]
theorem cat1 {v : AV} (h : avCat2 v = false) : (sCv b0 L v).category = 1 := by
  have h1 := avCat (b0 := b0) (L := L) v
  rw [h] at h1
  rcases lv_cat (sCv b0 L v) with h2 | h2
  · exact h2
  · rw [h2] at h1; cases h1
theorem avSum_eq (st : List AV) : ((st.map (sCv b0 L)).map fun v => v.category).sum = avSum st := by
  unfold avSum
  rw [List.map_map]
  congr 1
  refine List.map_congr_left fun v _ => ?_
  show (sCv b0 L v).category = if avCat2 v then 2 else 1
  have h1 := avCat (b0 := b0) (L := L) v
  cases hc : avCat2 v with
  | false => rw [cat1 hc]; rfl
  | true =>
    rw [hc] at h1
    have : (sCv b0 L v).category = 2 := by simpa using h1
    rw [this]; rfl
/-- a switch's case -/
theorem xSw_at {P : Nat → Prop} {x : Int32} : ∀ (ts : List Nat) (k : Int) (j t : Nat), xSw P x k ts → ts[j]? = some t → x.toInt = k + j → P t
  | [], _, _, _, _, h, _ => by simp at h
  | a :: r, k, 0, t, h, h1, h2 => by
    have : a = t := by simpa using h1
    subst this
    exact h.1 (by omega)
  | a :: r, k, j + 1, t, h, h1, h2 => xSw_at r (k + 1) j t h.2 (by simpa using h1) (by omega)
theorem xLk_at {P : Nat → Prop} {x : Int32} : ∀ (ks : List Int) (ts : List Nat) (j t : Nat) (k : Int), xLk P x ks ts → ks[j]? = some k → ts[j]? = some t → x.toInt = k → P t
  | [], _, _, _, _, _, h, _, _ => by simp at h
  | _ :: _, [], _, _, _, _, _, h, _ => by simp at h
  | a :: r, b :: u, 0, t, k, h, h1, h2, h3 => by
    have e1 : a = k := by simpa using h1
    have e2 : b = t := by simpa using h2
    subst e1; subst e2
    exact h.1 h3
  | a :: r, b :: u, j + 1, t, k, h, h1, h2, h3 => xLk_at r u j t k h.2 (by simpa using h1) (by simpa using h2) h3
theorem xLn_of {x : Int32} : ∀ (ks : List Int), (∀ k ∈ ks, ¬ x.toInt = k) → xLn x ks
  | [], _ => trivial
  | k :: ks, h => ⟨h k List.mem_cons_self, xLn_of ks fun q hq => h q (List.mem_cons_of_mem _ hq)⟩
/-- a return's instruction and what it gives -/
def xRet (i : Instr) (ret : Option FieldType) (r : List AV) : Prop := match i with
  | .ireturn => ∃ x, r = [aI x] ∧ (ret = some .int ∨ (ret = some .boolean ∧ (x = 0 ∨ x = 1)))
  | .lreturn => ∃ x, r = [aL x] ∧ ret = some .long
  | .areturn => ((∃ x, r = [aR x]) ∨ ∃ x, r = [.inr x]) ∧ ∃ rt, ret = some rt ∧ ((∃ n, rt = .object n) ∨ ∃ t, rt = .array t)
  | .return_ => r = [] ∧ ret = none
  | _ => False
set_option maxHeartbeats 4000000 in
set_option maxRecDepth 100000 in
theorem xi_sound (hx : p.tables.exec = Jvm.exec) (hb : c.code = cc) (hml : c.maxLocals = nL) (hts : ∀ w ∈ sTB, w.before args s = true) (hown : s.vm.findClass own = some m.cls) (hK : va_K D vwCl (sTys ty) s) (hnd : (sAdr L).Nodup) {X : xTb} (hX : xOKX own X)
    (h1 : sNc L nc) (h2 : sNc L ns) {scr : Option (Nat × Nat × (Nat → Int32))} (hscr : ∀ b n xs, scr = some (b, n, xs) → va_X b n xs s s.heap ∧ b < s.heap.size ∧ ¬ sA b0 L b ∧ n < 2 ^ 31) {ret : Option FieldType} {cal : xMe → List AV → sMem → (List AV → sMem → Prop) → Prop}
    (hret : ∀ i pc r σ, xRet i ret r → decode cc pc = .ok (i, 1) → post r σ → ∀ (H : Heap) (locs : List Loc) (ls : Array Slot), va_P D vwCl (sFl b0 ty L σ 0 L) H → va_S (sA b0 L) s.heap H locs → W p l e R s m args below meth c H locs (nc σ) (ns σ) Q (F0 m pc ls (r.map (sCv b0 L))))
    (hcal : ∀ n q as rest pc E σ P, X.2.2.2.lookup n = some q → cal q as σ P → as.length = q.1 → avSum rest ≤ 8 → (match q.2.1 with
      | none => decode cc pc = .ok (.invokestatic n, 3)
      | some ci => decode cc pc = .ok (.invokevirtual n, 3) ∧ ∃ v bs o fs, as = aR v :: bs ∧ L[v]? = some (o, .inl (ci, fs))) →
      (∀ r σ', P r σ' → sK p l e R s m args below meth c D b0 ty L nL nc ns Q (pc + 3) E (r ++ rest) σ') → sK p l e R s m args below meth c D b0 ty L nL nc ns Q pc E (as.reverse ++ rest) σ)
    {i : Instr} {len nx : Nat} {tg : List Nat} {pc : Nat} {E : List (Option AV)} {st : List AV} {σ : sMem} (hd : decode cc pc = .ok (i, len)) (hnx : nx = pc + len) (htg : xTg pc i tg = true)
    (h : xi L nL X scr cal ret post (sK p l e R s m args below meth c D b0 ty L nL nc ns Q) nx E st σ i len tg) : sK p l e R s m args below meth c D b0 ty L nL nc ns Q pc E st σ := by
  intro H locs ls hP hS hl
  have hD : va_D (sA b0 L) (sFl b0 ty L σ 0 L) := sD_of hnd
  obtain ⟨hF, hC, hJ, hM⟩ := hX
  subst hnx
  unfold xi at h
  split at h
  · exact lv_iconst hx hb hd rfl (h H locs ls hP hS hl)
  · exact lv_bipush hx hb hd rfl (h H locs ls hP hS hl)
  · exact lv_sipush hx hb hd rfl (h H locs ls hP hS hl)
  · exact lv_lconst hx hb hd rfl (h H locs ls hP hS hl)
  · split at h
    · rename_i v hv
      exact lv_ldc hx hb hown (hts _ (hC _ (lookup_mem hv))) hd (h H locs ls hP hS hl)
    · exact h.elim
  · split at h
    · rename_i v hv
      exact lv_ldcw hx hb hown (hts _ (hC _ (lookup_mem hv))) hd (h H locs ls hP hS hl)
    · exact h.elim
  · split at h
    · rename_i v hv
      exact lv_ldc2 hx hb hown (hts _ (hJ _ (lookup_mem hv))) hd (h H locs ls hP hS hl)
    · exact h.elim
  · split at h
    · rename_i x hv
      exact lv_iload hx hb hd (sLR_get hl hv) (h H locs ls hP hS hl)
    · exact h.elim
  · split at h
    · rename_i x hv
      exact lv_iload_n hx hb hd rfl (sLR_get hl hv) (h H locs ls hP hS hl)
    · exact h.elim
  · split at h
    · rename_i x hv
      exact lv_lload hx hb hd (sLR_get hl hv) (h H locs ls hP hS hl)
    · exact h.elim
  · split at h
    · rename_i x hv
      exact lv_lload_n hx hb hd rfl (sLR_get hl hv) (h H locs ls hP hS hl)
    · exact h.elim
  · split at h
    · rename_i x hv
      exact lv_aload hx hb hd (sLR_get hl hv) (h H locs ls hP hS hl)
    · rename_i x hv
      exact lv_aload hx hb hd (sLR_get hl hv) (h H locs ls hP hS hl)
    · rename_i x hv
      exact lv_aload hx hb hd (sLR_get hl hv) (h H locs ls hP hS hl)
    · exact h.elim
  · split at h
    · rename_i x hv
      exact lv_aload_n hx hb hd rfl (sLR_get hl hv) (h H locs ls hP hS hl)
    · rename_i x hv
      exact lv_aload_n hx hb hd rfl (sLR_get hl hv) (h H locs ls hP hS hl)
    · rename_i x hv
      exact lv_aload_n hx hb hd rfl (sLR_get hl hv) (h H locs ls hP hS hl)
    · exact h.elim
  · split at h
    · rename_i hn
      exact lv_istore hx hb hd hl (Nat.blt_eq.mp hn) rfl (fun ls' hl' => h H locs ls' hP hS (sLR_set (ls := ls) (v := aI _) hl'))
    · exact h.elim
  · split at h
    · rename_i hn
      exact lv_lstore hx hb hd hl (Nat.blt_eq.mp hn) rfl (fun ls' hl' => h H locs ls' hP hS (sLR_set2 (ls := ls) (v := aL _) hl'))
    · exact h.elim
  · split at h
    · rename_i hn
      exact lv_astore hx hb hd hl (Nat.blt_eq.mp hn) rfl (fun ls' hl' => h H locs ls' hP hS (sLR_set (ls := ls) (v := aR _) hl'))
    · rename_i hn
      exact lv_astore hx hb hd hl (Nat.blt_eq.mp hn) rfl (fun ls' hl' => h H locs ls' hP hS (sLR_set (ls := ls) (v := .inl (.retAddr _)) hl'))
    · rename_i hn
      exact lv_astore hx hb hd hl (Nat.blt_eq.mp hn) rfl (fun ls' hl' => h H locs ls' hP hS (sLR_set (ls := ls) (v := .inr _) hl'))
    · exact h.elim
  · split at h
    · rename_i hn
      exact lv_istore_n hx hb hd rfl hl (Nat.blt_eq.mp hn) rfl (fun ls' hl' => h H locs ls' hP hS (sLR_set (ls := ls) (v := aI _) hl'))
    · exact h.elim
  · split at h
    · rename_i hn
      exact lv_lstore_n hx hb hd rfl hl (Nat.blt_eq.mp hn) rfl (fun ls' hl' => h H locs ls' hP hS (sLR_set2 (ls := ls) (v := aL _) hl'))
    · exact h.elim
  · split at h
    · rename_i hn
      exact lv_astore_n hx hb hd rfl hl (Nat.blt_eq.mp hn) rfl (fun ls' hl' => h H locs ls' hP hS (sLR_set (ls := ls) (v := aR _) hl'))
    · rename_i hn
      exact lv_astore_n hx hb hd rfl hl (Nat.blt_eq.mp hn) rfl (fun ls' hl' => h H locs ls' hP hS (sLR_set (ls := ls) (v := .inl (.retAddr _)) hl'))
    · rename_i hn
      exact lv_astore_n hx hb hd rfl hl (Nat.blt_eq.mp hn) rfl (fun ls' hl' => h H locs ls' hP hS (sLR_set (ls := ls) (v := .inr _) hl'))
    · exact h.elim
  · split at h
    · rename_i n d o1 o2 x hv hn
      have hm := (sLv_mem (b0 := b0) (L := L) E 0 n _).mpr ⟨n, _, hv, (Nat.zero_add n).symm, rfl⟩
      obtain ⟨k, hk⟩ := List.getElem?_of_mem hm
      exact lv_iinc hx hb hd hl hk rfl (Nat.blt_eq.mp hn) rfl (fun ls' hl' => h H locs ls' hP hS (sLR_set (ls := ls) (v := aI _) hl'))
    · exact h.elim
  · split at h
    · exact lv_iadd hx hb hd (h H locs ls hP hS hl)
    · exact h.elim
  · split at h
    · exact lv_isub hx hb hd (h H locs ls hP hS hl)
    · exact h.elim
  · split at h
    · exact lv_imul hx hb hd (h H locs ls hP hS hl)
    · exact h.elim
  · split at h
    · exact lv_iand hx hb hd (h H locs ls hP hS hl)
    · exact h.elim
  · split at h
    · exact lv_ior hx hb hd (h H locs ls hP hS hl)
    · exact h.elim
  · split at h
    · exact lv_ixor hx hb hd (h H locs ls hP hS hl)
    · exact h.elim
  · split at h
    · exact lv_ishl hx hb hd (h H locs ls hP hS hl)
    · exact h.elim
  · split at h
    · exact lv_ishr hx hb hd (h H locs ls hP hS hl)
    · exact h.elim
  · split at h
    · exact lv_iushr hx hb hd rfl (h H locs ls hP hS hl)
    · exact h.elim
  · split at h
    · exact lv_idiv hx hb hd h.1 (h.2 H locs ls hP hS hl)
    · exact h.elim
  · split at h
    · exact lv_irem hx hb hd h.1 (h.2 H locs ls hP hS hl)
    · exact h.elim
  · split at h
    · exact lv_ineg hx hb hd (h H locs ls hP hS hl)
    · exact h.elim
  · split at h
    · exact lv_i2l hx hb hd rfl (h H locs ls hP hS hl)
    · exact h.elim
  · split at h
    · exact lv_l2i hx hb hd rfl (h H locs ls hP hS hl)
    · exact h.elim
  · split at h
    · exact lv_i2b hx hb hd rfl (h H locs ls hP hS hl)
    · exact h.elim
  · split at h
    · exact lv_ladd hx hb hd (h H locs ls hP hS hl)
    · exact h.elim
  · split at h
    · exact lv_lsub hx hb hd (h H locs ls hP hS hl)
    · exact h.elim
  · split at h
    · exact lv_lmul hx hb hd (h H locs ls hP hS hl)
    · exact h.elim
  · split at h
    · exact lv_ldiv hx hb hd h.1 (h.2 H locs ls hP hS hl)
    · exact h.elim
  · split at h
    · exact W.lcmp hx hb hd (h H locs ls hP hS hl)
    · exact h.elim
  · split at h
    · split at h
      · rename_i hv
        exact lv_dup hx hb hd (cat1 hv) (h H locs ls hP hS hl)
      · exact h.elim
    · exact h.elim
  · split at h
    · split at h
      · rename_i hv hw
        exact lv_dup2_11 hx hb hd (cat1 hv) (cat1 hw) (h H locs ls hP hS hl)
      · exact h.elim
    · exact h.elim
  · split at h
    · split at h
      · rename_i hv
        exact lv_pop hx hb hd (cat1 hv) (h H locs ls hP hS hl)
      · exact h.elim
    · exact h.elim
  · split at h
    · exact lv_goto hx hb hd (of_decide_eq_true htg) (h H locs ls hP hS hl)
    · exact h.elim
  · split at h
    · exact lv_if_eq hx hb hd (of_decide_eq_true htg) (fun q => h.1 q H locs ls hP hS hl) (fun q => h.2 q H locs ls hP hS hl)
    · exact h.elim
  · split at h
    · exact lv_if_ne hx hb hd (of_decide_eq_true htg) (fun q => h.1 q H locs ls hP hS hl) (fun q => h.2 q H locs ls hP hS hl)
    · exact h.elim
  · split at h
    · exact lv_if_lt hx hb hd (of_decide_eq_true htg) (fun q => h.1 q H locs ls hP hS hl) (fun q => h.2 q H locs ls hP hS hl)
    · exact h.elim
  · split at h
    · exact lv_if_ge hx hb hd (of_decide_eq_true htg) (fun q => h.1 q H locs ls hP hS hl) (fun q => h.2 q H locs ls hP hS hl)
    · exact h.elim
  · split at h
    · exact lv_if_gt hx hb hd (of_decide_eq_true htg) (fun q => h.1 q H locs ls hP hS hl) (fun q => h.2 q H locs ls hP hS hl)
    · exact h.elim
  · split at h
    · exact lv_if_le hx hb hd (of_decide_eq_true htg) (fun q => h.1 q H locs ls hP hS hl) (fun q => h.2 q H locs ls hP hS hl)
    · exact h.elim
  · split at h
    · exact lv_icmp_eq hx hb hd (of_decide_eq_true htg) (fun q => h.1 q H locs ls hP hS hl) (fun q => h.2 q H locs ls hP hS hl)
    · exact h.elim
  · split at h
    · exact lv_icmp_ne hx hb hd (of_decide_eq_true htg) (fun q => h.1 q H locs ls hP hS hl) (fun q => h.2 q H locs ls hP hS hl)
    · exact h.elim
  · split at h
    · exact lv_icmp_lt hx hb hd (of_decide_eq_true htg) (fun q => h.1 q H locs ls hP hS hl) (fun q => h.2 q H locs ls hP hS hl)
    · exact h.elim
  · split at h
    · exact lv_icmp_ge hx hb hd (of_decide_eq_true htg) (fun q => h.1 q H locs ls hP hS hl) (fun q => h.2 q H locs ls hP hS hl)
    · exact h.elim
  · split at h
    · exact lv_icmp_gt hx hb hd (of_decide_eq_true htg) (fun q => h.1 q H locs ls hP hS hl) (fun q => h.2 q H locs ls hP hS hl)
    · exact h.elim
  · split at h
    · exact lv_icmp_le hx hb hd (of_decide_eq_true htg) (fun q => h.1 q H locs ls hP hS hl) (fun q => h.2 q H locs ls hP hS hl)
    · exact h.elim
  · split at h
    · rename_i len1 dfl lo hi offs o1 o2 t ts x r
      simp only [xTg, Bool.and_eq_true, decide_eq_true_eq] at htg
      obtain ⟨⟨g1, g2⟩, g3⟩ := htg
      by_cases hq : x.toInt < lo ∨ hi < x.toInt
      · exact lv_tableOut hx hb hd hq g1 (h.1 hq H locs ls hP hS hl)
      · have q1 : ¬ x.toInt < lo := fun q => hq (Or.inl q)
        have q2 : ¬ hi < x.toInt := fun q => hq (Or.inr q)
        have hlt : (x.toInt - lo).toNat < ts.length := by omega
        have ht1 : ts[(x.toInt - lo).toNat]? = some (ts[(x.toInt - lo).toNat]'hlt) := List.getElem?_eq_getElem hlt
        have e1 : (offs.toList.map (fun o => (pc : Int) + o))[(x.toInt - lo).toNat]? = some ((ts[(x.toInt - lo).toNat]'hlt : Nat) : Int) := by rw [g3, List.getElem?_map, ht1]; rfl
        rw [List.getElem?_map] at e1
        cases ho : offs.toList[(x.toInt - lo).toNat]? with
        | none => rw [ho] at e1; cases e1
        | some o =>
          rw [ho] at e1
          have e2 : (pc : Int) + o = ((ts[(x.toInt - lo).toNat]'hlt : Nat) : Int) := Option.some.inj e1
          exact lv_tableIn hx hb hd q1 q2 (by rw [← Array.getElem?_toList]; exact ho) e2 (xSw_at ts lo _ _ h.2 ht1 (by omega) H locs ls hP hS hl)
    · exact h.elim
  · split at h
    · rename_i len1 dfl ps o1 o2 t ts x r
      simp only [xTg, Bool.and_eq_true, decide_eq_true_eq] at htg
      obtain ⟨⟨g1, g2⟩, g3⟩ := htg
      cases hf : ps.toList.find? (fun q => q.1 == x.toInt) with
      | none =>
        have hn : xLn x (ps.toList.map (·.1)) := xLn_of _ fun k hk => by
          obtain ⟨q, hq, rfl⟩ := List.mem_map.mp hk
          have := List.find?_eq_none.mp hf q hq
          intro e1
          exact this (by simp [e1])
        exact lv_lookup hx hb hd g3 (Op.lookupswitch.offset_none hf) g1 (h.1 hn H locs ls hP hS hl)
      | some q =>
        obtain ⟨j, hj⟩ := List.getElem?_of_mem (List.mem_of_find?_eq_some hf)
        have hq : q.1 = x.toInt := by simpa using List.find?_some hf
        have e1 : (ps.toList.map (fun o => (pc : Int) + o.2))[j]? = some ((pc : Int) + q.2) := by rw [List.getElem?_map, hj]; rfl
        rw [g2, List.getElem?_map] at e1
        cases ht : ts[j]? with
        | none => rw [ht] at e1; cases e1
        | some t1 =>
          rw [ht] at e1
          have e2 : (t1 : Int) = (pc : Int) + q.2 := Option.some.inj e1
          exact lv_lookup hx hb hd g3 (Op.lookupswitch.offset_some (a := q.1) (o := q.2) hf) e2.symm (xLk_at _ ts j t1 q.1 h.2 (by rw [List.getElem?_map, hj]; rfl) ht hq.symm H locs ls hP hS hl)
    · exact h.elim
  · split at h
    · rename_i v r
      split at h
      · rename_i o ci fs cj f cd hL1 hX1
        obtain ⟨r1, hr1, hlt, hlink, -⟩ := hF _ (lookup_mem hX1)
        · obtain ⟨k, hk, -⟩ := sAtO (b0 := b0) (ty := ty) (σ := σ) hL1
          have he : sOff L v = o := sOff_at hL1
          split at h
          · rename_i hbq hf
            have hcc : ci = cj := Nat.eq_of_beq_eq_true hbq
            subst hcc
            have hv : (fs.zipIdx.map (sFv b0 L σ v))[f]? = some (.int (σ v 0 f)) := by
              rw [List.getElem?_map, List.getElem?_zipIdx, hf]
              simp [sFv]
            have := va_get (C := r1.1) (T := r1.2.1) (N := r1.2.2) hx hb hts (sCl ci r1 hr1).1 hown hK hP k hk hr1 f hlt (hts _ hlink) (fun _ h => h) hv hd (h H locs ls hP hS hl)
            show W p l e R s m args below meth c H locs (nc σ) (ns σ) _ (F0 m pc ls (.ref (b0 + sOff L v) :: _))
            rw [he]
            exact this
          · rename_i w hbq hf
            have hcc : ci = cj := Nat.eq_of_beq_eq_true hbq
            subst hcc
            have hv : (fs.zipIdx.map (sFv b0 L σ v))[f]? = some (.ref (b0 + sOff L w)) := by
              rw [List.getElem?_map, List.getElem?_zipIdx, hf]
              simp [sFv]
            have := va_get (C := r1.1) (T := r1.2.1) (N := r1.2.2) hx hb hts (sCl ci r1 hr1).1 hown hK hP k hk hr1 f hlt (hts _ hlink) (fun _ h => h) hv hd (h H locs ls hP hS hl)
            show W p l e R s m args below meth c H locs (nc σ) (ns σ) _ (F0 m pc ls (.ref (b0 + sOff L v) :: _))
            rw [he]
            exact this
          · rename_i hbq hf
            have hcc : ci = cj := Nat.eq_of_beq_eq_true hbq
            subst hcc
            have hv : (fs.zipIdx.map (sFv b0 L σ v))[f]? = some (.ref (b0 + sOff L (σ v 0 f).toNatClampNeg)) := by
              rw [List.getElem?_map, List.getElem?_zipIdx, hf]
              simp [sFv]
            have := va_get (C := r1.1) (T := r1.2.1) (N := r1.2.2) hx hb hts (sCl ci r1 hr1).1 hown hK hP k hk hr1 f hlt (hts _ hlink) (fun _ h => h) hv hd (h H locs ls hP hS hl)
            show W p l e R s m args below meth c H locs (nc σ) (ns σ) _ (F0 m pc ls (.ref (b0 + sOff L v) :: _))
            rw [he]
            exact this
          · exact h.elim
      · exact h.elim
    · exact h.elim
  · split at h
    · rename_i x v r
      split at h
      · rename_i o ci fs cj f cd hL1 hX1
        obtain ⟨r1, hr1, hlt, hlink, hkind⟩ := hF _ (lookup_mem hX1)
        · obtain ⟨k, hk, hset, hset2⟩ := sAtO (b0 := b0) (ty := ty) (σ := σ) hL1
          have he : sOff L v = o := sOff_at hL1
          split at h
          · rename_i hbq hf
            have hcc : ci = cj := Nat.eq_of_beq_eq_true hbq
            subst hcc
            have hk2 : (!(r1.2.1 f).2.2.2 && decide ((r1.2.1 f).2.2.1 = "I")) = true := hkind
            simp only [Bool.and_eq_true, Bool.not_eq_true', decide_eq_true_eq] at hk2
            obtain ⟨hfin, hdesc⟩ := hk2
            have hpd : parseFieldDescriptor (r1.2.1 f).2.2.1 = some .int := by rw [hdesc]; decide +kernel
            have hn : narrow .int (.int x) = .int x := rfl
            have hft : fits .int (.int x) = true := rfl
            have := va_put (C := r1.1) (T := r1.2.1) (N := r1.2.2) hx hb hts (sCl ci r1 hr1).1 (sCl ci r1 hr1).2.2.choose (sCl ci r1 hr1).2.2.choose_spec (sCl ci r1 hr1).2.1 hown hK hP hD hS k hk hr1 f hlt (hts _ hlink) (fun _ h => h) hfin hpd hn hft (by simp; exact (List.getElem?_eq_some_iff.mp hf).1) hd
              (fun H1 locs1 hP1 hD1 hS1 => sK_up h1 h2 hL1 h H1 locs1 ls (by rw [hset f x hf]; exact hP1) hS1 hl)
            show W p l e R s m args below meth c H locs (nc σ) (ns σ) _ (F0 m pc ls (.int x :: .ref (b0 + sOff L v) :: _))
            rw [he]
            exact this
          · rename_i hbq hf
            have hcc : ci = cj := Nat.eq_of_beq_eq_true hbq
            subst hcc
            have hk2 : (!(r1.2.1 f).2.2.2 && decide ((r1.2.1 f).2.2.1 = "Z")) = true := hkind
            simp only [Bool.and_eq_true, Bool.not_eq_true', decide_eq_true_eq] at hk2
            obtain ⟨hfin, hdesc⟩ := hk2
            have hpd : parseFieldDescriptor (r1.2.1 f).2.2.1 = some .boolean := by rw [hdesc]; decide +kernel
            have hn : narrow .boolean (.int x) = .int x := by rcases h.1 with rfl | rfl <;> decide +kernel
            have hft : fits .boolean (.int x) = true := by rcases h.1 with rfl | rfl <;> decide +kernel
            have := va_put (C := r1.1) (T := r1.2.1) (N := r1.2.2) hx hb hts (sCl ci r1 hr1).1 (sCl ci r1 hr1).2.2.choose (sCl ci r1 hr1).2.2.choose_spec (sCl ci r1 hr1).2.1 hown hK hP hD hS k hk hr1 f hlt (hts _ hlink) (fun _ h => h) hfin hpd hn hft (by simp; exact (List.getElem?_eq_some_iff.mp hf).1) hd
              (fun H1 locs1 hP1 hD1 hS1 => sK_up h1 h2 hL1 h.2 H1 locs1 ls (by rw [hset f x hf]; exact hP1) hS1 hl)
            show W p l e R s m args below meth c H locs (nc σ) (ns σ) _ (F0 m pc ls (.int x :: .ref (b0 + sOff L v) :: _))
            rw [he]
            exact this
          · exact h.elim
      · exact h.elim
    · rename_i w v r
      split at h
      · rename_i o ci fs cj f cd hL1 hX1
        obtain ⟨r1, hr1, hlt, hlink, hkind⟩ := hF _ (lookup_mem hX1)
        · obtain ⟨k, hk, hset, hset2⟩ := sAtO (b0 := b0) (ty := ty) (σ := σ) hL1
          have he : sOff L v = o := sOff_at hL1
          split at h
          · rename_i hbq hf
            have hcc : ci = cj := Nat.eq_of_beq_eq_true hbq
            subst hcc
            have hk2 : (!(r1.2.1 f).2.2.2 && (match parseFieldDescriptor (r1.2.1 f).2.2.1 with
              | some (.object _) => true
              | some (.array _) => true
              | _ => false)) = true := hkind
            rw [Bool.and_eq_true] at hk2
            obtain ⟨hfin0, hd0⟩ := hk2
            have hfin : (r1.2.1 f).2.2.2 = false := by simpa using hfin0
            have hty : ∃ tf, parseFieldDescriptor (r1.2.1 f).2.2.1 = some tf ∧ narrow tf (.ref (b0 + sOff L w)) = .ref (b0 + sOff L w) ∧ fits tf (.ref (b0 + sOff L w)) = true := by
              split at hd0
              · rename_i n9 h9
                exact ⟨_, h9, rfl, rfl⟩
              · rename_i n9 h9
                exact ⟨_, h9, rfl, rfl⟩
              · cases hd0
            obtain ⟨tf, hpd, hn, hft⟩ := hty
            have := va_put (C := r1.1) (T := r1.2.1) (N := r1.2.2) hx hb hts (sCl ci r1 hr1).1 (sCl ci r1 hr1).2.2.choose (sCl ci r1 hr1).2.2.choose_spec (sCl ci r1 hr1).2.1 hown hK hP hD hS k hk hr1 f hlt (hts _ hlink) (fun _ h => h) hfin hpd hn hft (by simp; exact (List.getElem?_eq_some_iff.mp hf).1) hd
              (fun H1 locs1 hP1 hD1 hS1 => sK_up h1 h2 hL1 h.2 H1 locs1 ls (by rw [hset2 f w h.1 hf]; exact hP1) hS1 hl)
            show W p l e R s m args below meth c H locs (nc σ) (ns σ) _ (F0 m pc ls (.ref (b0 + sOff L w) :: .ref (b0 + sOff L v) :: _))
            rw [he]
            exact this
          · exact h.elim
      · exact h.elim
    · exact h.elim
  · split at h
    · rename_i k a r
      split at h
      · rename_i x
        split at h
        · rename_i b n xs
          obtain ⟨rfl, hin, hk⟩ := h
          obtain ⟨hX9, hb9, hA9, -⟩ := hscr _ _ _ rfl
          exact va_sld hx hb hX9 hb9 hA9 hS hin hd (hk H locs ls hP hS hl)
        · exact h.elim
      · rename_i i
        split at h
        · rename_i o n hL1
          obtain ⟨q, hq, -⟩ := sAtA (b0 := b0) (ty := ty) (σ := σ) hL1 (by decide)
          have he : sOff L i = o := sOff_at hL1
          have := va_iald hx hb hK hP q 0 hq rfl h.1 hd (h.2 H locs ls hP hS hl)
          show W p l e R s m args below meth c H locs (nc σ) (ns σ) _ (F0 m pc ls (.int k :: .ref (b0 + sOff L i) :: _))
          rw [he]
          exact this
        · exact h.elim
      · rename_i i j
        split at h
        · rename_i o n m' hL1
          obtain ⟨q, hq, -⟩ := sAtR (b0 := b0) (ty := ty) (σ := σ) hL1 h.1
          have he : sOff L i = o := sOff_at hL1
          have := va_iald hx hb hK hP q 0 hq rfl h.2.1 hd (h.2.2 H locs ls hP hS hl)
          show W p l e R s m args below meth c H locs (nc σ) (ns σ) _ (F0 m pc ls (.int k :: .ref (b0 + sOff L i + 1 + j) :: _))
          rw [he]
          exact this
        · exact h.elim
      · exact h.elim
    · exact h.elim
  · split at h
    · rename_i k a r
      split at h
      · rename_i i
        split at h
        · rename_i o n hL1
          obtain ⟨q, hq, -⟩ := sAtA (b0 := b0) (ty := ty) (σ := σ) hL1 (by decide)
          have he : sOff L i = o := sOff_at hL1
          have := va_bald hx hb hK hP q 2 hq rfl h.1 hd (h.2 H locs ls hP hS hl)
          show W p l e R s m args below meth c H locs (nc σ) (ns σ) _ (F0 m pc ls (.int k :: .ref (b0 + sOff L i) :: _))
          rw [he]
          exact this
        · exact h.elim
      · exact h.elim
    · exact h.elim
  · split at h
    · rename_i x k a r
      split at h
      · rename_i i
        split at h
        · rename_i o n hL1
          obtain ⟨q, hq, hset⟩ := sAtA (b0 := b0) (ty := ty) (σ := σ) hL1 (by decide)
          have he : sOff L i = o := sOff_at hL1
          have := va_iast hx hb hK hP hD hS q 0 hq rfl (x := x) h.1 hd (fun H1 locs1 hP1 hD1 hS1 => sK_up h1 h2 hL1 h.2 H1 locs1 ls (by rw [hset]; exact hP1) hS1 hl)
          show W p l e R s m args below meth c H locs (nc σ) (ns σ) _ (F0 m pc ls (.int x :: .int k :: .ref (b0 + sOff L i) :: _))
          rw [he]
          exact this
        · exact h.elim
      · rename_i i j
        split at h
        · rename_i o n m' hL1
          obtain ⟨q, hq, hset⟩ := sAtR (b0 := b0) (ty := ty) (σ := σ) hL1 h.1
          have he : sOff L i = o := sOff_at hL1
          have := va_iast hx hb hK hP hD hS q 0 hq rfl (x := x) h.2.1 hd (fun H1 locs1 hP1 hD1 hS1 => sK_up h1 h2 hL1 h.2.2 H1 locs1 ls (by rw [hset]; exact hP1) hS1 hl)
          show W p l e R s m args below meth c H locs (nc σ) (ns σ) _ (F0 m pc ls (.int x :: .int k :: .ref (b0 + sOff L i + 1 + j) :: _))
          rw [he]
          exact this
        · exact h.elim
      · exact h.elim
    · exact h.elim
  · split at h
    · rename_i x k a r
      split at h
      · rename_i i
        split at h
        · rename_i o n hL1
          obtain ⟨q, hq, hset⟩ := sAtA (b0 := b0) (ty := ty) (σ := σ) hL1 (by decide)
          have he : sOff L i = o := sOff_at hL1
          have := va_bast hx hb hK hP hD hS q 2 hq rfl (x := x) h.1 hd (fun H1 locs1 hP1 hD1 hS1 => sK_up h1 h2 hL1 h.2 H1 locs1 ls (by rw [hset]; exact hP1) hS1 hl)
          show W p l e R s m args below meth c H locs (nc σ) (ns σ) _ (F0 m pc ls (.int x :: .int k :: .ref (b0 + sOff L i) :: _))
          rw [he]
          exact this
        · exact h.elim
      · exact h.elim
    · exact h.elim
  · split at h
    · rename_i k v r
      split at h
      · rename_i o n m' hL1
        obtain ⟨q, hq⟩ := sAtT (b0 := b0) (ty := ty) (σ := σ) hL1
        have he : sOff L v = o := sOff_at hL1
        have hlt : k.toNatClampNeg < n := Nat.not_le.mp fun q => h.1 (Or.inr q)
        have h9 := h.2 H locs ls hP hS hl
        have e9 : sCv b0 L (.inr (v, k.toNatClampNeg)) = .ref (b0 + o + 1 + k.toNatClampNeg) := by rw [← he]; rfl
        rw [List.map_cons, e9] at h9
        have := W.aald (v := .ref (b0 + o + 1 + k.toNatClampNeg)) (ty := .array .int) hx hb (hP q _ hq) ((hK.2 1 _ rfl).1 n (fun j => va_rf (some (b0 + o + 1 + j)))) rfl (fun q => by cases q) (by show ¬ (k < 0 ∨ (arrV _ _ _).slots.size ≤ _); rw [arrV_size]; exact h.1) (by show (arrV _ _ _).slots[_]? = _; rw [arrV_read _ _ hlt]; rfl) rfl (g := F0 m pc ls (.int k :: .ref (b0 + o) :: r.map (sCv b0 L))) rfl hd h9
        show W p l e R s m args below meth c H locs (nc σ) (ns σ) _ (F0 m pc ls (.int k :: .ref (b0 + sOff L v) :: _))
        rw [he]
        exact this
      · exact h.elim
    · exact h.elim
  · split at h
    · rename_i k i r
      split at h
      · rename_i o n hL1
        obtain ⟨q, hq, -⟩ := sAtJ (b0 := b0) (ty := ty) (σ := σ) hL1
        have he : sOff L i = o := sOff_at hL1
        have := va_lald hx hb hK hP q 3 hq rfl h.1 hd (h.2 H locs ls hP hS hl)
        show W p l e R s m args below meth c H locs (nc σ) (ns σ) _ (F0 m pc ls (.int k :: .ref (b0 + sOff L i) :: _))
        rw [he]
        exact this
      · exact h.elim
    · exact h.elim
  · split at h
    · rename_i x k i r
      split at h
      · rename_i o n hL1
        obtain ⟨hin, w, rfl, hk⟩ := h
        obtain ⟨q, hq, hset⟩ := sAtJ (b0 := b0) (ty := ty) (σ := σ) hL1
        have he : sOff L i = o := sOff_at hL1
        have := va_last hx hb hK hP hD hS q 3 hq rfl (x := w.toInt64) hin hd (fun H1 locs1 hP1 hD1 hS1 => sK_up h1 h2 hL1 hk H1 locs1 ls (by rw [hset]; exact hP1) hS1 hl)
        show W p l e R s m args below meth c H locs (nc σ) (ns σ) _ (F0 m pc ls (.long _ :: .int k :: .ref (b0 + sOff L i) :: _))
        rw [he]
        exact this
      · exact h.elim
    · exact h.elim
  · split at h
    · rename_i x r
      split at h
      · rename_i b n xs
        obtain ⟨rfl, hk⟩ := h
        obtain ⟨hX9, hb9, hA9, hn9⟩ := hscr _ _ _ rfl
        exact va_slen hx hb hX9 hb9 hA9 hS hd (hk H locs ls hP hS hl)
      · exact h.elim
    · rename_i v r
      split at h
      · rename_i o n hL1
        obtain ⟨q, hq, -⟩ := sAtA (b0 := b0) (ty := ty) (σ := σ) hL1 (by decide)
        have he : sOff L v = o := sOff_at hL1
        have := va_alen hx hb hK hP q 0 hq rfl rfl hd (h H locs ls hP hS hl)
        show W p l e R s m args below meth c H locs (nc σ) (ns σ) _ (F0 m pc ls (.ref (b0 + sOff L v) :: _))
        rw [he]
        exact this
      · rename_i o n m' hL1
        obtain ⟨q, hq⟩ := sAtT (b0 := b0) (ty := ty) (σ := σ) hL1
        have he : sOff L v = o := sOff_at hL1
        have := va_alen hx hb hK hP q 1 hq rfl rfl hd (h H locs ls hP hS hl)
        show W p l e R s m args below meth c H locs (nc σ) (ns σ) _ (F0 m pc ls (.ref (b0 + sOff L v) :: _))
        rw [he]
        exact this
      · exact h.elim
    · rename_i i j r
      split at h
      · rename_i o n m' hL1
        obtain ⟨q, hq, -⟩ := sAtR (b0 := b0) (ty := ty) (σ := σ) hL1 h.1
        have he : sOff L i = o := sOff_at hL1
        have := va_alen hx hb hK hP q 0 hq rfl rfl hd (h.2 H locs ls hP hS hl)
        show W p l e R s m args below meth c H locs (nc σ) (ns σ) _ (F0 m pc ls (.ref (b0 + sOff L i + 1 + j) :: _))
        rw [he]
        exact this
      · exact h.elim
    · exact h.elim
  · split at h
    · rename_i n o1 k ci q hX1
      split at h
      · rename_i v as hk1 hk2 hk3
        split at h
        · rename_i o cj fs hL1
          split at h
          · rename_i hbq
            have hcc : ci = cj := Nat.eq_of_beq_eq_true hbq
            subst hcc
            have hlen : (aR v :: as).length = k := by
              have h5 : ((st.take k).reverse).length = k := by
                rw [List.length_reverse, List.length_take]
                exact Nat.min_eq_left (Nat.le_of_ble_eq_true hk1)
              rw [hk3] at h5
              exact h5
            have hst : (aR v :: as).reverse ++ st.drop k = st := by
              have h7 := congrArg List.reverse hk3
              rw [List.reverse_reverse] at h7
              rw [← h7, List.take_append_drop]
            have := hcal n (k, some ci, q) (aR v :: as) (st.drop k) pc E σ _ hX1 h hlen (Nat.le_of_ble_eq_true hk2) ⟨hd, v, as, o, fs, rfl, hL1⟩ (fun r σ' hp => hp)
            rw [hst] at this
            exact this H locs ls hP hS hl
          · exact h.elim
        · exact h.elim
      · exact h.elim
    · exact h.elim
  · split at h
    · rename_i n o1 k q hX1
      split at h
      · rename_i hk1 hk2
        have hlen : ((st.take k).reverse).length = k := by
          rw [List.length_reverse, List.length_take]
          exact Nat.min_eq_left (Nat.le_of_ble_eq_true hk1)
        have := hcal n (k, none, q) (st.take k).reverse (st.drop k) pc E σ _ hX1 h hlen (Nat.le_of_ble_eq_true hk2) hd (fun r σ' hp => hp)
        rw [List.reverse_reverse, List.take_append_drop] at this
        exact this H locs ls hP hS hl
      · exact h.elim
    · exact h.elim
  · split at h
    · rename_i x
      exact hret .ireturn pc [aI x] σ ⟨x, rfl, Or.inl rfl⟩ hd h H locs ls hP hS
    · rename_i x
      exact hret .ireturn pc [aI x] σ ⟨x, rfl, Or.inr ⟨rfl, h.1⟩⟩ hd h.2 H locs ls hP hS
    · exact h.elim
  · split at h
    · rename_i x
      exact hret .lreturn pc [aL x] σ ⟨x, rfl, rfl⟩ hd h H locs ls hP hS
    · exact h.elim
  · split at h
    · rename_i x ta
      exact hret .areturn pc [aR x] σ ⟨Or.inl ⟨x, rfl⟩, _, rfl, Or.inr ⟨_, rfl⟩⟩ hd h H locs ls hP hS
    · rename_i x ta
      exact hret .areturn pc [aR x] σ ⟨Or.inl ⟨x, rfl⟩, _, rfl, Or.inl ⟨_, rfl⟩⟩ hd h H locs ls hP hS
    · rename_i x ta
      exact hret .areturn pc [.inr x] σ ⟨Or.inr ⟨x, rfl⟩, _, rfl, Or.inr ⟨_, rfl⟩⟩ hd h H locs ls hP hS
    · exact h.elim
  · split at h
    · exact hret .return_ pc [] σ ⟨rfl, rfl⟩ hd h H locs ls hP hS
    · exact h.elim
  · exact h.elim
end
