/-! ONE INSTRUCTION, SOUND -/
section
variable {p : Program} {l : Launch} {e : Env} {R : Room} {s : State} {m : MethodId} {args : Array Value} {below : List Frame} {meth : Method} {c : Code} {D : va_G} {b0 : Nat} {ty : Nat → ClassId} {L : sLay} {nL : Nat} {cc : ByteArray} {own : String} {post : List AV → sMem → Prop}
/-- from this place the body goes on to its end -/
def sK (p : Program) (l : Launch) (e : Env) (R : Room) (s : State) (m : MethodId) (args : Array Value) (below : List Frame) (meth : Method) (c : Code) (D : va_G) (b0 : Nat) (ty : Nat → ClassId) (L : sLay) (nL : Nat) (post : List AV → sMem → Prop) (pc : Nat) (E : List (Option AV)) (st : List AV) (σ : sMem) : Prop :=
  ∀ (H : Heap) (locs : List Loc) (ls : Array Slot), va_P D vwCl (sFl b0 ty L σ 0 L) H → va_S (sA b0 L) s.heap H locs → lv_has ls nL (sLv b0 L 0 E) → W p l e R s m args below meth c H locs 0 0 (MQ below (sQ D b0 ty L post) args s 0 0 (sA b0 L)) (F0 m pc ls (st.map (sCv b0 L)))
theorem sOff_at {i : Nat} {q : Nat × sKd} (h : L[i]? = some q) : sOff L i = q.1 := by
  unfold sOff
  rw [h]
theorem cat1 {v : AV} (h : avCat2 v = false) : (sCv b0 L v).category = 1 := by
  have h1 := avCat (b0 := b0) (L := L) v
  rw [h] at h1
  rcases lv_cat (sCv b0 L v) with h2 | h2
  · exact h2
  · rw [h2] at h1; cases h1
theorem avSum_eq (st : List AV) : ((st.map (sCv b0 L)).map fun v => v.category).sum = avSum st := by
  unfold avSum
  rw [List.map_map]
  congr 1
  refine List.map_congr_left fun v _ => ?_
  show (sCv b0 L v).category = if avCat2 v then 2 else 1
  have h1 := avCat (b0 := b0) (L := L) v
  cases hc : avCat2 v with
  | false => rw [cat1 hc]; rfl
  | true =>
    rw [hc] at h1
    have : (sCv b0 L v).category = 2 := by simpa using h1
    rw [this]; rfl
/-- a switch's case -/
theorem xSw_at {P : Nat → Prop} {x : Int32} : ∀ (ts : List Nat) (k : Int) (j t : Nat), xSw P x k ts → ts[j]? = some t → x.toInt = k + j → P t
  | [], _, _, _, _, h, _ => by simp at h
  | a :: r, k, 0, t, h, h1, h2 => by
    have : a = t := by simpa using h1
    subst this
    exact h.1 (by omega)
  | a :: r, k, j + 1, t, h, h1, h2 => xSw_at r (k + 1) j t h.2 (by simpa using h1) (by omega)
/-- a call: what comes back, and the rest -/
theorem sCall {d : Nat} {q : xMe} {as : List AV} {σ : sMem} {P : List AV → sMem → Prop} {H : Heap} {locs : List Loc} {ls : Array Slot} {pc : Nat} {E : List (Option AV)} {rest : List AV} {st0 : List Value}
    (hr : va_Run p l e R s m args below meth c H locs 0 0 0 0 (F0 m pc ls st0) (rest.map (sCv b0 L)) (sQ D b0 ty L P (as.map (sCv b0 L)).toArray) (sA b0 L)) (hS : va_S (sA b0 L) s.heap H locs) (hl : lv_has ls nL (sLv b0 L 0 E))
    (hk : ∀ r σ', P r σ' → sK p l e R s m args below meth c D b0 ty L nL post (pc + 3) E (r ++ rest) σ') : W p l e R s m args below meth c H locs 0 0 (MQ below (sQ D b0 ty L post) args s 0 0 (sA b0 L)) (F0 m pc ls st0) := by
  intro T hT X
  obtain ⟨v, st₀, t, T', Ls, h0, X', hL, e1, e2, ⟨⟨r, σ', hv, hlen, hp, hP'⟩, hz, hk2⟩, st⟩ := hr T hT X
  rw [h0] at hz hk2
  have hS' : va_S (sA b0 L) s.heap T'.heap (locs ++ Ls) := ⟨Nat.le_trans hS.1 (by rw [e1]; exact hz), fun q h1 h2 => by rw [e1, hk2 q (Nat.lt_of_lt_of_le h1 hS.1) h2]; exact hS.2.1 q h1 h2, fun q hq => by
      rcases List.mem_append.mp hq with h | h
      · exact hS.2.2 q h
      · exact hL q h⟩
  obtain ⟨t2, a1, b1⟩ := hk r σ' hp T'.heap (locs ++ Ls) ls (by rw [e1]; exact hP') hS' hl T' rfl X'
  refine ⟨t2, st t2 ?_, b1⟩
  cases hv
  cases r with
  | nil => exact a1
  | cons v1 r1 =>
    cases r1 with
    | nil => exact a1
    | cons v2 r2 => simp at hlen
set_option maxHeartbeats 4000000 in
set_option maxRecDepth 100000 in
theorem xi_sound (hx : p.tables.exec = Jvm.exec) (hb : c.code = cc) (hml : c.maxLocals = nL) (hts : ∀ w ∈ sTB, w.before args s = true) (hown : s.vm.findClass own = some m.cls) (hK : va_K D vwCl (sTys ty) s) (hnd : (sAdr L).Nodup) {X : xTb} (hX : xOKX own X)
    {ret : Option FieldType} (hr : meth.sig.returnType = ret) (hlocks : meth.locks = false) {cal : xMe → List AV → sMem → (List AV → sMem → Prop) → Prop} (hcal : ∀ q as σ P, cal q as σ P → ∃ d, sMet l D b0 ty L d q as σ P ∧ d + 1 ≤ R.frames ∧ 64 + 64 * d ≤ R.locals)
    {i : Instr} {len : Nat} {tg : List Nat} {pc : Nat} {E : List (Option AV)} {st : List AV} {σ : sMem} (hd : decode cc pc = .ok (i, len)) (htg : xTg pc i tg = true)
    (h : xi L nL X cal ret post (sK p l e R s m args below meth c D b0 ty L nL post) pc E st σ i len tg) : sK p l e R s m args below meth c D b0 ty L nL post pc E st σ := by
  intro H locs ls hP hS hl
  have hD : va_D (sA b0 L) (sFl b0 ty L σ 0 L) := sD_of hnd
  obtain ⟨hF, hC, hJ, hM⟩ := hX
  unfold xi at h
  split at h
  · exact lv_iconst hx hb hd rfl (h H locs ls hP hS hl)
  · exact lv_bipush hx hb hd rfl (h H locs ls hP hS hl)
  · exact lv_sipush hx hb hd rfl (h H locs ls hP hS hl)
  · exact lv_lconst hx hb hd rfl (h H locs ls hP hS hl)
  · split at h
    · rename_i v hv
      exact lv_ldc hx hb hown (hts _ (hC _ (lookup_mem hv))) hd (h H locs ls hP hS hl)
    · exact h.elim
  · split at h
    · rename_i v hv
      exact lv_ldcw hx hb hown (hts _ (hC _ (lookup_mem hv))) hd (h H locs ls hP hS hl)
    · exact h.elim
  · split at h
    · rename_i v hv
      exact lv_ldc2 hx hb hown (hts _ (hJ _ (lookup_mem hv))) hd (h H locs ls hP hS hl)
    · exact h.elim
  · split at h
    · rename_i x hv
      exact lv_iload hx hb hd (sLR_get hl hv) (h H locs ls hP hS hl)
    · exact h.elim
  · split at h
    · rename_i x hv
      exact lv_iload_n hx hb hd rfl (sLR_get hl hv) (h H locs ls hP hS hl)
    · exact h.elim
  · split at h
    · rename_i x hv
      exact lv_lload hx hb hd (sLR_get hl hv) (h H locs ls hP hS hl)
    · exact h.elim
  · split at h
    · rename_i x hv
      exact lv_lload_n hx hb hd rfl (sLR_get hl hv) (h H locs ls hP hS hl)
    · exact h.elim
  · split at h
    · rename_i x hv
      exact lv_aload hx hb hd (sLR_get hl hv) (h H locs ls hP hS hl)
    · rename_i x hv
      exact lv_aload hx hb hd (sLR_get hl hv) (h H locs ls hP hS hl)
    · exact h.elim
  · split at h
    · rename_i x hv
      exact lv_aload_n hx hb hd rfl (sLR_get hl hv) (h H locs ls hP hS hl)
    · rename_i x hv
      exact lv_aload_n hx hb hd rfl (sLR_get hl hv) (h H locs ls hP hS hl)
    · exact h.elim
  · split at h
    · rename_i hn
      exact lv_istore hx hb hd hl (Nat.blt_eq.mp hn) rfl (fun ls' hl' => h H locs ls' hP hS (sLR_set (ls := ls) (v := aI _) hl'))
    · exact h.elim
  · split at h
    · rename_i hn
      exact lv_lstore hx hb hd hl (Nat.blt_eq.mp hn) rfl (fun ls' hl' => h H locs ls' hP hS (sLR_set2 (ls := ls) (v := aL _) hl'))
    · exact h.elim
  · split at h
    · rename_i hn
      exact lv_astore hx hb hd hl (Nat.blt_eq.mp hn) rfl (fun ls' hl' => h H locs ls' hP hS (sLR_set (ls := ls) (v := aR _) hl'))
    · rename_i hn
      exact lv_astore hx hb hd hl (Nat.blt_eq.mp hn) rfl (fun ls' hl' => h H locs ls' hP hS (sLR_set (ls := ls) (v := .inr _) hl'))
    · exact h.elim
  · split at h
    · rename_i hn
      exact lv_istore_n hx hb hd rfl hl (Nat.blt_eq.mp hn) rfl (fun ls' hl' => h H locs ls' hP hS (sLR_set (ls := ls) (v := aI _) hl'))
    · exact h.elim
  · split at h
    · rename_i hn
      exact lv_lstore_n hx hb hd rfl hl (Nat.blt_eq.mp hn) rfl (fun ls' hl' => h H locs ls' hP hS (sLR_set2 (ls := ls) (v := aL _) hl'))
    · exact h.elim
  · split at h
    · rename_i hn
      exact lv_astore_n hx hb hd rfl hl (Nat.blt_eq.mp hn) rfl (fun ls' hl' => h H locs ls' hP hS (sLR_set (ls := ls) (v := aR _) hl'))
    · rename_i hn
      exact lv_astore_n hx hb hd rfl hl (Nat.blt_eq.mp hn) rfl (fun ls' hl' => h H locs ls' hP hS (sLR_set (ls := ls) (v := .inr _) hl'))
    · exact h.elim
  · split at h
    · rename_i n d o1 o2 x hv hn
      have hm := (sLv_mem (b0 := b0) (L := L) E 0 n _).mpr ⟨n, _, hv, (Nat.zero_add n).symm, rfl⟩
      obtain ⟨k, hk⟩ := List.getElem?_of_mem hm
      exact lv_iinc hx hb hd hl hk rfl (Nat.blt_eq.mp hn) rfl (fun ls' hl' => h H locs ls' hP hS (sLR_set (ls := ls) (v := aI _) hl'))
    · exact h.elim
  · split at h
    · exact lv_iadd hx hb hd (h H locs ls hP hS hl)
    · exact h.elim
  · split at h
    · exact lv_isub hx hb hd (h H locs ls hP hS hl)
    · exact h.elim
  · split at h
    · exact lv_imul hx hb hd (h H locs ls hP hS hl)
    · exact h.elim
  · split at h
    · exact lv_iand hx hb hd (h H locs ls hP hS hl)
    · exact h.elim
  · split at h
    · exact lv_ior hx hb hd (h H locs ls hP hS hl)
    · exact h.elim
  · split at h
    · exact lv_ixor hx hb hd (h H locs ls hP hS hl)
    · exact h.elim
  · split at h
    · exact lv_ishl hx hb hd (h H locs ls hP hS hl)
    · exact h.elim
  · split at h
    · exact lv_ishr hx hb hd (h H locs ls hP hS hl)
    · exact h.elim
  · split at h
    · exact lv_iushr hx hb hd rfl (h H locs ls hP hS hl)
    · exact h.elim
  · split at h
    · exact lv_idiv hx hb hd h.1 (h.2 H locs ls hP hS hl)
    · exact h.elim
  · split at h
    · exact lv_irem hx hb hd h.1 (h.2 H locs ls hP hS hl)
    · exact h.elim
  · split at h
    · exact lv_ineg hx hb hd (h H locs ls hP hS hl)
    · exact h.elim
  · split at h
    · exact lv_i2l hx hb hd rfl (h H locs ls hP hS hl)
    · exact h.elim
  · split at h
    · exact lv_l2i hx hb hd rfl (h H locs ls hP hS hl)
    · exact h.elim
  · split at h
    · exact lv_i2b hx hb hd rfl (h H locs ls hP hS hl)
    · exact h.elim
  · split at h
    · exact lv_ladd hx hb hd (h H locs ls hP hS hl)
    · exact h.elim
  · split at h
    · exact lv_lsub hx hb hd (h H locs ls hP hS hl)
    · exact h.elim
  · split at h
    · exact lv_lmul hx hb hd (h H locs ls hP hS hl)
    · exact h.elim
  · split at h
    · exact lv_ldiv hx hb hd h.1 (h.2 H locs ls hP hS hl)
    · exact h.elim
  · split at h
    · exact W.lcmp hx hb hd (h H locs ls hP hS hl)
    · exact h.elim
  · split at h
    · split at h
      · rename_i hv
        exact lv_dup hx hb hd (cat1 hv) (h H locs ls hP hS hl)
      · exact h.elim
    · exact h.elim
  · split at h
    · split at h
      · rename_i hv hw
        exact lv_dup2_11 hx hb hd (cat1 hv) (cat1 hw) (h H locs ls hP hS hl)
      · exact h.elim
    · exact h.elim
  · split at h
    · split at h
      · rename_i hv
        exact lv_pop hx hb hd (cat1 hv) (h H locs ls hP hS hl)
      · exact h.elim
    · exact h.elim
  · split at h
    · exact lv_goto hx hb hd (of_decide_eq_true htg) (h H locs ls hP hS hl)
    · exact h.elim
  · split at h
    · exact lv_if_eq hx hb hd (of_decide_eq_true htg) (fun q => h.1 q H locs ls hP hS hl) (fun q => h.2 q H locs ls hP hS hl)
    · exact h.elim
  · split at h
    · exact lv_if_ne hx hb hd (of_decide_eq_true htg) (fun q => h.1 q H locs ls hP hS hl) (fun q => h.2 q H locs ls hP hS hl)
    · exact h.elim
  · split at h
    · exact lv_if_lt hx hb hd (of_decide_eq_true htg) (fun q => h.1 q H locs ls hP hS hl) (fun q => h.2 q H locs ls hP hS hl)
    · exact h.elim
  · split at h
    · exact lv_if_ge hx hb hd (of_decide_eq_true htg) (fun q => h.1 q H locs ls hP hS hl) (fun q => h.2 q H locs ls hP hS hl)
    · exact h.elim
  · split at h
    · exact lv_if_gt hx hb hd (of_decide_eq_true htg) (fun q => h.1 q H locs ls hP hS hl) (fun q => h.2 q H locs ls hP hS hl)
    · exact h.elim
  · split at h
    · exact lv_if_le hx hb hd (of_decide_eq_true htg) (fun q => h.1 q H locs ls hP hS hl) (fun q => h.2 q H locs ls hP hS hl)
    · exact h.elim
  · split at h
    · exact lv_icmp_eq hx hb hd (of_decide_eq_true htg) (fun q => h.1 q H locs ls hP hS hl) (fun q => h.2 q H locs ls hP hS hl)
    · exact h.elim
  · split at h
    · exact lv_icmp_ne hx hb hd (of_decide_eq_true htg) (fun q => h.1 q H locs ls hP hS hl) (fun q => h.2 q H locs ls hP hS hl)
    · exact h.elim
  · split at h
    · exact lv_icmp_lt hx hb hd (of_decide_eq_true htg) (fun q => h.1 q H locs ls hP hS hl) (fun q => h.2 q H locs ls hP hS hl)
    · exact h.elim
  · split at h
    · exact lv_icmp_ge hx hb hd (of_decide_eq_true htg) (fun q => h.1 q H locs ls hP hS hl) (fun q => h.2 q H locs ls hP hS hl)
    · exact h.elim
  · split at h
    · exact lv_icmp_gt hx hb hd (of_decide_eq_true htg) (fun q => h.1 q H locs ls hP hS hl) (fun q => h.2 q H locs ls hP hS hl)
    · exact h.elim
  · split at h
    · exact lv_icmp_le hx hb hd (of_decide_eq_true htg) (fun q => h.1 q H locs ls hP hS hl) (fun q => h.2 q H locs ls hP hS hl)
    · exact h.elim
  · split at h
    · rename_i len1 dfl lo hi offs o1 o2 t ts x r
      simp only [xTg, Bool.and_eq_true, decide_eq_true_eq] at htg
      obtain ⟨⟨g1, g2⟩, g3⟩ := htg
      by_cases hq : x.toInt < lo ∨ hi < x.toInt
      · exact lv_tableOut hx hb hd hq g1 (h.1 hq H locs ls hP hS hl)
      · have q1 : ¬ x.toInt < lo := fun q => hq (Or.inl q)
        have q2 : ¬ hi < x.toInt := fun q => hq (Or.inr q)
        have hlt : (x.toInt - lo).toNat < ts.length := by omega
        have ht1 : ts[(x.toInt - lo).toNat]? = some (ts[(x.toInt - lo).toNat]'hlt) := List.getElem?_eq_getElem hlt
        have e1 : (offs.toList.map (fun o => (pc : Int) + o))[(x.toInt - lo).toNat]? = some ((ts[(x.toInt - lo).toNat]'hlt : Nat) : Int) := by rw [g3, List.getElem?_map, ht1]; rfl
        rw [List.getElem?_map] at e1
        cases ho : offs.toList[(x.toInt - lo).toNat]? with
        | none => rw [ho] at e1; cases e1
        | some o =>
          rw [ho] at e1
          have e2 : (pc : Int) + o = ((ts[(x.toInt - lo).toNat]'hlt : Nat) : Int) := Option.some.inj e1
          exact lv_tableIn hx hb hd q1 q2 (by rw [← Array.getElem?_toList]; exact ho) e2 (xSw_at ts lo _ _ h.2 ht1 (by omega) H locs ls hP hS hl)
    · exact h.elim
  · split at h
    · rename_i v r
      split at h
      · rename_i o ci fs cj f cd hL1 hX1
        obtain ⟨r1, hr1, hlt, hlink, -⟩ := hF _ (lookup_mem hX1)
        · obtain ⟨k, hk, -⟩ := sAtO (b0 := b0) (ty := ty) (σ := σ) hL1
          have he : sOff L v = o := sOff_at hL1
          split at h
          · rename_i hbq hf
            have hcc : ci = cj := Nat.eq_of_beq_eq_true hbq
            subst hcc
            have hv : (fs.zipIdx.map (sFv b0 L σ v))[f]? = some (.int (σ v 0 f)) := by
              rw [List.getElem?_map, List.getElem?_zipIdx, hf]
              simp [sFv]
            have := va_get (C := r1.1) (T := r1.2.1) (N := r1.2.2) hx hb hts (sCl ci r1 hr1).1 hown hK hP k hk hr1 f hlt (hts _ hlink) (fun _ h => h) hv hd (h H locs ls hP hS hl)
            show W p l e R s m args below meth c H locs 0 0 _ (F0 m pc ls (.ref (b0 + sOff L v) :: _))
            rw [he]
            exact this
          · rename_i w hbq hf
            have hcc : ci = cj := Nat.eq_of_beq_eq_true hbq
            subst hcc
            have hv : (fs.zipIdx.map (sFv b0 L σ v))[f]? = some (.ref (b0 + sOff L w)) := by
              rw [List.getElem?_map, List.getElem?_zipIdx, hf]
              simp [sFv]
            have := va_get (C := r1.1) (T := r1.2.1) (N := r1.2.2) hx hb hts (sCl ci r1 hr1).1 hown hK hP k hk hr1 f hlt (hts _ hlink) (fun _ h => h) hv hd (h H locs ls hP hS hl)
            show W p l e R s m args below meth c H locs 0 0 _ (F0 m pc ls (.ref (b0 + sOff L v) :: _))
            rw [he]
            exact this
          · rename_i hbq hf
            have hcc : ci = cj := Nat.eq_of_beq_eq_true hbq
            subst hcc
            have hv : (fs.zipIdx.map (sFv b0 L σ v))[f]? = some (.ref (b0 + sOff L (σ v 0 f).toNatClampNeg)) := by
              rw [List.getElem?_map, List.getElem?_zipIdx, hf]
              simp [sFv]
            have := va_get (C := r1.1) (T := r1.2.1) (N := r1.2.2) hx hb hts (sCl ci r1 hr1).1 hown hK hP k hk hr1 f hlt (hts _ hlink) (fun _ h => h) hv hd (h H locs ls hP hS hl)
            show W p l e R s m args below meth c H locs 0 0 _ (F0 m pc ls (.ref (b0 + sOff L v) :: _))
            rw [he]
            exact this
          · exact h.elim
      · exact h.elim
    · exact h.elim
  · split at h
    · rename_i x v r
      split at h
      · rename_i o ci fs cj f cd hL1 hX1
        obtain ⟨r1, hr1, hlt, hlink, hkind⟩ := hF _ (lookup_mem hX1)
        · obtain ⟨k, hk, hset, hset2⟩ := sAtO (b0 := b0) (ty := ty) (σ := σ) hL1
          have he : sOff L v = o := sOff_at hL1
          split at h
          · rename_i hbq hf
            have hcc : ci = cj := Nat.eq_of_beq_eq_true hbq
            subst hcc
            have hk2 : (!(r1.2.1 f).2.2.2 && decide ((r1.2.1 f).2.2.1 = "I")) = true := hkind
            simp only [Bool.and_eq_true, Bool.not_eq_true', decide_eq_true_eq] at hk2
            obtain ⟨hfin, hdesc⟩ := hk2
            have hpd : parseFieldDescriptor (r1.2.1 f).2.2.1 = some .int := by rw [hdesc]; decide +kernel
            have hn : narrow .int (.int x) = .int x := rfl
            have hft : fits .int (.int x) = true := rfl
            have := va_put (C := r1.1) (T := r1.2.1) (N := r1.2.2) hx hb hts (sCl ci r1 hr1).1 (sCl ci r1 hr1).2.2.choose (sCl ci r1 hr1).2.2.choose_spec (sCl ci r1 hr1).2.1 hown hK hP hD hS k hk hr1 f hlt (hts _ hlink) (fun _ h => h) hfin hpd hn hft (by simp; exact (List.getElem?_eq_some_iff.mp hf).1) hd
              (fun H1 locs1 hP1 hD1 hS1 => h H1 locs1 ls (by rw [hset f x hf]; exact hP1) hS1 hl)
            show W p l e R s m args below meth c H locs 0 0 _ (F0 m pc ls (.int x :: .ref (b0 + sOff L v) :: _))
            rw [he]
            exact this
          · rename_i hbq hf
            have hcc : ci = cj := Nat.eq_of_beq_eq_true hbq
            subst hcc
            have hk2 : (!(r1.2.1 f).2.2.2 && decide ((r1.2.1 f).2.2.1 = "Z")) = true := hkind
            simp only [Bool.and_eq_true, Bool.not_eq_true', decide_eq_true_eq] at hk2
            obtain ⟨hfin, hdesc⟩ := hk2
            have hpd : parseFieldDescriptor (r1.2.1 f).2.2.1 = some .boolean := by rw [hdesc]; decide +kernel
            have hn : narrow .boolean (.int x) = .int x := by rcases h.1 with rfl | rfl <;> decide +kernel
            have hft : fits .boolean (.int x) = true := by rcases h.1 with rfl | rfl <;> decide +kernel
            have := va_put (C := r1.1) (T := r1.2.1) (N := r1.2.2) hx hb hts (sCl ci r1 hr1).1 (sCl ci r1 hr1).2.2.choose (sCl ci r1 hr1).2.2.choose_spec (sCl ci r1 hr1).2.1 hown hK hP hD hS k hk hr1 f hlt (hts _ hlink) (fun _ h => h) hfin hpd hn hft (by simp; exact (List.getElem?_eq_some_iff.mp hf).1) hd
              (fun H1 locs1 hP1 hD1 hS1 => h.2 H1 locs1 ls (by rw [hset f x hf]; exact hP1) hS1 hl)
            show W p l e R s m args below meth c H locs 0 0 _ (F0 m pc ls (.int x :: .ref (b0 + sOff L v) :: _))
            rw [he]
            exact this
          · exact h.elim
      · exact h.elim
    · rename_i w v r
      split at h
      · rename_i o ci fs cj f cd hL1 hX1
        obtain ⟨r1, hr1, hlt, hlink, hkind⟩ := hF _ (lookup_mem hX1)
        · obtain ⟨k, hk, hset, hset2⟩ := sAtO (b0 := b0) (ty := ty) (σ := σ) hL1
          have he : sOff L v = o := sOff_at hL1
          split at h
          · rename_i hbq hf
            have hcc : ci = cj := Nat.eq_of_beq_eq_true hbq
            subst hcc
            have hk2 : (!(r1.2.1 f).2.2.2 && (match parseFieldDescriptor (r1.2.1 f).2.2.1 with
              | some (.object _) => true
              | some (.array _) => true
              | _ => false)) = true := hkind
            rw [Bool.and_eq_true] at hk2
            obtain ⟨hfin0, hd0⟩ := hk2
            have hfin : (r1.2.1 f).2.2.2 = false := by simpa using hfin0
            have hty : ∃ tf, parseFieldDescriptor (r1.2.1 f).2.2.1 = some tf ∧ narrow tf (.ref (b0 + sOff L w)) = .ref (b0 + sOff L w) ∧ fits tf (.ref (b0 + sOff L w)) = true := by
              split at hd0
              · rename_i n9 h9
                exact ⟨_, h9, rfl, rfl⟩
              · rename_i n9 h9
                exact ⟨_, h9, rfl, rfl⟩
              · cases hd0
            obtain ⟨tf, hpd, hn, hft⟩ := hty
            have := va_put (C := r1.1) (T := r1.2.1) (N := r1.2.2) hx hb hts (sCl ci r1 hr1).1 (sCl ci r1 hr1).2.2.choose (sCl ci r1 hr1).2.2.choose_spec (sCl ci r1 hr1).2.1 hown hK hP hD hS k hk hr1 f hlt (hts _ hlink) (fun _ h => h) hfin hpd hn hft (by simp; exact (List.getElem?_eq_some_iff.mp hf).1) hd
              (fun H1 locs1 hP1 hD1 hS1 => h.2 H1 locs1 ls (by rw [hset2 f w h.1 hf]; exact hP1) hS1 hl)
            show W p l e R s m args below meth c H locs 0 0 _ (F0 m pc ls (.ref (b0 + sOff L w) :: .ref (b0 + sOff L v) :: _))
            rw [he]
            exact this
          · exact h.elim
      · exact h.elim
    · exact h.elim
  · split at h
    · rename_i k a r
      split at h
      · rename_i i
        split at h
        · rename_i o n hL1
          obtain ⟨q, hq, -⟩ := sAtA (b0 := b0) (ty := ty) (σ := σ) hL1
          have he : sOff L i = o := sOff_at hL1
          have := va_iald hx hb hK hP q 0 hq rfl h.1 hd (h.2 H locs ls hP hS hl)
          show W p l e R s m args below meth c H locs 0 0 _ (F0 m pc ls (.int k :: .ref (b0 + sOff L i) :: _))
          rw [he]
          exact this
        · exact h.elim
      · rename_i i j
        split at h
        · rename_i o n m' hL1
          obtain ⟨q, hq, -⟩ := sAtR (b0 := b0) (ty := ty) (σ := σ) hL1 h.1
          have he : sOff L i = o := sOff_at hL1
          have := va_iald hx hb hK hP q 0 hq rfl h.2.1 hd (h.2.2 H locs ls hP hS hl)
          show W p l e R s m args below meth c H locs 0 0 _ (F0 m pc ls (.int k :: .ref (b0 + sOff L i + 1 + j) :: _))
          rw [he]
          exact this
        · exact h.elim
      · exact h.elim
    · exact h.elim
  · split at h
    · rename_i k a r
      split at h
      · rename_i i
        split at h
        · rename_i o n hL1
          obtain ⟨q, hq, -⟩ := sAtA (b0 := b0) (ty := ty) (σ := σ) hL1
          have he : sOff L i = o := sOff_at hL1
          have := va_bald hx hb hK hP q 2 hq rfl h.1 hd (h.2 H locs ls hP hS hl)
          show W p l e R s m args below meth c H locs 0 0 _ (F0 m pc ls (.int k :: .ref (b0 + sOff L i) :: _))
          rw [he]
          exact this
        · exact h.elim
      · exact h.elim
    · exact h.elim
  · split at h
    · rename_i x k a r
      split at h
      · rename_i i
        split at h
        · rename_i o n hL1
          obtain ⟨q, hq, hset⟩ := sAtA (b0 := b0) (ty := ty) (σ := σ) hL1
          have he : sOff L i = o := sOff_at hL1
          have := va_iast hx hb hK hP hD hS q 0 hq rfl (x := x) h.1 hd (fun H1 locs1 hP1 hD1 hS1 => h.2 H1 locs1 ls (by rw [hset]; exact hP1) hS1 hl)
          show W p l e R s m args below meth c H locs 0 0 _ (F0 m pc ls (.int x :: .int k :: .ref (b0 + sOff L i) :: _))
          rw [he]
          exact this
        · exact h.elim
      · rename_i i j
        split at h
        · rename_i o n m' hL1
          obtain ⟨q, hq, hset⟩ := sAtR (b0 := b0) (ty := ty) (σ := σ) hL1 h.1
          have he : sOff L i = o := sOff_at hL1
          have := va_iast hx hb hK hP hD hS q 0 hq rfl (x := x) h.2.1 hd (fun H1 locs1 hP1 hD1 hS1 => h.2.2 H1 locs1 ls (by rw [hset]; exact hP1) hS1 hl)
          show W p l e R s m args below meth c H locs 0 0 _ (F0 m pc ls (.int x :: .int k :: .ref (b0 + sOff L i + 1 + j) :: _))
          rw [he]
          exact this
        · exact h.elim
      · exact h.elim
    · exact h.elim
  · split at h
    · rename_i x k a r
      split at h
      · rename_i i
        split at h
        · rename_i o n hL1
          obtain ⟨q, hq, hset⟩ := sAtA (b0 := b0) (ty := ty) (σ := σ) hL1
          have he : sOff L i = o := sOff_at hL1
          have := va_bast hx hb hK hP hD hS q 2 hq rfl (x := x) h.1 hd (fun H1 locs1 hP1 hD1 hS1 => h.2 H1 locs1 ls (by rw [hset]; exact hP1) hS1 hl)
          show W p l e R s m args below meth c H locs 0 0 _ (F0 m pc ls (.int x :: .int k :: .ref (b0 + sOff L i) :: _))
          rw [he]
          exact this
        · exact h.elim
      · exact h.elim
    · exact h.elim
  · split at h
    · rename_i k v r
      split at h
      · rename_i o n m' hL1
        obtain ⟨q, hq⟩ := sAtT (b0 := b0) (ty := ty) (σ := σ) hL1
        have he : sOff L v = o := sOff_at hL1
        have hlt : k.toNatClampNeg < n := Nat.not_le.mp fun q => h.1 (Or.inr q)
        have h9 := h.2 H locs ls hP hS hl
        have e9 : sCv b0 L (.inr (v, k.toNatClampNeg)) = .ref (b0 + o + 1 + k.toNatClampNeg) := by rw [← he]; rfl
        rw [List.map_cons, e9] at h9
        have := W.aald (v := .ref (b0 + o + 1 + k.toNatClampNeg)) (ty := .array .int) hx hb (hP q _ hq) ((hK.2 1 _ rfl).1 n (fun j => va_rf (some (b0 + o + 1 + j)))) rfl (fun q => by cases q) (by show ¬ (k < 0 ∨ (arrV _ _ _).slots.size ≤ _); rw [arrV_size]; exact h.1) (by show (arrV _ _ _).slots[_]? = _; rw [arrV_read _ _ hlt]; rfl) rfl (g := F0 m pc ls (.int k :: .ref (b0 + o) :: r.map (sCv b0 L))) rfl hd h9
        show W p l e R s m args below meth c H locs 0 0 _ (F0 m pc ls (.int k :: .ref (b0 + sOff L v) :: _))
        rw [he]
        exact this
      · exact h.elim
    · exact h.elim
  · split at h
    · rename_i v r
      split at h
      · rename_i o n hL1
        obtain ⟨q, hq, -⟩ := sAtA (b0 := b0) (ty := ty) (σ := σ) hL1
        have he : sOff L v = o := sOff_at hL1
        have := va_alen hx hb hK hP q 0 hq rfl rfl hd (h H locs ls hP hS hl)
        show W p l e R s m args below meth c H locs 0 0 _ (F0 m pc ls (.ref (b0 + sOff L v) :: _))
        rw [he]
        exact this
      · rename_i o n m' hL1
        obtain ⟨q, hq⟩ := sAtT (b0 := b0) (ty := ty) (σ := σ) hL1
        have he : sOff L v = o := sOff_at hL1
        have := va_alen hx hb hK hP q 1 hq rfl rfl hd (h H locs ls hP hS hl)
        show W p l e R s m args below meth c H locs 0 0 _ (F0 m pc ls (.ref (b0 + sOff L v) :: _))
        rw [he]
        exact this
      · exact h.elim
    · rename_i i j r
      split at h
      · rename_i o n m' hL1
        obtain ⟨q, hq, -⟩ := sAtR (b0 := b0) (ty := ty) (σ := σ) hL1 h.1
        have he : sOff L i = o := sOff_at hL1
        have := va_alen hx hb hK hP q 0 hq rfl rfl hd (h.2 H locs ls hP hS hl)
        show W p l e R s m args below meth c H locs 0 0 _ (F0 m pc ls (.ref (b0 + sOff L i + 1 + j) :: _))
        rw [he]
        exact this
      · exact h.elim
    · exact h.elim
  · split at h
    · rename_i n o1 k ci q hX1
      obtain ⟨y, cy, nl, rty⟩ := q
      split at h
      · rename_i v as hk1 hk2 hk3
        split at h
        · rename_i o cj fs hL1
          split at h
          · rename_i hbq
            have hcc : ci = cj := Nat.eq_of_beq_eq_true hbq
            subst hcc
            obtain ⟨d, hMet, hd1, hd2⟩ := hcal _ _ _ _ h
            obtain ⟨w1, w2, w6, ⟨w3, w4⟩, w5, r1, hr1, x1, x2, x3, x4⟩ := hM _ (lookup_mem hX1)
            · have w5' : nl ≤ 45 := w5
              obtain ⟨kp, hkp, -⟩ := sAtO (b0 := b0) (ty := ty) (σ := σ) hL1
              have he : sOff L v = o := sOff_at hL1
              have hlen : k = as.length + 1 := by
                have h5 : ((st.take k).reverse).length = k := by
                  rw [List.length_reverse, List.length_take]
                  exact Nat.min_eq_left (Nat.le_of_ble_eq_true hk1)
                rw [hk3] at h5
                simpa using h5.symm
              have hnp : (parseMethodDescriptor y.desc).map (fun d => d.parameters.length) = some as.length := by
                cases hpd : parseMethodDescriptor y.desc with
                | none => rw [hpd] at x4; cases x4
                | some dd =>
                  rw [hpd] at x4
                  have : dd.parameters.length + 1 = k := Option.some.inj x4
                  show some dd.parameters.length = some as.length
                  congr 1; omega
              have hG : GoodIn sTB (wsV own n y.cls y (sWs (k, some ci, y, cy, nl, rty))) := by
                intro w hw
                have hm : w ∈ sTB := by
                  unfold wsV sWs at hw
                  simp only [List.cons_append, List.nil_append, List.mem_cons] at hw
                  rcases hw with rfl | rfl | rfl | rfl | rfl | hw
                  · exact w1
                  · exact x2
                  · exact x3
                  · exact w6
                  · exact w2
                  · exact hw
                exact sTB_good w hm
              have hst : st.map (sCv b0 L) = (as.map (sCv b0 L)).reverse ++ (.ref (b0 + sOff L v) :: (st.drop k).map (sCv b0 L)) := by
                have h6 : st.take k = as.reverse ++ [aR v] := by
                  have h7 := congrArg List.reverse hk3
                  rw [List.reverse_reverse] at h7
                  rw [h7]; simp
                conv => lhs; rw [← List.take_append_drop k st, h6]
                simp [List.map_append, List.map_reverse, sCv]
              have cw := cwV (R := R) (s := s) (args := args) (own := own) (C := y.cls) (index := n) (y := y) (bytes := cy) (maxL := nl) (ret := rty) (Ts := sTB) (ws := sWs (k, some ci, y, cy, nl, rty)) (rm := sRm d) (mc := 0) (ms := 0) as.length hts hG rfl rfl rfl ⟨rfl, w3, w4, hnp⟩ ⟨hd1, by show 8 + (nl + 11) + 64 * d ≤ R.locals; omega⟩
              obtain ⟨cell, c1, c2, c3⟩ := va_recv hK hP hr1 hkp
              have hrun := va_runV (H := H) (locs := locs) (cells := 0) (slots := 0) (below := below) (e := e) (meth := meth) (b := b0 + sOff L v) (As := as.map (sCv b0 L)) (rest := (st.drop k).map (sCv b0 L)) (g := F0 m pc ls (st.map (sCv b0 L))) ⟨hx, hb, hml, hown, hts⟩ hMet cw
                ⟨fun _ _ _ _ q => q, ⟨cell, by rw [he]; exact c1, c2, by rw [← x1]; exact c3⟩, fun U hU hW => ⟨rfl, by rw [hU]; exact hP, va_K.moved hW.alike hK⟩⟩ rfl (by simp) hl.1 hst (by show 2 * 0 + _ ≤ 8; rw [avSum_eq]; simpa using Nat.le_of_ble_eq_true hk2) hd ⟨Nat.zero_le _, Nat.zero_le _⟩
              exact sCall (d := d) (q := (k, some ci, y, cy, nl, rty)) (as := aR v :: as) (σ := σ) (P := _) hrun hS hl (fun r σ' hp => hp)
          · exact h.elim
        · exact h.elim
      · exact h.elim
    · exact h.elim
  · split at h
    · rename_i n o1 k q hX1
      obtain ⟨y, cy, nl, rty⟩ := q
      split at h
      · rename_i hk1 hk2
        obtain ⟨d, hMet, hd1, hd2⟩ := hcal _ _ _ _ h
        obtain ⟨w1, w2, w6, ⟨w3, w4⟩, w5, x3, x4⟩ := hM _ (lookup_mem hX1)
        have w5' : nl ≤ 45 := w5
        have hlen : ((st.take k).reverse).length = k := by
          rw [List.length_reverse, List.length_take]
          exact Nat.min_eq_left (Nat.le_of_ble_eq_true hk1)
        have hG : GoodIn sTB (va_wsS own n y (sWs (k, none, y, cy, nl, rty))) := by
          intro w hw
          have hm : w ∈ sTB := by
            unfold va_wsS sWs at hw
            simp only [List.cons_append, List.nil_append, List.mem_cons] at hw
            rcases hw with rfl | rfl | rfl | rfl | hw
            · exact w1
            · exact x3
            · exact w6
            · exact w2
            · exact hw
          exact sTB_good w hm
        have hst : st.map (sCv b0 L) = (((st.take k).reverse).map (sCv b0 L)).reverse ++ (st.drop k).map (sCv b0 L) := by
          rw [List.map_reverse, List.reverse_reverse, ← List.map_append, List.take_append_drop]
        have cw := va_cwS (R := R) (s := s) (args := args) (own := own) (index := n) (y := y) (bytes := cy) (maxL := nl) (ret := rty) (Ts := sTB) (ws := sWs (k, none, y, cy, nl, rty)) (rm := sRm d) (mc := 0) (ms := 0) k hts hG rfl rfl rfl ⟨w3, w4, x4⟩ ⟨hd1, by show 8 + (nl + 11) + 64 * d ≤ R.locals; omega⟩
        have hrun := va_runS (H := H) (locs := locs) (cells := 0) (slots := 0) (below := below) (e := e) (meth := meth) (As := ((st.take k).reverse).map (sCv b0 L)) (rest := (st.drop k).map (sCv b0 L)) (g := F0 m pc ls (st.map (sCv b0 L))) ⟨hx, hb, hml, hown, hts⟩ hMet cw
          ⟨fun _ _ _ _ q => q, fun U hU hW => ⟨rfl, by rw [hU]; exact hP, va_K.moved hW.alike hK⟩⟩ rfl (by rw [List.length_map]; exact hlen) hl.1 hst (by show 2 * 0 + _ ≤ 8; rw [avSum_eq]; simpa using Nat.le_of_ble_eq_true hk2) hd ⟨Nat.zero_le _, Nat.zero_le _⟩
        exact sCall (d := d) (q := (k, none, y, cy, nl, rty)) (as := (st.take k).reverse) (σ := σ) (P := _) hrun hS hl (fun r σ' hp => hp)
      · exact h.elim
    · exact h.elim
  · split at h
    · rename_i x
      exact W.iret hx hb hr (fun t ht hW => ⟨⟨[aI x], σ, rfl, Nat.le_refl _, h, by rw [ht]; exact hP⟩, hS.F ht⟩) hS.2.2 hd
    · rename_i x
      exact W.zret hx hb hr (by rcases h.1 with rfl | rfl <;> decide +kernel) (fun t ht hW => ⟨⟨[aI x], σ, rfl, Nat.le_refl _, h.2, by rw [ht]; exact hP⟩, hS.F ht⟩) hS.2.2 hd
    · exact h.elim
  · split at h
    · rename_i x
      exact W.lret hx hb hr (fun t ht hW => ⟨⟨[aL x], σ, rfl, Nat.le_refl _, h, by rw [ht]; exact hP⟩, hS.F ht⟩) hS.2.2 hd
    · exact h.elim
  · split at h
    · rename_i x ta
      exact W.aret hx hb hr (Or.inr ⟨_, rfl⟩) (Or.inr ⟨_, rfl⟩) (fun t ht hW => ⟨⟨[aR x], σ, rfl, Nat.le_refl _, h, by rw [ht]; exact hP⟩, hS.F ht⟩) hS.2.2 hd
    · rename_i x ta
      exact W.aret hx hb hr (Or.inl ⟨_, rfl⟩) (Or.inr ⟨_, rfl⟩) (fun t ht hW => ⟨⟨[aR x], σ, rfl, Nat.le_refl _, h, by rw [ht]; exact hP⟩, hS.F ht⟩) hS.2.2 hd
    · rename_i x ta
      exact W.aret hx hb hr (Or.inr ⟨_, rfl⟩) (Or.inr ⟨_, rfl⟩) (fun t ht hW => ⟨⟨[.inr x], σ, rfl, Nat.le_refl _, h, by rw [ht]; exact hP⟩, hS.F ht⟩) hS.2.2 hd
    · exact h.elim
  · split at h
    · exact W.vret hx hb hr (fun t ht hW => ⟨⟨[], σ, rfl, Nat.zero_le _, h, by rw [ht]; exact hP⟩, hS.F ht⟩) hS.2.2 hd
    · exact h.elim
  · exact h.elim
end
