/-! CONSTRUCTORS: one instruction of a constructor's text, by computation; sound -/
theorem aoa_moved {t : FieldType} {u U : State} (hvm : u.vm.Alike U.vm) (h : va_AOA t u) : va_AOA t U := Jvm.Stand.arrayOver_alikeB hvm h
/-- a constructor's pool: fields and numbers; 'new'; multianewarray; constructors that it calls (none: Object's; else class, arguments, by a nest mate's link) -/
abbrev zP : Type := xTb × List (Nat × Nat) × List Nat × List (Nat × Option (Nat × Nat × Bool))
def zDk (t : Option FieldType) : Option zV := match t with
  | some .int => some (.inl 0)
  | some .boolean => some (.inl 0)
  | some (.object _) => some (.inr none)
  | some (.array _) => some (.inr none)
  | _ => none
def zDf (T : u_T) : Nat → Nat → Option (List zV)
  | _, 0 => some []
  | j, n + 1 => match zDk (parseFieldDescriptor (T j).2.2.1), zDf T (j + 1) n with
    | some v, some r => some (v :: r)
    | _, _ => none
theorem zDf_spec {b0 : Nat} {T : u_T} {ty0 : Nat → FieldType} : ∀ (n j : Nat) (fs : List zV), zDf T j n = some fs → (∀ k, k < j + n → parseFieldDescriptor (T k).2.2.1 = some (ty0 k)) → fs.length = n ∧ ∀ k, k < n → defaultValue (ty0 (j + k)) = vp_V (fs.map (zv b0)) k
  | 0, j, fs, h, _ => by
    cases h
    exact ⟨rfl, fun k hk => absurd hk (Nat.not_lt_zero _)⟩
  | n + 1, j, fs, h, ht => by
    unfold zDf at h
    split at h
    · rename_i v r hv hr
      cases h
      obtain ⟨h1, h2⟩ := zDf_spec (b0 := b0) n (j + 1) r hr (fun k hk => ht k (by omega))
      refine ⟨by show r.length + 1 = n + 1; omega, fun k hk => ?_⟩
      cases k with
      | zero =>
        rw [ht j (by omega)] at hv
        show defaultValue (ty0 j) = zv b0 v
        cases he : ty0 j <;> rw [he] at hv <;> first | (cases hv; rfl) | cases hv
      | succ k =>
        have := h2 k (by omega)
        rw [show j + (k + 1) = j + 1 + k by omega, this]
        rfl
    · cases h
def zFit (own : String) (f : String × String × String × Bool) (v : zV) : Bool := (!f.2.2.2 || decide (f.1 = own)) && (match parseFieldDescriptor f.2.2.1, v with
  | some .int, .inl _ => true
  | some (.object _), .inr (some _) => true
  | some (.array _), .inr (some _) => true
  | _, _ => false)
def zTy (t : ArrayType) : Option Nat := match t with
  | .int => some 0
  | .byte => some 2
  | _ => none
def zi (own : String) (P : zP) (cal : Nat → List zV → List zC → Option (List zC × Nat × Nat)) (Lc Ls : Nat) (E : List zV) (i : Instr) (len : Nat) (st : List zV) (w : List zC) (nc ns : Nat) : Option (List zV × List zC × Nat × Nat) := match i, len with
  | .aload_n k, 1 => match E[k.val]? with
    | some (.inr (some o)) => some (.inr (some o) :: st, w, nc, ns)
    | _ => none
  | .iconst n, 1 => some (.inl (Int32.ofInt n) :: st, w, nc, ns)
  | .bipush n, 2 => some (.inl ((Int8.ofInt n).toInt32) :: st, w, nc, ns)
  | .sipush n, 3 => some (.inl ((Int16.ofInt n).toInt32) :: st, w, nc, ns)
  | .ldc n, 2 => match P.1.2.1.lookup n with
    | some v => some (.inl v :: st, w, nc, ns)
    | none => none
  | .dup, 1 => match st with
    | v :: r => some (v :: v :: r, w, nc, ns)
    | [] => none
  | .newarray t, 2 => match st, zTy t with
    | .inl n :: r, some q => if ¬ n < 0 ∧ n.toNatClampNeg ≤ 5000 ∧ nc + 1 ≤ Lc ∧ ns + n.toNatClampNeg ≤ Ls then some (.inr (some (zTop w)) :: r, w ++ [.inr (.inl (q, n.toNatClampNeg))], nc + 1, ns + n.toNatClampNeg) else none
    | _, _ => none
  | .multianewarray x 2, 4 => match st, P.2.2.1.contains x with
    | .inl k :: .inl n :: r, true => if ¬ n < 0 ∧ ¬ k < 0 ∧ n.toNatClampNeg ≤ 5000 ∧ k.toNatClampNeg ≤ 5000 ∧ nc + (1 + n.toNatClampNeg) ≤ Lc ∧ ns + (n.toNatClampNeg + n.toNatClampNeg * k.toNatClampNeg) ≤ Ls then some (.inr (some (zTop w)) :: r, w ++ [.inr (.inr (n.toNatClampNeg, k.toNatClampNeg))], nc + 1 + n.toNatClampNeg, ns + n.toNatClampNeg + n.toNatClampNeg * k.toNatClampNeg) else none
    | _, _ => none
  | .new x, 3 => match P.2.1.lookup x with
    | some ci => match vwCl[ci]? with
      | some q => match zDf q.2.1 0 q.2.2 with
        | some fs => if nc + 1 ≤ Lc ∧ ns + q.2.2 ≤ Ls then some (.inr (some (zTop w)) :: st, w ++ [.inl (ci, fs)], nc + 1, ns + q.2.2) else none
        | none => none
      | none => none
    | none => none
  | .invokespecial x, 3 => match P.2.2.2.lookup x with
    | some none => match st with
      | .inr (some _) :: r => if r.length ≤ 8 then some (r, w, nc, ns) else none
      | _ => none
    | some (some (ci, k, _)) => match (st.take k).reverse, cal ci (st.take k).reverse w with
      | .inr (some _) :: _, some (w', mc, ms) => if k ≤ st.length ∧ (st.drop k).length ≤ 8 ∧ nc + mc ≤ Lc ∧ ns + ms ≤ Ls then some (st.drop k, w', nc + mc, ns + ms) else none
      | _, _ => none
    | none => none
  | .putfield x, 3 => match P.1.1.lookup x, st with
    | some (ci, f, _), v :: .inr (some o) :: r => match zGet 0 w o, vwCl[ci]? with
      | some (cj, fs), some q => if ci = cj ∧ f < fs.length ∧ zFit own (q.2.1 f) v = true then some (r, zSet 0 w o (cj, fs.set f v), nc, ns) else none
      | _, _ => none
    | _, _ => none
  | .getfield x, 3 => match P.1.1.lookup x, st with
    | some (ci, f, _), .inr (some o) :: r => match zGet 0 w o with
      | some (cj, fs) => match fs[f]? with
        | some v => if ci = cj then some (v :: r, w, nc, ns) else none
        | none => none
      | none => none
    | _, _ => none
  | _, _ => none
/-- constructors: name, text, locals -/
abbrev zM : Type := MethodName × ByteArray × Nat
def zNest : List (String × Nat × MethodName) := [(RX8, 22, yX7_init), (RX7, 11, yX6_init), (RX8, 44, yX4_init), (RX8, 51, yX5_init), (RX8, 67, yX3_init), (RX8, 83, yX2_init)]
def zEnv (U : State) : Prop := (∀ q ∈ zNest, va_Nw (.methodLinkNest q.1 q.2.1 q.2.2 RX8) U) ∧ va_AOA .int U
theorem zEnv.warm {s U : State} (hW : s.WarmedH U.vm) (h : zEnv s) : zEnv U := ⟨fun q hq => va_Nw.warmM hW (h.1 q hq), aoa_moved hW.alike h.2⟩
def zRm (d mc ms : Nat) : Room := { frames := d, cells := mc, slots := ms, locals := 64 * d }
def zPc (D : va_G) (b0 : Nat) (ty : Nat → ClassId) (as : List zV) (w : List zC) : Array Value → State → Prop := va_Pc (as.map (zv b0)) (fun U => va_P D vwCl (zFl b0 ty 0 w) U.heap ∧ U.heap.size = b0 + zTop w ∧ va_K D vwCl (sTys ty) U ∧ zEnv U)
def zMet (l : Launch) (D : va_G) (b0 : Nat) (ty : Nat → ClassId) (d : Nat) (q : zM) (as : List zV) (w w' : List zC) (mc ms : Nat) : Prop := Met l q.1 (Cond.code q.1 q.2.1 q.2.2 none :: sTB) (zRm d mc ms) (zPc D b0 ty as w) (va_Qv (fun _ : Unit => True) (fun _ t => va_P D vwCl (zFl b0 ty 0 w') t.heap ∧ t.heap.size = b0 + zTop w') (fun q => b0 ≤ q)) mc ms (fun q => b0 ≤ q)
theorem zPc_blind {D : va_G} {b0 : Nat} {ty : Nat → ClassId} {as : List zV} {w : List zC} : FrameBlind (zPc D b0 ty as w) := fun a U g mk h => ⟨h.1, h.2.1, h.2.2.1, h.2.2.2.1, zEnv.warm (State.WarmedH.refl U) h.2.2.2.2⟩
/-- what a constructor's pool must say; 'zc' the constructors by their classes -/
def zOKP (zc : Nat → Option zM) (own : String) (P : zP) : Prop := (∀ q ∈ P.1.1, fOK own q) ∧ (∀ q ∈ P.1.2.1, Cond.constant own q.1 q.2 ∈ sTB) ∧
  (∀ q ∈ P.2.1, ∃ r : vw_C, vwCl[q.2]? = some r ∧ Cond.classLink own q.1 r.1 ∈ sTB ∧ Cond.instantiable r.1 r.2.2 ∈ sTB ∧ Cond.initialized r.1 ∈ sTB) ∧
  (∀ x ∈ P.2.2.1, Cond.classLink own x ("[" ++ (FieldType.array .int).toString) ∈ sTB) ∧
  (∀ q ∈ P.2.2.2, match q.2 with
    | none => Cond.methodLink own q.1 objectInit ∈ sTB
    | some (ci, k, nest) => ∀ y, zc ci = some y → Cond.code y.1 y.2.1 y.2.2 none ∈ sTB ∧ Cond.initialized y.1.cls ∈ sTB ∧ Cond.instanceMethod y.1 ∈ sTB ∧ y.1.name = "<init>" ∧ (y.1.cls ≠ "java/lang/invoke/MethodHandle" ∧ y.1.cls ≠ "java/lang/invoke/VarHandle") ∧ (parseMethodDescriptor y.1.desc).map (fun d => d.parameters.length + 1) = some k ∧ y.2.2 ≤ 45 ∧ (if nest then (own, q.1, y.1) ∈ zNest else Cond.methodLink own q.1 y.1 ∈ sTB))
def zK (p : Program) (l : Launch) (e : Env) (R : Room) (s : State) (m : MethodId) (args : Array Value) (below : List Frame) (meth : Method) (c : Code) (D : va_G) (b0 : Nat) (ty : Nat → ClassId) (nL : Nat) (E : List zV) (Q : State → Prop) (pc : Nat) (st : List zV) (w : List zC) (nc ns : Nat) : Prop :=
  ∀ (H : Heap) (locs : List Loc) (ls : Array Slot), va_P D vwCl (zFl b0 ty 0 w) H → H.size = b0 + zTop w → va_S (fun q => b0 ≤ q) s.heap H locs → lv_has ls nL [] → (∀ (k : Nat) (v : zV), E[k]? = some v → ls[k]? = some (Slot.val (zv b0 v))) → W p l e R s m args below meth c H locs nc ns Q (F0 m pc ls (st.map (zv b0)))
theorem zcat (b0 : Nat) (v : zV) : (zv b0 v).category = 1 := by
  rcases v with x | _ | x <;> rfl
theorem zcatS (b0 : Nat) : ∀ st : List zV, ((st.map (zv b0)).map fun v => v.category).sum = st.length
  | [] => rfl
  | v :: r => by
    show (zv b0 v).category + ((r.map (zv b0)).map fun v => v.category).sum = r.length + 1
    rw [zcat, zcatS b0 r]; omega
section
variable {p : Program} {l : Launch} {e : Env} {R : Room} {s : State} {m : MethodId} {args : Array Value} {below : List Frame} {meth : Method} {c : Code} {D : va_G} {b0 : Nat} {ty : Nat → ClassId} {nL : Nat} {cc : ByteArray} {own : String} {Q : State → Prop} {E : List zV}
/-- a field of an object, final or not, that its constructor writes: no cell is made -/
theorem z_put {cl : List vw_C} {tys : List (ClassId × FieldType)} {ws : va_W} {A : Nat → Prop} {H H0 : Heap} {locs : List Loc} {cells slots pc a : Nat} {ls : Array Slot} {rest : List Value} (hexec : p.tables.exec = Jvm.exec) (hb : c.code = cc) {ref C : String} {T : u_T} {N ci index : Nat} {Ts : List Cond} (hts : ∀ w ∈ Ts, w.before args s = true) (hin : ∀ w ∈ u_ws C T N, w ∈ Ts) (ty0 : Nat → FieldType) (hty : ∀ k, k < N → parseFieldDescriptor (T k).2.2.1 = some (ty0 k)) (hnm : ∀ a, a < N → ∀ b, b < N → a ≠ b → (T a).2.1 ≠ (T b).2.1) (hown : s.vm.findClass own = some m.cls) (hK : va_K D cl tys s) (hP : va_P D cl ws H) (hD : va_D A ws) (hS0 : va_S A H0 H locs) (q0 : Nat) {fs : List Value} (he : ws[q0]? = some (a, .inr (ci, fs))) (hc : cl[ci]? = some (C, T, N)) (k : Nat) (hk : k < N) (hlink : (Cond.fieldLink own index ref (T k).2.1 (T k).2.2.1).before args s = true) (hsame : ∀ x, s.fieldFound? (T k).1 (T k).2.1 (T k).2.2.1 = some x → s.fieldFound? ref (T k).2.1 (T k).2.2.1 = some x) (hin2 : meth.name = "<init>") (hdecl : (T k).2.2.2 = true → (T k).1 = own) {t : FieldType} {v : Value} (hd : parseFieldDescriptor (T k).2.2.1 = some t) (hn : narrow t v = v) (hfit : fits t v = true) (hl : k < fs.length)
    (hdg : decode cc pc = .ok (.putfield index, 3)) (kk : ∀ (H1 : Heap) (locs1 : List Loc), va_P D cl (ws.set q0 (a, .inr (ci, fs.set k v))) H1 → va_S A H0 H1 locs1 → H1.size = H.size → W p l e R s m args below meth c H1 locs1 cells slots Q (F0 m (pc + 3) ls rest)) : W p l e R s m args below meth c H locs cells slots Q (F0 m pc ls (v :: .ref a :: rest)) := by
  have hap := va_apart (own := own) hts hin ty0 hty hnm hK hc
  obtain ⟨r, h1, cell, q1, q2, q3, q4⟩ := hP q0 _ he
  have hr : r = (C, T, N) := Option.some.inj (h1.symm.trans hc)
  subst hr
  obtain ⟨hS, hfc, kC, hkC, hkind⟩ := hK.1 ci _ hc
  obtain ⟨cf, kf, fi, f, hi, hsl⟩ := hS k hk
  have hlay := hts _ (hin _ (u_in_lay hk))
  have hst := (u_facts hfc hkC (u_lays hts hin hk) hi).1
  by_cases hfin : (T k).2.2.2 = true
  · unfold u_lay at hlay
    rw [if_pos hfin] at hlay
    have hcf : m.cls = cf := by
      obtain ⟨_, _, c', _, _, _, -, -, hf', -, -, -, hown2, -⟩ := Cond.laysFinal_spec hlay
      have e1 : c' = cf := by have := hi.symm.trans hf'; simp at this; exact this.1.symm
      rw [hdecl hfin] at hown2
      rw [← e1]; exact Option.some.inj (hown.symm.trans hown2)
    have h6 := u_fits hfc hkC hkind (Or.inr hlay) hi hd hn hfit
    refine W.putFinK hexec hb hown hlink (hsame _ hi) hst hcf hin2 (by rw [q2]; exact h6) q1 q3 (by rw [hsl]; exact k2_hasslot (q4 k hk)) rfl rfl hdg fun H' e1 e2 e3 => ?_
    rw [hsl] at e1 ⊢
    exact kk H' _ (hP.set hD he ⟨_, hc, t_OB.to (V := updV (vp_V fs) k v) ⟨_, e1, q2, q3, t_set q4 hap hk v⟩ (fun j _ => vp_updV_set hl v j)⟩ e3) (hS0.put e2 e3 (hD.2 q0 _ he)) e2
  · unfold u_lay at hlay
    rw [if_neg hfin] at hlay
    have h6 := u_store hfc hkC hkind hlay hi hd hn hfit
    refine W.putK hexec hb (f := f) ⟨hown, hlink, ⟨_, _, _, hsame _ hi⟩, hst⟩ (by rw [q2]; exact h6) q1 q3 (by rw [hsl]; exact k2_hasslot (q4 k hk)) rfl rfl hdg fun H' e1 e2 e3 => ?_
    rw [hsl] at e1 ⊢
    exact kk H' _ (hP.set hD he ⟨_, hc, t_OB.to (V := updV (vp_V fs) k v) ⟨_, e1, q2, q3, t_set q4 hap hk v⟩ (fun j _ => vp_updV_set hl v j)⟩ e3) (hS0.put e2 e3 (hD.2 q0 _ he)) e2
theorem va_S.more {A : Nat → Prop} {H0 H H1 : Heap} {locs : List Loc} (hS : va_S A H0 H locs) (hz : H.size ≤ H1.size) (o1 : ∀ q : Nat, q < H.size → H1[q]? = H[q]?) : va_S A H0 H1 locs := ⟨Nat.le_trans hS.1 hz, fun x h1 h2 => (o1 x (Nat.lt_of_lt_of_le h1 hS.1)).trans (hS.2.1 x h1 h2), hS.2.2⟩
theorem zTop_one (w : List zC) (q : zC) : zTop (w ++ [q]) = zTop w + zSz q := by rw [zTop_app]; rfl
theorem zFl_one (w : List zC) (q : zC) : zFl b0 ty 0 (w ++ [q]) = zFl b0 ty 0 w ++ zBlk b0 ty (zTop w) q := by
  rw [zFl_app]
  show _ ++ (zBlk b0 ty (0 + zTop w) q ++ []) = _
  rw [List.append_nil, Nat.zero_add]
set_option maxHeartbeats 1000000 in
theorem zi_sound (hx : p.tables.exec = Jvm.exec) (hb : c.code = cc) (hml : c.maxLocals = nL) (hts : ∀ w ∈ sTB, w.before args s = true) (hown : s.vm.findClass own = some m.cls) (hK : va_K D vwCl (sTys ty) s) (hE : zEnv s) (hin : meth.name = "<init>") {zc : Nat → Option zM} {P : zP} (hP0 : zOKP zc own P) (hb0 : b0 ≤ s.heap.size)
    {cal : Nat → List zV → List zC → Option (List zC × Nat × Nat)} {d : Nat} (hcal : ∀ ci as w w' mc ms, cal ci as w = some (w', mc, ms) → ∃ y, zc ci = some y ∧ zMet l D b0 ty d y as w w' mc ms) (hRf : d + 1 ≤ R.frames) (hRl : 64 + 64 * d ≤ R.locals)
    {i : Instr} {len pc : Nat} {st st' : List zV} {w w' : List zC} {nc ns nc' ns' : Nat} (hd : decode cc pc = .ok (i, len)) (hz : zi own P cal R.cells R.slots E i len st w nc ns = some (st', w', nc', ns'))
    (k : zK p l e R s m args below meth c D b0 ty nL E Q (pc + len) st' w' nc' ns') : zK p l e R s m args below meth c D b0 ty nL E Q pc st w nc ns := by
  intro H locs ls hP hsz hS hl hEl
  have hD := zD_of (b0 := b0) (ty := ty) w
  have hA : ∀ q, s.heap.size ≤ q → b0 ≤ q := fun q h => Nat.le_trans hb0 h
  unfold zi at hz
  split at hz
  · rename_i k0
    split at hz
    · rename_i o ho
      cases hz
      exact lv_aload_n hx hb hd rfl (hEl _ _ ho) (k H locs ls hP hsz hS hl hEl)
    · cases hz
  · cases hz
    exact lv_iconst hx hb hd rfl (k H locs ls hP hsz hS hl hEl)
  · cases hz
    exact lv_bipush hx hb hd rfl (k H locs ls hP hsz hS hl hEl)
  · cases hz
    exact lv_sipush hx hb hd rfl (k H locs ls hP hsz hS hl hEl)
  · split at hz
    · rename_i v hv
      cases hz
      exact lv_ldc hx hb hown (hts _ (hP0.2.1 _ (lookup_mem hv))) hd (k H locs ls hP hsz hS hl hEl)
    · cases hz
  · split at hz
    · cases hz
      exact lv_dup hx hb hd (zcat _ _) (k H locs ls hP hsz hS hl hEl)
    · cases hz
  · rename_i t
    split at hz
    · rename_i n r q hq
      split at hz
      · rename_i hc
        cases hz
        obtain ⟨c1, c2, c3, c4⟩ := hc
        have key : ∀ ft, newarray.typeOf t = ft → Cond.arrayClass ft ∈ sTB → va_RA s (ty q) ft = (s.vm.findClass ("[" ++ ft.toString) = some (ty q)) → (sTys ty)[q]? = some (ty q, ft) → (∀ cA N, vp_cell cA (N, .inl (fun _ => 0)) = arrV cA N (fun _ => defaultValue ft)) → n.toNatClampNeg * componentBytes ft ≤ 536870912 → W p l e R s m args below meth c H locs nc ns Q (F0 m pc ls ((.inl n :: r).map (zv b0))) := by
          intro ft hft harr hra hqq hcell hby
          subst hft
          refine va_newaK hx hb (hts _ harr) rfl hd rfl c1 rfl hby c3 c4 rfl (fun H1 cA e1 z1 o1 hAr hNm => ?_)
          have hc0 := (hK.2 q _ hqq).2
          rw [hra] at hc0
          have hcA : cA = ty q := Option.some.inj (hNm.symm.trans hc0)
          subst hcA
          have := k H1 locs ls ?_ ?_ (hS.more (by omega) o1) hl hEl
          · have e9 : F0 m (pc + 2) ls (((.inr (some (zTop w)) :: r : List zV)).map (zv b0)) = F0 m (pc + 2) ls (.ref H.size :: r.map (zv b0)) := by rw [hsz]; rfl
            rw [e9] at this
            exact this
          · rw [zFl_one]
            refine va_P.app (hP.kept (fun k x hx => o1 x.1 ((hP k x hx).lt))) ?_
            intro j x hj
            have hz : j < 1 := (List.getElem?_eq_some_iff.mp hj).1
            rw [show j = 0 by omega] at hj
            cases hj
            show H1[b0 + zTop w]? = some (vp_cell _ _)
            rw [hcell, ← hsz]
            exact e1
          · rw [z1, hsz, zTop_one]; rfl
        cases t <;> first | cases hq | skip
        · exact key .byte rfl (by decide +kernel) rfl rfl (fun _ _ => rfl) (by show _ * 1 ≤ _; omega)
        · exact key .int rfl (by decide +kernel) rfl rfl (fun _ _ => rfl) (by show _ * 4 ≤ _; omega)
      · cases hz
    · cases hz
  · rename_i x
    split at hz
    · rename_i k1 n r hx1
      split at hz
      · rename_i hc
        cases hz
        obtain ⟨c1, c2, c3, c4, c5, c6⟩ := hc
        refine z_mna (ty := ty) hx hb hown (hts _ (hP0.2.2.2.1 _ (List.contains_iff_mem.mp hx1))) hE.2 (hts _ (by decide +kernel)) hK c1 c2 rfl rfl (by omega) (by omega) c5 c6 hd (fun H1 z1 o1 e1 e2 => ?_)
        have := k H1 locs ls ?_ ?_ (hS.more (by omega) o1) hl hEl
        · have e9 : F0 m (pc + 4) ls (((.inr (some (zTop w)) :: r : List zV)).map (zv b0)) = F0 m (pc + 4) ls (.ref H.size :: r.map (zv b0)) := by rw [hsz]; rfl
          rw [e9] at this
          exact this
        · rw [zFl_one]
          refine va_P.app (hP.kept (fun k x hx => o1 x.1 ((hP k x hx).lt))) ?_
          rw [hsz] at e1 e2
          intro j q hj
          cases j with
          | zero =>
            cases hj
            exact e1
          | succ j =>
            have hj1 : ((List.range n.toNatClampNeg).map (fun j => ((b0 + zTop w + 1 + j, .inl (ty 0, k1.toNatClampNeg, .inl (fun _ => 0))) : Nat × va_E)))[j]? = some q := hj
            rw [List.getElem?_map] at hj1
            by_cases h9 : j < n.toNatClampNeg
            · rw [List.getElem?_range h9] at hj1
              cases hj1
              exact e2 j h9
            · rw [List.getElem?_eq_none (by rw [List.length_range]; omega)] at hj1
              cases hj1
        · rw [z1, hsz, zTop_one]
          show b0 + zTop w + 1 + _ = b0 + (zTop w + (_ + 1))
          omega
      · cases hz
    · cases hz
  · rename_i x
    split at hz
    · rename_i ci hci
      split at hz
      · rename_i q hq
        split at hz
        · rename_i fs hfs
          split at hz
          · rename_i hc
            cases hz
            obtain ⟨r9, g1, g2, g3, g4⟩ := hP0.2.2.1 _ (lookup_mem hci)
            have eq9 : r9 = q := Option.some.inj (g1.symm.trans hq)
            subst eq9
            have hKn := hK.1 ci _ hq
            obtain ⟨f1, f2⟩ := zDf_spec (b0 := b0) (ty0 := (sCl ci r9 hq).2.2.choose) r9.2.2 0 fs hfs (fun k hk => (sCl ci r9 hq).2.2.choose_spec k (by omega))
            refine W.newcK hx hb hown (hts _ g2) (hts _ g3) (hts _ g4) rfl hd hc.1 hc.2 hKn.2.1 rfl fun H1 kC hkC e1 z1 o1 => ?_
            have := k H1 locs ls ?_ ?_ (hS.more (by omega) o1) hl hEl
            · have e9 : F0 m (pc + 3) ls (((.inr (some (zTop w)) :: st : List zV)).map (zv b0)) = F0 m (pc + 3) ls (.ref H.size :: st.map (zv b0)) := by rw [hsz]; rfl
              rw [e9] at this
              exact this
            · rw [zFl_one]
              refine va_P.app (hP.kept (fun k x hx => o1 x.1 ((hP k x hx).lt))) ?_
              intro j x hj
              have hz : j < 1 := (List.getElem?_eq_some_iff.mp hj).1
              rw [show j = 0 by omega] at hj
              cases hj
              refine ⟨_, hq, ?_⟩
              rw [hsz] at e1
              exact (u_born (sCl ci r9 hq).2.2.choose hts (sCl ci r9 hq).1 hKn hkC e1 (sCl ci r9 hq).2.2.choose_spec).to (fun j hj => by have := f2 j hj; rw [Nat.zero_add] at this; exact this)
            · rw [z1, hsz, zTop_one]; rfl
          · cases hz
        · cases hz
      · cases hz
    · cases hz
  · rename_i x
    split at hz
    · rename_i hx1
      split at hz
      · rename_i o r
        split at hz
        · rename_i hc
          cases hz
          have h9 := hP0.2.2.2.2 _ (lookup_mem hx1)
          refine W.objInit hx hb hown (hts _ h9) (hts _ (by decide +kernel)) (hts _ (by decide +kernel)) rfl (by rw [hml]; exact hl.1) rfl hd (by omega) ?_ ?_
          · rw [zcatS]
            show 2 * 0 + _ + 12 ≤ _
            omega
          · exact k H locs ls hP hsz hS hl hEl
        · cases hz
      · cases hz
    · rename_i ci k1 nest hx1
      split at hz
      · rename_i o As w1 mc ms hAs hc1
        split at hz
        · rename_i hc
          cases hz
          obtain ⟨a1, a2, a3, a4⟩ := hc
          obtain ⟨y, hy, hM⟩ := hcal _ _ _ _ _ _ hc1
          obtain ⟨y1, y2, y3, y4, y5, y6, y7, y8⟩ := hP0.2.2.2.2 _ (lookup_mem hx1) y hy
          have hlen : ((st.take k1).reverse).length = k1 := by
            rw [List.length_reverse, List.length_take]
            exact Nat.min_eq_left a1
          have hG : GoodIn sTB (Cond.code y.1 y.2.1 y.2.2 none :: sTB) := by
            intro w hw
            have hm : w ∈ sTB := by
              rcases List.mem_cons.mp hw with rfl | hw
              · exact y1
              · exact hw
            exact sTB_good w hm
          have hst : st.map (zv b0) = (As.map (zv b0)).reverse ++ .ref (b0 + o) :: (st.drop k1).map (zv b0) := by
            have e1 : st.take k1 = As.reverse ++ [.inr (some o)] := by
              have := congrArg List.reverse hAs
              rw [List.reverse_reverse, List.reverse_cons] at this
              exact this
            have e2 : st = As.reverse ++ [.inr (some o)] ++ st.drop k1 := by rw [← e1, List.take_append_drop]
            conv => lhs; rw [e2]
            simp [List.map_append, List.map_reverse, zv]
          rw [hAs] at hM hlen
          have hn : As.length + 1 = k1 := hlen
          have hnp : (parseMethodDescriptor y.1.desc).map (fun d => d.parameters.length) = some As.length := by
            cases hpd : parseMethodDescriptor y.1.desc with
            | none => rw [hpd] at y6; cases y6
            | some dd =>
              rw [hpd] at y6
              have : dd.parameters.length + 1 = k1 := Option.some.inj y6
              show some dd.parameters.length = some As.length
              congr 1; omega
          have hroom : (zRm d mc ms).frames + 1 ≤ R.frames ∧ 8 + (y.2.2 + 11) + (zRm d mc ms).locals ≤ R.locals := ⟨hRf, by show 8 + (y.2.2 + 11) + 64 * d ≤ R.locals; omega⟩
          have hpre : PreS s H (zPc D b0 ty (.inr (some o) :: As) w) (.ref (b0 + o) :: As.map (zv b0)) := ⟨zPc_blind, fun U hU hW => ⟨rfl, by rw [hU]; exact hP, by rw [hU]; exact hsz, va_K.moved hW.alike hK, zEnv.warm hW hE⟩⟩
          have hcs : 2 * (F0 m pc ls (st.map (zv b0))).monitorRoom + (((st.drop k1).map (zv b0)).map fun v => v.category).sum ≤ 8 := by
            show 2 * 0 + _ ≤ 8
            rw [zcatS]; omega
          have hrun : va_Run p l e R s m args below meth c H locs nc ns mc ms (F0 m pc ls (st.map (zv b0))) ((st.drop k1).map (zv b0)) (va_Qv (fun _ : Unit => True) (fun _ t => va_P D vwCl (zFl b0 ty 0 w') t.heap ∧ t.heap.size = b0 + zTop w') (fun q => b0 ≤ q) (Value.ref (b0 + o) :: As.map (zv b0)).toArray) (fun q => b0 ≤ q) := by
            cases nest with
            | true =>
              have y8' : (own, x, y.1) ∈ zNest := y8
              exact va_runIN ⟨hx, hb, hml, hown, hts⟩ hM ⟨va_cnB As.length hts hG rfl rfl rfl (hE.1 _ y8') (hts _ y2) ⟨y5.1, y5.2, hnp⟩ hroom, y4, hts _ y3⟩ hpre rfl (by rw [List.length_map]) hl.1 hst hcs hd ⟨a3, a4⟩
            | false =>
              have y8' : Cond.methodLink own x y.1 ∈ sTB := y8
              exact va_runI ⟨hx, hb, hml, hown, hts⟩ hM (cwI As.length hts hG rfl rfl rfl (hts _ y2) (hts _ y8') (hts _ y3) y4 ⟨y5.1, y5.2, hnp⟩ hroom) hpre rfl (by rw [List.length_map]) hl.1 hst hcs hd ⟨a3, a4⟩
          refine va_callv hrun hS (fun _ _ h => h) (fun _ h => h) (fun u t H1 locs1 ht hal _ hB hz1 hk1 hS1 => ?_)
          subst ht
          exact k t.heap locs1 ls hB.1 hB.2 hS1 hl hEl
        · cases hz
      · cases hz
    · cases hz
  · rename_i x
    split at hz
    · rename_i ci f kd v o r9r hx1
      split at hz
      · rename_i cj fs q hg hq
        split at hz
        · rename_i hc
          cases hz
          obtain ⟨rfl, c2, c3⟩ := hc
          obtain ⟨r9, g1, g2, g3, g4⟩ := hP0.1 _ (lookup_mem hx1)
          have eq9 : r9 = q := Option.some.inj (g1.symm.trans hq)
          subst eq9
          obtain ⟨k9, hk9, hset⟩ := z_at (b0 := b0) (ty := ty) w 0 hg
          unfold zFit at c3
          rw [Bool.and_eq_true] at c3
          obtain ⟨c3, c4⟩ := c3
          have hfit : ∃ t, parseFieldDescriptor (r9.2.1 f).2.2.1 = some t ∧ narrow t (zv b0 v) = zv b0 v ∧ fits t (zv b0 v) = true := by
            split at c4
            · rename_i hp; exact ⟨_, hp, rfl, rfl⟩
            · rename_i hp; exact ⟨_, hp, rfl, rfl⟩
            · rename_i hp; exact ⟨_, hp, rfl, rfl⟩
            · cases c4
          obtain ⟨t, t1, t2, t3⟩ := hfit
          have hkk : ∀ (H1 : Heap) (locs1 : List Loc), va_P D vwCl ((zFl b0 ty 0 w).set k9 (b0 + o, .inr (ci, (fs.map (zv b0)).set f (zv b0 v)))) H1 → va_S (fun q => b0 ≤ q) s.heap H1 locs1 → H1.size = H.size → W p l e R s m args below meth c H1 locs1 nc ns Q (F0 m (pc + 3) ls (st'.map (zv b0))) := by
            intro H1 locs1 hP1 hS1 hz1
            refine k H1 locs1 ls ?_ ?_ hS1 hl hEl
            · rw [(hset (ci, fs.set f v)).1]
              show va_P D vwCl ((zFl b0 ty 0 w).set k9 (b0 + o, .inr (ci, (fs.set f v).map (zv b0)))) H1
              rw [List.map_set]
              exact hP1
            · rw [(hset (ci, fs.set f v)).2, hz1]; exact hsz
          refine z_put (C := r9.1) (T := r9.2.1) (N := r9.2.2) hx hb hts (sCl ci r9 g1).1 (sCl ci r9 g1).2.2.choose (sCl ci r9 g1).2.2.choose_spec (sCl ci r9 g1).2.1 hown hK hP hD hS k9 hk9 g1 f g2 (hts _ g3) (fun _ h => h) hin (fun hf => ?_) t1 t2 t3 (by rw [List.length_map]; exact c2) hd hkk
          rw [hf] at c3
          simpa using c3
        · cases hz
      · cases hz
    · cases hz
  · rename_i x
    split at hz
    · rename_i ci f kd o r hx1
      split at hz
      · rename_i cj fs hg
        split at hz
        · rename_i v hv
          split at hz
          · rename_i hc
            cases hz
            subst hc
            obtain ⟨r9, g1, g2, g3, g4⟩ := hP0.1 _ (lookup_mem hx1)
            obtain ⟨k9, hk9, -⟩ := z_at (b0 := b0) (ty := ty) w 0 hg
            exact va_get (C := r9.1) (T := r9.2.1) (N := r9.2.2) hx hb hts (sCl ci r9 g1).1 hown hK hP k9 hk9 g1 f g2 (hts _ g3) (fun _ h => h) (by rw [List.getElem?_map, hv]; rfl) hd (k H locs ls hP hsz hS hl hEl)
          · cases hz
        · cases hz
      · cases hz
    · cases hz
  · cases hz
end
/-- a text in one go -/
def zs (own : String) (P : zP) (cal : Nat → List zV → List zC → Option (List zC × Nat × Nat)) (Lc Ls : Nat) (E : List zV) : List (Instr × Nat) → Nat → List zV → List zC → Nat → Nat → Option (Nat × List zV × List zC × Nat × Nat)
  | [], pc, st, w, nc, ns => some (pc, st, w, nc, ns)
  | (i, len) :: T, pc, st, w, nc, ns => match zi own P cal Lc Ls E i len st w nc ns with
    | some (st', w', nc', ns') => zs own P cal Lc Ls E T (pc + len) st' w' nc' ns'
    | none => none
/-- the text stands at pc -/
def zDc (cc : ByteArray) : List (Instr × Nat) → Nat → Bool
  | [], _ => true
  | (i, len) :: T, pc => decide (decode cc pc = .ok (i, len)) && zDc cc T (pc + len)
section
variable {p : Program} {l : Launch} {e : Env} {R : Room} {s : State} {m : MethodId} {args : Array Value} {below : List Frame} {meth : Method} {c : Code} {D : va_G} {b0 : Nat} {ty : Nat → ClassId} {nL : Nat} {cc : ByteArray} {own : String} {Q : State → Prop} {E : List zV}
theorem zs_sound (hx : p.tables.exec = Jvm.exec) (hb : c.code = cc) (hml : c.maxLocals = nL) (hts : ∀ w ∈ sTB, w.before args s = true) (hown : s.vm.findClass own = some m.cls) (hK : va_K D vwCl (sTys ty) s) (hE : zEnv s) (hin : meth.name = "<init>") {zc : Nat → Option zM} {P : zP} (hP0 : zOKP zc own P) (hb0 : b0 ≤ s.heap.size)
    {cal : Nat → List zV → List zC → Option (List zC × Nat × Nat)} {d : Nat} (hcal : ∀ ci as w w' mc ms, cal ci as w = some (w', mc, ms) → ∃ y, zc ci = some y ∧ zMet l D b0 ty d y as w w' mc ms) (hRf : d + 1 ≤ R.frames) (hRl : 64 + 64 * d ≤ R.locals) {pc' : Nat} {st' : List zV} {w' : List zC} {nc' ns' : Nat} :
    ∀ (T : List (Instr × Nat)) (pc : Nat) (st : List zV) (w : List zC) (nc ns : Nat), zDc cc T pc = true → zs own P cal R.cells R.slots E T pc st w nc ns = some (pc', st', w', nc', ns') → zK p l e R s m args below meth c D b0 ty nL E Q pc' st' w' nc' ns' → zK p l e R s m args below meth c D b0 ty nL E Q pc st w nc ns
  | [], pc, st, w, nc, ns, _, hz, k => by
    cases hz
    exact k
  | (i, len) :: T, pc, st, w, nc, ns, hd, hz, k => by
    unfold zDc at hd
    rw [Bool.and_eq_true, decide_eq_true_eq] at hd
    unfold zs at hz
    split at hz
    · rename_i st1 w1 nc1 ns1 h1
      exact zi_sound hx hb hml hts hown hK hE hin hP0 hb0 hcal hRf hRl hd.1 h1 (zs_sound hx hb hml hts hown hK hE hin hP0 hb0 hcal hRf hRl T _ _ _ _ _ hd.2 hz k)
    · cases hz
end
/-- a constructor: its pool, its text up to its end, the cells and words that it makes -/
abbrev zT : Type := zM × zP × List (Instr × Nat) × Nat × Nat
/-- constructors within constructors, k deep -/
def zCal (zt : Nat → Option zT) : Nat → Nat → List zV → List zC → Option (List zC × Nat × Nat)
  | 0, _, _, _ => none
  | k + 1, ci, as, w => match zt ci with
    | some (y, P, T, mc, ms) => match zs y.1.cls P (zCal zt k) mc ms as T 0 [] w 0 0 with
      | some (pc, [], w', nc, ns) => if nc = mc ∧ ns = ms ∧ as.length ≤ y.2.2 ∧ decode y.2.1 pc = .ok (.return_, 1) then some (w', mc, ms) else none
      | _ => none
    | none => none
theorem zargs {b0 : Nat} : ∀ (as : List zV) (n k : Nat) (v : zV), as[k]? = some v → (n + k, zv b0 v) ∈ lv_args n (as.map (zv b0))
  | [], n, k, v, h => by simp at h
  | a :: r, n, k, v, h => by
    show _ ∈ (n, zv b0 a) :: lv_args (if (zv b0 a).category = 2 then n + 2 else n + 1) (r.map (zv b0))
    rw [zcat, if_neg (by decide)]
    cases k with
    | zero =>
      cases h
      exact List.mem_cons_self
    | succ k =>
      have := zargs (b0 := b0) r (n + 1) k v (by simpa using h)
      rw [show n + (k + 1) = n + 1 + k by omega]
      exact List.mem_cons_of_mem _ this
theorem zsl (b0 : Nat) : ∀ as : List zV, (lg_sl (as.map (zv b0))).length = as.length
  | [] => rfl
  | a :: r => by
    show (lg_sl (zv b0 a :: r.map (zv b0))).length = r.length + 1
    have := zsl b0 r
    rcases a with x | _ | x <;> simp [lg_sl, zv, Value.category] at this ⊢ <;> omega
def zOKT (zt : Nat → Option zT) : Prop := ∀ ci q, zt ci = some q → zOKP (fun c => (zt c).map (·.1)) q.1.1.cls q.2.1 ∧ zDc q.1.2.1 q.2.2.1 0 = true ∧ plainName q.1.1.cls = true ∧ q.1.1.name = "<init>"
section
variable {l : Launch} {D : va_G} {b0 : Nat} {ty : Nat → ClassId}
/-- from a constructor's entry over the world w -/
theorem zEntry {y : zM} {d mc ms : Nat} {as : List zV} {w : List zC} {Qc : Array Value → State → Outcome → State → Prop} {free : Addr → Prop} (hpl : plainName y.1.cls = true) (hin : y.1.name = "<init>") (has : as.length ≤ y.2.2)
    (body : ∀ (p : Program) (e : Env) (s : State) (m : MethodId) (below : List Frame) (meth : Method) (c : Code), p.tables.exec = Jvm.exec → c.code = y.2.1 → meth.sig.returnType = none → meth.locks = false → c.maxLocals = y.2.2 → (∀ w ∈ sTB, w.before (as.map (zv b0)).toArray s = true) → s.vm.findClass y.1.cls = some m.cls → va_K D vwCl (sTys ty) s → zEnv s → meth.name = "<init>" → s.heap.size = b0 + zTop w →
      zK p l e (zRm d mc ms) s m (as.map (zv b0)).toArray below meth c D b0 ty y.2.2 as (MQ below Qc (as.map (zv b0)).toArray s mc ms free) 0 [] w 0 0) : Met l y.1 (Cond.code y.1 y.2.1 y.2.2 none :: sTB) (zRm d mc ms) (zPc D b0 ty as w) Qc mc ms free := by
  refine Met.ofW (cc := y.2.1) (maxL := y.2.2) (ret := none) hpl rfl ?_
  intro p e s m args below meth c s₁ B hml hv
  obtain ⟨rfl, hP, hsz, hK, hE⟩ := hv
  have hts0 := atoms_spec (ws := Cond.code y.1 y.2.1 y.2.2 none :: sTB) B.pre
  have hts : ∀ w ∈ sTB, w.before ((as.map (zv b0)).toArray) s = true := fun w h => hts0 w (List.mem_cons_of_mem _ h)
  have hown : s.vm.findClass y.1.cls = some m.cls := findClass_of_methodNamed B.named
  have hin2 : meth.name = "<init>" := by rw [(name_of_methodNamed B.named B.method).1]; exact hin
  have hl0 := lv_entry (as.map (zv b0)) (n := y.2.2) (by rw [zsl]; exact has)
  rw [lg_entry_eq]
  generalize (lg_sl (as.map (zv b0)) ++ List.replicate (y.2.2 - (lg_sl (as.map (zv b0))).length) Slot.unset).toArray = ls at hl0 ⊢
  refine body p e s m below meth c B.exec B.bytes B.returns B.notSynchronized hml hts hown hK hE hin2 hsz s.heap [] ls hP hsz va_S.rf ⟨hl0.1, hl0.2.1, fun _ h => absurd h List.not_mem_nil⟩ (fun k v hv => ?_)
  have := hl0.2.2 _ (zargs (b0 := b0) as 0 k v hv)
  rw [Nat.zero_add] at this
  exact this
theorem zCal_ok {zt : Nat → Option zT} (hT : zOKT zt) : ∀ (k ci : Nat) (as : List zV) (w w' : List zC) (mc ms : Nat), zCal zt k ci as w = some (w', mc, ms) → ∃ y, (zt ci).map (·.1) = some y ∧ zMet l D b0 ty k y as w w' mc ms
  | 0, ci, as, w, w', mc, ms, h => by cases h
  | k + 1, ci, as, w, w', mc, ms, h => by
    unfold zCal at h
    split at h
    · rename_i y P T mc0 ms0 hq
      split at h
      · rename_i pc w0 nc ns hz
        split at h
        · rename_i hc
          cases h
          obtain ⟨rfl, rfl, c3, c4⟩ := hc
          obtain ⟨g1, g2, g3, g4⟩ := hT ci _ hq
          refine ⟨y, by rw [hq]; rfl, zEntry g3 g4 c3 ?_⟩
          intro p e s m below meth c hx hb hr hlocks hml hts hown hK hE hin hsz
          refine zs_sound (zc := fun c => (zt c).map (·.1)) hx hb hml hts hown hK hE hin g1 (by omega) (zCal_ok hT k) (Nat.le_refl _) (by show 64 + 64 * k ≤ 64 * (k + 1); omega) T 0 [] w 0 0 g2 hz ?_
          intro H locs ls hP hsz hS hl hEl
          exact W.vret hx hb hr (fun t ht hW => ⟨⟨(), rfl, trivial, by rw [ht]; exact hP, by rw [ht]; exact hsz⟩, hS.F ht⟩) hS.2.2 c4
        · cases h
      · cases h
    · cases h
end
