/-! THE STEP OVER THE CLASS IS SOUND; contracts of methods that may throw -/
def yRm (d n : Nat) : Room := { frames := d, cells := n, slots := 12 * n, locals := 64 * d }
def yX (D : va_G) (b0 : Nat) (ty : Nat → ClassId) (L : sLay) (xp : String → sMem → Prop) : String → State → State → Prop := fun E st t => (∃ σ : sMem, xp E σ ∧ va_P D vwCl (sFl b0 ty L σ 0 L) t.heap) ∧ va_F (sA b0 L) st t
def yPc (D : va_G) (b0 : Nat) (ty : Nat → ClassId) (L : sLay) (ad av : Nat → Nat) (as : List AV) (σ : sMem) : Array Value → State → Prop := va_Pc (as.map (sCv b0 L)) (fun U => va_P D vwCl (sFl b0 ty L σ 0 L) U.heap ∧ va_K D vwCl (sTys ty) U ∧ yEnv ad av (sA b0 L) U U.heap)
/-- THE CONTRACT of a method of the class: it makes at most n cells of 12 words each; it returns with 'post', or throws with 'xp' -/
def yMet (l : Launch) (D : va_G) (b0 : Nat) (ty : Nat → ClassId) (ad av : Nat → Nat) (L : sLay) (d n : Nat) (q : xMe) (as : List AV) (σ : sMem) (post : List AV → sMem → Prop) (xp : String → sMem → Prop) : Prop := l.stackTraces = false →
  vx_Met l q.2.2.1 (sWs q) (yRm d n) (yPc D b0 ty L ad av as σ) (sQ D b0 ty L post) (yX D b0 ty L xp) n (12 * n) (sA b0 L)
def yCalD (l : Launch) (D : va_G) (b0 : Nat) (ty : Nat → ClassId) (ad av : Nat → Nat) (L : sLay) (d : Nat) (n : Nat) (q : xMe) (as : List AV) (σ : sMem) (post : List AV → sMem → Prop) (xp : String → sMem → Prop) : Prop := match d with
  | 0 => False
  | k + 1 => yMet l D b0 ty ad av L k n q as σ post xp
theorem yPc_blind {D : va_G} {b0 : Nat} {ty : Nat → ClassId} {L : sLay} {ad av : Nat → Nat} {as : List AV} {σ : sMem} : FrameBlind (yPc D b0 ty L ad av as σ) := fun a U g mk h => ⟨h.1, h.2.1, h.2.2.1, yEnv.warm (State.WarmedH.refl U) h.2.2.2⟩
def jLen (l : Launch) (ad av : Nat → Nat) : Prop := ∀ (A : Nat → Prop) (j : Nat), j < 10 → Met l yJ0_length_8abf5 (Cond.code yJ0_length_8abf5 cJ0_length_8abf5 1 (some .int) :: sTB) (sRm 4) (va_Pc [.ref (ad j)] (fun U => yEnv ad av A U U.heap)) (va_Qi (fun r (_ : Unit) => r = nI (yLen.getD j 0)) (fun _ _ => True) (fun _ => False)) 0 0 (fun _ => False)
def jChr (l : Launch) (ad av : Nat → Nat) : Prop := ∀ (A : Nat → Prop) (j m : Nat), j < 10 → m < yLen.getD j 0 → Met l yJ0_charAt_5068e (Cond.code yJ0_charAt_5068e cJ0_charAt_5068e 2 (some .char) :: sTB) (sRm 4) (va_Pc [.ref (ad j), .int (nI m)] (fun U => yEnv ad av A U U.heap)) (va_Qi (fun r (_ : Unit) => r = (yByt.getD j []).getD m 0) (fun _ _ => True) (fun _ => False)) 0 0 (fun _ => False)
/-- what the tables beside the class's own must say -/
def yOKY (l : Launch) (ad av : Nat → Nat) (own : String) (cc : ByteArray) (Y : yTb) : Prop :=
  (∀ q ∈ Y.1, (own, q.1, q.2.2.2.1) ∈ yNest ∧ q.2.2.1 = none ∧ meOK q.2) ∧ (∀ q ∈ Y.2.1, own = RX4 ∧ q.1 = 105 + 2 * q.2 ∧ q.2 < 10) ∧
  (∀ q ∈ Y.2.2.1, (q.2 = 0 → Cond.methodLink own q.1 yJ0_length_8abf5 ∈ sTB ∧ jLen l ad av) ∧ (q.2 = 1 → Cond.methodLink own q.1 yJ0_charAt_5068e ∈ sTB ∧ jChr l ad av) ∧ (q.2 = 2 → Cond.methodLink own q.1 Lib.Math.min.name ∈ sTB) ∧ (q.2 = 3 → Cond.methodLink own q.1 Lib.Math.max.name ∈ sTB)) ∧
  (∀ n ∈ Y.2.2.2.1, Cond.methodLink own n arraycopyName ∈ sTB) ∧
  ∀ q ∈ Y.2.2.2.2, 3 ≤ q.1 ∧ own = RX8 ∧ (q.2.2.1, q.2.2.2.2.2.1) ∈ yTxt ∧ q.2.2.2.2.1 ∈ [yIAE, yIOE, yNSE] ∧ Bundle.fit q.2.2.2.2.1 = true ∧ Cond.classLink own q.2.1 q.2.2.2.2.1 ∈ sTB ∧ Cond.initialized q.2.2.2.2.1 ∈ sTB ∧ (∀ w ∈ (if q.2.2.2.2.1 = yNSE then nAt own q.2.2.2.1 else vx_atS own q.2.2.2.1 q.2.2.2.2.1 yNms), w ∈ sTB ∨ w ∈ yTw) ∧
    decode cc (q.1 - 3) = .ok (.new q.2.1, 3) ∧ decode cc q.1 = .ok (.dup, 1) ∧ (if q.2.2.2.2.2.2 then decode cc (q.1 + 1) = .ok (.ldc_w q.2.2.1, 3) ∧ decode cc (q.1 + 4) = .ok (.invokespecial q.2.2.2.1, 3) ∧ decode cc (q.1 + 7) = .ok (.athrow, 1) else decode cc (q.1 + 1) = .ok (.ldc q.2.2.1, 2) ∧ decode cc (q.1 + 3) = .ok (.invokespecial q.2.2.2.1, 3) ∧ decode cc (q.1 + 6) = .ok (.athrow, 1))
section
variable {p : Program} {l : Launch} {e : Env} {R : Room} {s : State} {m : MethodId} {args : Array Value} {below : List Frame} {meth : Method} {c : Code} {D : va_G} {b0 : Nat} {ty : Nat → ClassId} {L : sLay} {nL : Nat} {cc : ByteArray} {own : String} {post : List AV → sMem → Prop} {xp : String → sMem → Prop} {ad av : Nat → Nat}
/-- a body's ends -/
theorem y_ret {ret : Option FieldType} {n a b : Nat} (ha : a ≤ n) (hb' : b ≤ 12 * n) (hx : p.tables.exec = Jvm.exec) (hb : c.code = cc) (hr : meth.sig.returnType = ret) (hlocks : meth.locks = false) : ∀ i pc r σ, (xRet i ret r ∨ (i = .areturn ∧ (∃ x, r = [.inl (.retAddr x)]) ∧ ∃ nm, ret = some (.object nm))) → decode cc pc = .ok (i, 1) → post r σ → ∀ (H : Heap) (locs : List Loc) (ls : Array Slot), va_P D vwCl (sFl b0 ty L σ 0 L) H → va_S (sA b0 L) s.heap H locs →
    W p l e R s m args below meth c H locs a b (vx_MQ below (sQ D b0 ty L post) (yX D b0 ty L xp) args s n (12 * n) (sA b0 L)) (F0 m pc ls (r.map (sCv b0 L))) := by
  intro i pc r σ hi hd h H locs ls hP hS
  refine W.widen ha hb' (vx_ret ?_)
  rcases hi with hi | ⟨rfl, ⟨x, rfl⟩, nm, rfl⟩
  · unfold xRet at hi
    split at hi
    · obtain ⟨x, rfl, h5 | ⟨h5, h6⟩⟩ := hi
      · subst h5
        exact W.iret hx hb hr (fun t ht hW => ⟨⟨[aI x], σ, rfl, Nat.le_refl _, h, by rw [ht]; exact hP⟩, hS.F ht⟩) hS.2.2 hd
      · subst h5
        exact W.zret hx hb hr (by rcases h6 with rfl | rfl <;> decide +kernel) (fun t ht hW => ⟨⟨[aI x], σ, rfl, Nat.le_refl _, h, by rw [ht]; exact hP⟩, hS.F ht⟩) hS.2.2 hd
    · obtain ⟨x, rfl, h5⟩ := hi
      subst h5
      exact W.lret hx hb hr (fun t ht hW => ⟨⟨[aL x], σ, rfl, Nat.le_refl _, h, by rw [ht]; exact hP⟩, hS.F ht⟩) hS.2.2 hd
    · obtain ⟨⟨x, rfl⟩ | ⟨x, rfl⟩, rt, h5, h6⟩ := hi
      · subst h5
        exact W.aret hx hb hr h6 (Or.inr ⟨_, rfl⟩) (fun t ht hW => ⟨⟨[aR x], σ, rfl, Nat.le_refl _, h, by rw [ht]; exact hP⟩, hS.F ht⟩) hS.2.2 hd
      · subst h5
        exact W.aret hx hb hr h6 (Or.inr ⟨_, rfl⟩) (fun t ht hW => ⟨⟨[.inr x], σ, rfl, Nat.le_refl _, h, by rw [ht]; exact hP⟩, hS.F ht⟩) hS.2.2 hd
    · obtain ⟨rfl, h5⟩ := hi
      subst h5
      exact W.vret hx hb hr (fun t ht hW => ⟨⟨[], σ, rfl, Nat.zero_le _, h, by rw [ht]; exact hP⟩, hS.F ht⟩) hS.2.2 hd
    · exact hi.elim
  · exact W.aret hx hb hr (Or.inl ⟨nm, rfl⟩) (Or.inr ⟨_, rfl⟩) (fun t ht hW => ⟨⟨[.inl (.retAddr x)], σ, rfl, Nat.le_refl _, h, by rw [ht]; exact hP⟩, hS.F ht⟩) hS.2.2 hd
/-- a static call of a nest mate -/
theorem nest_run {nc ns : Nat} (hx : p.tables.exec = Jvm.exec) (hb : c.code = cc) (hml : c.maxLocals = nL) (hts : ∀ w ∈ sTB, w.before args s = true) (hown : s.vm.findClass own = some m.cls) (hK : va_K D vwCl (sTys ty) s)
    {n d : Nat} {q : xMe} {as rest : List AV} {pc : Nat} {σ : sMem} {P : List AV → sMem → Prop} (hl : va_Nw (.methodLinkNest own n q.2.2.1 RX8) s) (hs : q.2.1 = none) (hq : meOK q) (hMet : sMet l D b0 ty L d q as σ P) (hd1 : d + 1 ≤ R.frames) (hd2 : 64 + 64 * d ≤ R.locals) (hc1 : nc ≤ R.cells) (hc2 : ns ≤ R.slots) (hlen : as.length = q.1) (hsum : avSum rest ≤ 8)
    (hdg : decode cc pc = .ok (.invokestatic n, 3))
    {H : Heap} {locs : List Loc} {ls : Array Slot} {E : List (Option AV)} (hP : va_P D vwCl (sFl b0 ty L σ 0 L) H) (hlv : lv_has ls nL (sLv b0 L 0 E)) :
    va_Run p l e R s m args below meth c H locs nc ns 0 0 (F0 m pc ls ((as.reverse ++ rest).map (sCv b0 L))) (rest.map (sCv b0 L)) (sQ D b0 ty L P (as.map (sCv b0 L)).toArray) (sA b0 L) := by
  obtain ⟨k, rc, y, cy, nl, rty⟩ := q
  obtain ⟨w2, w6, ⟨w3, w4⟩, w5, wm⟩ := hq
  have w5' : nl ≤ 45 := w5
  have hlen' : as.length = k := hlen
  have hs' : rc = none := hs
  subst hs'
  obtain ⟨x3, x4⟩ := wm
  have hG : GoodIn sTB (sWs (k, none, y, cy, nl, rty)) := by
    intro w hw
    have hm : w ∈ sTB := by
      unfold sWs at hw
      rcases List.mem_cons.mp hw with rfl | hw
      · exact w2
      · exact hw
    exact sTB_good w hm
  have cw := va_cnB (R := R) (s := s) (args := args) (own := own) (host := RX8) (index := n) (y := y) (bytes := cy) (maxL := nl) (ret := rty) (Ts := sTB) (ws := sWs (k, none, y, cy, nl, rty)) (rm := sRm d) (mc := 0) (ms := 0) k hts hG rfl rfl rfl hl (hts _ w6) ⟨w3, w4, x4⟩ ⟨hd1, by show 8 + (nl + 11) + 64 * d ≤ R.locals; omega⟩
  exact va_runSN (H := H) (locs := locs) (cells := nc) (slots := ns) (below := below) (e := e) (meth := meth) (As := as.map (sCv b0 L)) (rest := rest.map (sCv b0 L)) (g := F0 m pc ls ((as.reverse ++ rest).map (sCv b0 L))) ⟨hx, hb, hml, hown, hts⟩ hMet ⟨cw, hts _ x3, trivial⟩
    ⟨fun _ _ _ _ q => q, fun U hU hW => ⟨rfl, by rw [hU]; exact hP, va_K.moved hW.alike hK⟩⟩ rfl (by rw [List.length_map]; exact hlen') hlv.1 (by rw [List.map_append, List.map_reverse]) (by show 2 * 0 + _ ≤ 8; rw [avSum_eq]; simpa using hsum) hdg ⟨hc1, hc2⟩
/-- a call of a method that may throw -/
theorem y_run {nc ns : Nat} (hx : p.tables.exec = Jvm.exec) (hb : c.code = cc) (hml : c.maxLocals = nL) (hts : ∀ w ∈ sTB, w.before args s = true) (hown : s.vm.findClass own = some m.cls) (hK : va_K D vwCl (sTys ty) s) (hE : yEnv ad av (sA b0 L) s s.heap) (hlt : l.stackTraces = false) {X : xTb} (hX : xOKX own X)
    {n d n0 : Nat} {q : xMe} {as rest : List AV} {pc : Nat} {σ : sMem} {P : List AV → sMem → Prop} {XP : String → sMem → Prop} (hq : X.2.2.2.lookup n = some q) (hMet : yMet l D b0 ty ad av L d n0 q as σ P XP) (hd1 : d + 1 ≤ R.frames) (hd2 : 64 + 64 * d ≤ R.locals) (hc1 : nc + n0 ≤ R.cells) (hc2 : ns + 12 * n0 ≤ R.slots) (hlen : as.length = q.1) (hsum : avSum rest ≤ 8)
    (hdg : match q.2.1 with
      | none => decode cc pc = .ok (.invokestatic n, 3)
      | some ci => decode cc pc = .ok (.invokevirtual n, 3) ∧ ∃ v bs o fs, as = aR v :: bs ∧ L[v]? = some (o, .inl (ci, fs)))
    {H : Heap} {locs : List Loc} {ls : Array Slot} {E : List (Option AV)} (hP : va_P D vwCl (sFl b0 ty L σ 0 L) H) (hS : va_S (sA b0 L) s.heap H locs) (hl : lv_has ls nL (sLv b0 L 0 E)) :
    vx_Run p l e R s m args below meth c H locs nc ns n0 (12 * n0) (F0 m pc ls ((as.reverse ++ rest).map (sCv b0 L))) (rest.map (sCv b0 L)) (sQ D b0 ty L P (as.map (sCv b0 L)).toArray) (yX D b0 ty L XP) (sA b0 L) := by
  obtain ⟨k, rc, y, cy, nl, rty⟩ := q
  obtain ⟨w1, w2, w6, ⟨w3, w4⟩, w5, wm⟩ := hX.2.2.2 _ (lookup_mem hq)
  have w5' : nl ≤ 45 := w5
  have hlen' : as.length = k := hlen
  have hEH : yEnv ad av (sA b0 L) s H := hE.kept hS.2.1
  cases rc with
  | none =>
    obtain ⟨x3, x4⟩ := wm
    have hG : GoodIn sTB (va_wsS own n y (sWs (k, none, y, cy, nl, rty))) := by
      intro w hw
      have hm : w ∈ sTB := by
        unfold va_wsS sWs at hw
        simp only [List.cons_append, List.nil_append, List.mem_cons] at hw
        rcases hw with rfl | rfl | rfl | rfl | hw
        · exact w1
        · exact x3
        · exact w6
        · exact w2
        · exact hw
      exact sTB_good w hm
    have cw := va_cwS (R := R) (s := s) (args := args) (own := own) (index := n) (y := y) (bytes := cy) (maxL := nl) (ret := rty) (Ts := sTB) (ws := sWs (k, none, y, cy, nl, rty)) (rm := yRm d n0) (mc := n0) (ms := 12 * n0) k hts hG rfl rfl rfl ⟨w3, w4, x4⟩ ⟨hd1, by show 8 + (nl + 11) + 64 * d ≤ R.locals; omega⟩
    exact vx_runS (H := H) (locs := locs) (cells := nc) (slots := ns) (below := below) (e := e) (meth := meth) (As := as.map (sCv b0 L)) (rest := rest.map (sCv b0 L)) (g := F0 m pc ls ((as.reverse ++ rest).map (sCv b0 L))) ⟨hx, hb, hml, hown, hts⟩ (hMet hlt) cw
      ⟨yPc_blind, fun U hU hW => ⟨rfl, by rw [hU]; exact hP, va_K.moved hW.alike hK, by rw [hU]; exact yEnv.warm hW hEH⟩⟩ rfl (by rw [List.length_map]; exact hlen') hl.1 (by rw [List.map_append, List.map_reverse]) (by show 2 * 0 + _ ≤ 8; rw [avSum_eq]; simpa using hsum) hdg ⟨hc1, hc2⟩
  | some ci =>
    obtain ⟨hd, v, bs, o, fs, rfl, hL1⟩ := hdg
    obtain ⟨r1, hr1, x1, x2, x3, x4⟩ := wm
    obtain ⟨kp, hkp, -⟩ := sAtO (b0 := b0) (ty := ty) (σ := σ) hL1
    have he : sOff L v = o := sOff_at hL1
    have hnp : (parseMethodDescriptor y.desc).map (fun d => d.parameters.length) = some bs.length := by
      have x4' : (parseMethodDescriptor y.desc).map (fun d => d.parameters.length + 1) = some k := x4
      cases hpd : parseMethodDescriptor y.desc with
      | none => rw [hpd] at x4'; cases x4'
      | some dd =>
        rw [hpd] at x4'
        have : dd.parameters.length + 1 = k := Option.some.inj x4'
        have h9 : bs.length + 1 = k := hlen'
        show some dd.parameters.length = some bs.length
        congr 1; omega
    have hG : GoodIn sTB (wsV own n y.cls y (sWs (k, some ci, y, cy, nl, rty))) := by
      intro w hw
      have hm : w ∈ sTB := by
        unfold wsV sWs at hw
        simp only [List.cons_append, List.nil_append, List.mem_cons] at hw
        rcases hw with rfl | rfl | rfl | rfl | rfl | hw
        · exact w1
        · exact x2
        · exact x3
        · exact w6
        · exact w2
        · exact hw
      exact sTB_good w hm
    have hst : ((aR v :: bs).reverse ++ rest).map (sCv b0 L) = (bs.map (sCv b0 L)).reverse ++ (.ref (b0 + sOff L v) :: rest.map (sCv b0 L)) := by
      simp [List.map_append, List.map_reverse, sCv]
    have cw := cwV (R := R) (s := s) (args := args) (own := own) (C := y.cls) (index := n) (y := y) (bytes := cy) (maxL := nl) (ret := rty) (Ts := sTB) (ws := sWs (k, some ci, y, cy, nl, rty)) (rm := yRm d n0) (mc := n0) (ms := 12 * n0) bs.length hts hG rfl rfl rfl ⟨rfl, w3, w4, hnp⟩ ⟨hd1, by show 8 + (nl + 11) + 64 * d ≤ R.locals; omega⟩
    obtain ⟨cell, c1, c2, c3⟩ := va_recv hK hP hr1 hkp
    exact vx_runV (H := H) (locs := locs) (cells := nc) (slots := ns) (below := below) (e := e) (meth := meth) (b := b0 + sOff L v) (As := bs.map (sCv b0 L)) (rest := rest.map (sCv b0 L)) (g := F0 m pc ls (((aR v :: bs).reverse ++ rest).map (sCv b0 L))) ⟨hx, hb, hml, hown, hts⟩ (hMet hlt) cw
      ⟨yPc_blind, ⟨cell, by rw [he]; exact c1, c2, by have x1' : r1.1 = y.cls := x1; rw [← x1']; exact c3⟩, fun U hU hW => ⟨rfl, by rw [hU]; exact hP, va_K.moved hW.alike hK, by rw [hU]; exact yEnv.warm hW hEH⟩⟩ rfl (by simp) hl.1 hst (by show 2 * 0 + _ ≤ 8; rw [avSum_eq]; simpa using hsum) hd ⟨hc1, hc2⟩
/-- from this place the body goes on to its end, c cells being left of n -/
def yK (p : Program) (l : Launch) (e : Env) (R : Room) (s : State) (m : MethodId) (args : Array Value) (below : List Frame) (meth : Method) (c : Code) (D : va_G) (b0 : Nat) (ty : Nat → ClassId) (L : sLay) (nL n : Nat) (Q : State → Prop) (k pc : Nat) (E : List (Option AV)) (st : List AV) (σ : sMem) : Prop :=
  k ≤ n → sK p l e R s m args below meth c D b0 ty L nL (fun _ => n - k) (fun _ => 12 * (n - k)) Q pc E st σ
/-- a call that may throw goes on -/
theorem y_on {n k k' n0 nc : Nat} {Q : State → Prop} {as : List AV} {P : List AV → sMem → Prop} {XP : String → sMem → Prop} {H : Heap} {locs : List Loc} {ls : Array Slot} {pc : Nat} {E : List (Option AV)} {rest : List AV} {st0 : List Value} (hk : k = k' + n0) (hkn : k ≤ n) (hnc : nc = n - k)
    (hr : vx_Run p l e R s m args below meth c H locs nc (12 * nc) n0 (12 * n0) (F0 m pc ls st0) (rest.map (sCv b0 L)) (sQ D b0 ty L P (as.map (sCv b0 L)).toArray) (yX D b0 ty L XP) (sA b0 L)) (hS : va_S (sA b0 L) s.heap H locs) (hl : lv_has ls nL (sLv b0 L 0 E))
    (hkk : ∀ r σ', P r σ' → yK p l e R s m args below meth c D b0 ty L nL n Q k' (pc + 3) E (r ++ rest) σ')
    (hxx : ∀ en σ', XP en σ' → ∀ (H1 : Heap) (locs1 : List Loc) (q : Addr) (ce : Cell), va_P D vwCl (sFl b0 ty L σ' 0 L) H1 → va_S (sA b0 L) s.heap H1 locs1 → H1[q]? = some ce → ce.vm = .none → s.vm.findClass en = some ce.cls → vx_W p l e R s m args below meth c H1 locs1 (n - k') (12 * (n - k')) Q (F0 m pc ls (rest.map (sCv b0 L))) q) :
    W p l e R s m args below meth c H locs nc (12 * nc) Q (F0 m pc ls st0) := by
  intro T hT X
  have e5 : nc + n0 = n - k' := by omega
  have e6 : 12 * nc + 12 * n0 = 12 * (n - k') := by omega
  have keep : ∀ (st₀ t T' : State) (Ls : List Loc), st₀.heap = H → T'.heap = t.heap → va_F (sA b0 L) st₀ t → (∀ q ∈ Ls, sA b0 L q.base) → va_S (sA b0 L) s.heap T'.heap (locs ++ Ls) := by
    intro st₀ t T' Ls h0 e1 hF hL
    obtain ⟨hz, hk2⟩ := hF
    rw [h0] at hz hk2
    exact ⟨Nat.le_trans hS.1 (by rw [e1]; exact hz), fun q h1 h2 => by rw [e1, hk2 q (Nat.lt_of_lt_of_le h1 hS.1) h2]; exact hS.2.1 q h1 h2, fun q hq => by
      rcases List.mem_append.mp hq with h | h
      · exact hS.2.2 q h
      · exact hL q h⟩
  rcases hr T hT X with ⟨v, st₀, t, T', Ls, h0, X', hL, e1, e2, ⟨⟨r, σ', hv, hlen, hp, hP'⟩, hF⟩, st⟩ | ⟨q, st₀, t, T', Ls, en, ce, h0, X', hL, e1, e2, ⟨⟨σ', hp, hP'⟩, hF⟩, hce, hcv, hcl, st⟩
  · have hS' := keep st₀ t T' Ls h0 e1 hF hL
    rw [e5, e6] at X'
    obtain ⟨t2, a1, b1⟩ := hkk r σ' hp (by omega) T'.heap (locs ++ Ls) ls (by rw [e1]; exact hP') hS' hl T' rfl X'
    refine ⟨t2, st t2 ?_, b1⟩
    cases hv
    cases r with
    | nil => exact a1
    | cons v1 r1 =>
      cases r1 with
      | nil => exact a1
      | cons v2 r2 => simp at hlen
  · have hS' := keep st₀ t T' Ls h0 e1 hF hL
    rw [e5, e6] at X'
    obtain ⟨t2, a1, b1⟩ := hxx en σ' hp T'.heap (locs ++ Ls) q ce (by rw [e1]; exact hP') hS' (by rw [e1]; exact hce) hcv hcl T' rfl X'
    exact ⟨t2, st.trans a1, b1⟩
end
