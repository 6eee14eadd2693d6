/-! A METHOD'S CONTRACT OUT OF ITS WALK -/
def eArg : List AV → List (Option AV)
  | [] => []
  | v :: r => match avCat2 v with
    | true => some v :: none :: eArg r
    | false => some v :: eArg r
def eArgs (nL : Nat) (as : List AV) : List (Option AV) := eArg as ++ List.replicate (nL - (eArg as).length) none
theorem sLv_none {b0 : Nat} {L : sLay} : ∀ (k n : Nat), sLv b0 L n (List.replicate k none) = []
  | 0, _ => rfl
  | k + 1, n => by
    show sLv b0 L (n + 1) (List.replicate k none) = []
    exact sLv_none k (n + 1)
theorem sLv_app {b0 : Nat} {L : sLay} (k : Nat) : ∀ (E : List (Option AV)) (n : Nat), sLv b0 L n (E ++ List.replicate k none) = sLv b0 L n E
  | [], n => sLv_none k n
  | none :: r, n => sLv_app k r (n + 1)
  | some v :: r, n => by
    show (n, sCv b0 L v) :: sLv b0 L (n + 1) (r ++ List.replicate k none) = (n, sCv b0 L v) :: sLv b0 L (n + 1) r
    rw [sLv_app k r (n + 1)]
theorem sLv_args {b0 : Nat} {L : sLay} : ∀ (as : List AV) (n : Nat), sLv b0 L n (eArg as) = lv_args n (as.map (sCv b0 L))
  | [], _ => rfl
  | v :: r, n => by
    have hc := avCat (b0 := b0) (L := L) v
    cases h2 : avCat2 v with
    | true =>
      rw [h2] at hc
      have hc2 : (sCv b0 L v).category = 2 := by simpa using hc
      have e1 : eArg (v :: r) = some v :: none :: eArg r := by simp only [eArg, h2]
      rw [e1]
      show (n, sCv b0 L v) :: sLv b0 L (n + 1 + 1) (eArg r) = (n, sCv b0 L v) :: lv_args (if (sCv b0 L v).category = 2 then n + 2 else n + 1) (r.map (sCv b0 L))
      rw [if_pos hc2, sLv_args r (n + 1 + 1)]
    | false =>
      have hc1 := cat1 (b0 := b0) (L := L) h2
      have e1 : eArg (v :: r) = some v :: eArg r := by simp only [eArg, h2]
      rw [e1]
      show (n, sCv b0 L v) :: sLv b0 L (n + 1) (eArg r) = (n, sCv b0 L v) :: lv_args (if (sCv b0 L v).category = 2 then n + 2 else n + 1) (r.map (sCv b0 L))
      rw [if_neg (by omega), sLv_args r (n + 1)]
theorem eArg_len {b0 : Nat} {L : sLay} : ∀ (as : List AV), (lg_sl (as.map (sCv b0 L))).length = (eArg as).length
  | [] => rfl
  | v :: r => by
    have hc := avCat (b0 := b0) (L := L) v
    have ih := eArg_len (b0 := b0) (L := L) r
    have e0 : lg_sl ((v :: r).map (sCv b0 L)) = (if (sCv b0 L v).category = 2 then [Slot.val (sCv b0 L v), Slot.second] else [Slot.val (sCv b0 L v)]) ++ lg_sl (r.map (sCv b0 L)) := rfl
    rw [e0, List.length_append, ih]
    cases h2 : avCat2 v with
    | true =>
      rw [h2] at hc
      have hc2 : (sCv b0 L v).category = 2 := by simpa using hc
      have e1 : eArg (v :: r) = some v :: none :: eArg r := by simp only [eArg, h2]
      rw [e1, if_pos hc2]
      simp; omega
    | false =>
      have hc1 := cat1 (b0 := b0) (L := L) h2
      have e1 : eArg (v :: r) = some v :: eArg r := by simp only [eArg, h2]
      rw [e1, if_neg (by omega)]
      simp; omega
section
variable {p : Program} {l : Launch} {e : Env} {R : Room} {s : State} {m : MethodId} {args : Array Value} {below : List Frame} {meth : Method} {c : Code} {D : va_G} {b0 : Nat} {ty : Nat → ClassId} {L : sLay} {nL : Nat} {cc : ByteArray} {own : String} {post : List AV → sMem → Prop}
/-- a plain body's ends -/
theorem plain_ret {ret : Option FieldType} (hx : p.tables.exec = Jvm.exec) (hb : c.code = cc) (hr : meth.sig.returnType = ret) (hlocks : meth.locks = false) : ∀ i pc r σ, xRet i ret r → decode cc pc = .ok (i, 1) → post r σ → ∀ (H : Heap) (locs : List Loc) (ls : Array Slot), va_P D vwCl (sFl b0 ty L σ 0 L) H → va_S (sA b0 L) s.heap H locs →
    W p l e R s m args below meth c H locs 0 0 (MQ below (sQ D b0 ty L post) args s 0 0 (sA b0 L)) (F0 m pc ls (r.map (sCv b0 L))) := by
  intro i pc r σ hi hd h H locs ls hP hS
  unfold xRet at hi
  split at hi
  · obtain ⟨x, rfl, h5 | ⟨h5, h6⟩⟩ := hi
    · subst h5
      exact W.iret hx hb hr (fun t ht hW => ⟨⟨[aI x], σ, rfl, Nat.le_refl _, h, by rw [ht]; exact hP⟩, hS.F ht⟩) hS.2.2 hd
    · subst h5
      exact W.zret hx hb hr (by rcases h6 with rfl | rfl <;> decide +kernel) (fun t ht hW => ⟨⟨[aI x], σ, rfl, Nat.le_refl _, h, by rw [ht]; exact hP⟩, hS.F ht⟩) hS.2.2 hd
  · obtain ⟨x, rfl, h5⟩ := hi
    subst h5
    exact W.lret hx hb hr (fun t ht hW => ⟨⟨[aL x], σ, rfl, Nat.le_refl _, h, by rw [ht]; exact hP⟩, hS.F ht⟩) hS.2.2 hd
  · obtain ⟨⟨x, rfl⟩ | ⟨x, rfl⟩, rt, h5, h6⟩ := hi
    · subst h5
      exact W.aret hx hb hr h6 (Or.inr ⟨_, rfl⟩) (fun t ht hW => ⟨⟨[aR x], σ, rfl, Nat.le_refl _, h, by rw [ht]; exact hP⟩, hS.F ht⟩) hS.2.2 hd
    · subst h5
      exact W.aret hx hb hr h6 (Or.inr ⟨_, rfl⟩) (fun t ht hW => ⟨⟨[.inr x], σ, rfl, Nat.le_refl _, h, by rw [ht]; exact hP⟩, hS.F ht⟩) hS.2.2 hd
  · obtain ⟨rfl, h5⟩ := hi
    subst h5
    exact W.vret hx hb hr (fun t ht hW => ⟨⟨[], σ, rfl, Nat.zero_le _, h, by rw [ht]; exact hP⟩, hS.F ht⟩) hS.2.2 hd
  · exact hi.elim
/-- what a call's run needs and gives, by the callee's contract -/
theorem plain_run {nc ns : Nat} (hx : p.tables.exec = Jvm.exec) (hb : c.code = cc) (hml : c.maxLocals = nL) (hts : ∀ w ∈ sTB, w.before args s = true) (hown : s.vm.findClass own = some m.cls) (hK : va_K D vwCl (sTys ty) s) {X : xTb} (hX : xOKX own X)
    {n d : Nat} {q : xMe} {as rest : List AV} {pc : Nat} {σ : sMem} {P : List AV → sMem → Prop} (hq : X.2.2.2.lookup n = some q) (hMet : sMet l D b0 ty L d q as σ P) (hd1 : d + 1 ≤ R.frames) (hd2 : 64 + 64 * d ≤ R.locals) (hc1 : nc ≤ R.cells) (hc2 : ns ≤ R.slots) (hlen : as.length = q.1) (hsum : avSum rest ≤ 8)
    (hdg : match q.2.1 with
      | none => decode cc pc = .ok (.invokestatic n, 3)
      | some ci => decode cc pc = .ok (.invokevirtual n, 3) ∧ ∃ v bs o fs, as = aR v :: bs ∧ L[v]? = some (o, .inl (ci, fs)))
    {H : Heap} {locs : List Loc} {ls : Array Slot} {E : List (Option AV)} (hP : va_P D vwCl (sFl b0 ty L σ 0 L) H) (hl : lv_has ls nL (sLv b0 L 0 E)) :
    va_Run p l e R s m args below meth c H locs nc ns 0 0 (F0 m pc ls ((as.reverse ++ rest).map (sCv b0 L))) (rest.map (sCv b0 L)) (sQ D b0 ty L P (as.map (sCv b0 L)).toArray) (sA b0 L) := by
  obtain ⟨k, rc, y, cy, nl, rty⟩ := q
  obtain ⟨w1, w2, w6, ⟨w3, w4⟩, w5, wm⟩ := hX.2.2.2 _ (lookup_mem hq)
  have w5' : nl ≤ 45 := w5
  have hlen' : as.length = k := hlen
  cases rc with
  | none =>
    obtain ⟨x3, x4⟩ := wm
    have hG : GoodIn sTB (va_wsS own n y (sWs (k, none, y, cy, nl, rty))) := by
      intro w hw
      have hm : w ∈ sTB := by
        unfold va_wsS sWs at hw
        simp only [List.cons_append, List.nil_append, List.mem_cons] at hw
        rcases hw with rfl | rfl | rfl | rfl | hw
        · exact w1
        · exact x3
        · exact w6
        · exact w2
        · exact hw
      exact sTB_good w hm
    have cw := va_cwS (R := R) (s := s) (args := args) (own := own) (index := n) (y := y) (bytes := cy) (maxL := nl) (ret := rty) (Ts := sTB) (ws := sWs (k, none, y, cy, nl, rty)) (rm := sRm d) (mc := 0) (ms := 0) k hts hG rfl rfl rfl ⟨w3, w4, x4⟩ ⟨hd1, by show 8 + (nl + 11) + 64 * d ≤ R.locals; omega⟩
    exact va_runS (H := H) (locs := locs) (cells := nc) (slots := ns) (below := below) (e := e) (meth := meth) (As := as.map (sCv b0 L)) (rest := rest.map (sCv b0 L)) (g := F0 m pc ls ((as.reverse ++ rest).map (sCv b0 L))) ⟨hx, hb, hml, hown, hts⟩ hMet cw
      ⟨fun _ _ _ _ q => q, fun U hU hW => ⟨rfl, by rw [hU]; exact hP, va_K.moved hW.alike hK⟩⟩ rfl (by rw [List.length_map]; exact hlen') hl.1 (by rw [List.map_append, List.map_reverse]) (by show 2 * 0 + _ ≤ 8; rw [avSum_eq]; simpa using hsum) hdg ⟨hc1, hc2⟩
  | some ci =>
    obtain ⟨hd, v, bs, o, fs, rfl, hL1⟩ := hdg
    obtain ⟨r1, hr1, x1, x2, x3, x4⟩ := wm
    obtain ⟨kp, hkp, -⟩ := sAtO (b0 := b0) (ty := ty) (σ := σ) hL1
    have he : sOff L v = o := sOff_at hL1
    have hnp : (parseMethodDescriptor y.desc).map (fun d => d.parameters.length) = some bs.length := by
      have x4' : (parseMethodDescriptor y.desc).map (fun d => d.parameters.length + 1) = some k := x4
      cases hpd : parseMethodDescriptor y.desc with
      | none => rw [hpd] at x4'; cases x4'
      | some dd =>
        rw [hpd] at x4'
        have : dd.parameters.length + 1 = k := Option.some.inj x4'
        have h9 : bs.length + 1 = k := hlen'
        show some dd.parameters.length = some bs.length
        congr 1; omega
    have hG : GoodIn sTB (wsV own n y.cls y (sWs (k, some ci, y, cy, nl, rty))) := by
      intro w hw
      have hm : w ∈ sTB := by
        unfold wsV sWs at hw
        simp only [List.cons_append, List.nil_append, List.mem_cons] at hw
        rcases hw with rfl | rfl | rfl | rfl | rfl | hw
        · exact w1
        · exact x2
        · exact x3
        · exact w6
        · exact w2
        · exact hw
      exact sTB_good w hm
    have hst : ((aR v :: bs).reverse ++ rest).map (sCv b0 L) = (bs.map (sCv b0 L)).reverse ++ (.ref (b0 + sOff L v) :: rest.map (sCv b0 L)) := by
      simp [List.map_append, List.map_reverse, sCv]
    have cw := cwV (R := R) (s := s) (args := args) (own := own) (C := y.cls) (index := n) (y := y) (bytes := cy) (maxL := nl) (ret := rty) (Ts := sTB) (ws := sWs (k, some ci, y, cy, nl, rty)) (rm := sRm d) (mc := 0) (ms := 0) bs.length hts hG rfl rfl rfl ⟨rfl, w3, w4, hnp⟩ ⟨hd1, by show 8 + (nl + 11) + 64 * d ≤ R.locals; omega⟩
    obtain ⟨cell, c1, c2, c3⟩ := va_recv hK hP hr1 hkp
    exact va_runV (H := H) (locs := locs) (cells := nc) (slots := ns) (below := below) (e := e) (meth := meth) (b := b0 + sOff L v) (As := bs.map (sCv b0 L)) (rest := rest.map (sCv b0 L)) (g := F0 m pc ls (((aR v :: bs).reverse ++ rest).map (sCv b0 L))) ⟨hx, hb, hml, hown, hts⟩ hMet cw
      ⟨fun _ _ _ _ q => q, ⟨cell, by rw [he]; exact c1, c2, by have x1' : r1.1 = y.cls := x1; rw [← x1']; exact c3⟩, fun U hU hW => ⟨rfl, by rw [hU]; exact hP, va_K.moved hW.alike hK⟩⟩ rfl (by simp) hl.1 hst (by show 2 * 0 + _ ≤ 8; rw [avSum_eq]; simpa using hsum) hd ⟨hc1, hc2⟩
/-- a call goes on -/
theorem run_on {nc ns : sMem → Nat} {Q : State → Prop} {as : List AV} {σ : sMem} {P : List AV → sMem → Prop} {H : Heap} {locs : List Loc} {ls : Array Slot} {pc : Nat} {E : List (Option AV)} {rest : List AV} {st0 : List Value}
    (hr : va_Run p l e R s m args below meth c H locs (nc σ) (ns σ) 0 0 (F0 m pc ls st0) (rest.map (sCv b0 L)) (sQ D b0 ty L P (as.map (sCv b0 L)).toArray) (sA b0 L)) (hS : va_S (sA b0 L) s.heap H locs) (hl : lv_has ls nL (sLv b0 L 0 E)) (hn : ∀ r σ', P r σ' → nc σ' = nc σ ∧ ns σ' = ns σ)
    (hk : ∀ r σ', P r σ' → sK p l e R s m args below meth c D b0 ty L nL nc ns Q (pc + 3) E (r ++ rest) σ') : W p l e R s m args below meth c H locs (nc σ) (ns σ) Q (F0 m pc ls st0) := by
  intro T hT X
  obtain ⟨v, st₀, t, T', Ls, h0, X', hL, e1, e2, ⟨⟨r, σ', hv, hlen, hp, hP'⟩, hz, hk2⟩, st⟩ := hr T hT X
  rw [h0] at hz hk2
  have hS' : va_S (sA b0 L) s.heap T'.heap (locs ++ Ls) := ⟨Nat.le_trans hS.1 (by rw [e1]; exact hz), fun q h1 h2 => by rw [e1, hk2 q (Nat.lt_of_lt_of_le h1 hS.1) h2]; exact hS.2.1 q h1 h2, fun q hq => by
      rcases List.mem_append.mp hq with h | h
      · exact hS.2.2 q h
      · exact hL q h⟩
  obtain ⟨n1, n2⟩ := hn r σ' hp
  have hk' := hk r σ' hp T'.heap (locs ++ Ls) ls (by rw [e1]; exact hP') hS' hl
  rw [n1, n2] at hk'
  obtain ⟨t2, a1, b1⟩ := hk' T' rfl X'
  refine ⟨t2, st t2 ?_, b1⟩
  cases hv
  cases r with
  | nil => exact a1
  | cons v1 r1 =>
    cases r1 with
    | nil => exact a1
    | cons v2 r2 => simp at hlen
end
set_option maxHeartbeats 1000000 in
theorem sMet_intro {l : Launch} {D : va_G} {b0 : Nat} {ty : Nat → ClassId} {L : sLay} (hnd : (sAdr L).Nodup) {d k nL : Nat} {rc : Option Nat} {y : MethodName} {cc : ByteArray} {ret : Option FieldType} {X : xTb} {T : xCode} (hT : xOK cc T = true) (hX : xOKX y.cls X) (hpl : plainName y.cls = true)
    {as : List AV} {σ : sMem} {post : List AV → sMem → Prop} (hlen : Nat.ble (eArg as).length nL = true)
    (body : ∀ K : Nat → List (Option AV) → List AV → sMem → Prop, (∀ pc E st σ, xw L nL X T none (sCalD l D b0 ty L d) ret post K pc E st σ → K pc E st σ) → K 0 (eArgs nL as) [] σ) : sMet l D b0 ty L d (k, rc, y, cc, nL, ret) as σ post := by
  refine Met.ofW (cc := cc) (maxL := nL) (ret := ret) hpl rfl ?_
  intro p e s m args below meth c s₁ B hml hv
  obtain ⟨rfl, hP, hK⟩ := hv
  have hts0 := atoms_spec (ws := sWs (k, rc, y, cc, nL, ret)) B.pre
  have hts : ∀ w ∈ sTB, w.before ((as.map (sCv b0 L)).toArray) s = true := fun w h => hts0 w (List.mem_cons_of_mem _ h)
  have hown : s.vm.findClass y.cls = some m.cls := findClass_of_methodNamed B.named
  have hle : (eArg as).length ≤ nL := Nat.le_of_ble_eq_true hlen
  have hl0 := lv_entry (as.map (sCv b0 L)) (n := nL) (by rw [eArg_len]; exact hle)
  rw [lg_entry_eq]
  generalize (lg_sl (as.map (sCv b0 L)) ++ List.replicate (nL - (lg_sl (as.map (sCv b0 L))).length) Slot.unset).toArray = ls at hl0 ⊢
  have hl : lv_has ls nL (sLv b0 L 0 (eArgs nL as)) := by
    unfold eArgs
    rw [sLv_app, sLv_args]
    exact hl0
  refine body (sK p l e (sRm d) s m ((as.map (sCv b0 L)).toArray) below meth c D b0 ty L nL (fun _ => 0) (fun _ => 0) (MQ below (sQ D b0 ty L post) ((as.map (sCv b0 L)).toArray) s 0 0 (sA b0 L))) ?_ s.heap [] ls hP va_S.rf hl
  intro pc E st σ h
  unfold xw at h
  split at h
  · rename_i i len nx tg hlk
    have hq := List.all_eq_true.mp hT _ (lookup_mem hlk)
    simp only [Bool.and_eq_true, decide_eq_true_eq] at hq
    refine xi_sound (own := y.cls) B.exec B.bytes hml hts hown hK hnd hX (fun _ _ _ _ _ _ _ => rfl) (fun _ _ _ _ _ _ _ => rfl) (scr := none) (fun _ _ _ h => by cases h) (plain_ret B.exec B.bytes B.returns B.notSynchronized) ?_ hq.1.1 hq.2 hq.1.2 h
    intro n q as rest pc E σ P hq1 hc hlen1 hsum hdg hk H locs ls hP hS hl
    cases d with
    | zero => exact hc.elim
    | succ k => exact run_on (σ := σ) (nc := fun _ => 0) (ns := fun _ => 0) (plain_run B.exec B.bytes hml hts hown hK hX hq1 hc (Nat.le_refl _) (by show 64 + 64 * k ≤ 64 * (k + 1); omega) (Nat.zero_le _) (Nat.zero_le _) hlen1 hsum hdg hP hl) hS hl (fun _ _ _ => ⟨rfl, rfl⟩) hk
  · exact h.elim
/-- weaker ends -/
theorem sMet_mono {l : Launch} {D : va_G} {b0 : Nat} {ty : Nat → ClassId} {L : sLay} {d : Nat} {q : xMe} {as : List AV} {σ : sMem} {P P' : List AV → sMem → Prop} (h : sMet l D b0 ty L d q as σ P) (hp : ∀ r σ', P r σ' → P' r σ') : sMet l D b0 ty L d q as σ P' := by
  unfold sMet Met at h ⊢
  refine Jvm.Free.MetFree.mono (P := va_Pc (as.map (sCv b0 L)) (fun U => va_P D vwCl (sFl b0 ty L σ 0 L) U.heap ∧ va_K D vwCl (sTys ty) U)) h (fun _ _ q => q) (fun _ _ _ _ _ q => q) ?_
  rintro a s o s' - ⟨⟨⟨r, σ', h1, h2, h3, h4⟩, h5⟩, h6⟩
  exact ⟨⟨⟨r, σ', h1, h2, hp _ _ h3, h4⟩, h5⟩, h6⟩
