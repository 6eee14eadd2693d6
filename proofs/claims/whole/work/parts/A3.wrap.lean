/-! THE LAW'S METHODS THAT CATCH -/
abbrev wM : Type := MethodName × ByteArray × Nat × List (Nat × Nat × Nat × Nat)
def wMet (l : Launch) (D : va_G) (b0 : Nat) (ty : Nat → ClassId) (ad av : Nat → Nat) (d : Nat) (q : wM) (as : List AV) (σ : sMem) (post : List AV → sMem → Prop) : Prop := l.stackTraces = false →
  vx_Met l q.1 (Cond.codeWith q.1 q.2.1 q.2.2.1 (some .int) q.2.2.2 :: sTB) (yRm d 1) (yPc D b0 ty lay ad av as σ) (sQ D b0 ty lay post) (yX D b0 ty lay (fun _ _ => False)) 1 (12 * 1) (sA b0 lay)
/-- what a call of the class gives, caught: 0 and the answer in the row of one long, or the exception's number -/
def wPo (P : List AV → sMem → Prop) (XP : String → sMem → Prop) (cd : String → Option Int32) (r : List AV) (σ' : sMem) : Prop := (∃ v σ1, P [aI v] σ1 ∧ r = [aI 0] ∧ σ' = sUp σ1 100 0 0 v) ∨ ∃ e k, XP e σ' ∧ cd e = some k ∧ r = [aI k]
def wXh (cp : Nat) (hp : String → Option Nat) (K : Nat → Nat → List (Option AV) → List AV → sMem → Prop) : Nat → Nat → List (Option AV) → String → sMem → Prop := fun c nx E e σ' => nx = cp + 3 ∧ ∃ h, hp e = some h ∧ ∀ a, K c h E [.inl (.retAddr a)] σ'
/-- how an exception finds its handler -/
def wCat (hh : List (Nat × Nat × Nat × Nat)) (cp : Nat) (hp : String → Option Nat) : Prop := ∀ e h, hp e = some h → ∃ pre x suf name, tableOf hh = pre ++ x :: suf ∧ x.handlerPc = h ∧ covers x cp = true ∧ x.catchType ≠ 0 ∧ Cond.classLink RL x.catchType name ∈ sTB ∧ Cond.castable e name ∈ yTw ∧ ∀ z ∈ pre, z.catchType ≠ 0 ∧ Cond.classLink RL z.catchType yNSE ∈ sTB ∧ e = yIAE
section
variable {l : Launch} {D : va_G} {b0 : Nat} {ty : Nat → ClassId} {ad av : Nat → Nat}
set_option maxHeartbeats 1000000 in
theorem wMet_intro {d nL : Nat} {y : MethodName} {cc : ByteArray} {hh : List (Nat × Nat × Nat × Nat)} {X : xTb} {T : xCode} (hy : y.cls = RL) (hT : xOK cc T = true) (hX : xOKX RL X) {cp : Nat} {hp : String → Option Nat} (hcat : wCat hh cp hp)
    {as : List AV} {σ : sMem} {post : List AV → sMem → Prop} (hlen : Nat.ble (eArg as).length nL = true)
    (body : ∀ K : Nat → Nat → List (Option AV) → List AV → sMem → Prop, (∀ c pc E st σ, yw lay nL X ([], [], [], [], []) T none ad d (sCalD l D b0 ty lay d) (yCalD l D b0 ty ad av lay d) (some .int) post (fun _ _ => False) (wXh cp hp K) K c pc E st σ → K c pc E st σ) → K 1 0 (eArgs nL as) [] σ) : wMet l D b0 ty ad av d (y, cc, nL, hh) as σ post := by
  intro hlt
  refine vx_ofWH (cc := cc) (maxL := nL) (ret := some .int) (by show plainName y.cls = true; rw [hy]; decide +kernel) rfl ?_
  intro p e s m args below meth c s₁ B hml hv
  obtain ⟨rfl, hP, hK, hE⟩ := hv
  have hts0 := atoms_spec (ws := Cond.codeWith y cc nL (some .int) hh :: sTB) B.pre
  have hts : ∀ w ∈ sTB, w.before ((as.map (sCv b0 lay)).toArray) s = true := fun w h => hts0 w (List.mem_cons_of_mem _ h)
  have hown : s.vm.findClass RL = some m.cls := by have := findClass_of_methodNamed B.named; rw [← hy]; exact this
  have htb : c.exceptionTable.toList = tableOf hh := vx_table (x := y) B (hts0 _ List.mem_cons_self)
  have hle : (eArg as).length ≤ nL := Nat.le_of_ble_eq_true hlen
  have hl0 := lv_entry (as.map (sCv b0 lay)) (n := nL) (by rw [eArg_len]; exact hle)
  rw [lg_entry_eq]
  generalize (lg_sl (as.map (sCv b0 lay)) ++ List.replicate (nL - (lg_sl (as.map (sCv b0 lay))).length) Slot.unset).toArray = ls at hl0 ⊢
  have hl : lv_has ls nL (sLv b0 lay 0 (eArgs nL as)) := by
    unfold eArgs
    rw [sLv_app, sLv_args]
    exact hl0
  have key := body (yK p l e (yRm d 1) s m ((as.map (sCv b0 lay)).toArray) below meth c D b0 ty lay nL 1 (vx_MQ below (sQ D b0 ty lay post) (yX D b0 ty lay (fun _ _ => False)) ((as.map (sCv b0 lay)).toArray) s 1 (12 * 1) (sA b0 lay))) ?_ (Nat.le_refl _) s.heap [] ls hP va_S.rf hl
  · exact key
  intro c1 pc E st σ h
  unfold yw at h
  split at h
  · rename_i i len nx tg hlk
    have hq := List.all_eq_true.mp hT _ (lookup_mem hlk)
    simp only [Bool.and_eq_true, decide_eq_true_eq] at hq
    refine yi_sound (own := RL) (xp := fun _ _ => False) B.exec B.bytes hml hts hown hK lay_nd hX (Y := ([], [], [], [], [])) ⟨fun _ h => absurd h List.not_mem_nil, fun _ h => absurd h List.not_mem_nil, fun _ h => absurd h List.not_mem_nil, fun _ h => absurd h List.not_mem_nil, fun _ h => absurd h List.not_mem_nil⟩ hE hlt (d := d) (n := 1) rfl rfl (Nat.le_refl _) (Nat.le_refl _) B.notSynchronized (scr := none) (fun _ _ _ h => by cases h)
      (fun k i pc r σ hk hi hd hp H locs ls hP hS => y_ret (n := 1) (by omega) (by omega) B.exec B.bytes B.returns B.notSynchronized i pc r σ hi hd hp H locs ls hP hS)
      (fun q hq => absurd hq List.not_mem_nil) ?_ hq.1.1 hq.2 hq.1.2 h
    intro k pc E en σ' hk hx H1 locs1 ls q ce st hP1 hS1 hl1 h1 h2 h3
    obtain ⟨hpc, hd, hhp, hKh⟩ := hx
    have hpc' : pc = cp := by omega
    subst hpc'
    obtain ⟨pre, x, suf, name, g1, g2, g3, g4, g5, g6, g7⟩ := hcat en hd hhp
    refine vx_catch (own := RL) (name := name) (E := en) hown pre x suf (by rw [htb]; exact g1) (fun z hz => ?_) g3 g4 (hts _ g5) (va_Nw.use (yTw_on _ g6) (hE.2.2.1 _ g6)) h1 h2 h3 ?_
    · obtain ⟨f1, f2, f3⟩ := g7 z hz
      exact Or.inr ⟨f1, yNSE, hts _ f2, by rw [f3]; exact hE.2.2.2.2.2.2.2.2.1⟩
    · rw [g2]
      exact hKh q hk H1 locs1 ls hP1 hS1 hl1
  · exact h.elim
end
section
variable {p : Program} {l : Launch} {e : Env} {R R' : Room} {s : State} {m : MethodId} {args : Array Value} {below : List Frame} {meth : Method} {c : Code} {H : Heap} {locs : List Loc} {cells slots : Nat} {Q : State → Prop}
theorem w_room (h1 : R'.frames ≤ R.frames) (h2 : R'.locals ≤ R.locals) (h3 : R'.cells ≤ R.cells) (h4 : R'.slots ≤ R.slots) {g : JFrame} (k : W p l e R' s m args below meth c H locs cells slots Q g) : W p l e R s m args below meth c H locs cells slots Q g := by
  intro T hT X
  refine k T hT { X with room := ?_ }
  have h := X.room
  simp only [State.hasRoom, Bool.and_eq_true, decide_eq_true_eq] at h ⊢
  obtain ⟨⟨⟨⟨a1, a2, a3, a4, a5, a6⟩, a7⟩, a8⟩, a9⟩ := h
  exact ⟨⟨⟨⟨by omega, by omega, by omega, by omega, by omega, a6⟩, by omega⟩, by omega⟩, a9⟩
theorem w_size {g : JFrame} (k : H.size ≤ s.heap.size + cells → W p l e R s m args below meth c H locs cells slots Q g) : W p l e R s m args below meth c H locs cells slots Q g := by
  intro T hT X
  refine k ?_ T hT X
  have := X.same.2.2.1
  have e9 : (T.setVm s.vm).heap = H := hT
  rw [e9] at this
  exact this
end
