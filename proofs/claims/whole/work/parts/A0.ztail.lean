/-! A CONSTRUCTOR'S END: from the world of cells over to a layout with its memory -/
section
variable {p : Program} {l : Launch} {e : Env} {R : Room} {s : State} {m : MethodId} {args : Array Value} {below : List Frame} {meth : Method} {c : Code} {D : va_G} {b0 : Nat} {ty : Nat → ClassId} {L : sLay} {nL : Nat} {cc : ByteArray} {own : String} {ad av : Nat → Nat}
theorem run_of_vx {H : Heap} {locs : List Loc} {cells slots mc ms : Nat} {g : JFrame} {rest : List Value} {Qa : State → Outcome → State → Prop} {free : Addr → Prop} (h : vx_Run p l e R s m args below meth c H locs cells slots mc ms g rest Qa (yX D b0 ty L (fun _ _ => False)) free) : va_Run p l e R s m args below meth c H locs cells slots mc ms g rest Qa free := by
  intro T hT X
  rcases h T hT X with ⟨v, st₀, t, T', Ls, h0, X', hL, e1, e2, hq, st⟩ | ⟨q, st₀, t, T', Ls, en, ce, h0, X', hL, e1, e2, ⟨⟨σ', hp, -⟩, -⟩, -⟩
  · exact ⟨v, st₀, t, T', Ls, h0, X', hL, e1, e2, hq, st⟩
  · exact hp.elim
/-- calls of a constructor's end: of plain methods, and of such that throw nothing and make nothing -/
def tCal (l : Launch) (D : va_G) (b0 : Nat) (ty : Nat → ClassId) (ad av : Nat → Nat) (L : sLay) (d : Nat) (q : xMe) (as : List AV) (σ : sMem) (P : List AV → sMem → Prop) : Prop := sCalD l D b0 ty L d q as σ P ∨ yCalD l D b0 ty ad av L d 0 q as σ P (fun _ _ => False)
theorem zTail {bz nc ns d : Nat} {w : List zC} {E : List zV} (hx : p.tables.exec = Jvm.exec) (hb : c.code = cc) (hr : meth.sig.returnType = none) (hlocks : meth.locks = false) (hml : c.maxLocals = nL) (hts : ∀ w ∈ sTB, w.before args s = true) (hown : s.vm.findClass own = some m.cls) (hK : va_K D vwCl (sTys ty) s) (hE : yEnv ad av (sA b0 L) s s.heap) (hlt : l.stackTraces = false)
    (hnd : (sAdr L).Nodup) {X : xTb} (hX : xOKX own X) {T : xCode} (hT : xOK cc T = true) (hRf : d ≤ R.frames) (hRl : 64 * d ≤ R.locals) (hRc : nc ≤ R.cells) (hRs : ns ≤ R.slots)
    {σ0 : sMem} (hw : sFl b0 ty L σ0 0 L = zFl bz ty 0 w) (hsz : s.heap.size = bz + 1) (hself : sA b0 L bz) (hlow : ∀ q, sA b0 L q → bz ≤ q) {post : sMem → Prop} {pc0 : Nat} {E0 : List (Option AV)} (hE0 : ∀ ls : Array Slot, lv_has ls nL [] → (∀ (k : Nat) (v : zV), E[k]? = some v → ls[k]? = some (Slot.val (zv bz v))) → lv_has ls nL (sLv b0 L 0 E0))
    (body : ∀ K : Nat → List (Option AV) → List AV → sMem → Prop, (∀ pc E st σ, xw L nL X T none (tCal l D b0 ty ad av L d) none (fun _ σ => post σ) K pc E st σ → K pc E st σ) → K pc0 E0 [] σ0) :
    zK p l e R s m args below meth c D bz ty nL E (MQ below (va_Qv post (fun σ t => va_P D vwCl (sFl b0 ty L σ 0 L) t.heap) (fun q => bz ≤ q)) args s nc ns (fun q => bz ≤ q)) pc0 [] w nc ns := by
  intro H locs ls hP hszH hS hl hEl
  refine w_filt ?_
  have hS' : va_S (sA b0 L) s.heap H (locs.filter fun q => decide (q.base < s.heap.size)) := by
    refine ⟨hS.1, fun q h1 h2 => hS.2.1 q h1 (fun (z : bz ≤ q) => h2 ?_), fun q hq => ?_⟩
    · have : q = bz := by omega
      rw [this]; exact hself
    · obtain ⟨q1, q2⟩ := List.mem_filter.mp hq
      have q3 : q.base < s.heap.size := of_decide_eq_true q2
      have q4 : bz ≤ q.base := hS.2.2 q q1
      have : q.base = bz := Nat.le_antisymm (Nat.lt_succ_iff.mp (by rw [hsz] at q3; exact q3)) q4
      rw [this]; exact hself
  refine body (sK p l e R s m args below meth c D b0 ty L nL (fun _ => nc) (fun _ => ns) (MQ below (va_Qv post (fun σ t => va_P D vwCl (sFl b0 ty L σ 0 L) t.heap) (fun q => bz ≤ q)) args s nc ns (fun q => bz ≤ q))) ?_ H _ ls (by rw [hw]; exact hP) hS' (hE0 ls hl hEl)
  intro pc E st σ h
  unfold xw at h
  split at h
  · rename_i i len nx tg hlk
    have hq := List.all_eq_true.mp hT _ (lookup_mem hlk)
    simp only [Bool.and_eq_true, decide_eq_true_eq] at hq
    refine xi_sound (own := own) hx hb hml hts hown hK hnd hX (fun _ _ _ _ _ _ _ => rfl) (fun _ _ _ _ _ _ _ => rfl) (scr := none) (fun _ _ _ h => by cases h) (fun i pc r σ hi hd hp H locs ls hP hS => ?_) ?_ hq.1.1 hq.2 hq.1.2 h
    · unfold xRet at hi
      split at hi
      · obtain ⟨x, rfl, h5 | ⟨h5, -⟩⟩ := hi <;> cases h5
      · obtain ⟨x, rfl, h5⟩ := hi
        cases h5
      · obtain ⟨-, rt, h5, -⟩ := hi
        cases h5
      · obtain ⟨rfl, -⟩ := hi
        exact W.vret hx hb hr (fun t ht hW => ⟨⟨σ, rfl, hp, by show va_P D vwCl _ t.heap; rw [ht]; exact hP⟩, by rw [ht]; exact hS.1, fun q h1 h2 => by rw [ht]; exact hS.2.1 q h1 (fun z => h2 (hlow q z))⟩) (fun q hq => hlow _ (hS.2.2 q hq)) hd
      · exact hi.elim
    · intro n q as rest pc E σ P hq1 hc hlen1 hsum hdg hk H locs ls hP hS hl
      cases d with
      | zero => rcases hc with hc | hc <;> exact hc.elim
      | succ k =>
        rcases hc with hc | hc
        · exact run_on (σ := σ) (nc := fun _ => nc) (ns := fun _ => ns) (plain_run hx hb hml hts hown hK hX hq1 hc (by omega) (by omega) hRc hRs hlen1 hsum hdg hP hl) hS hl (fun _ _ _ => ⟨rfl, rfl⟩) hk
        · exact run_on (σ := σ) (nc := fun _ => nc) (ns := fun _ => ns) (run_of_vx (y_run hx hb hml hts hown hK hE hlt hX hq1 hc (by omega) (by omega) (by omega) (by omega) hlen1 hsum hdg hP hS hl)) hS hl (fun _ _ _ => ⟨rfl, rfl⟩) hk
  · exact h.elim
end
