/-! THE LAW: its end, its calls of methods that catch, its walk -/
def R_law : String := "LedStrangersLaw"
def lw_P (b : Addr) (xs : List Int32) (args : Array Value) (s : State) : Prop := args = #[.ref b] ∧ s.IntsAt b xs ∧ xs.length ≤ 3072 ∧ (Jvm.Cond.and given_1 narrow_1).before args s = true
def lw_Q (_ : Array Value) (s : State) (o : Outcome) (t : State) : Prop := o = .returned (some (.int 1)) ∧ Framed s o t [] 601024 7293034
def lw_Z (below : List Frame) (a : Array Value) (s : State) : State → Prop := fun t => ∃ o, t.status = .running ∧ Ended t below o ∧ lw_Q a s o t
/-- the law's own end, with 1 on the stack, nothing written that was there before, its room as the claim has it -/
theorem lw_ret {R : Room} {p : Program} {l : Launch} {e : Env} {s : State} {m : MethodId} {below : List Frame} {meth : Method} {c : Code} {b : Nat} (hx : p.tables.exec = Jvm.exec) (hb : c.code = code) (hr : meth.sig.returnType = ret) (hlocks : meth.locks = false) {pc : Nat} {H : Heap} {ls : Array Slot} (hdg : decode code pc = .ok (.ireturn, 1)) : W p l e R s m #[Value.ref b] below meth c H [] 601024 7293034 (lw_Z below #[Value.ref b] s) (F0 m pc ls [.int 1]) := by
  intro T hT X
  obtain ⟨fs, hret, hrun, hended, hW, hframe⟩ := X.leave (v := some (.int 1)) (hlocks := hlocks) (fun h => by rw [hr] at h; cases h)
  have hmeth' : T.vm.method? m = some meth := X.method'
  refine ⟨T.setFrames fs, ?_, .returned (some (.int 1)), hrun, hended, rfl, ⟨_, rfl⟩, hW, hframe⟩
  jvm_step X.here [X.here.top, hx, hb, hdg, hmeth', hr, ret, narrow_b1]
  (try refine ⟨rfl, ?_⟩); (try refine ⟨rfl, ?_⟩)
  first | (intro acts; rw [hret _ acts rfl rfl rfl]) | rw [hret _ _ rfl rfl rfl]
  exact Steps.refl _
/-- what holds at the law's entry -/
def lw_At (p : Program) (s : State) (m : MethodId) (meth : Method) (c : Code) (b L : Nat) (xs : Nat → Int32) : Prop :=
  p.tables.exec = Jvm.exec ∧ c.code = code ∧ meth.sig.returnType = ret ∧ c.maxLocals = 7 ∧ s.vm.findClass R_law = some m.cls ∧ (∀ w ∈ lw_tbl, w.before #[Value.ref b] s = true) ∧ va_X b L xs s s.heap ∧ b < s.heap.size ∧ meth.locks = false ∧ (Jvm.Cond.and given_1 narrow_1).before #[Value.ref b] s = true
def wOK (ix : Nat) (q : wM) (n : Nat) : Prop := Cond.methodLink RL ix q.1 ∈ sTB ∧ Cond.static q.1 ∈ sTB ∧ Cond.codeWith q.1 q.2.1 q.2.2.1 (some .int) q.2.2.2 ∈ sTB ∧ q.1.cls = RL ∧ (parseMethodDescriptor q.1.desc).map (fun d => d.parameters.length) = some n ∧ q.2.2.1 ≤ 45
def LLR (l : Launch) (D : va_G) (b0 : Nat) (ty : Nat → ClassId) (ad av : Nat → Nat) (b L : Nat) (xs : Nat → Int32) (K : Nat → Nat → List (Option AV) → List AV → sMem → Prop) : Prop := ∀ T, xOK code T = true → ∀ c pc E st σ, yw lay 7 xXL ([], [], [], [], []) T (some (b, L, xs)) ad 202 (sCalD l D b0 ty lay 202) (yCalD l D b0 ty ad av lay 202) ret (fun r _ => r = [aI 1]) (fun _ _ => False) (fun _ _ _ _ _ => False) K c pc E st σ → K c pc E st σ
def LLW (l : Launch) (D : va_G) (b0 : Nat) (ty : Nat → ClassId) (ad av : Nat → Nat) (K : Nat → Nat → List (Option AV) → List AV → sMem → Prop) : Prop := ∀ (q : wM) (ix n c pc : Nat) (E : List (Option AV)) (as rest : List AV) (σ : sMem) (P : List AV → sMem → Prop), wOK ix q n → decode code pc = .ok (.invokestatic ix, 3) → as.length = n → avSum rest ≤ 8 → wMet l D b0 ty ad av 201 q as σ P → (∀ r σ', P r σ' → K c (pc + 3) E (r ++ rest) σ') → K (c + 1) pc E (as.reverse ++ rest) σ
section
variable {p : Program} {l : Launch} {e : Env} {s : State} {m : MethodId} {below : List Frame} {meth : Method} {c : Code} {b L : Nat} {xs : Nat → Int32} {D : va_G} {ty : Nat → ClassId} {ad av : Nat → Nat}
theorem law_intro (hlt : l.stackTraces = false) (hL : L ≤ 3072) (C0 : lw_At p s m meth c b L xs) (hK : va_K D vwCl (sTys ty) s) (hE : yEnv ad av (sA s.heap.size lay) s s.heap) {n : Nat} (hn : n ≤ 10000) {k0 pc0 : Nat} {E0 : List (Option AV)} {σ0 : sMem}
    (body : ∀ K : Nat → Nat → List (Option AV) → List AV → sMem → Prop, LLR l D s.heap.size ty ad av b L xs K → LLW l D s.heap.size ty ad av K → K k0 pc0 E0 [] σ0) :
    yK p l e (yRm 202 n) s m #[Value.ref b] below meth c D s.heap.size ty lay 7 n (lw_Z below #[Value.ref b] s) k0 pc0 E0 [] σ0 := by
  obtain ⟨hx, hb, hr, hml, hown, hts0, hX, hbl, hlocks, hgv⟩ := id C0
  have hts : ∀ w ∈ sTB, w.before #[Value.ref b] s = true := fun w hw => hts0 w (List.mem_filter.mp hw).1
  have hown' : s.vm.findClass RL = some m.cls := hown
  refine body (yK p l e (yRm 202 n) s m #[Value.ref b] below meth c D s.heap.size ty lay 7 n (lw_Z below #[Value.ref b] s)) ?_ ?_
  · intro T hT c1 pc E st σ h
    unfold yw at h
    split at h
    · rename_i i len nx tg hlk
      have hq := List.all_eq_true.mp hT _ (lookup_mem hlk)
      simp only [Bool.and_eq_true, decide_eq_true_eq] at hq
      refine yi_sound (own := RL) (xp := fun _ _ => False) hx hb hml hts hown' hK lay_nd xXL_ok (Y := ([], [], [], [], [])) ⟨fun _ h => absurd h List.not_mem_nil, fun _ h => absurd h List.not_mem_nil, fun _ h => absurd h List.not_mem_nil, fun _ h => absurd h List.not_mem_nil, fun _ h => absurd h List.not_mem_nil⟩ hE hlt (d := 202) (n := n) rfl rfl (Nat.le_refl _) (Nat.le_refl _) hlocks (scr := some (b, L, xs)) (fun b' n' xs' h => by
          cases h
          exact ⟨hX, hbl, fun q => by obtain ⟨a, -, ha⟩ := q; omega, by omega⟩)
        (fun k i pc r σ hk hi hd hp H locs ls hP hS => ?_) (fun q hq => absurd hq List.not_mem_nil) (fun _ _ _ _ _ _ h => h.elim) hq.1.1 hq.2 hq.1.2 h
      subst hp
      have hi9 : i = .ireturn := by
        rcases hi with hi | ⟨-, ⟨x, hx9⟩, -⟩
        · unfold xRet at hi
          split at hi
          · rfl
          · obtain ⟨x, hx9, -⟩ := hi
            cases hx9
          · obtain ⟨⟨x, hx9⟩ | ⟨x, hx9⟩, -⟩ := hi <;> cases hx9
          · obtain ⟨hx9, -⟩ := hi
            cases hx9
          · exact hi.elim
        · cases hx9
      subst hi9
      refine va_forget (fun q hq => ?_) (W.widen (by omega) (by omega) (lw_ret hx hb hr hlocks hd))
      obtain ⟨a, -, ha⟩ := hS.2.2 q hq
      rw [ha]
      exact Nat.le_add_right _ _
    · exact h.elim
  · intro q ix n1 c1 pc E as rest σ P hw hd hlen hsum hM hk hkn H locs ls hP hS hl
    obtain ⟨w1, w2, w3, w4, w5, w6⟩ := hw
    have hG : GoodIn sTB (va_wsS RL ix q.1 (Cond.codeWith q.1 q.2.1 q.2.2.1 (some .int) q.2.2.2 :: sTB)) := by
      intro w hw
      have hm : w ∈ sTB := by
        unfold va_wsS at hw
        simp only [List.cons_append, List.nil_append, List.mem_cons] at hw
        rcases hw with rfl | rfl | rfl | rfl | hw
        · exact w1
        · exact w2
        · rw [w4]; exact wq 105 (by decide +kernel) (by decide +kernel)
        · exact w3
        · exact hw
      exact sTB_good w hm
    have hEH : yEnv ad av (sA s.heap.size lay) s H := hE.kept hS.2.1
    have hcw := vx_cwSW (R := yRm 202 n) (s := s) (args := #[Value.ref b]) (own := RL) (index := ix) (y := q.1) (bytes := q.2.1) (maxL := q.2.2.1) (ret := some .int) (hh := q.2.2.2) (Ts := sTB) (rm := yRm 201 1) (mc := 1) (ms := 12 * 1) n1 hts hG rfl rfl rfl ⟨by rw [w4]; decide +kernel, by rw [w4]; decide +kernel, w5⟩ ⟨by show 201 + 1 ≤ 202; decide, by show 8 + (q.2.2.1 + 11) + 64 * 201 ≤ 64 * 202; omega⟩
    have hrun := vx_runSX (hh := q.2.2.2) (H := H) (locs := locs) (cells := n - (c1 + 1)) (slots := 12 * (n - (c1 + 1))) (below := below) (e := e) (meth := meth) (As := as.map (sCv s.heap.size lay)) (rest := rest.map (sCv s.heap.size lay)) (g := F0 m pc ls ((as.reverse ++ rest).map (sCv s.heap.size lay))) ⟨hx, hb, hml, hown', hts⟩ (hM hlt) hcw
      ⟨yPc_blind, fun U hU hW => ⟨rfl, by rw [hU]; exact hP, va_K.moved hW.alike hK, by rw [hU]; exact yEnv.warm hW hEH⟩⟩ rfl (by rw [List.length_map]; exact hlen) hl.1 (by rw [List.map_append, List.map_reverse]) (by show 2 * 0 + _ ≤ 8; rw [avSum_eq]; simpa using hsum) hd ⟨by show n - (c1 + 1) + 1 ≤ n; omega, by show 12 * (n - (c1 + 1)) + 12 * 1 ≤ 12 * n; omega⟩
    exact y_on (n := n) (k := c1 + 1) (k' := c1) (n0 := 1) (as := as) rfl hkn rfl hrun hS hl (fun r σ' hp => hk r σ' hp) (fun en σ' h => h.elim)
end
