/-! A METHOD'S CONTRACT OUT OF ITS WALK -/
def eArg : List AV → List (Option AV)
  | [] => []
  | v :: r => match avCat2 v with
    | true => some v :: none :: eArg r
    | false => some v :: eArg r
def eArgs (nL : Nat) (as : List AV) : List (Option AV) := eArg as ++ List.replicate (nL - (eArg as).length) none
theorem sLv_none {b0 : Nat} {L : sLay} : ∀ (k n : Nat), sLv b0 L n (List.replicate k none) = []
  | 0, _ => rfl
  | k + 1, n => by
    show sLv b0 L (n + 1) (List.replicate k none) = []
    exact sLv_none k (n + 1)
theorem sLv_app {b0 : Nat} {L : sLay} (k : Nat) : ∀ (E : List (Option AV)) (n : Nat), sLv b0 L n (E ++ List.replicate k none) = sLv b0 L n E
  | [], n => sLv_none k n
  | none :: r, n => sLv_app k r (n + 1)
  | some v :: r, n => by
    show (n, sCv b0 L v) :: sLv b0 L (n + 1) (r ++ List.replicate k none) = (n, sCv b0 L v) :: sLv b0 L (n + 1) r
    rw [sLv_app k r (n + 1)]
theorem sLv_args {b0 : Nat} {L : sLay} : ∀ (as : List AV) (n : Nat), sLv b0 L n (eArg as) = lv_args n (as.map (sCv b0 L))
  | [], _ => rfl
  | v :: r, n => by
    have hc := avCat (b0 := b0) (L := L) v
    cases h2 : avCat2 v with
    | true =>
      rw [h2] at hc
      have hc2 : (sCv b0 L v).category = 2 := by simpa using hc
      have e1 : eArg (v :: r) = some v :: none :: eArg r := by simp only [eArg, h2]
      rw [e1]
      show (n, sCv b0 L v) :: sLv b0 L (n + 1 + 1) (eArg r) = (n, sCv b0 L v) :: lv_args (if (sCv b0 L v).category = 2 then n + 2 else n + 1) (r.map (sCv b0 L))
      rw [if_pos hc2, sLv_args r (n + 1 + 1)]
    | false =>
      have hc1 := cat1 (b0 := b0) (L := L) h2
      have e1 : eArg (v :: r) = some v :: eArg r := by simp only [eArg, h2]
      rw [e1]
      show (n, sCv b0 L v) :: sLv b0 L (n + 1) (eArg r) = (n, sCv b0 L v) :: lv_args (if (sCv b0 L v).category = 2 then n + 2 else n + 1) (r.map (sCv b0 L))
      rw [if_neg (by omega), sLv_args r (n + 1)]
theorem eArg_len {b0 : Nat} {L : sLay} : ∀ (as : List AV), (lg_sl (as.map (sCv b0 L))).length = (eArg as).length
  | [] => rfl
  | v :: r => by
    have hc := avCat (b0 := b0) (L := L) v
    have ih := eArg_len (b0 := b0) (L := L) r
    have e0 : lg_sl ((v :: r).map (sCv b0 L)) = (if (sCv b0 L v).category = 2 then [Slot.val (sCv b0 L v), Slot.second] else [Slot.val (sCv b0 L v)]) ++ lg_sl (r.map (sCv b0 L)) := rfl
    rw [e0, List.length_append, ih]
    cases h2 : avCat2 v with
    | true =>
      rw [h2] at hc
      have hc2 : (sCv b0 L v).category = 2 := by simpa using hc
      have e1 : eArg (v :: r) = some v :: none :: eArg r := by simp only [eArg, h2]
      rw [e1, if_pos hc2]
      simp; omega
    | false =>
      have hc1 := cat1 (b0 := b0) (L := L) h2
      have e1 : eArg (v :: r) = some v :: eArg r := by simp only [eArg, h2]
      rw [e1, if_neg (by omega)]
      simp; omega
set_option maxHeartbeats 1000000 in
theorem sMet_intro {l : Launch} {D : va_G} {b0 : Nat} {ty : Nat → ClassId} {L : sLay} (hnd : (sAdr L).Nodup) {d k nL : Nat} {rc : Option Nat} {y : MethodName} {cc : ByteArray} {ret : Option FieldType} {X : xTb} {T : xCode} (hT : xOK cc T = true) (hX : xOKX y.cls X) (hpl : plainName y.cls = true)
    {as : List AV} {σ : sMem} {post : List AV → sMem → Prop} (hlen : Nat.ble (eArg as).length nL = true)
    (body : ∀ K : Nat → List (Option AV) → List AV → sMem → Prop, (∀ pc E st σ, xw L nL X T (sCalD l D b0 ty L d) ret post K pc E st σ → K pc E st σ) → K 0 (eArgs nL as) [] σ) : sMet l D b0 ty L d (k, rc, y, cc, nL, ret) as σ post := by
  refine Met.ofW (cc := cc) (maxL := nL) (ret := ret) hpl rfl ?_
  intro p e s m args below meth c s₁ B hml hv
  obtain ⟨rfl, hP, hK⟩ := hv
  have hts0 := atoms_spec (ws := sWs (k, rc, y, cc, nL, ret)) B.pre
  have hts : ∀ w ∈ sTB, w.before ((as.map (sCv b0 L)).toArray) s = true := fun w h => hts0 w (List.mem_cons_of_mem _ h)
  have hown : s.vm.findClass y.cls = some m.cls := findClass_of_methodNamed B.named
  have hle : (eArg as).length ≤ nL := Nat.le_of_ble_eq_true hlen
  have hl0 := lv_entry (as.map (sCv b0 L)) (n := nL) (by rw [eArg_len]; exact hle)
  rw [lg_entry_eq]
  generalize (lg_sl (as.map (sCv b0 L)) ++ List.replicate (nL - (lg_sl (as.map (sCv b0 L))).length) Slot.unset).toArray = ls at hl0 ⊢
  have hl : lv_has ls nL (sLv b0 L 0 (eArgs nL as)) := by
    unfold eArgs
    rw [sLv_app, sLv_args]
    exact hl0
  refine body (sK p l e (sRm d) s m ((as.map (sCv b0 L)).toArray) below meth c D b0 ty L nL post) ?_ s.heap [] ls hP va_S.rf hl
  intro pc E st σ h
  unfold xw at h
  split at h
  · rename_i i len tg hlk
    have hq := List.all_eq_true.mp hT _ (lookup_mem hlk)
    simp only [Bool.and_eq_true, decide_eq_true_eq] at hq
    refine xi_sound (own := y.cls) B.exec B.bytes hml hts hown hK hnd hX B.returns B.notSynchronized ?_ hq.1 hq.2 h
    intro q as σ P hc
    cases d with
    | zero => exact hc.elim
    | succ k => exact ⟨k, hc, Nat.le_refl _, by show 64 + 64 * k ≤ 64 * (k + 1); omega⟩
  · exact h.elim
/-- weaker ends -/
theorem sMet_mono {l : Launch} {D : va_G} {b0 : Nat} {ty : Nat → ClassId} {L : sLay} {d : Nat} {q : xMe} {as : List AV} {σ : sMem} {P P' : List AV → sMem → Prop} (h : sMet l D b0 ty L d q as σ P) (hp : ∀ r σ', P r σ' → P' r σ') : sMet l D b0 ty L d q as σ P' := by
  unfold sMet Met at h ⊢
  refine Jvm.Free.MetFree.mono (P := va_Pc (as.map (sCv b0 L)) (fun U => va_P D vwCl (sFl b0 ty L σ 0 L) U.heap ∧ va_K D vwCl (sTys ty) U)) h (fun _ _ q => q) (fun _ _ _ _ _ q => q) ?_
  rintro a s o s' - ⟨⟨⟨r, σ', h1, h2, h3, h4⟩, h5⟩, h6⟩
  exact ⟨⟨⟨r, σ', h1, h2, hp _ _ h3, h4⟩, h5⟩, h6⟩
