/-! A METHOD'S CONTRACT, with the length of a row of bytes -/
section
variable {l : Launch} {D : va_G} {b0 : Nat} {ty : Nat → ClassId} {ad av : Nat → Nat} {L : sLay}
set_option maxHeartbeats 1000000 in
theorem yMet_introB (hnd : (sAdr L).Nodup) {d n k nL : Nat} {rc : Option Nat} {y : MethodName} {cc : ByteArray} {ret : Option FieldType} {X : xTb} {Y : yTb} {T : xCode} (hT : xOK cc T = true) (hX : xOKX y.cls X) (hY : yOKY l ad av y.cls cc Y) (hpl : plainName y.cls = true)
    {as : List AV} {σ : sMem} {post : List AV → sMem → Prop} {xp : String → sMem → Prop} (hlen : Nat.ble (eArg as).length nL = true)
    (body : ∀ K : Nat → Nat → List (Option AV) → List AV → sMem → Prop, (∀ c pc E st σ, yw L nL X Y T none ad d (sCalD l D b0 ty L d) (yCalD l D b0 ty ad av L d) ret post xp (fun _ _ _ e σ => xp e σ) K c pc E st σ → K c pc E st σ) → (∀ c pc nx tg E i o n' r σ, T.lookup pc = some (.arraylength, 1, nx, tg) → L[i]? = some (o, .inr (.inl (2, n'))) → K c nx E (aI (Int32.ofNat n') :: r) σ → K c pc E (aR i :: r) σ) → K n 0 (eArgs nL as) [] σ) : yMet l D b0 ty ad av L d n (k, rc, y, cc, nL, ret) as σ post xp := by
  intro hlt
  refine vx_ofW (cc := cc) (maxL := nL) (ret := ret) hpl rfl ?_
  intro p e s m args below meth c s₁ B hml htab hv
  obtain ⟨rfl, hP, hK, hE⟩ := hv
  have hts0 := atoms_spec (ws := sWs (k, rc, y, cc, nL, ret)) B.pre
  have hts : ∀ w ∈ sTB, w.before ((as.map (sCv b0 L)).toArray) s = true := fun w h => hts0 w (List.mem_cons_of_mem _ h)
  have hown : s.vm.findClass y.cls = some m.cls := findClass_of_methodNamed B.named
  have hle : (eArg as).length ≤ nL := Nat.le_of_ble_eq_true hlen
  have hl0 := lv_entry (as.map (sCv b0 L)) (n := nL) (by rw [eArg_len]; exact hle)
  rw [lg_entry_eq]
  generalize (lg_sl (as.map (sCv b0 L)) ++ List.replicate (nL - (lg_sl (as.map (sCv b0 L))).length) Slot.unset).toArray = ls at hl0 ⊢
  have hl : lv_has ls nL (sLv b0 L 0 (eArgs nL as)) := by
    unfold eArgs
    rw [sLv_app, sLv_args]
    exact hl0
  have key := body (yK p l e (yRm d n) s m ((as.map (sCv b0 L)).toArray) below meth c D b0 ty L nL n (vx_MQ below (sQ D b0 ty L post) (yX D b0 ty L xp) ((as.map (sCv b0 L)).toArray) s n (12 * n) (sA b0 L))) ?_ ?_ (Nat.le_refl _) s.heap [] ls hP va_S.rf hl
  · have h9 : n - n = 0 := by omega
    have key2 : W p l e (yRm d n) s m ((as.map (sCv b0 L)).toArray) below meth c s.heap [] (n - n) (12 * (n - n)) (vx_MQ below (sQ D b0 ty L post) (yX D b0 ty L xp) ((as.map (sCv b0 L)).toArray) s n (12 * n) (sA b0 L)) (F0 m 0 ls []) := key
    rw [h9] at key2
    exact key2
  · intro c1 pc E st σ h
    unfold yw at h
    split at h
    · rename_i i len nx tg hlk
      have hq := List.all_eq_true.mp hT _ (lookup_mem hlk)
      simp only [Bool.and_eq_true, decide_eq_true_eq] at hq
      exact yi_sound (own := y.cls) (xp := xp) B.exec B.bytes hml hts hown hK hnd hX hY hE hlt (d := d) (n := n) rfl rfl (Nat.le_refl _) (Nat.le_refl _) B.notSynchronized (scr := none) (fun _ _ _ h => by cases h)
        (fun k i pc r σ hk hi hd hp H locs ls hP hS => y_ret (n := n) (by omega) (by omega) B.exec B.bytes B.returns B.notSynchronized i pc r σ hi hd hp H locs ls hP hS)
        (fun q _ => ⟨htab, _, rfl⟩)
        (fun k pc E en σ' hk hp H1 locs1 ls q ce st hP1 hS1 hl1 h1 h2 h3 => vx_out (fun x hx => (htab x hx).elim) B.notSynchronized h1 h2 h3 (fun t ht hal => ⟨⟨σ', hp, by rw [ht]; exact hP1⟩, by rw [ht]; exact hS1.1, fun q h4 h5 => by rw [ht]; exact hS1.2.1 q h4 h5⟩) hS1.2.2 (by omega) (by omega)) hq.1.1 hq.2 hq.1.2 h
    · exact h.elim
  · intro c1 pc nx tg E i o n' r σ hlk hL h hk H locs ls hP hS hl
    have hq := List.all_eq_true.mp hT _ (lookup_mem hlk)
    simp only [Bool.and_eq_true, decide_eq_true_eq] at hq
    obtain ⟨q, hq9, -⟩ := sAtA (b0 := b0) (ty := ty) (σ := σ) hL (by decide)
    have h2 := h hk H locs ls hP hS hl
    rw [hq.2] at h2
    have := va_alen B.exec B.bytes hK hP q 2 hq9 rfl rfl hq.1.1 h2
    simpa [sCv, sOff_at hL] using this
end
