/-! A METHOD THAT MAKES ONE ROW OF TWELVE INTS, and then calls nothing: its contract out of two walks -/
def aL1 (o : Nat) : sLay := lay ++ [(o, .inr (.inl (0, 12)))]
def aP2 (post : List AV → sMem → Prop) : List AV → sMem → Prop := fun r μ => (∀ v ∈ r, avN v) ∧ (∀ i k, dyB i k = true → (μ i 0 k).toNatClampNeg ≠ 101) ∧ ∃ σ', (∀ i, i ≠ 101 → μ i = nz σ' i) ∧ post r σ'
theorem dy_101 (k : Nat) : dyB 101 k = false := by
  unfold dyB
  rw [List.getElem?_eq_none (by rw [lay_len]; decide)]
theorem aMet_intro {l : Launch} {D : va_G} {b0 : Nat} {ty : Nat → ClassId} {ad av : Nat → Nat} {d k nL : Nat} {rc : Option Nat} {y : MethodName} {cc : ByteArray} {ret : Option FieldType} {X : xTb} {T : xCode} (hT : xOK cc T = true) (hX : xOKX y.cls X) (hpl : plainName y.cls = true) (harr : Cond.arrayClass .int ∈ sTB)
    {as : List AV} {σ : sMem} {post : List AV → sMem → Prop} (hlen : Nat.ble (eArg as).length nL = true) {pn : Nat} (hdn : decode cc pn = .ok (.newarray .int, 2))
    (body : ∀ (K : Nat → List (Option AV) → List AV → sMem → Prop) (K2 : Nat → Nat → List (Option AV) → List AV → sMem → Prop), (∀ pc E st σ, xw lay nL X T none (sCalD l D b0 ty lay d) ret post K pc E st σ → K pc E st σ) → (∀ o pc E st σ, xw (aL1 o) nL X T none (fun _ _ _ _ => False) ret (aP2 post) (K2 o) pc E st σ → K2 o pc E st σ) →
      (∀ E st σ, (∀ v, some v ∈ E → avN v) → (∀ v ∈ st, avN v) → (∀ o, K2 o (pn + 2) E (aR 101 :: st) (sRow (nz σ) 101 0 (fun _ => 0))) → K pn E (aI 12 :: st) σ) → K 0 (eArgs nL as) [] σ) : yMet l D b0 ty ad av lay d 1 (k, rc, y, cc, nL, ret) as σ post (fun _ _ => False) := by
  intro hlt
  refine vx_ofW (cc := cc) (maxL := nL) (ret := ret) hpl rfl ?_
  intro p e s m args below meth c s₁ B hml htab hv
  obtain ⟨rfl, hP, hK, hE⟩ := hv
  have hts0 := atoms_spec (ws := sWs (k, rc, y, cc, nL, ret)) B.pre
  have hts : ∀ w ∈ sTB, w.before ((as.map (sCv b0 lay)).toArray) s = true := fun w h => hts0 w (List.mem_cons_of_mem _ h)
  have hown : s.vm.findClass y.cls = some m.cls := findClass_of_methodNamed B.named
  have hle : (eArg as).length ≤ nL := Nat.le_of_ble_eq_true hlen
  have hl0 := lv_entry (as.map (sCv b0 lay)) (n := nL) (by rw [eArg_len]; exact hle)
  rw [lg_entry_eq]
  generalize (lg_sl (as.map (sCv b0 lay)) ++ List.replicate (nL - (lg_sl (as.map (sCv b0 lay))).length) Slot.unset).toArray = ls at hl0 ⊢
  have hl : lv_has ls nL (sLv b0 lay 0 (eArgs nL as)) := by
    unfold eArgs
    rw [sLv_app, sLv_args]
    exact hl0
  refine body (sK p l e (yRm d 1) s m ((as.map (sCv b0 lay)).toArray) below meth c D b0 ty lay nL (fun _ => 0) (fun _ => 0) (vx_MQ below (sQ D b0 ty lay post) (yX D b0 ty lay (fun _ _ => False)) ((as.map (sCv b0 lay)).toArray) s 1 (12 * 1) (sA b0 lay)))
    (fun o pc E st μ => if s.heap.size ≤ b0 + o ∧ o ∉ sAdr lay then sK p l e (yRm d 1) s m ((as.map (sCv b0 lay)).toArray) below meth c D b0 ty (aL1 o) nL (fun _ => 1) (fun _ => 12) (vx_MQ below (sQ D b0 ty lay post) (yX D b0 ty lay (fun _ _ => False)) ((as.map (sCv b0 lay)).toArray) s 1 (12 * 1) (sA b0 lay)) pc E st μ else True) ?_ ?_ ?_ s.heap [] ls hP va_S.rf hl
  · intro pc E st σ h
    unfold xw at h
    split at h
    · rename_i i len nx tg hlk
      have hq := List.all_eq_true.mp hT _ (lookup_mem hlk)
      simp only [Bool.and_eq_true, decide_eq_true_eq] at hq
      refine xi_sound (own := y.cls) B.exec B.bytes hml hts hown hK lay_nd hX (fun _ _ _ _ _ _ _ => rfl) (fun _ _ _ _ _ _ _ => rfl) (scr := none) (fun _ _ _ h => by cases h) (fun i pc r σ hi hd hp H locs ls hP hS => y_ret (n := 1) (Nat.zero_le _) (Nat.zero_le _) B.exec B.bytes B.returns B.notSynchronized i pc r σ (Or.inl hi) hd hp H locs ls hP hS) ?_ hq.1.1 hq.2 hq.1.2 h
      intro n q as rest pc E σ P hq1 hc hlen1 hsum hdg hk H locs ls hP hS hl
      cases d with
      | zero => exact hc.elim
      | succ k => exact run_on (σ := σ) (nc := fun _ => 0) (ns := fun _ => 0) (plain_run B.exec B.bytes hml hts hown hK hX hq1 hc (Nat.le_refl _) (by show 64 + 64 * k ≤ 64 * (k + 1); omega) (Nat.zero_le _) (Nat.zero_le _) hlen1 hsum hdg hP hl) hS hl (fun _ _ _ => ⟨rfl, rfl⟩) hk
    · exact h.elim
  · intro o pc E st σ h
    by_cases hc : s.heap.size ≤ b0 + o ∧ o ∉ sAdr lay
    · simp only [if_pos hc] at h ⊢
      unfold xw at h
      split at h
      · rename_i i len nx tg hlk
        have hq := List.all_eq_true.mp hT _ (lookup_mem hlk)
        simp only [Bool.and_eq_true, decide_eq_true_eq] at hq
        refine xi_sound (own := y.cls) B.exec B.bytes hml hts hown hK (nd_one hc.2) hX (fun _ _ _ _ _ _ _ => rfl) (fun _ _ _ _ _ _ _ => rfl) (scr := none) (fun _ _ _ h => by cases h) (fun i pc r μ hi hd hp H locs ls hP hS => ?_) (fun n q as rest pc E σ P _ hc9 _ _ _ _ => hc9.elim) hq.1.1 hq.2 hq.1.2 h
        obtain ⟨hr, hdy, σ', hσ, hpo⟩ := hp
        have hP1 : va_P D vwCl (sFl b0 ty lay σ' 0 lay) H := by
          have hP0 : va_P D vwCl (sFl b0 ty (aL1 o) μ 0 (aL1 o)) H := hP
          unfold aL1 at hP0
          rw [fl_one _ hdy, fl_back hσ] at hP0
          intro k q hk
          exact hP0 k q (by rw [List.getElem?_append_left (List.getElem?_eq_some_iff.mp hk).1]; exact hk)
        have hm : r.map (sCv b0 (lay ++ [(o, .inr (.inl (0, 12)))])) = r.map (sCv b0 lay) := List.map_congr_left (fun v hv => sCv_one (hr v hv))
        rw [hm]
        refine w_filt ?_
        exact y_ret (n := 1) (Nat.le_refl _) (Nat.le_refl _) B.exec B.bytes B.returns B.notSynchronized i pc r σ' (Or.inl hi) hd hpo H _ ls hP1 (s_filt hS hc.1)
      · exact h.elim
    · simp only [if_neg hc]
  · intro E st σ hEv hst h H locs ls hP hS hl
    have hb0 : b0 + 0 < H.size := fl_lt hP lay_0
    have hs0 := hS.1
    obtain ⟨o, ho⟩ : ∃ o, b0 + o = H.size := ⟨H.size - b0, by omega⟩
    have hno : o ∉ sAdr lay := fun q => by
      have := fl_lt hP q
      omega
    have h9 := h o
    simp only [if_pos (show s.heap.size ≤ b0 + o ∧ o ∉ sAdr lay from ⟨by omega, hno⟩)] at h9
    refine va_newaK B.exec B.bytes (atype := .int) (hts _ harr) rfl hdn (n := 12) (N := 12) (rest := st.map (sCv b0 lay)) rfl (by decide) (by decide) (by decide) (Nat.le_refl _) (Nat.le_refl _) rfl (fun H' cA e1 z1 o1 hAr hNm => ?_)
    have hc0 : s.vm.findClass ("[" ++ FieldType.int.toString) = some (ty 0) := (hK.2 0 (ty 0, .int) rfl).2
    have hcA : cA = ty 0 := Option.some.inj (hNm.symm.trans hc0)
    subst hcA
    have hof : sOff (aL1 o) 101 = o := by
      unfold sOff aL1
      rw [List.getElem?_append_right (by rw [lay_len]; decide), lay_len]
      rfl
    have hst9 : (aR 101 :: st).map (sCv b0 (aL1 o)) = .ref H.size :: st.map (sCv b0 lay) := by
      show Value.ref (b0 + sOff (aL1 o) 101) :: st.map (sCv b0 (aL1 o)) = _
      have hm : st.map (sCv b0 (aL1 o)) = st.map (sCv b0 lay) := List.map_congr_left (fun v hv => sCv_one (hst v hv))
      rw [hof, ho, hm]
    have hPz : va_P D vwCl (sFl b0 ty (aL1 o) (sRow (nz σ) 101 0 fun _ => 0) 0 (aL1 o)) H' := by
      unfold aL1
      rw [fl_one _ (fun i k hd => by
        by_cases e : i = 101
        · subst e; rw [dy_101] at hd; exact absurd hd (by decide)
        · rw [sRow_off e]; exact nz_ne i 0 k hd), fl_back (σ' := σ) (fun i hi => sRow_off hi)]
      refine va_P.app (hP.kept (fun k x hx => o1 x.1 ((hP k x hx).lt))) ?_
      intro k q hk
      have hz : k < 1 := (List.getElem?_eq_some_iff.mp hk).1
      rw [show k = 0 by omega] at hk
      cases hk
      show H'[b0 + o]? = some (vp_cell _ _)
      rw [ho]
      exact e1
    have h10 := h9 H' locs ls hPz ⟨by omega, fun x h1 h2 => (o1 x (Nat.lt_of_lt_of_le h1 hS.1)).trans (hS.2.1 x h1 (fun z => h2 (sA_one.mpr (Or.inl z)))), fun q hq => sA_one.mpr (Or.inl (hS.2.2 q hq))⟩ (by unfold aL1; rw [sLv_one E 0 hEv]; exact hl)
    rw [hst9] at h10
    exact h10
