/-! THE WHOLE: from the law's entry to its end -/
section
variable {p : Program} {l : Launch} {e : Env} {R : Room} {s : State} {m : MethodId} {args : Array Value} {below : List Frame} {meth : Method} {c : Code} {D : va_G} {b0 : Nat} {ty : Nat → ClassId} {H : Heap} {locs : List Loc} {cells slots : Nat} {Q : State → Prop} {cc : ByteArray} {ls : Array Slot}
theorem fl_ltL {L : sLay} {σ : sMem} (hP : va_P D vwCl (sFl b0 ty L σ 0 L) H) {a : Nat} (ha : a ∈ sAdr L) : b0 + a < H.size := by
  obtain ⟨q, hq, eq⟩ := fl_adr (b0 := b0) (ty := ty) (L := L) (σ := σ) L 0 a ha
  obtain ⟨k, hk⟩ := List.mem_iff_getElem?.mp hq
  have := (hP k q hk).lt
  rw [eq] at this
  exact this
/-- 'new', behind all that was made -/
theorem z_new {own : String} (hx : p.tables.exec = Jvm.exec) (hb : c.code = cc) (hts : ∀ w ∈ sTB, w.before args s = true) (hown : s.vm.findClass own = some m.cls) (hK : va_K D vwCl (sTys ty) s) {ix ci : Nat} {r : vw_C} (hq : vwCl[ci]? = some r) (hlk : Cond.classLink own ix r.1 ∈ sTB) (hini : Cond.initialized r.1 ∈ sTB) {fs : List zV} (hfs : zDf r.2.1 0 r.2.2 = some fs) (hsz : H.size = b0) {pc : Nat} {rest : List Value} (hd : decode cc pc = .ok (.new ix, 3)) (hc : cells + 1 ≤ R.cells) (hs : slots + r.2.2 ≤ R.slots)
    (k : ∀ H1 : Heap, va_P D vwCl (zFl b0 ty 0 [.inl (ci, fs)]) H1 → H1.size = b0 + 1 → (∀ q : Nat, q < H.size → H1[q]? = H[q]?) → W p l e R s m args below meth c H1 locs (cells + 1) (slots + r.2.2) Q (F0 m (pc + 3) ls (.ref b0 :: rest))) : W p l e R s m args below meth c H locs cells slots Q (F0 m pc ls rest) := by
  subst hsz
  have hKn := hK.1 ci _ hq
  obtain ⟨f1, f2⟩ := zDf_spec (b0 := H.size) (ty0 := (sCl ci r hq).2.2.choose) r.2.2 0 fs hfs (fun k hk => (sCl ci r hq).2.2.choose_spec k (by omega))
  refine W.newcK hx hb hown (hts _ hlk) (hts _ (in_inst ci r hq)) (hts _ hini) rfl hd hc hs hKn.2.1 rfl fun H1 kC hkC e1 z1 o1 => ?_
  refine k H1 ?_ z1 o1
  intro j x hj
  have hz : j < 1 := (List.getElem?_eq_some_iff.mp hj).1
  rw [show j = 0 by omega] at hj
  cases hj
  refine ⟨_, hq, ?_⟩
  exact (u_born (sCl ci r hq).2.2.choose hts (sCl ci r hq).1 hKn hkC e1 (sCl ci r hq).2.2.choose_spec).to (fun j hj => by have := f2 j hj; rw [Nat.zero_add] at this; exact this)
end
theorem d0 : decode code 0 = .ok (.new 8, 3) := by decide +kernel
theorem d3 : decode code 3 = .ok (.dup, 1) := by decide +kernel
theorem d4 : decode code 4 = .ok (.invokespecial 93, 3) := by decide +kernel
theorem d7 : decode code 7 = .ok (.astore_n 1, 1) := by decide +kernel
theorem d8 : decode code 8 = .ok (.new 94, 3) := by decide +kernel
theorem d11 : decode code 11 = .ok (.dup, 1) := by decide +kernel
theorem d12 : decode code 12 = .ok (.invokespecial 96, 3) := by decide +kernel
theorem d15 : decode code 15 = .ok (.astore_n 2, 1) := by decide +kernel
theorem d16 : decode code 16 = .ok (.iconst 1, 1) := by decide +kernel
theorem d17 : decode code 17 = .ok (.newarray .long, 2) := by decide +kernel
theorem d19 : decode code 19 = .ok (.astore_n 3, 1) := by decide +kernel
theorem d20 : decode code 20 = .ok (.iconst 0, 1) := by decide +kernel
theorem d21 : decode code 21 = .ok (.istore 4, 2) := by decide +kernel
theorem fs8 : zDf TX8 0 15 = some (match w80 with
  | [.inl x] => x.2
  | _ => []) := by decide +kernel
theorem fs9 : zDf TX9 0 54 = some (match w90 with
  | [.inl x] => x.2
  | _ => []) := by decide +kernel
theorem top80 : zTop w80 = 1 := rfl
theorem top90 : zTop w90 = 1 := rfl
theorem a175 : (175 : Nat) ∈ sAdr lay8 := by decide +kernel
theorem a360 : (360 : Nat) ∈ sAdr lay9 := by decide +kernel
theorem up8 : (sAdr lay8).all (fun a => Nat.blt a 176) = true := by decide +kernel
set_option maxHeartbeats 4000000 in
theorem whole_start {p : Program} {e : Env} {s : State} {m : MethodId} {below : List Frame} {meth : Method} {c : Code} (l : Launch) (hlt : l.stackTraces = false) {b L : Nat} {xs : Nat → Int32} (hL : L ≤ 3072) (C0 : lw_At p s m meth c b L xs) : W p l e room_1 s m #[Value.ref b] below meth c s.heap [] 0 0 (lw_Z below #[Value.ref b] s) (entryFrame m ([Value.ref b] : List Value).toArray 7) := by
  obtain ⟨hx, hb, hr, hml, hown0, hts0, hX, hbl, hlocks, hgv⟩ := id C0
  have hown : s.vm.findClass RL = some m.cls := hown0
  have hts : ∀ w ∈ sTB, w.before #[Value.ref b] s = true := fun w hw => hts0 w (List.mem_filter.mp hw).1
  obtain ⟨D, ty, hK⟩ := k_start hts (hts0 _ (by decide +kernel))
  obtain ⟨ad, av, hE⟩ := env_start hts0 hgv
  have hZ := env_z hts0
  have hEL : ∀ L : sLay, yEnv ad av (sA s.heap.size L) s s.heap := fun L => hE.narrow (fun q hq => by obtain ⟨a, -, rfl⟩ := hq; exact Nat.le_add_right _ _)
  have hl := lv_entry ([.ref b]) (n := 7) (Nat.le_of_ble_eq_true rfl)
  rw [lg_entry_eq]
  generalize (lg_sl ([.ref b]) ++ List.replicate (7 - (lg_sl ([.ref b])).length) Slot.unset).toArray = ls at hl ⊢
  have hl : lv_has ls 7 [(0, .ref b)] := hl
  have hS0 : va_S (fun q : Nat => s.heap.size ≤ q) s.heap s.heap [] := va_S.rf
  -- the class
  refine z_new (b0 := s.heap.size) (ci := 8) (r := (RX8, TX8, 15)) hx hb hts hown hK rfl (wq 130 (by decide +kernel) (by decide +kernel)) (wq 106 (by decide +kernel) (by decide +kernel)) fs8 rfl d0 (by decide) (by decide) (fun H1 hP1 hz1 o1 => ?_)
  have hS1 : va_S (fun q : Nat => s.heap.size ≤ q) s.heap H1 [] := hS0.more (by omega) o1
  refine lv_dup hx hb d3 rfl ?_
  have hG8 : GoodIn sTB (Cond.code yX8_init cX8_init 1 none :: sTB) := fun w hw => by
    rcases List.mem_cons.mp hw with rfl | hw
    · exact sTB_good _ (by decide +kernel)
    · exact sTB_good w hw
  refine va_callv (va_runI (As := []) (rest := [.ref s.heap.size]) ⟨hx, hb, hml, hown, hts⟩ (ctor8 (D := D) (b0 := s.heap.size) (ty := ty) (ad := ad) (av := av) hlt) (cwI 0 hts hG8 rfl rfl rfl (hts _ (by decide +kernel)) (hts _ (by decide +kernel)) (hts _ (by decide +kernel)) rfl (by decide +kernel) ⟨by decide, by decide⟩) ⟨fun a U g mk h => ⟨zPc_blind a U g mk h.1, yEnv.warm (State.WarmedH.refl U) h.2⟩, fun U hU hW => ⟨⟨rfl, by rw [hU]; exact hP1, by rw [hU]; exact hz1, va_K.moved hW.alike hK, zEnv.warm hW hZ⟩, by rw [hU]; exact yEnv.warm hW ((hEL lay8).kept (fun a ha _ => o1 a ha))⟩⟩ rfl rfl hl.1 rfl (Nat.le_of_ble_eq_true rfl) d4 ⟨by decide, by decide⟩) hS1 (fun _ _ h => h) (fun _ h => h) (fun σ8 t2 H2 locs2 ht2 hal2 hp8 hB2 hz2 hk2 hS2 => ?_)
  have hP2 : va_P D vwCl (sFl s.heap.size ty lay8 σ8 0 lay8) H2 := by rw [← ht2]; exact hB2
  refine w_size (fun hle2 => ?_)
  have hsz2 : H2.size = s.heap.size + 176 := by
    have := fl_ltL hP2 a175
    omega
  refine lv_astore_n hx hb d7 rfl hl (by decide) (lv' := [(1, .ref s.heap.size), (0, .ref b)]) rfl (fun ls2 hl2 => ?_)
  -- the reference
  refine z_new (b0 := s.heap.size + 176) (ci := 9) (r := (RX9, TX9, 54)) hx hb hts hown hK rfl (wq 1347 (by decide +kernel) (by decide +kernel)) (wq 118 (by decide +kernel) (by decide +kernel)) fs9 hsz2 d8 (by decide) (by decide) (fun H3 hP3 hz3 o3 => ?_)
  have hS3 : va_S (fun q : Nat => s.heap.size ≤ q) s.heap H3 locs2 := hS2.more (by omega) o3
  have hP83 : va_P D vwCl (sFl s.heap.size ty lay8 σ8 0 lay8) H3 := hP2.kept (fun k x hx => o3 x.1 ((hP2 k x hx).lt))
  refine lv_dup hx hb d11 rfl ?_
  have hG9 : GoodIn sTB (Cond.code yX9_init cX9_init 2 none :: sTB) := fun w hw => by
    rcases List.mem_cons.mp hw with rfl | hw
    · exact sTB_good _ (by decide +kernel)
    · exact sTB_good w hw
  refine va_callv (va_runI (As := []) (rest := [.ref (s.heap.size + 176)]) ⟨hx, hb, hml, hown, hts⟩ (ctor9 (D := D) (b0 := s.heap.size) (ty := ty) (ad := ad) (av := av) hlt) (cwI 0 hts hG9 rfl rfl rfl (hts _ (by decide +kernel)) (hts _ (by decide +kernel)) (hts _ (by decide +kernel)) rfl (by decide +kernel) ⟨by decide, by decide⟩) ⟨fun a U g mk h => ⟨zPc_blind a U g mk h.1, yEnv.warm (State.WarmedH.refl U) h.2⟩, fun U hU hW => ⟨⟨rfl, by rw [hU]; exact hP3, by rw [hU]; exact hz3, va_K.moved hW.alike hK, zEnv.warm hW hZ⟩, by rw [hU]; exact yEnv.warm hW ((hEL lay9).kept (fun a ha _ => hS3.2.1 a ha (Nat.not_le.mpr ha)))⟩⟩ rfl rfl hl2.1 rfl (Nat.le_of_ble_eq_true rfl) d12 ⟨by decide, by decide⟩) hS3 (fun q _ h => Nat.le_trans (Nat.le_add_right _ _) h) (fun q h => Nat.le_trans (Nat.le_add_right _ _) h) (fun σ9 t4 H4 locs4 ht4 hal4 hp9 hB4 hz4 hk4 hS4 => ?_)
  have hP4 : va_P D vwCl (sFl s.heap.size ty lay9 σ9 0 lay9) H4 := by rw [← ht4]; exact hB4
  have hP84 : va_P D vwCl (sFl s.heap.size ty lay8 σ8 0 lay8) H4 := hP83.kept (fun k x hx => by
    refine hk4 x.1 ((hP83 k x hx).lt) ?_
    have hm : x.1 ∈ (sFl s.heap.size ty lay8 σ8 0 lay8).map (·.1) := List.mem_map_of_mem (List.mem_of_getElem? hx)
    rw [sFl_adr] at hm
    obtain ⟨a, ha, he⟩ := List.mem_map.mp hm
    have := Nat.blt_eq.mp (List.all_eq_true.mp up8 a ha)
    show ¬ (s.heap.size + 176 ≤ x.1)
    omega)
  refine w_size (fun hle4 => ?_)
  have hsz4 : H4.size = s.heap.size + 361 := by
    have := fl_ltL hP4 a360
    omega
  refine lv_astore_n hx hb d15 rfl hl2 (by decide) (lv' := [(2, .ref (s.heap.size + 176)), (1, .ref s.heap.size), (0, .ref b)]) rfl (fun ls3 hl3 => ?_)
  refine lv_iconst hx hb d16 rfl ?_
  -- the long
  refine va_newaK hx hb (atype := .long) (hts _ (by decide +kernel)) rfl d17 (n := 1) (N := 1) rfl (by decide) (by decide) (by decide) (by decide) (by decide) hsz4 (fun H5 cA e5 z5 o5 hAr hNm => ?_)
  have hc3 : s.vm.findClass ("[" ++ FieldType.long.toString) = some (ty 3) := (hK.2 3 (ty 3, .long) rfl).2
  have hcA : cA = ty 3 := Option.some.inj (hNm.symm.trans hc3)
  subst hcA
  have hS5 : va_S (fun q : Nat => s.heap.size ≤ q) s.heap H5 locs4 := hS4.more (by omega) (fun q hq => o5 q (by omega))
  have hP5 : va_P D vwCl (sFl s.heap.size ty lay (σF σ8 σ9) 0 lay) H5 := lay_join hp8 (hP4.kept (fun k x hx => o5 x.1 (by have := (hP4 k x hx).lt; omega))) (hP84.kept (fun k x hx => o5 x.1 (by have := (hP84 k x hx).lt; omega))) e5
  refine lv_astore_n hx hb d19 rfl hl3 (by decide) (lv' := [(3, .ref (s.heap.size + 361)), (2, .ref (s.heap.size + 176)), (1, .ref s.heap.size), (0, .ref b)]) rfl (fun ls4 hl4 => ?_)
  refine lv_iconst hx hb d20 rfl ?_
  refine lv_istore hx hb d21 hl4 (by decide) (lv' := [(4, .int 0), (3, .ref (s.heap.size + 361)), (2, .ref (s.heap.size + 176)), (1, .ref s.heap.size), (0, .ref b)]) rfl (fun ls5 hl5 => ?_)
  refine va_forget (fun q hq => hS5.2.2 q hq) ?_
  have hS6 : va_S (sA s.heap.size lay) s.heap H5 [] := ⟨hS5.1, fun q h1 _ => hS5.2.1 q h1 (Nat.not_le.mpr h1), fun q hq => absurd hq List.not_mem_nil⟩
  refine w_room (R' := yRm 202 3718) (by decide) (by decide) (by decide) (by decide) ?_
  refine W.widen (k := 2688) (n := 32256) (by decide) (by decide) ?_
  have key := law_intro (p := p) (e := e) (below := below) (D := D) (ty := ty) hlt hL C0 hK (hEL lay) (n := 3718) (by decide) (k0 := 1030) (pc0 := 23) (E0 := lwE b 0 none none) (σ0 := σF σ8 σ9) (fun K hK hW => law_loop hK hW hL 512 0 1030 none none _ (jr_start hp8 hp9) (by omega) (by omega) (by omega))
  refine key (by decide) H5 [] ls5 hP5 hS6 ⟨hl5.1, hl5.2.1, fun q hq => hl5.2.2 q ?_⟩
  have hq' : q ∈ [(0, Value.ref b), (1, Value.ref s.heap.size), (2, Value.ref (s.heap.size + 176)), (3, Value.ref (s.heap.size + 361)), (4, Value.int 0)] := hq
  simp only [List.mem_cons, List.not_mem_nil, or_false] at hq' ⊢
  rcases hq' with h | h | h | h | h <;> subst h <;> simp
