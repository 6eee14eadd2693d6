/-! THE CONSTRUCTORS' CONTRACTS -/
section
variable {l : Launch} {D : va_G} {b0 : Nat} {ty : Nat → ClassId} {ad av : Nat → Nat}
/-- from a constructor's entry, with an environment -/
theorem zEntryX {y : zM} {d mc ms : Nat} {as : List zV} {w : List zC} {Qc : Array Value → State → Outcome → State → Prop} {free : Addr → Prop} {Ex : State → Prop} (hpl : plainName y.1.cls = true) (hin : y.1.name = "<init>") (has : as.length ≤ y.2.2)
    (body : ∀ (p : Program) (e : Env) (s : State) (m : MethodId) (below : List Frame) (meth : Method) (c : Code), p.tables.exec = Jvm.exec → c.code = y.2.1 → meth.sig.returnType = none → meth.locks = false → c.maxLocals = y.2.2 → (∀ w ∈ sTB, w.before (as.map (zv b0)).toArray s = true) → s.vm.findClass y.1.cls = some m.cls → va_K D vwCl (sTys ty) s → zEnv s → meth.name = "<init>" → s.heap.size = b0 + zTop w → Ex s →
      zK p l e (zRm d mc ms) s m (as.map (zv b0)).toArray below meth c D b0 ty y.2.2 as (MQ below Qc (as.map (zv b0)).toArray s mc ms free) 0 [] w 0 0) : Met l y.1 (Cond.code y.1 y.2.1 y.2.2 none :: sTB) (zRm d mc ms) (fun a U => zPc D b0 ty as w a U ∧ Ex U) Qc mc ms free := by
  refine Met.ofW (cc := y.2.1) (maxL := y.2.2) (ret := none) hpl rfl ?_
  intro p e s m args below meth c s₁ B hml hv
  obtain ⟨⟨rfl, hP, hsz, hK, hE⟩, hEx⟩ := hv
  have hts0 := atoms_spec (ws := Cond.code y.1 y.2.1 y.2.2 none :: sTB) B.pre
  have hts : ∀ w ∈ sTB, w.before ((as.map (zv b0)).toArray) s = true := fun w h => hts0 w (List.mem_cons_of_mem _ h)
  have hown : s.vm.findClass y.1.cls = some m.cls := findClass_of_methodNamed B.named
  have hin2 : meth.name = "<init>" := by rw [(name_of_methodNamed B.named B.method).1]; exact hin
  have hl0 := lv_entry (as.map (zv b0)) (n := y.2.2) (by rw [zsl]; exact has)
  rw [lg_entry_eq]
  generalize (lg_sl (as.map (zv b0)) ++ List.replicate (y.2.2 - (lg_sl (as.map (zv b0))).length) Slot.unset).toArray = ls at hl0 ⊢
  refine body p e s m below meth c B.exec B.bytes B.returns B.notSynchronized hml hts hown hK hE hin2 hsz hEx s.heap [] ls hP hsz va_S.rf ⟨hl0.1, hl0.2.1, fun _ h => absurd h List.not_mem_nil⟩ (fun k v hv => ?_)
  have := hl0.2.2 _ (zargs (b0 := b0) as 0 k v hv)
  rw [Nat.zero_add] at this
  exact this
theorem in8 : (0 : Nat) ∈ sAdr lay8 := by decide +kernel
theorem in9 : (176 : Nat) ∈ sAdr lay9 := by decide +kernel
theorem low9 : (sAdr lay9).all (fun a => Nat.ble 176 a) = true := by decide +kernel
theorem ctor8 (hlt : l.stackTraces = false) : Met l yX8_init (Cond.code yX8_init cX8_init 1 none :: sTB) (zRm 8 175 11555) (fun a U => zPc D b0 ty [.inr (some 0)] w80 a U ∧ yEnv ad av (sA b0 lay8) U U.heap) (va_Qv po8 (fun σ t => va_P D vwCl (sFl b0 ty lay8 σ 0 lay8) t.heap) (fun q => b0 ≤ q)) 175 11555 (fun q => b0 ≤ q) := by
  refine zEntryX (y := zy8) (by decide +kernel) rfl (by decide) ?_
  intro p e s m below meth c hx hb hr hlocks hml hts hown hK hE hin hsz hEx
  refine zs_sound (zc := fun c => (zt c).map (·.1)) (P := zp8) (d := 2) hx hb hml hts hown hK hE hin zp8_ok (by omega) (zCal_ok zt_ok 2) (by show 3 ≤ 8; decide) (by show 64 + 64 * 2 ≤ 64 * 8; decide) zx8 0 [] w80 0 0 zx8_ok run8 ?_
  refine zTail (b0 := b0) (bz := b0) (L := lay8) (X := xX8) (T := tX8_end) (d := 8) (own := RX8) hx hb hr hlocks hml hts hown hK hEx hlt lay8_nd xX8_ok kX8_end (by show 8 ≤ 8; decide) (by show 64 * 8 ≤ 64 * 8; decide) (by show 175 ≤ 175; decide) (by show 11555 ≤ 11555; decide) wd8 hsz ⟨0, in8, rfl⟩ (fun q hq => by obtain ⟨a, -, rfl⟩ := hq; exact Nat.le_add_right _ _) (E0 := [some (aR 0)]) (fun ls h1 h2 => ⟨h1.1, h1.2.1, fun q hq => ?_⟩) (fun K hK => end8 4 K hK)
  rw [List.mem_singleton.mp hq]
  exact h2 0 _ rfl
theorem ctor9 (hlt : l.stackTraces = false) : Met l yX9_init (Cond.code yX9_init cX9_init 2 none :: sTB) (zRm 8 184 20621) (fun a U => zPc D (b0 + 176) ty [.inr (some 0)] w90 a U ∧ yEnv ad av (sA b0 lay9) U U.heap) (va_Qv po9 (fun σ t => va_P D vwCl (sFl b0 ty lay9 σ 0 lay9) t.heap) (fun q => b0 + 176 ≤ q)) 184 20621 (fun q => b0 + 176 ≤ q) := by
  refine zEntryX (b0 := b0 + 176) (y := zy9) (by decide +kernel) rfl (by decide) ?_
  intro p e s m below meth c hx hb hr hlocks hml hts hown hK hE hin hsz hEx
  refine zs_sound (zc := fun c => (zt c).map (·.1)) (P := zp9) (d := 0) hx hb hml hts hown hK hE hin zp9_ok (by omega) (zCal_ok zt_ok 0) (by show 1 ≤ 8; decide) (by show 64 + 64 * 0 ≤ 64 * 8; decide) zx9 0 [] w90 0 0 zx9_ok run9 ?_
  refine zTail (b0 := b0) (bz := b0 + 176) (L := lay9) (X := xX9) (T := tX9_end) (d := 8) (own := RX9) hx hb hr hlocks hml hts hown hK hEx hlt lay9_nd xX9_ok kX9_end (by show 8 ≤ 8; decide) (by show 64 * 8 ≤ 64 * 8; decide) (by show 184 ≤ 184; decide) (by show 20621 ≤ 20621; decide) wd9 hsz ⟨176, in9, rfl⟩ (fun q hq => by obtain ⟨a, ha, rfl⟩ := hq; have := Nat.le_of_ble_eq_true (List.all_eq_true.mp low9 a ha); omega) (E0 := [some (aR 0), none]) (fun ls h1 h2 => ⟨h1.1, h1.2.1, fun q hq => ?_⟩) (fun K hK => end9 4 K hK)
  rw [List.mem_singleton.mp hq]
  exact h2 0 _ rfl
end
