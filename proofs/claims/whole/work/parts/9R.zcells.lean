/-! CONSTRUCTORS: the cells that stand from b0 on, in the order in which they were made -/
abbrev zV : Type := Int32 ⊕ Option Nat
abbrev zC : Type := (Nat × List zV) ⊕ (Nat × Nat) ⊕ (Nat × Nat)
def zv (b0 : Nat) (v : zV) : Value := match v with
  | .inl x => .int x
  | .inr none => .null
  | .inr (some k) => .ref (b0 + k)
def zSz (q : zC) : Nat := match q with
  | .inr (.inr a) => a.1 + 1
  | _ => 1
def zBlk (b0 : Nat) (ty : Nat → ClassId) (o : Nat) (q : zC) : va_W := match q with
  | .inl x => [(b0 + o, .inr (x.1, x.2.map (zv b0)))]
  | .inr (.inl a) => [(b0 + o, .inl (ty a.1, a.2, .inl (fun _ => 0)))]
  | .inr (.inr a) => (b0 + o, .inl (ty 1, a.1, .inr (.inr (.inr (.inr (fun j => some (b0 + o + 1 + j))))))) :: (List.range a.1).map (fun j => (b0 + o + 1 + j, .inl (ty 0, a.2, .inl (fun _ => 0))))
def zFl (b0 : Nat) (ty : Nat → ClassId) : Nat → List zC → va_W
  | _, [] => []
  | o, q :: r => zBlk b0 ty o q ++ zFl b0 ty (o + zSz q) r
def zTop : List zC → Nat
  | [] => 0
  | q :: r => zSz q + zTop r
theorem zTop_app : ∀ (a b : List zC), zTop (a ++ b) = zTop a + zTop b
  | [], b => by show zTop b = 0 + zTop b; omega
  | q :: r, b => by
    show zSz q + zTop (r ++ b) = zSz q + zTop r + zTop b
    rw [zTop_app r b]; omega
section
variable {b0 : Nat} {ty : Nat → ClassId}
theorem zFl_app : ∀ (a b : List zC) (o : Nat), zFl b0 ty o (a ++ b) = zFl b0 ty o a ++ zFl b0 ty (o + zTop a) b
  | [], b, o => rfl
  | q :: r, b, o => by
    show zBlk b0 ty o q ++ zFl b0 ty (o + zSz q) (r ++ b) = (zBlk b0 ty o q ++ zFl b0 ty (o + zSz q) r) ++ zFl b0 ty (o + (zSz q + zTop r)) b
    rw [zFl_app r b, List.append_assoc, Nat.add_assoc]
theorem zFl_adr : ∀ (w : List zC) (o : Nat), (zFl b0 ty o w).map (·.1) = (List.range' o (zTop w)).map (b0 + ·)
  | [], o => rfl
  | q :: r, o => by
    show (zBlk b0 ty o q ++ zFl b0 ty (o + zSz q) r).map (·.1) = (List.range' o (zSz q + zTop r)).map (b0 + ·)
    rw [List.map_append, zFl_adr r, ← List.range'_append_1, List.map_append]
    congr 1
    rcases q with x | x | x
    · rfl
    · rfl
    · show (b0 + o) :: ((List.range x.1).map _).map _ = (List.range' o (x.1 + 1)).map (b0 + ·)
      rw [List.range'_succ, List.map_cons, List.map_map, List.range'_eq_map_range, List.map_map]
      congr 1
      refine List.map_congr_left fun j _ => ?_
      show b0 + o + 1 + j = b0 + (o + 1 + j)
      omega
theorem zD_of (w : List zC) : va_D (fun q => b0 ≤ q) (zFl b0 ty 0 w) := by
  have hm := zFl_adr (b0 := b0) (ty := ty) w 0
  have hn : ((zFl b0 ty 0 w).map (·.1)).Nodup := by
    rw [hm]
    exact List.Pairwise.map _ (fun a b hab hc => hab (by omega)) (List.nodup_range' (s := 0) (n := zTop w) (step := 1))
  refine ⟨fun i j p q hi hj hpq => ?_, fun k q hk => ?_⟩
  · have h1 : ((zFl b0 ty 0 w).map (·.1))[i]? = some p.1 := by rw [List.getElem?_map, hi]; rfl
    have h2 : ((zFl b0 ty 0 w).map (·.1))[j]? = some q.1 := by rw [List.getElem?_map, hj]; rfl
    obtain ⟨a1, b1⟩ := List.getElem?_eq_some_iff.mp h1
    obtain ⟨a2, b2⟩ := List.getElem?_eq_some_iff.mp h2
    exact (List.getElem_inj hn).mp (by rw [b1, b2, hpq])
  · have h1 : q.1 ∈ (zFl b0 ty 0 w).map (·.1) := List.mem_map_of_mem (List.mem_of_getElem? hk)
    rw [hm] at h1
    obtain ⟨a, ha, he⟩ := List.mem_map.mp h1
    show b0 ≤ q.1
    rw [← he]
    exact Nat.le_add_right _ _
end
/-- the object at o -/
def zGet : Nat → List zC → Nat → Option (Nat × List zV)
  | _, [], _ => none
  | p, q :: r, o => if o = p then (match q with
    | .inl x => some x
    | _ => none) else zGet (p + zSz q) r o
def zSet : Nat → List zC → Nat → (Nat × List zV) → List zC
  | _, [], _, _ => []
  | p, q :: r, o, x => if o = p then .inl x :: r else q :: zSet (p + zSz q) r o x
section
variable {b0 : Nat} {ty : Nat → ClassId}
theorem z_at {o : Nat} {x : Nat × List zV} : ∀ (w : List zC) (p : Nat), zGet p w o = some x → ∃ k, (zFl b0 ty p w)[k]? = some (b0 + o, .inr (x.1, x.2.map (zv b0))) ∧ ∀ y, zFl b0 ty p (zSet p w o y) = (zFl b0 ty p w).set k (b0 + o, .inr (y.1, y.2.map (zv b0))) ∧ zTop (zSet p w o y) = zTop w
  | [], p, h => by cases h
  | q :: r, p, h => by
    unfold zGet at h
    by_cases e : o = p
    · rw [if_pos e] at h
      rcases q with x0 | x0 | x0
      · cases h
        subst e
        refine ⟨0, rfl, fun y => ?_⟩
        unfold zSet
        rw [if_pos rfl]
        exact ⟨rfl, rfl⟩
      · cases h
      · cases h
    · rw [if_neg e] at h
      obtain ⟨k, h1, h2⟩ := z_at r (p + zSz q) h
      refine ⟨(zBlk b0 ty p q).length + k, ?_, fun y => ?_⟩
      · show (zBlk b0 ty p q ++ _)[_]? = _
        rw [List.getElem?_append_right (by omega), Nat.add_sub_cancel_left]
        exact h1
      · unfold zSet
        rw [if_neg e]
        constructor
        · show zBlk b0 ty p q ++ zFl b0 ty (p + zSz q) _ = (zBlk b0 ty p q ++ zFl b0 ty (p + zSz q) r).set _ _
          rw [List.set_append_right _ _ (by omega), Nat.add_sub_cancel_left, (h2 y).1]
        · show zSz q + _ = zSz q + _
          rw [(h2 y).2]
end
section
variable {p : Program} {l : Launch} {e : Env} {R : Room} {s : State} {m : MethodId} {args : Array Value} {below : List Frame} {meth : Method} {c : Code} {H : Heap} {locs : List Loc} {cells slots : Nat} {Q : State → Prop}
/-- multianewarray of int rows, the cells by their places -/
theorem z_mna {cc : ByteArray} {D : va_G} {cl : List vw_C} {ty : Nat → ClassId} {pc : Nat} {ls : Array Slot} {rest : List Value} (hexec : p.tables.exec = Jvm.exec) (hb : c.code = cc) {own : String} {index : Nat} (hown : s.vm.findClass own = some m.cls) (hclink : (Cond.classLink own index ("[" ++ (FieldType.array .int).toString)).before args s = true) (hover : va_AOA .int s) (harr : (Cond.arrayClass .int).before args s = true)
    (hK : va_K D cl (sTys ty) s) {n k : Int32} {N K : Nat} (hn : ¬ n < 0) (hk : ¬ k < 0) (hN : n.toNatClampNeg = N) (hM : k.toNatClampNeg = K)
    (hb1 : N * 4 ≤ 536870912) (hb2 : K * 4 ≤ 536870912) (hcells : cells + (1 + N) ≤ R.cells) (hslots : slots + (N + N * K) ≤ R.slots) (hdg : decode cc pc = .ok (.multianewarray index 2, 4))
    (kk : ∀ H1 : Heap, H1.size = H.size + 1 + N → (∀ x : Nat, x < H.size → H1[x]? = H[x]?) → H1[H.size]? = some (vp_cell (ty 1) (N, .inr (.inr (.inr (.inr (fun i => some (H.size + 1 + i))))))) → (∀ j : Nat, j < N → H1[H.size + 1 + j]? = some (vp_cell (ty 0) (K, .inl (fun _ => 0)))) →
      W p l e R s m args below meth c H1 locs (cells + 1 + N) (slots + N + N * K) Q (F0 m (pc + 4) ls (.ref H.size :: rest))) : W p l e R s m args below meth c H locs cells slots Q (F0 m pc ls (.int k :: .int n :: rest)) := by
  subst hN
  subst hM
  intro T hT Xs
  obtain ⟨vm₁, cA, comp, -, fA, fC, hO, -, X', step⟩ := Xs.multianewarray2F hexec hown hclink (va_AOA.use hover) harr (g := F0 m pc ls (.int k :: .int n :: rest)) rfl (by rw [hb]; exact hdg) rfl hn hk hb1 hb2 (by omega) rfl rfl hcells hslots
  have hcy : s.vm.findClass (FieldType.array FieldType.int).toString = some (ty 0) := (hK.2 0 (ty 0, .int) rfl).2
  have ec : some (ty 0) = some comp := hcy.symm.trans fC
  have hcz : s.vm.findClass ("[" ++ (FieldType.array FieldType.int).toString) = some (ty 1) := (hK.2 1 (ty 1, .array .int) rfl).2
  have ea : some (ty 1) = some cA := hcz.symm.trans fA
  cases ec
  cases ea
  generalize hF : Jvm.Free.Multi.fill (T.setVm vm₁) (ty 1) (ty 0) n.toNatClampNeg k.toNatClampNeg (defaultValue .int) n.toNatClampNeg = F at X' step
  have hTh : (T.setVm vm₁).heap = H := hT
  obtain ⟨f1, f2, -, -⟩ := Jvm.Free.Multi.fill_facts (T.setVm vm₁) (ty 1) (ty 0) n.toNatClampNeg k.toNatClampNeg (defaultValue .int) n.toNatClampNeg
  rw [hF, hTh] at f1 f2
  have hold : ∀ x : Nat, x < H.size → F.heap[x]? = H[x]? := fun x hx => by
    have := Jvm.Free.Multi.fill_old (T.setVm vm₁) (ty 1) (ty 0) n.toNatClampNeg k.toNatClampNeg (defaultValue .int) (a := x) (by rw [hTh]; exact hx) n.toNatClampNeg
    rw [hF, hTh] at this
    exact this
  have hrow : ∀ j : Nat, j < n.toNatClampNeg → F.heap[H.size + 1 + j]? = some (vp_cell (ty 0) (k.toNatClampNeg, .inl (fun _ => 0))) := fun j hj => by
    have := Jvm.Free.Multi.fill_inner (T.setVm vm₁) (ty 1) (ty 0) n.toNatClampNeg k.toNatClampNeg (defaultValue .int) n.toNatClampNeg j hj
    rw [hF, hTh] at this
    rw [this]
    have e9 : Multi.innerC (ty 0) k.toNatClampNeg (defaultValue .int) = vp_cell (ty 0) (k.toNatClampNeg, .inl (fun _ => 0)) := by
      show ({ cls := ty 0, slots := Array.replicate k.toNatClampNeg (defaultValue .int) } : Cell) = { cls := ty 0, slots := Array.ofFn fun _ : Fin k.toNatClampNeg => Value.int 0 }
      congr 1
      apply Array.ext
      · simp
      · intro i h1 h2
        simp [defaultValue]
    rw [e9]
  have hout : Jvm.Free.Multi.outerC (ty 1) n.toNatClampNeg H.size n.toNatClampNeg = vp_cell (ty 1) (n.toNatClampNeg, .inr (.inr (.inr (.inr (fun i => some (H.size + 1 + i)))))) := by
    rw [vp_cell_q, vr_outer]
    unfold arrV
    congr 2
    funext j
    show va_rf (if (j : Nat) < n.toNatClampNeg then some (H.size + 1 + j) else none) = va_rf (some (H.size + 1 + j))
    rw [if_pos j.isLt]
  rw [hout] at f2
  obtain ⟨t, a1, b1⟩ := kk F.heap f1 hold f2 hrow F rfl X'
  refine ⟨t, step t ?_, b1⟩
  have e : T.heap.size = H.size := by rw [hT]
  rw [e]
  exact a1
end
