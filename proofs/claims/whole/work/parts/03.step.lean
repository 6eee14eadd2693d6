/-! ONE INSTRUCTION OVER THE WORLD, as what must hold before it: 'xi' -/
/-- the locals of a frame: what a place of a plain list says -/
def sLv (b0 : Nat) (L : sLay) : Nat → List (Option AV) → List (Nat × Value)
  | _, [] => []
  | i, none :: r => sLv b0 L (i + 1) r
  | i, some v :: r => (i, sCv b0 L v) :: sLv b0 L (i + 1) r
theorem sLv_mem {b0 : Nat} {L : sLay} : ∀ (E : List (Option AV)) (n j : Nat) (w : Value), (j, w) ∈ sLv b0 L n E ↔ ∃ k v, E[k]? = some (some v) ∧ j = n + k ∧ w = sCv b0 L v
  | [], n, j, w => by simp [sLv]
  | none :: r, n, j, w => by
    show (j, w) ∈ sLv b0 L (n + 1) r ↔ _
    rw [sLv_mem r (n + 1) j w]
    constructor
    · rintro ⟨k, v, h1, h2, h3⟩
      exact ⟨k + 1, v, by simpa using h1, by omega, h3⟩
    · rintro ⟨k, v, h1, h2, h3⟩
      cases k with
      | zero => simp at h1
      | succ k => exact ⟨k, v, by simpa using h1, by omega, h3⟩
  | some x :: r, n, j, w => by
    show (j, w) ∈ (n, sCv b0 L x) :: sLv b0 L (n + 1) r ↔ _
    rw [List.mem_cons, sLv_mem r (n + 1) j w]
    constructor
    · rintro (h | ⟨k, v, h1, h2, h3⟩)
      · exact ⟨0, x, rfl, by simpa using congrArg Prod.fst h, congrArg Prod.snd h⟩
      · exact ⟨k + 1, v, by simpa using h1, by omega, h3⟩
    · rintro ⟨k, v, h1, h2, h3⟩
      cases k with
      | zero =>
        have : x = v := by simpa using h1
        subst this
        left
        rw [h2, h3]
        rfl
      | succ k => right; exact ⟨k, v, by simpa using h1, by omega, h3⟩
def avCat2 (v : AV) : Bool := match v with
  | .inl (.long _) => true
  | .inl (.double _) => true
  | _ => false
theorem avCat {b0 : Nat} {L : sLay} (v : AV) : ((sCv b0 L v).category == 2) = avCat2 v := by
  rcases v with v | q
  · cases v <;> rfl
  · rfl
def eKill (E : List (Option AV)) (i : Nat) : List (Option AV) := match i with
  | 0 => E
  | k + 1 => match E[k]? with
    | some (some v) => if avCat2 v then E.set k none else E
    | _ => E
/-- a local that a store of the next place spoils -/
def eDead (x : Option AV) : Option AV := match x with
  | some v => if avCat2 v then none else some v
  | none => none
/-- a store, laid so that a long row of stores is read in steps of one -/
def eSet : List (Option AV) → Nat → AV → List (Option AV)
  | [], _, _ => []
  | _ :: r, 0, v => some v :: r
  | x :: r, 1, v => eDead x :: r.set 0 (some v)
  | x :: r, i + 2, v => x :: eSet r (i + 1) v
theorem eSet_eq : ∀ (E : List (Option AV)) (i : Nat) (v : AV), eSet E i v = (eKill E i).set i (some v)
  | [], 0, _ => rfl
  | [], i + 1, _ => by simp [eSet, eKill]
  | _ :: _, 0, _ => rfl
  | x :: r, 1, v => by
    show eDead x :: r.set 0 (some v) = (eKill (x :: r) 1).set 1 (some v)
    rcases x with _ | w
    · rfl
    · by_cases hc : avCat2 w = true
      · simp [eDead, eKill, hc]
      · simp [eDead, eKill, hc]
  | x :: r, i + 2, v => by
    show x :: eSet r (i + 1) v = (eKill (x :: r) (i + 2)).set (i + 2) (some v)
    rw [eSet_eq r (i + 1) v]
    have e1 : eKill (x :: r) (i + 2) = x :: eKill r (i + 1) := by
      simp only [eKill, List.getElem?_cons_succ]
      split
      · rename_i w hw
        split <;> rfl
      · rfl
    rw [e1]; rfl
def eSet2 (E : List (Option AV)) (i : Nat) (v : AV) : List (Option AV) := (eSet E i v).set (i + 1) none
theorem eKill_get {E : List (Option AV)} {i k : Nat} {v : AV} (h : (eKill E i)[k]? = some (some v)) : E[k]? = some (some v) ∧ (k + 1 = i → avCat2 v = false) := by
  cases i with
  | zero => exact ⟨h, fun h => by omega⟩
  | succ n =>
    have h0 : (match E[n]? with
      | some (some v) => if avCat2 v then E.set n none else E
      | _ => E)[k]? = some (some v) := h
    cases hn : E[n]? with
    | none =>
      rw [hn] at h0
      refine ⟨h0, fun e => ?_⟩
      have : k = n := by omega
      subst this
      have h1 : E[k]? = some (some v) := h0
      rw [hn] at h1; cases h1
    | some x =>
      rw [hn] at h0
      cases x with
      | none =>
        refine ⟨h0, fun e => ?_⟩
        have : k = n := by omega
        subst this
        have h1 : E[k]? = some (some v) := h0
        rw [hn] at h1; cases h1
      | some y =>
        by_cases hc : avCat2 y = true
        · have h1 : (E.set n none)[k]? = some (some v) := by simpa only [hc, if_true] using h0
          rw [List.getElem?_set] at h1
          by_cases hk : n = k
          · subst hk
            obtain ⟨hlt, -⟩ := List.getElem?_eq_some_iff.mp hn
            simp [hlt] at h1
          · rw [if_neg hk] at h1
            exact ⟨h1, fun e => by omega⟩
        · have h1 : E[k]? = some (some v) := by
            have hf : avCat2 y = false := by simpa using hc
            simpa only [hf, Bool.false_eq_true, if_false] using h0
          refine ⟨h1, fun e => ?_⟩
          have : k = n := by omega
          subst this
          rw [hn] at h1
          cases h1
          simpa using hc
section
variable {b0 : Nat} {L : sLay}
theorem sLR_get {ls : Array Slot} {nL i : Nat} {E : List (Option AV)} {v : AV} (h : lv_has ls nL (sLv b0 L 0 E)) (hi : E[i]? = some (some v)) : ls[i]? = some (.val (sCv b0 L v)) :=
  h.2.2 (i, sCv b0 L v) ((sLv_mem E 0 i _).mpr ⟨i, v, hi, by omega, rfl⟩)
theorem sLR_set {ls ls' : Array Slot} {nL i : Nat} {E : List (Option AV)} {v : AV} (h : lv_has ls' nL ((i, sCv b0 L v) :: (sLv b0 L 0 E).filter (fun q => !(q.1 == i) && !(q.1 + 1 == i && q.2.category == 2)))) : lv_has ls' nL (sLv b0 L 0 (eSet E i v)) := by
  refine ⟨h.1, h.2.1, fun q hq => h.2.2 q ?_⟩
  obtain ⟨j, w⟩ := q
  obtain ⟨k, x, h1, h2, h3⟩ := (sLv_mem _ 0 j w).mp hq
  rw [eSet_eq, List.getElem?_set] at h1
  by_cases hk : i = k
  · subst hk
    simp only [if_true] at h1
    split at h1
    · cases h1
      rw [h2, h3, Nat.zero_add]
      exact List.mem_cons_self
    · cases h1
  · rw [if_neg hk] at h1
    obtain ⟨g1, g2⟩ := eKill_get h1
    refine List.mem_cons_of_mem _ (List.mem_filter.mpr ⟨(sLv_mem E 0 j w).mpr ⟨k, x, g1, h2, h3⟩, ?_⟩)
    have e1 : (j == i) = false := by simpa using (show j ≠ i by omega)
    show (!(j == i) && !(j + 1 == i && w.category == 2)) = true
    rw [e1, h3, avCat]
    by_cases h5 : k + 1 = i
    · rw [g2 h5]; simp
    · have e2 : (j + 1 == i) = false := by simpa using (show j + 1 ≠ i by omega)
      rw [e2]; rfl
theorem sLR_set2 {ls ls' : Array Slot} {nL i : Nat} {E : List (Option AV)} {v : AV} (h : lv_has ls' nL ((i, sCv b0 L v) :: (sLv b0 L 0 E).filter (fun q => !(q.1 == i) && (!(q.1 == i + 1) && !(q.1 + 1 == i && q.2.category == 2))))) : lv_has ls' nL (sLv b0 L 0 (eSet2 E i v)) := by
  refine ⟨h.1, h.2.1, fun q hq => h.2.2 q ?_⟩
  obtain ⟨j, w⟩ := q
  obtain ⟨k, x, h1, h2, h3⟩ := (sLv_mem _ 0 j w).mp hq
  unfold eSet2 at h1
  rw [eSet_eq, List.getElem?_set] at h1
  by_cases hk1 : i + 1 = k
  · subst hk1
    simp only [if_true] at h1
    split at h1 <;> cases h1
  · rw [if_neg hk1, List.getElem?_set] at h1
    by_cases hk : i = k
    · subst hk
      simp only [if_true] at h1
      split at h1
      · cases h1
        rw [h2, h3, Nat.zero_add]
        exact List.mem_cons_self
      · cases h1
    · rw [if_neg hk] at h1
      obtain ⟨g1, g2⟩ := eKill_get h1
      refine List.mem_cons_of_mem _ (List.mem_filter.mpr ⟨(sLv_mem E 0 j w).mpr ⟨k, x, g1, h2, h3⟩, ?_⟩)
      have e1 : (j == i) = false := by simpa using (show j ≠ i by omega)
      have e3 : (j == i + 1) = false := by simpa using (show j ≠ i + 1 by omega)
      show (!(j == i) && (!(j == i + 1) && !(j + 1 == i && w.category == 2))) = true
      rw [e1, e3, h3, avCat]
      by_cases h5 : k + 1 = i
      · rw [g2 h5]; simp
      · have e2 : (j + 1 == i) = false := by simpa using (show j + 1 ≠ i by omega)
        rw [e2]; rfl
end
/-- a switch's cases from the number k on -/
def xSw (P : Nat → Prop) (x : Int32) : Int → List Nat → Prop
  | _, [] => True
  | k, t :: r => (x.toInt = k → P t) ∧ xSw P x (k + 1) r
def xLk (P : Nat → Prop) (x : Int32) : List Int → List Nat → Prop
  | k :: ks, t :: r => (x.toInt = k → P t) ∧ xLk P x ks r
  | _, _ => True
def xLn (x : Int32) : List Int → Prop
  | [] => True
  | k :: ks => ¬ x.toInt = k ∧ xLn x ks
abbrev aI (x : Int32) : AV := .inl (.int x)
abbrev aR (i : Nat) : AV := .inl (.ref i)
abbrev aL (x : Int64) : AV := .inl (.long x)
/-- a method by its entry: words taken, the receiver's class number (none: static), its name, bytes, locals, return -/
abbrev xMe : Type := Nat × Option Nat × MethodName × ByteArray × Nat × Option FieldType
/-- what the code says beside its bytes: fields by pool number (class, field, kind: 1 an int, 2 a boolean, 4 a reference that changes, 3 read alone), constants, long constants, calls -/
abbrev xTb : Type := List (Nat × Nat × Nat × Nat) × List (Nat × Int32) × List (Nat × Int64) × List (Nat × xMe)
/-- words of a stack -/
def avSum (st : List AV) : Nat := (st.map fun v => if avCat2 v then 2 else 1).sum
/-- a row's variable: kind, length, variable, row, and what bounds the row's number -/
def xi (L : sLay) (nL : Nat) (X : xTb) (scr : Option (Nat × Nat × (Nat → Int32))) (cal : xMe → List AV → sMem → (List AV → sMem → Prop) → Prop) (ret : Option FieldType) (rt : List AV → sMem → Prop) (K : Nat → List (Option AV) → List AV → sMem → Prop) (nx : Nat) (E : List (Option AV)) (st : List AV) (σ : sMem) (i : Instr) (len : Nat) (tg : List Nat) : Prop := match i, len with
  | .iconst n, 1 => K nx E (aI (Int32.ofInt n) :: st) σ
  | .bipush n, 2 => K nx E (aI (Int8.ofInt n).toInt32 :: st) σ
  | .sipush n, 3 => K nx E (aI (Int16.ofInt n).toInt32 :: st) σ
  | .lconst n, 1 => K nx E (aL (Int64.ofNat n) :: st) σ
  | .ldc n, 2 => match X.2.1.lookup n with
    | some v => K nx E (aI v :: st) σ
    | none => False
  | .ldc_w n, 3 => match X.2.1.lookup n with
    | some v => K nx E (aI v :: st) σ
    | none => False
  | .ldc2_w n, 3 => match X.2.2.1.lookup n with
    | some v => K nx E (aL v :: st) σ
    | none => False
  | .iload n, 2 => match E[n]? with
    | some (some (.inl (.int x))) => K nx E (aI x :: st) σ
    | _ => False
  | .iload_n n, 1 => match E[n.val]? with
    | some (some (.inl (.int x))) => K nx E (aI x :: st) σ
    | _ => False
  | .lload n, 2 => match E[n]? with
    | some (some (.inl (.long x))) => K nx E (aL x :: st) σ
    | _ => False
  | .lload_n n, 1 => match E[n.val]? with
    | some (some (.inl (.long x))) => K nx E (aL x :: st) σ
    | _ => False
  | .aload n, 2 => match E[n]? with
    | some (some (.inl (.ref x))) => K nx E (aR x :: st) σ
    | some (some (.inl (.retAddr x))) => K nx E (.inl (.retAddr x) :: st) σ
    | some (some (.inr x)) => K nx E (.inr x :: st) σ
    | _ => False
  | .aload_n n, 1 => match E[n.val]? with
    | some (some (.inl (.ref x))) => K nx E (aR x :: st) σ
    | some (some (.inl (.retAddr x))) => K nx E (.inl (.retAddr x) :: st) σ
    | some (some (.inr x)) => K nx E (.inr x :: st) σ
    | _ => False
  | .istore n, 2 => match st, Nat.blt n nL with
    | .inl (.int x) :: r, true => K nx (eSet E n (aI x)) r σ
    | _, _ => False
  | .lstore n, 2 => match st, Nat.blt (n + 1) nL with
    | .inl (.long x) :: r, true => K nx (eSet2 E n (aL x)) r σ
    | _, _ => False
  | .astore n, 2 => match st, Nat.blt n nL with
    | .inl (.ref x) :: r, true => K nx (eSet E n (aR x)) r σ
    | .inl (.retAddr x) :: r, true => K nx (eSet E n (.inl (.retAddr x))) r σ
    | .inr x :: r, true => K nx (eSet E n (.inr x)) r σ
    | _, _ => False
  | .istore_n n, 1 => match st, Nat.blt n.val nL with
    | .inl (.int x) :: r, true => K nx (eSet E n.val (aI x)) r σ
    | _, _ => False
  | .lstore_n n, 1 => match st, Nat.blt (n.val + 1) nL with
    | .inl (.long x) :: r, true => K nx (eSet2 E n.val (aL x)) r σ
    | _, _ => False
  | .astore_n n, 1 => match st, Nat.blt n.val nL with
    | .inl (.ref x) :: r, true => K nx (eSet E n.val (aR x)) r σ
    | .inl (.retAddr x) :: r, true => K nx (eSet E n.val (.inl (.retAddr x))) r σ
    | .inr x :: r, true => K nx (eSet E n.val (.inr x)) r σ
    | _, _ => False
  | .iinc n d, 3 => match E[n]?, Nat.blt n nL with
    | some (some (.inl (.int x))), true => K nx (eSet E n (aI (x + Int32.ofInt d))) st σ
    | _, _ => False
  | .iadd, 1 => match st with
    | .inl (.int y) :: .inl (.int x) :: r => K nx E (aI (x + y) :: r) σ
    | _ => False
  | .isub, 1 => match st with
    | .inl (.int y) :: .inl (.int x) :: r => K nx E (aI (x - y) :: r) σ
    | _ => False
  | .imul, 1 => match st with
    | .inl (.int y) :: .inl (.int x) :: r => K nx E (aI (x * y) :: r) σ
    | _ => False
  | .iand, 1 => match st with
    | .inl (.int y) :: .inl (.int x) :: r => K nx E (aI (x &&& y) :: r) σ
    | _ => False
  | .ior, 1 => match st with
    | .inl (.int y) :: .inl (.int x) :: r => K nx E (aI (x ||| y) :: r) σ
    | _ => False
  | .ixor, 1 => match st with
    | .inl (.int y) :: .inl (.int x) :: r => K nx E (aI (x ^^^ y) :: r) σ
    | _ => False
  | .ishl, 1 => match st with
    | .inl (.int y) :: .inl (.int x) :: r => K nx E (aI (x <<< (y &&& 31)) :: r) σ
    | _ => False
  | .ishr, 1 => match st with
    | .inl (.int y) :: .inl (.int x) :: r => K nx E (aI (x >>> (y &&& 31)) :: r) σ
    | _ => False
  | .iushr, 1 => match st with
    | .inl (.int y) :: .inl (.int x) :: r => K nx E (aI ((x.toUInt32 >>> (y.toUInt32 &&& Int32.toUInt32 31)).toInt32) :: r) σ
    | _ => False
  | .idiv, 1 => match st with
    | .inl (.int y) :: .inl (.int x) :: r => ¬ y = 0 ∧ K nx E (aI (x / y) :: r) σ
    | _ => False
  | .irem, 1 => match st with
    | .inl (.int y) :: .inl (.int x) :: r => ¬ y = 0 ∧ K nx E (aI (x - x / y * y) :: r) σ
    | _ => False
  | .ineg, 1 => match st with
    | .inl (.int x) :: r => K nx E (aI (-x) :: r) σ
    | _ => False
  | .i2l, 1 => match st with
    | .inl (.int x) :: r => K nx E (aL (x.toInt64) :: r) σ
    | _ => False
  | .l2i, 1 => match st with
    | .inl (.long x) :: r => K nx E (aI (x.toInt32) :: r) σ
    | _ => False
  | .i2b, 1 => match st with
    | .inl (.int x) :: r => K nx E (aI (x.toInt8.toInt32) :: r) σ
    | _ => False
  | .ladd, 1 => match st with
    | .inl (.long y) :: .inl (.long x) :: r => K nx E (aL (x + y) :: r) σ
    | _ => False
  | .lsub, 1 => match st with
    | .inl (.long y) :: .inl (.long x) :: r => K nx E (aL (x - y) :: r) σ
    | _ => False
  | .lmul, 1 => match st with
    | .inl (.long y) :: .inl (.long x) :: r => K nx E (aL (x * y) :: r) σ
    | _ => False
  | .ldiv, 1 => match st with
    | .inl (.long y) :: .inl (.long x) :: r => ¬ y = 0 ∧ K nx E (aL (x / y) :: r) σ
    | _ => False
  | .lcmp, 1 => match st with
    | .inl (.long y) :: .inl (.long x) :: r => K nx E (aI (lg_cmp x y) :: r) σ
    | _ => False
  | .dup, 1 => match st with
    | v :: r => match avCat2 v with
      | false => K nx E (v :: v :: r) σ
      | true => False
    | _ => False
  | .dup2, 1 => match st with
    | v :: w :: r => match avCat2 v, avCat2 w with
      | false, false => K nx E (v :: w :: v :: w :: r) σ
      | _, _ => False
    | _ => False
  | .pop, 1 => match st with
    | v :: r => match avCat2 v with
      | false => K nx E r σ
      | true => False
    | _ => False
  | .goto _, 3 => match tg with
    | [t] => K t E st σ
    | _ => False
  | .ifCond .eq _, 3 => match tg, st with
    | [t], .inl (.int x) :: r => (x = 0 → K t E r σ) ∧ (¬ x = 0 → K nx E r σ)
    | _, _ => False
  | .ifCond .ne _, 3 => match tg, st with
    | [t], .inl (.int x) :: r => (¬ x = 0 → K t E r σ) ∧ (x = 0 → K nx E r σ)
    | _, _ => False
  | .ifCond .lt _, 3 => match tg, st with
    | [t], .inl (.int x) :: r => (x < 0 → K t E r σ) ∧ (¬ x < 0 → K nx E r σ)
    | _, _ => False
  | .ifCond .ge _, 3 => match tg, st with
    | [t], .inl (.int x) :: r => (0 ≤ x → K t E r σ) ∧ (¬ 0 ≤ x → K nx E r σ)
    | _, _ => False
  | .ifCond .gt _, 3 => match tg, st with
    | [t], .inl (.int x) :: r => (0 < x → K t E r σ) ∧ (¬ 0 < x → K nx E r σ)
    | _, _ => False
  | .ifCond .le _, 3 => match tg, st with
    | [t], .inl (.int x) :: r => (x ≤ 0 → K t E r σ) ∧ (¬ x ≤ 0 → K nx E r σ)
    | _, _ => False
  | .if_icmp .eq _, 3 => match tg, st with
    | [t], .inl (.int y) :: .inl (.int x) :: r => (x = y → K t E r σ) ∧ (¬ x = y → K nx E r σ)
    | _, _ => False
  | .if_icmp .ne _, 3 => match tg, st with
    | [t], .inl (.int y) :: .inl (.int x) :: r => (¬ x = y → K t E r σ) ∧ (x = y → K nx E r σ)
    | _, _ => False
  | .if_icmp .lt _, 3 => match tg, st with
    | [t], .inl (.int y) :: .inl (.int x) :: r => (x < y → K t E r σ) ∧ (¬ x < y → K nx E r σ)
    | _, _ => False
  | .if_icmp .ge _, 3 => match tg, st with
    | [t], .inl (.int y) :: .inl (.int x) :: r => (y ≤ x → K t E r σ) ∧ (¬ y ≤ x → K nx E r σ)
    | _, _ => False
  | .if_icmp .gt _, 3 => match tg, st with
    | [t], .inl (.int y) :: .inl (.int x) :: r => (y < x → K t E r σ) ∧ (¬ y < x → K nx E r σ)
    | _, _ => False
  | .if_icmp .le _, 3 => match tg, st with
    | [t], .inl (.int y) :: .inl (.int x) :: r => (x ≤ y → K t E r σ) ∧ (¬ x ≤ y → K nx E r σ)
    | _, _ => False
  | .tableswitch _ lo hi _, _ => match tg, st with
    | t :: ts, .inl (.int x) :: r => ((x.toInt < lo ∨ hi < x.toInt) → K t E r σ) ∧ xSw (fun t => K t E r σ) x lo ts
    | _, _ => False
  | .lookupswitch _ ps, _ => match tg, st with
    | t :: ts, .inl (.int x) :: r => (xLn x (ps.toList.map (·.1)) → K t E r σ) ∧ xLk (fun t => K t E r σ) x (ps.toList.map (·.1)) ts
    | _, _ => False
  | .getfield n, 3 => match st with
    | .inl (.ref v) :: r => match L[v]?, X.1.lookup n with
      | some (_, .inl (ci, fs)), some (cj, f, _) => match Nat.beq ci cj, fs[f]? with
        | true, some none => K nx E (aI (σ v 0 f) :: r) σ
        | true, some (some (some w)) => K nx E (aR w :: r) σ
        | true, some (some none) => K nx E (aR (σ v 0 f).toNatClampNeg :: r) σ
        | _, _ => False
      | _, _ => False
    | _ => False
  | .putfield n, 3 => match st with
    | .inl (.int x) :: .inl (.ref v) :: r => match L[v]?, X.1.lookup n with
      | some (_, .inl (ci, fs)), some (cj, f, c) => match Nat.beq ci cj, fs[f]?, c with
        | true, some none, 1 => K nx E r (sUp σ v 0 f x)
        | true, some none, 2 => (x = 0 ∨ x = 1) ∧ K nx E r (sUp σ v 0 f x)
        | _, _, _ => False
      | _, _ => False
    | .inl (.ref w) :: .inl (.ref v) :: r => match L[v]?, X.1.lookup n with
      | some (_, .inl (ci, fs)), some (cj, f, c) => match Nat.beq ci cj, fs[f]?, c with
        | true, some (some none), 4 => w < 2 ^ 31 ∧ K nx E r (sUp σ v 0 f (nI w))
        | _, _, _ => False
      | _, _ => False
    | _ => False
  | .iaload, 1 => match st with
    | .inl (.int k) :: a :: r => match a with
      | .inl (.retAddr x) => match scr with
        | some (b, n, xs) => x = b ∧ vp_in k n ∧ K nx E (aI (xs k.toNatClampNeg) :: r) σ
        | none => False
      | .inl (.ref i) => match L[i]? with
        | some (_, .inr (.inl (0, n))) => vp_in k n ∧ K nx E (aI (σ i 0 k.toNatClampNeg) :: r) σ
        | _ => False
      | .inr (i, j) => match L[i]? with
        | some (_, .inr (.inr (n, m))) => j < n ∧ vp_in k m ∧ K nx E (aI (σ i j k.toNatClampNeg) :: r) σ
        | _ => False
      | _ => False
    | _ => False
  | .baload, 1 => match st with
    | .inl (.int k) :: a :: r => match a with
      | .inl (.ref i) => match L[i]? with
        | some (_, .inr (.inl (2, n))) => vp_in k n ∧ K nx E (aI (σ i 0 k.toNatClampNeg) :: r) σ
        | _ => False
      | _ => False
    | _ => False
  | .iastore, 1 => match st with
    | .inl (.int x) :: .inl (.int k) :: a :: r => match a with
      | .inl (.ref i) => match L[i]? with
        | some (_, .inr (.inl (0, n))) => vp_in k n ∧ K nx E r (sUp σ i 0 k.toNatClampNeg x)
        | _ => False
      | .inr (i, j) => match L[i]? with
        | some (_, .inr (.inr (n, m))) => j < n ∧ vp_in k m ∧ K nx E r (sUp σ i j k.toNatClampNeg x)
        | _ => False
      | _ => False
    | _ => False
  | .bastore, 1 => match st with
    | .inl (.int x) :: .inl (.int k) :: a :: r => match a with
      | .inl (.ref i) => match L[i]? with
        | some (_, .inr (.inl (2, n))) => vp_in k n ∧ K nx E r (sUp σ i 0 k.toNatClampNeg (vp_nar .byte x))
        | _ => False
      | _ => False
    | _ => False
  | .aaload, 1 => match st with
    | .inl (.int k) :: .inl (.ref v) :: r => match L[v]? with
      | some (_, .inr (.inr (n, _))) => vp_in k n ∧ K nx E (.inr (v, k.toNatClampNeg) :: r) σ
      | _ => False
    | _ => False
  | .laload, 1 => match st with
    | .inl (.int k) :: .inl (.ref i) :: r => match L[i]? with
      | some (_, .inr (.inl (3, n))) => vp_in k n ∧ K nx E (aL (σ i 0 k.toNatClampNeg).toInt64 :: r) σ
      | _ => False
    | _ => False
  | .lastore, 1 => match st with
    | .inl (.long x) :: .inl (.int k) :: .inl (.ref i) :: r => match L[i]? with
      | some (_, .inr (.inl (3, n))) => vp_in k n ∧ ∃ w : Int32, x = w.toInt64 ∧ K nx E r (sUp σ i 0 k.toNatClampNeg w)
      | _ => False
    | _ => False
  | .arraylength, 1 => match st with
    | .inl (.retAddr x) :: r => match scr with
      | some (b, n, _) => x = b ∧ K nx E (aI (Int32.ofNat n) :: r) σ
      | none => False
    | .inl (.ref v) :: r => match L[v]? with
      | some (_, .inr (.inl (0, n))) => K nx E (aI (Int32.ofNat n) :: r) σ
      | some (_, .inr (.inr (n, _))) => K nx E (aI (Int32.ofNat n) :: r) σ
      | _ => False
    | .inr (i, j) :: r => match L[i]? with
      | some (_, .inr (.inr (n, m))) => j < n ∧ K nx E (aI (Int32.ofNat m) :: r) σ
      | _ => False
    | _ => False
  | .invokevirtual n, 3 => match X.2.2.2.lookup n with
    | some (k, some ci, q) => match Nat.ble k st.length, Nat.ble (avSum (st.drop k)) 8, (st.take k).reverse with
      | true, true, .inl (.ref v) :: as => match L[v]? with
        | some (_, .inl (cj, _)) => match Nat.beq ci cj with
          | true => cal (k, some ci, q) (aR v :: as) σ (fun r σ' => K nx E (r ++ st.drop k) σ')
          | false => False
        | _ => False
      | _, _, _ => False
    | _ => False
  | .invokestatic n, 3 => match X.2.2.2.lookup n with
    | some (k, none, q) => match Nat.ble k st.length, Nat.ble (avSum (st.drop k)) 8 with
      | true, true => cal (k, none, q) (st.take k).reverse σ (fun r σ' => K nx E (r ++ st.drop k) σ')
      | _, _ => False
    | _ => False
  | .ireturn, 1 => match st, ret with
    | [.inl (.int x)], some .int => rt [aI x] σ
    | [.inl (.int x)], some .boolean => (x = 0 ∨ x = 1) ∧ rt [aI x] σ
    | _, _ => False
  | .lreturn, 1 => match st, ret with
    | [.inl (.long x)], some .long => rt [aL x] σ
    | _, _ => False
  | .areturn, 1 => match st, ret with
    | [.inl (.ref x)], some (.array _) => rt [aR x] σ
    | [.inl (.ref x)], some (.object _) => rt [aR x] σ
    | [.inr x], some (.array _) => rt [.inr x] σ
    | _, _ => False
  | .return_, 1 => match st, ret with
    | [], none => rt [] σ
    | _, _ => False
  | _, _ => False
/-- a method's instructions: place, instruction, length, the next place, where else it may go -/
abbrev xCode : Type := List (Nat × Instr × Nat × Nat × List Nat)
def xw (L : sLay) (nL : Nat) (X : xTb) (T : xCode) (scr : Option (Nat × Nat × (Nat → Int32))) (cal : xMe → List AV → sMem → (List AV → sMem → Prop) → Prop) (ret : Option FieldType) (rt : List AV → sMem → Prop) (K : Nat → List (Option AV) → List AV → sMem → Prop) (pc : Nat) (E : List (Option AV)) (st : List AV) (σ : sMem) : Prop := match T.lookup pc with
  | some (i, len, nx, tg) => xi L nL X scr cal ret rt K nx E st σ i len tg
  | none => False
def xTg (pc : Nat) (i : Instr) (tg : List Nat) : Bool := match i with
  | .goto off => match tg with
    | [t] => decide ((pc : Int) + off = (t : Int))
    | _ => false
  | .ifCond _ off => match tg with
    | [t] => decide ((pc : Int) + off = (t : Int))
    | _ => false
  | .if_icmp _ off => match tg with
    | [t] => decide ((pc : Int) + off = (t : Int))
    | _ => false
  | .tableswitch d lo hi offs => match tg with
    | t :: ts => decide ((pc : Int) + d = (t : Int)) && decide (hi - lo + 1 = (ts.length : Int)) && decide (offs.toList.map (fun o => (pc : Int) + o) = ts.map (fun (n : Nat) => (n : Int)))
    | _ => false
  | .lookupswitch d ps => match tg with
    | t :: ts => decide ((pc : Int) + d = (t : Int)) && decide (ps.toList.map (fun o => (pc : Int) + o.2) = ts.map (fun (n : Nat) => (n : Int))) && (ps.toList.zip (ps.toList.drop 1)).all (fun (a, next) => a.1 < next.1)
    | _ => false
  | _ => true
def xOK (cc : ByteArray) (T : xCode) : Bool := T.all fun q => decide (decode cc q.1 = .ok (q.2.1, q.2.2.1)) && xTg q.1 q.2.1 q.2.2.2.2 && decide (q.2.2.2.1 = q.1 + q.2.2.1)
