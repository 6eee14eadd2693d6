/-! THE STEP IS SOUND -/
def sTB : List Cond := lw_tbl.filter goodWord
theorem sTB_mem {w : Cond} (h : w ∈ lw_tbl) (hg : goodWord w = true) : w ∈ sTB := List.mem_filter.mpr ⟨h, hg⟩
theorem sTB_good : GoodIn sTB sTB := fun w h => ⟨h, good_of_word (List.mem_filter.mp h).2⟩
def sTys (ty : Nat → ClassId) : List (ClassId × FieldType) := [(ty 0, .int), (ty 1, .array .int), (ty 2, .byte), (ty 3, .long)]
set_option maxRecDepth 100000 in
theorem sIn0 : ∀ w ∈ wsX00, w ∈ sTB := by
  have h : (wsX00.all fun w => decide (w ∈ sTB)) = true := by decide +kernel
  exact fun w hw => of_decide_eq_true (List.all_eq_true.mp h w hw)
set_option maxRecDepth 100000 in
theorem sIn1 : ∀ w ∈ wsX10, w ∈ sTB := by
  have h : (wsX10.all fun w => decide (w ∈ sTB)) = true := by decide +kernel
  exact fun w hw => of_decide_eq_true (List.all_eq_true.mp h w hw)
set_option maxRecDepth 100000 in
theorem sIn2 : ∀ w ∈ wsX20, w ∈ sTB := by
  have h : (wsX20.all fun w => decide (w ∈ sTB)) = true := by decide +kernel
  exact fun w hw => of_decide_eq_true (List.all_eq_true.mp h w hw)
set_option maxRecDepth 100000 in
theorem sIn3 : ∀ w ∈ wsX30, w ∈ sTB := by
  have h : (wsX30.all fun w => decide (w ∈ sTB)) = true := by decide +kernel
  exact fun w hw => of_decide_eq_true (List.all_eq_true.mp h w hw)
set_option maxRecDepth 100000 in
theorem sIn4 : ∀ w ∈ wsX40, w ∈ sTB := by
  have h : (wsX40.all fun w => decide (w ∈ sTB)) = true := by decide +kernel
  exact fun w hw => of_decide_eq_true (List.all_eq_true.mp h w hw)
set_option maxRecDepth 100000 in
theorem sIn5 : ∀ w ∈ wsX50, w ∈ sTB := by
  have h : (wsX50.all fun w => decide (w ∈ sTB)) = true := by decide +kernel
  exact fun w hw => of_decide_eq_true (List.all_eq_true.mp h w hw)
set_option maxRecDepth 100000 in
theorem sIn6 : ∀ w ∈ wsX60, w ∈ sTB := by
  have h : (wsX60.all fun w => decide (w ∈ sTB)) = true := by decide +kernel
  exact fun w hw => of_decide_eq_true (List.all_eq_true.mp h w hw)
set_option maxRecDepth 100000 in
theorem sIn7 : ∀ w ∈ wsX70, w ∈ sTB := by
  have h : (wsX70.all fun w => decide (w ∈ sTB)) = true := by decide +kernel
  exact fun w hw => of_decide_eq_true (List.all_eq_true.mp h w hw)
set_option maxRecDepth 100000 in
theorem sIn8 : ∀ w ∈ wsX80, w ∈ sTB := by
  have h : (wsX80.all fun w => decide (w ∈ sTB)) = true := by decide +kernel
  exact fun w hw => of_decide_eq_true (List.all_eq_true.mp h w hw)
set_option maxRecDepth 100000 in
theorem sIn9 : ∀ w ∈ wsX90, w ∈ sTB := by
  have h : (wsX90.all fun w => decide (w ∈ sTB)) = true := by decide +kernel
  exact fun w hw => of_decide_eq_true (List.all_eq_true.mp h w hw)
theorem sCl : ∀ (ci : Nat) (r : vw_C), vwCl[ci]? = some r → (∀ w ∈ u_ws r.1 r.2.1 r.2.2, w ∈ sTB) ∧ (∀ a, a < r.2.2 → ∀ b, b < r.2.2 → a ≠ b → (r.2.1 a).2.1 ≠ (r.2.1 b).2.1) ∧ ∃ ty0 : Nat → FieldType, ∀ k, k < r.2.2 → parseFieldDescriptor (r.2.1 k).2.2.1 = some (ty0 k)
  | 0, r, h => by cases h; exact ⟨sIn0, nmX0, tyX0, tyX0_ok⟩
  | 1, r, h => by cases h; exact ⟨sIn1, nmX1, tyX1, tyX1_ok⟩
  | 2, r, h => by cases h; exact ⟨sIn2, nmX2, tyX2, tyX2_ok⟩
  | 3, r, h => by cases h; exact ⟨sIn3, nmX3, tyX3, tyX3_ok⟩
  | 4, r, h => by cases h; exact ⟨sIn4, nmX4, tyX4, tyX4_ok⟩
  | 5, r, h => by cases h; exact ⟨sIn5, nmX5, tyX5, tyX5_ok⟩
  | 6, r, h => by cases h; exact ⟨sIn6, nmX6, tyX6, tyX6_ok⟩
  | 7, r, h => by cases h; exact ⟨sIn7, nmX7, tyX7, tyX7_ok⟩
  | 8, r, h => by cases h; exact ⟨sIn8, nmX8, tyX8, tyX8_ok⟩
  | 9, r, h => by cases h; exact ⟨sIn9, nmX9, tyX9, tyX9_ok⟩
  | n + 10, r, h => by
    have h1 : vwCl[n + 10]? = none := by simp
    rw [h1] at h; cases h
def sWs (q : xMe) : List Cond := Cond.code q.2.2.1 q.2.2.2.1 q.2.2.2.2.1 q.2.2.2.2.2 :: sTB
def sRm (d : Nat) : Room := { frames := d, cells := 0, slots := 0, locals := 64 * d }
def sOut (b0 : Nat) (L : sLay) (r : List AV) : Option Value := match r with
  | [] => none
  | v :: _ => some (sCv b0 L v)
def sQ (D : va_G) (b0 : Nat) (ty : Nat → ClassId) (L : sLay) (post : List AV → sMem → Prop) : Array Value → State → Outcome → State → Prop := fun _ st o t =>
  (∃ (r : List AV) (σ : sMem), o = .returned (sOut b0 L r) ∧ r.length ≤ 1 ∧ post r σ ∧ va_P D vwCl (sFl b0 ty L σ 0 L) t.heap) ∧ va_F (sA b0 L) st t
/-- THE CONTRACT of a method that makes nothing and doesn't throw: called with 'as' over the memory σ it returns, and 'post' holds of what it gives back and of the memory behind it -/
def sMet (l : Launch) (D : va_G) (b0 : Nat) (ty : Nat → ClassId) (L : sLay) (d : Nat) (q : xMe) (as : List AV) (σ : sMem) (post : List AV → sMem → Prop) : Prop :=
  Met l q.2.2.1 (sWs q) (sRm d) (va_Pc (as.map (sCv b0 L)) (fun U => va_P D vwCl (sFl b0 ty L σ 0 L) U.heap ∧ va_K D vwCl (sTys ty) U)) (sQ D b0 ty L post) 0 0 (sA b0 L)
def sCalD (l : Launch) (D : va_G) (b0 : Nat) (ty : Nat → ClassId) (L : sLay) (d : Nat) (q : xMe) (as : List AV) (σ : sMem) (post : List AV → sMem → Prop) : Prop := match d with
  | 0 => False
  | k + 1 => sMet l D b0 ty L k q as σ post
/-- what a class's tables must say -/
def kdOK (f : String × String × String × Bool) (k : Nat) : Bool := match k with
  | 1 => !f.2.2.2 && decide (f.2.2.1 = "I")
  | 2 => !f.2.2.2 && decide (f.2.2.1 = "Z")
  | 4 => !f.2.2.2 && (match parseFieldDescriptor f.2.2.1 with
    | some (.object _) => true
    | some (.array _) => true
    | _ => false)
  | _ => true
def fOK (own : String) (q : Nat × Nat × Nat × Nat) : Prop := ∃ r : vw_C, vwCl[q.2.1]? = some r ∧ q.2.2.1 < r.2.2 ∧ Cond.fieldLink own q.1 (r.2.1 q.2.2.1).1 (r.2.1 q.2.2.1).2.1 (r.2.1 q.2.2.1).2.2.1 ∈ sTB ∧ kdOK (r.2.1 q.2.2.1) q.2.2.2 = true
def meOK (q : xMe) : Prop := Cond.code q.2.2.1 q.2.2.2.1 q.2.2.2.2.1 q.2.2.2.2.2 ∈ sTB ∧ Cond.initialized q.2.2.1.cls ∈ sTB ∧ (q.2.2.1.cls ≠ "java/lang/invoke/MethodHandle" ∧ q.2.2.1.cls ≠ "java/lang/invoke/VarHandle") ∧ q.2.2.2.2.1 ≤ 45 ∧
  (match q.2.1 with
    | none => Cond.static q.2.2.1 ∈ sTB ∧ (parseMethodDescriptor q.2.2.1.desc).map (fun d => d.parameters.length) = some q.1
    | some ci => ∃ r : vw_C, vwCl[ci]? = some r ∧ r.1 = q.2.2.1.cls ∧ Cond.instanceMethod q.2.2.1 ∈ sTB ∧ Cond.selects q.2.2.1.cls q.2.2.1 q.2.2.1 ∈ sTB ∧ (parseMethodDescriptor q.2.2.1.desc).map (fun d => d.parameters.length + 1) = some q.1)
def xOKX (own : String) (X : xTb) : Prop := (∀ q ∈ X.1, fOK own q) ∧ (∀ q ∈ X.2.1, Cond.constant own q.1 q.2 ∈ sTB) ∧ (∀ q ∈ X.2.2.1, Cond.constantLong own q.1 q.2 ∈ sTB) ∧ ∀ q ∈ X.2.2.2, Cond.methodLink own q.1 q.2.2.2.1 ∈ sTB ∧ meOK q.2
theorem wq {w : Cond} (i : Nat) (h : lw_tbl[i]? = some w) (hg : goodWord w = true) : w ∈ sTB := sTB_mem (List.mem_of_getElem? h) hg
theorem lookup_mem {β : Type} {n : Nat} {v : β} : ∀ {l : List (Nat × β)}, l.lookup n = some v → (n, v) ∈ l
  | [], h => by cases h
  | (a, b) :: r, h => by
    by_cases e : n == a
    · rw [List.lookup_cons, e] at h
      have e2 : n = a := by simpa using e
      cases h
      rw [e2]
      exact List.mem_cons_self
    · have e3 : (n == a) = false := by simpa using e
      rw [List.lookup_cons, e3] at h
      exact List.mem_cons_of_mem _ (lookup_mem h)
