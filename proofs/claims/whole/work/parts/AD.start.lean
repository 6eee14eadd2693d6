/-! THE START: classes and rows by their numbers; both layouts in one; the relation holds -/
theorem in_inst : ∀ (ci : Nat) (r : vw_C), vwCl[ci]? = some r → Cond.instantiable r.1 r.2.2 ∈ sTB := by
  intro ci r h
  match ci, h with
  | 0, h => cases h; exact wq 369 (by decide +kernel) (by decide +kernel)
  | 1, h => cases h; exact wq 451 (by decide +kernel) (by decide +kernel)
  | 2, h => cases h; exact wq 478 (by decide +kernel) (by decide +kernel)
  | 3, h => cases h; exact wq 425 (by decide +kernel) (by decide +kernel)
  | 4, h => cases h; exact wq 302 (by decide +kernel) (by decide +kernel)
  | 5, h => cases h; exact wq 326 (by decide +kernel) (by decide +kernel)
  | 6, h => cases h; exact wq 145 (by decide +kernel) (by decide +kernel)
  | 7, h => cases h; exact wq 139 (by decide +kernel) (by decide +kernel)
  | 8, h => cases h; exact wq 131 (by decide +kernel) (by decide +kernel)
  | 9, h => cases h; exact wq 1348 (by decide +kernel) (by decide +kernel)
  | k + 10, h => simp [vwCl] at h
theorem k_start {s : State} {args : Array Value} (hts : ∀ w ∈ sTB, w.before args s = true) (ho : (Cond.arrayOver (.array .int)).before args s = true) : ∃ (D : va_G) (ty : Nat → ClassId), va_K D vwCl (sTys ty) s := by
  have h1 : ∀ c : Nat, ∃ p : ClassId × (Nat → Nat), ∀ q, vwCl[c]? = some q → u_Kn s q.1 q.2.1 q.2.2 p.1 p.2 := by
    intro c
    cases hc : vwCl[c]? with
    | none => exact ⟨(0, fun _ => 0), fun q h => by cases h⟩
    | some q =>
      obtain ⟨cC, iS, hk⟩ := u_known (C := q.1) (T := q.2.1) (N := q.2.2) hts (sCl c q hc).1 (hts _ (in_inst c q hc))
      exact ⟨(cC, iS), fun q' h => by cases h; exact hk⟩
  obtain ⟨f, hf⟩ := Classical.axiomOfChoice h1
  have ha : ∀ t : FieldType, (Cond.arrayClass t).before args s = true → ∃ c : ClassId, ArrOfT s c t ∧ s.vm.findClass ("[" ++ t.toString) = some c := fun t h => by
    obtain ⟨c, k, comp, g1, g2, g3⟩ := Cond.arrayClass_spec (args := args) (first := s) (o := none) (s := s) (idx := []) h
    exact ⟨c, fun n z => ⟨fun k h => (by cases h), k, g2, comp, g3⟩, g1⟩
  obtain ⟨c0, a0, b0⟩ := ha .int (hts _ (by decide +kernel))
  obtain ⟨c2, a2, b2⟩ := ha .byte (hts _ (by decide +kernel))
  obtain ⟨c3, a3, b3⟩ := ha .long (hts _ (by decide +kernel))
  obtain ⟨comp, c1, k1, -, g2, g3, b1⟩ := Cond.arrayOver_specA (args := args) (first := s) (o := none) (s := s) (idx := []) ho
  refine ⟨(fun c => (f c).1, fun c => (f c).2), fun k => match k with
    | 0 => c0
    | 1 => c1
    | 2 => c2
    | _ => c3, fun c q h => hf c q h, fun k q h => ?_⟩
  match k, h with
  | 0, h => cases h; exact ⟨a0, b0⟩
  | 1, h => cases h; exact ⟨fun n z => ⟨fun k h => (by cases h), k1, g2, comp, g3⟩, b1⟩
  | 2, h => cases h; exact ⟨a2, b2⟩
  | 3, h => cases h; exact ⟨a3, b3⟩
  | k + 4, h => simp [sTys] at h
def fCk (L L' : sLay) : List (Option (Option Nat)) → List (Option (Option Nat)) → Bool
  | [], [] => true
  | f :: r, f' :: r' => (match f, f' with
    | none, none => true
    | some none, some none => true
    | some (some j), some (some j') => decide (sOff L j = sOff L' j')
    | _, _ => false) && fCk L L' r r'
  | _, _ => false
def rCk (L L' : sLay) : sLay → sLay → Bool
  | [], [] => true
  | q :: r, q' :: r' => decide (q.1 = q'.1) && (match q.2, q'.2 with
    | .inl x, .inl y => decide (x.1 = y.1) && fCk L L' x.2 y.2
    | .inr x, .inr y => decide (x = y)
    | _, _ => false) && rCk L L' r r'
  | _, _ => false
section
variable {b0 : Nat} {ty : Nat → ClassId} {L L' : sLay} {σ σ' : sMem}
theorem fCk_eq {i i' : Nat} : ∀ (fs fs' : List (Option (Option Nat))) (n : Nat), fCk L L' fs fs' = true → (∀ f, (fs[f]? = some none → σ' i' 0 (n + f) = σ i 0 (n + f)) ∧ (fs[f]? = some (some none) → sOff L' (σ' i' 0 (n + f)).toNatClampNeg = sOff L (σ i 0 (n + f)).toNatClampNeg)) → (fs'.zipIdx n).map (sFv b0 L' σ' i') = (fs.zipIdx n).map (sFv b0 L σ i)
  | [], [], n, _, _ => rfl
  | [], _ :: _, n, h, _ => by cases h
  | _ :: _, [], n, h, _ => by cases h
  | f :: r, f' :: r', n, h, hv => by
    unfold fCk at h
    rw [Bool.and_eq_true] at h
    have ih := fCk_eq r r' (n + 1) h.2 (fun k => by have := hv (k + 1); rw [show n + 1 + k = n + (k + 1) by omega]; simpa using this)
    rw [List.zipIdx_cons, List.map_cons, List.zipIdx_cons, List.map_cons, ih]
    congr 1
    have h0 := hv 0
    rw [Nat.add_zero] at h0
    have h1 := h.1
    split at h1
    · show Value.int (σ' i' 0 n) = Value.int (σ i 0 n)
      rw [h0.1 rfl]
    · show Value.ref (b0 + sOff L' (σ' i' 0 n).toNatClampNeg) = Value.ref (b0 + sOff L (σ i 0 n).toNatClampNeg)
      rw [h0.2 rfl]
    · rename_i j j'
      show Value.ref (b0 + sOff L' j') = Value.ref (b0 + sOff L j)
      rw [of_decide_eq_true h1]
    · cases h1
theorem sFl_re : ∀ (l l' : sLay) (n n' : Nat), rCk L L' l l' = true → (∀ k o x, l[k]? = some (o, .inr x) → σ' (n' + k) = σ (n + k)) → (∀ k o cj fs f, l[k]? = some (o, .inl (cj, fs)) → (fs[f]? = some none → σ' (n' + k) 0 f = σ (n + k) 0 f) ∧ (fs[f]? = some (some none) → sOff L' (σ' (n' + k) 0 f).toNatClampNeg = sOff L (σ (n + k) 0 f).toNatClampNeg)) → sFl b0 ty L' σ' n' l' = sFl b0 ty L σ n l
  | [], [], n, n', _, _, _ => rfl
  | [], _ :: _, n, n', h, _, _ => by cases h
  | _ :: _, [], n, n', h, _, _ => by cases h
  | q :: r, q' :: r', n, n', h, h1, h2 => by
    unfold rCk at h
    rw [Bool.and_eq_true, Bool.and_eq_true] at h
    obtain ⟨⟨g1, g2⟩, g3⟩ := h
    show sBlk b0 ty L' σ' n' q' ++ sFl b0 ty L' σ' (n' + 1) r' = sBlk b0 ty L σ n q ++ sFl b0 ty L σ (n + 1) r
    rw [sFl_re r r' (n + 1) (n' + 1) g3 (fun k o x e => by
      have := h1 (k + 1) o x (by rw [List.getElem?_cons_succ]; exact e)
      rw [show n' + 1 + k = n' + (k + 1) by omega, show n + 1 + k = n + (k + 1) by omega]; exact this) (fun k o cj fs f e => by
      have := h2 (k + 1) o cj fs f (by rw [List.getElem?_cons_succ]; exact e)
      rw [show n' + 1 + k = n' + (k + 1) by omega, show n + 1 + k = n + (k + 1) by omega]; exact this)]
    congr 1
    obtain ⟨o, kd⟩ := q
    obtain ⟨o', kd'⟩ := q'
    have eo : o = o' := of_decide_eq_true g1
    subst eo
    simp only at g2
    split at g2
    · rename_i x y
      rw [Bool.and_eq_true] at g2
      have e1 := of_decide_eq_true g2.1
      have e2 := fCk_eq (b0 := b0) (σ := σ) (σ' := σ') (i := n) (i' := n') x.2 y.2 0 g2.2 (fun f => by
        have := h2 0 o x.1 x.2 f rfl
        rw [Nat.zero_add]; exact this)
      show [(b0 + o, Sum.inr (y.1, y.2.zipIdx.map (sFv b0 L' σ' n')))] = [(b0 + o, Sum.inr (x.1, x.2.zipIdx.map (sFv b0 L σ n)))]
      rw [e2, e1]
    · rename_i x y
      have e1 := of_decide_eq_true g2
      subst e1
      have e2 : σ' n' = σ n := h1 0 o x rfl
      rcases x with x | x
      · unfold sBlk; simp only [e2]
      · unfold sBlk; simp only [e2]
    · cases g2
theorem sFl_app2 : ∀ (a c : sLay) (n : Nat), sFl b0 ty L σ n (a ++ c) = sFl b0 ty L σ n a ++ sFl b0 ty L σ (n + a.length) c
  | [], c, n => rfl
  | q :: r, c, n => by
    show sBlk b0 ty L σ n q ++ sFl b0 ty L σ (n + 1) (r ++ c) = (sBlk b0 ty L σ n q ++ sFl b0 ty L σ (n + 1) r) ++ sFl b0 ty L σ (n + (r.length + 1)) c
    rw [sFl_app2 r c (n + 1), List.append_assoc, show n + 1 + r.length = n + (r.length + 1) by omega]
end
def layA : sLay := lay.take 34
def layB : sLay := (lay.drop 34).take 66
def layC : sLay := lay.drop 100
theorem lay_abc : lay = layA ++ (layB ++ layC) := by
  have e : layC = (lay.drop 34).drop 66 := by unfold layC; rw [List.drop_drop]
  rw [e]
  unfold layA layB
  rw [List.take_append_drop, List.take_append_drop]
theorem rk9 : rCk lay9 lay lay9 layA = true := by decide +kernel
theorem rk8 : rCk lay8 lay lay8 layB = true := by decide +kernel
theorem ln9 : layA.length = 34 := by decide +kernel
theorem ln8 : layB.length = 66 := by decide +kernel
theorem lnC : layC = [(361, .inr (.inl (3, 1)))] := rfl
/-- the changing references, by the numbers of all variables -/
def dyV (i k : Nat) : Option Nat := match i, k with
  | 34, 3 => some 36
  | 34, 4 => some 54
  | 74, 2 => some 75
  | 81, 0 => some 36
  | 81, 1 => some 76
  | 94, 0 => some 36
  | _, _ => none
def σF (σ8 σ9 : sMem) : sMem := fun i j k => if i < 34 then σ9 i j k else if i < 100 then (match dyV i k with
  | some w => nI w
  | none => σ8 (i - 34) j k) else 0
