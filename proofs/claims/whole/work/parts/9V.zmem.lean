/-! A WORLD OF CELLS is a layout with a memory -/
def zIdx (L : sLay) (sh o : Nat) : Nat := L.findIdx (fun q => q.1 == sh + o)
def zMem (L : sLay) (sh : Nat) (w : List zC) : sMem := fun i _ k => match w[i]? with
  | some (.inl x) => match x.2[k]? with
    | some (.inl v) => v
    | some (.inr (some o)) => nI (zIdx L sh o)
    | _ => 0
  | _ => 0
def zFc (L : sLay) (sh : Nat) (f : Option (Option Nat)) (v : zV) : Bool := match f, v with
  | none, .inl _ => true
  | some (some j), .inr (some o) => decide (sOff L j = sh + o)
  | some none, .inr (some o) => decide (sOff L (zIdx L sh o) = sh + o) && decide (zIdx L sh o < 1000)
  | _, _ => false
def zFa (L : sLay) (sh : Nat) : List (Option (Option Nat)) → List zV → Bool
  | [], [] => true
  | f :: r, v :: s => zFc L sh f v && zFa L sh r s
  | _, _ => false
def zCk (L : sLay) (sh : Nat) : Nat → sLay → List zC → Bool
  | _, [], [] => true
  | o, q :: r, z :: s => decide (q.1 = sh + o) && (match q.2, z with
    | .inl x, .inl y => decide (x.1 = y.1) && zFa L sh x.2 y.2
    | .inr (.inl x), .inr (.inl y) => decide (x = y) && decide (x.1 ≠ 3)
    | .inr (.inr x), .inr (.inr y) => decide (x = y)
    | _, _ => false) && zCk L sh (o + zSz z) r s
  | _, _, _ => false
section
variable {b : Nat} {ty : Nat → ClassId} {L : sLay} {sh : Nat}
theorem zFa_spec {σ : sMem} {i : Nat} : ∀ (fs : List (Option (Option Nat))) (vs : List zV) (n : Nat), zFa L sh fs vs = true → (∀ k v, vs[k]? = some v → σ i 0 (n + k) = match v with
    | .inl x => x
    | .inr (some o) => nI (zIdx L sh o)
    | _ => 0) → (fs.zipIdx n).map (sFv b L σ i) = vs.map (zv (b + sh))
  | [], [], n, _, _ => rfl
  | [], v :: s, n, h, _ => by cases h
  | f :: r, [], n, h, _ => by cases h
  | f :: r, v :: s, n, h, hv => by
    unfold zFa at h
    rw [Bool.and_eq_true] at h
    have ih := zFa_spec r s (n + 1) h.2 (fun k v hk => by rw [show n + 1 + k = n + (k + 1) by omega]; exact hv (k + 1) v (by simpa using hk))
    rw [List.zipIdx_cons, List.map_cons, ih, List.map_cons]
    congr 1
    have h0 := hv 0 v rfl
    rw [Nat.add_zero] at h0
    have h1 := h.1
    unfold zFc at h1
    split at h1
    · simp only at h0
      show Value.int (σ i 0 n) = _
      rw [h0]; rfl
    · rename_i j o
      show Value.ref (b + sOff L j) = Value.ref (b + sh + o)
      rw [of_decide_eq_true h1, Nat.add_assoc]
    · rename_i o
      rw [Bool.and_eq_true] at h1
      have h2 := of_decide_eq_true h1.2
      simp only at h0
      show Value.ref (b + sOff L (σ i 0 n).toNatClampNeg) = Value.ref (b + sh + o)
      rw [h0, nI_clamp (by omega), of_decide_eq_true h1.1, Nat.add_assoc]
    · cases h1
theorem z_world {w0 : List zC} : ∀ (l : sLay) (w : List zC) (i o : Nat), zCk L sh o l w = true → (∀ k, w[k]? = w0[i + k]?) → sFl b ty L (zMem L sh w0) i l = zFl (b + sh) ty o w
  | [], [], i, o, _, _ => rfl
  | [], z :: s, i, o, h, _ => by cases h
  | q :: r, [], i, o, h, _ => by cases h
  | q :: r, z :: s, i, o, h, hw => by
    unfold zCk at h
    rw [Bool.and_eq_true, Bool.and_eq_true] at h
    obtain ⟨⟨h1, h2⟩, h3⟩ := h
    have e1 := of_decide_eq_true h1
    show sBlk b ty L (zMem L sh w0) i q ++ sFl b ty L (zMem L sh w0) (i + 1) r = zBlk (b + sh) ty o z ++ zFl (b + sh) ty (o + zSz z) s
    rw [z_world r s (i + 1) (o + zSz z) h3 (fun k => by have := hw (k + 1); rw [show i + 1 + k = i + (k + 1) by omega, ← this]; rfl)]
    congr 1
    have h0 : w0[i]? = some z := by have := hw 0; rw [Nat.add_zero] at this; exact this.symm
    have ez : b + q.1 = b + sh + o := by rw [e1, Nat.add_assoc]
    obtain ⟨qo, qk⟩ := q
    simp only at h2 e1 ez
    split at h2
    · rename_i x y
      rw [Bool.and_eq_true] at h2
      have hz9 : x.2.zipIdx.map (sFv b L (zMem L sh w0) i) = y.2.map (zv (b + sh)) := zFa_spec x.2 y.2 0 h2.2 (fun k v hk => by
        unfold zMem
        rw [h0, Nat.zero_add]
        simp only [hk]
        rcases v with v | _ | v <;> rfl)
      show [(b + qo, Sum.inr (x.1, x.2.zipIdx.map (sFv b L (zMem L sh w0) i)))] = [(b + sh + o, Sum.inr (y.1, y.2.map (zv (b + sh))))]
      rw [hz9, ez, of_decide_eq_true h2.1]
    · rename_i x y
      rw [Bool.and_eq_true] at h2
      have ex := of_decide_eq_true h2.1
      subst ex
      have hm : zMem L sh w0 i 0 = fun _ => 0 := by
        funext k
        unfold zMem
        rw [h0]
      show [(b + qo, if x.1 = 3 then Sum.inl (ty 3, x.2, Sum.inr (Sum.inl (fun j => (zMem L sh w0 i 0 j).toInt64))) else Sum.inl (ty x.1, x.2, Sum.inl (zMem L sh w0 i 0)))] = [(b + sh + o, Sum.inl (ty x.1, x.2, Sum.inl (fun _ => 0)))]
      rw [if_neg (of_decide_eq_true h2.2), hm, ez]
    · rename_i x y
      have ex := of_decide_eq_true h2
      subst ex
      have hm : ∀ j, zMem L sh w0 i j = fun _ => 0 := by
        intro j
        funext k
        unfold zMem
        rw [h0]
      show (b + qo, Sum.inl (ty 1, x.1, Sum.inr (Sum.inr (Sum.inr (Sum.inr (fun j => some (b + qo + 1 + j))))))) :: (List.range x.1).map (fun j => (b + qo + 1 + j, Sum.inl (ty 0, x.2, Sum.inl (zMem L sh w0 i j)))) = _
      simp only [hm, ez]
      rfl
    · cases h2
end
theorem ck8 : zCk lay8 0 0 lay8 w8 = true := by decide +kernel
theorem ck9 : zCk lay9 176 0 lay9 w9 = true := by decide +kernel
def σ80 : sMem := zMem lay8 0 w8
def σ90 : sMem := zMem lay9 176 w9
theorem wd8 {b : Nat} {ty : Nat → ClassId} : sFl b ty lay8 σ80 0 lay8 = zFl b ty 0 w8 := z_world lay8 w8 0 0 ck8 (fun k => by rw [Nat.zero_add])
theorem wd9 {b : Nat} {ty : Nat → ClassId} : sFl b ty lay9 σ90 0 lay9 = zFl (b + 176) ty 0 w9 := z_world lay9 w9 0 0 ck9 (fun k => by rw [Nat.zero_add])
