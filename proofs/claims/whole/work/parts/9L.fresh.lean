/-! A WORLD WITH ONE CELL MORE: the layout with one entry behind it -/
section
variable {b0 : Nat} {ty : Nat → ClassId} {L L' : sLay} {σ σ' : sMem}
theorem sBlk_cg {i : Nat} {o : Nat} {k : sKd} (h1 : ∀ cj fs, k = .inl (cj, fs) → ∀ p ∈ fs.zipIdx, sFv b0 L' σ' i p = sFv b0 L σ i p) (h2 : (∀ x, k ≠ .inl x) → σ' i = σ i) : sBlk b0 ty L' σ' i (o, k) = sBlk b0 ty L σ i (o, k) := by
  rcases k with ⟨cj, fs⟩ | a | a
  · show [(b0 + o, _)] = [(b0 + o, _)]
    rw [List.map_congr_left (h1 cj fs rfl)]
  · have e := h2 (fun x q => by cases q)
    unfold sBlk
    simp only [e]
  · have e := h2 (fun x q => by cases q)
    unfold sBlk
    simp only [e]
theorem sFl_cg2 : ∀ (l : sLay) (n : Nat), (∀ k o cj fs, l[k]? = some (o, .inl (cj, fs)) → ∀ p ∈ fs.zipIdx, sFv b0 L' σ' (n + k) p = sFv b0 L σ (n + k) p) → (∀ k o r, l[k]? = some (o, .inr r) → σ' (n + k) = σ (n + k)) → sFl b0 ty L' σ' n l = sFl b0 ty L σ n l
  | [], _, _, _ => rfl
  | (o, k) :: r, n, h1, h2 => by
    show sBlk b0 ty L' σ' n (o, k) ++ sFl b0 ty L' σ' (n + 1) r = sBlk b0 ty L σ n (o, k) ++ sFl b0 ty L σ (n + 1) r
    rw [sBlk_cg (L := L) (L' := L') (σ := σ) (σ' := σ') (fun cj fs e => by subst e; exact h1 0 o cj fs rfl) (fun q => by
        rcases k with x | x
        · exact absurd rfl (q x)
        · exact h2 0 o x rfl), sFl_cg2 r (n + 1) (fun k' o' cj fs e => by
        have := h1 (k' + 1) o' cj fs (by rw [List.getElem?_cons_succ]; exact e)
        rw [show n + 1 + k' = n + (k' + 1) by omega]; exact this) (fun k' o' x e => by
        have := h2 (k' + 1) o' x (by rw [List.getElem?_cons_succ]; exact e)
        rw [show n + 1 + k' = n + (k' + 1) by omega]; exact this)]
theorem sFl_app : ∀ (l : sLay) (n : Nat) (x : Nat × sKd), sFl b0 ty L σ n (l ++ [x]) = sFl b0 ty L σ n l ++ sBlk b0 ty L σ (n + l.length) x
  | [], n, x => by
    show sBlk b0 ty L σ n x ++ [] = [] ++ sBlk b0 ty L σ (n + 0) x
    simp
  | q :: r, n, x => by
    show sBlk b0 ty L σ n q ++ sFl b0 ty L σ (n + 1) (r ++ [x]) = (sBlk b0 ty L σ n q ++ sFl b0 ty L σ (n + 1) r) ++ _
    rw [sFl_app r (n + 1) x, List.append_assoc, List.length_cons, show n + 1 + r.length = n + (r.length + 1) by omega]
theorem sOff_app {x : Nat × sKd} {i : Nat} (h : i ≠ L.length) : sOff (L ++ [x]) i = sOff L i := by
  unfold sOff
  rcases Nat.lt_or_ge i L.length with h1 | h1
  · rw [List.getElem?_append_left h1]
  · rw [List.getElem?_eq_none (by simp; omega), List.getElem?_eq_none h1]
end
/-- the field k of the variable i is a reference that changes -/
def dyB (i k : Nat) : Bool := match lay[i]? with
  | some (_, .inl (_, fs)) => decide (fs[k]? = some (some none))
  | _ => false
/-- no reference that changes names the number behind the last -/
def nz (σ : sMem) : sMem := fun i j k => if dyB i k = true ∧ (σ i j k).toNatClampNeg = lay.length then nI 102 else σ i j k
theorem lay_len : lay.length = 101 := by decide +kernel
theorem lay_refs : (lay.all fun q => match q.2 with
  | .inl (_, fs) => fs.all fun f => match f with
    | some (some j) => decide (j < 101)
    | _ => true
  | _ => true) = true := by decide +kernel
theorem lay_ref {i o cj : Nat} {fs : List (Option (Option Nat))} (h : lay[i]? = some (o, .inl (cj, fs))) {j k : Nat} (hk : fs[k]? = some (some (some j))) : j < 101 := by
  have h1 := List.all_eq_true.mp lay_refs _ (List.mem_of_getElem? h)
  have h2 := List.all_eq_true.mp h1 _ (List.mem_of_getElem? hk)
  exact of_decide_eq_true h2
theorem zip_at {fs : List (Option (Option Nat))} {p : Option (Option Nat) × Nat} (h : p ∈ fs.zipIdx) : fs[p.2]? = some p.1 := by
  obtain ⟨a, k⟩ := p
  exact List.mem_zipIdx_iff_getElem?.mp h
section
variable {b0 : Nat} {ty : Nat → ClassId} {σ : sMem}
theorem nz_at {i o cj : Nat} {fs : List (Option (Option Nat))} (h : lay[i]? = some (o, .inl (cj, fs))) {j k : Nat} : dyB i k = decide (fs[k]? = some (some none)) := by
  unfold dyB
  rw [h]
theorem nz_row {i : Nat} (h : ∀ k, dyB i k = false) : nz σ i = σ i := by
  funext j k
  unfold nz
  rw [if_neg (fun q => by rw [h k] at q; exact absurd q.1 (by decide))]
theorem nz_fl : sFl b0 ty lay (nz σ) 0 lay = sFl b0 ty lay σ 0 lay := by
  refine sFl_cg2 lay 0 (fun k o cj fs hk p hp => ?_) (fun k o r hk => ?_)
  · rw [Nat.zero_add]
    have hz := zip_at hp
    have hd : dyB k p.2 = decide (fs[p.2]? = some (some none)) := nz_at hk (j := 0)
    obtain ⟨a, n⟩ := p
    unfold sFv
    rcases a with _ | _ | j
    · show Value.int (nz σ k 0 n) = .int (σ k 0 n)
      unfold nz
      rw [if_neg (fun q => by rw [hd, decide_eq_false (by rw [hz]; intro e; cases e)] at q; exact absurd q.1 (by decide))]
    · show Value.ref (b0 + sOff lay (nz σ k 0 n).toNatClampNeg) = .ref (b0 + sOff lay (σ k 0 n).toNatClampNeg)
      unfold nz
      split
      · rename_i q
        rw [q.2]
        unfold sOff
        rw [show (nI 102).toNatClampNeg = 102 from rfl, List.getElem?_eq_none (by rw [lay_len]; decide), List.getElem?_eq_none (Nat.le_refl _)]
      · rfl
    · rfl
  · rw [Nat.zero_add]
    refine nz_row (fun k' => ?_)
    unfold dyB
    rw [hk]
theorem nz_ne (i j k : Nat) (h : dyB i k = true) : (nz σ i j k).toNatClampNeg ≠ 101 := by
  unfold nz
  split
  · decide
  · rename_i q
    rw [← lay_len]
    exact fun e => q ⟨h, e⟩
/-- with one entry more, the rest is the same -/
theorem fl_one (x : Nat × sKd) (h : ∀ i k, dyB i k = true → (σ i 0 k).toNatClampNeg ≠ 101) : sFl b0 ty (lay ++ [x]) σ 0 (lay ++ [x]) = sFl b0 ty lay σ 0 lay ++ sBlk b0 ty (lay ++ [x]) σ 101 x := by
  rw [sFl_app, lay_len, Nat.zero_add]
  refine congrArg (· ++ _) (sFl_cg2 lay 0 (fun k o cj fs hk p hp => ?_) (fun _ _ _ _ => rfl))
  rw [Nat.zero_add]
  have hz := zip_at hp
  have hd : dyB k p.2 = decide (fs[p.2]? = some (some none)) := nz_at hk (j := 0)
  obtain ⟨a, n⟩ := p
  unfold sFv
  rcases a with _ | _ | j
  · rfl
  · show Value.ref (b0 + sOff (lay ++ [x]) (σ k 0 n).toNatClampNeg) = .ref (b0 + sOff lay (σ k 0 n).toNatClampNeg)
    rw [sOff_app (by rw [lay_len]; exact h k n (by rw [hd]; exact decide_eq_true hz))]
  · show Value.ref (b0 + sOff (lay ++ [x]) j) = .ref (b0 + sOff lay j)
    have := lay_ref hk hz
    rw [sOff_app (by rw [lay_len]; omega)]
end
