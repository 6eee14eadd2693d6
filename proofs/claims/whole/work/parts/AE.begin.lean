/-! THE BEGINNING of the run of calls: all of the world, and the relation -/
/-- the changing references of the class, by the numbers of its own variables -/
def dy8 (i k : Nat) : Option Nat := match i, k with
  | 0, 3 => some 2
  | 0, 4 => some 20
  | 40, 2 => some 41
  | 47, 0 => some 2
  | 47, 1 => some 42
  | 60, 0 => some 2
  | _, _ => none
/-- fields of the class's objects that change hold what the constructor laid; all of them are named -/
theorem dy_all : (List.range 66).all (fun i => match lay8[i]? with
  | some (_, .inl (_, fs)) => (List.range fs.length).all fun k => match fs[k]? with
    | some (some none) => match dyV (34 + i) k, dy8 i k with
      | some w, some u => decide (sOff lay w = sOff lay8 u) && (decide (i < 2) || Nat.ble 20 i) && !decide (i = 38) && decide (w < 1000) && decide (u < 1000) && decide (σ80 i 0 k = nI u)
      | _, _ => false
    | some none => (dyV (34 + i) k).isNone
    | _ => true
  | some (_, .inr _) => (List.range 600).all fun k => (dyV (34 + i) k).isNone
  | none => false) = true := by decide +kernel
theorem dyV_none {i k : Nat} (h : i ≠ 34 ∧ i ≠ 74 ∧ i ≠ 81 ∧ i ≠ 94) : dyV i k = none := by
  unfold dyV
  split <;> first | rfl | (exfalso; omega)
section
variable {b0 : Nat} {ty : Nat → ClassId} {σ8 σ9 : sMem}
theorem σF_lo {i : Nat} (h : i < 34) : σF σ8 σ9 i = σ9 i := by
  funext j k
  unfold σF
  rw [if_pos h]
theorem σF_row {i : Nat} (h : i < 66) (hn : 34 + i ≠ 34 ∧ 34 + i ≠ 74 ∧ 34 + i ≠ 81 ∧ 34 + i ≠ 94) : σF σ8 σ9 (34 + i) = σ8 i := by
  funext j k
  unfold σF
  rw [if_neg (by omega), if_pos (by omega), dyV_none hn, Nat.add_sub_cancel_left]
theorem σF_fld {i j k : Nat} (h : i < 66) (hd : dyV (34 + i) k = none) : σF σ8 σ9 (34 + i) j k = σ8 i j k := by
  unfold σF
  rw [if_neg (by omega), if_pos (by omega), hd, Nat.add_sub_cancel_left]
theorem σF_dy {i j k w : Nat} (h : i < 66) (hd : dyV (34 + i) k = some w) : σF σ8 σ9 (34 + i) j k = nI w := by
  unfold σF
  rw [if_neg (by omega), if_pos (by omega), hd]
theorem lay8_len : lay8.length = 66 := by decide +kernel
theorem lay9_nodyn : (lay9.all fun q => match q.2 with
  | .inl (_, fs) => fs.all fun f => decide (f ≠ some none)
  | _ => true) = true := by decide +kernel
theorem lay8_obj : (List.range 66).all (fun i => match lay8[i]? with
  | some (_, .inr _) => !decide (i = 0) && !decide (i = 40) && !decide (i = 47) && !decide (i = 60)
  | _ => true) = true := by decide +kernel
/-- both layouts and the long stand in one -/
theorem lay_join (h8 : po8 σ8) {D : va_G} {H : Heap} (hP9 : va_P D vwCl (sFl b0 ty lay9 σ9 0 lay9) H) (hP8 : va_P D vwCl (sFl b0 ty lay8 σ8 0 lay8) H) (hO : H[b0 + 361]? = some (vp_cell (ty 3) (1, .inr (.inl (fun _ => 0))))) : va_P D vwCl (sFl b0 ty lay (σF σ8 σ9) 0 lay) H := by
  have e9 : sFl b0 ty lay (σF σ8 σ9) 0 layA = sFl b0 ty lay9 σ9 0 lay9 := by
    refine sFl_re lay9 layA 0 0 rk9 (fun k o x e => ?_) (fun k o cj fs f e => ?_)
    · have hk : k < 34 := (List.getElem?_eq_some_iff.mp e).1
      rw [Nat.zero_add]; exact σF_lo hk
    · have hk : k < 34 := (List.getElem?_eq_some_iff.mp e).1
      refine ⟨fun _ => by rw [Nat.zero_add, σF_lo hk], fun hf => ?_⟩
      have h1 := List.all_eq_true.mp lay9_nodyn _ (List.mem_of_getElem? e)
      have h2 := List.all_eq_true.mp h1 _ (List.mem_of_getElem? hf)
      exact absurd rfl (of_decide_eq_true h2)
  have e8 : sFl b0 ty lay (σF σ8 σ9) 34 layB = sFl b0 ty lay8 σ8 0 lay8 := by
    refine sFl_re lay8 layB 0 34 rk8 (fun k o x e => ?_) (fun k o cj fs f e => ?_)
    · have hk : k < 66 := by have := (List.getElem?_eq_some_iff.mp e).1; rw [lay8_len] at this; exact this
      have h1 := List.all_eq_true.mp lay8_obj k (List.mem_range.mpr hk)
      rw [e] at h1
      simp only [Bool.and_eq_true, Bool.not_eq_true', decide_eq_false_iff_not] at h1
      rw [Nat.zero_add]
      exact σF_row hk (by omega)
    · have hk : k < 66 := by have := (List.getElem?_eq_some_iff.mp e).1; rw [lay8_len] at this; exact this
      have h1 := List.all_eq_true.mp dy_all k (List.mem_range.mpr hk)
      rw [e] at h1
      rw [Nat.zero_add]
      constructor
      · intro hf
        have h2 := List.all_eq_true.mp h1 f (List.mem_range.mpr (List.getElem?_eq_some_iff.mp hf).1)
        simp only [hf] at h2
        exact σF_fld hk (Option.isNone_iff_eq_none.mp h2)
      · intro hf
        have h2 := List.all_eq_true.mp h1 f (List.mem_range.mpr (List.getElem?_eq_some_iff.mp hf).1)
        simp only [hf] at h2
        split at h2
        · rename_i w u hw hu
          simp only [Bool.and_eq_true, Bool.or_eq_true, Bool.not_eq_true', decide_eq_true_eq, decide_eq_false_iff_not] at h2
          obtain ⟨⟨⟨⟨⟨g1, g2⟩, g3⟩, g4⟩, g5⟩, g6⟩ := h2
          have g2' : k < 2 ∨ 20 ≤ k := g2.imp id Nat.le_of_ble_eq_true
          rw [σF_dy hk hw, nI_clamp (by omega), h8.2.1 k g2' g3, g6, nI_clamp (by omega)]
          exact g1
        · cases h2
  have ec : sFl b0 ty lay (σF σ8 σ9) 100 layC = [(b0 + 361, .inl (ty 3, 1, .inr (.inl (fun _ => 0))))] := by
    rw [lnC]
    show [(b0 + 361, if (3 : Nat) = 3 then Sum.inl (ty 3, 1, Sum.inr (Sum.inl (fun j => (σF σ8 σ9 100 0 j).toInt64))) else _)] ++ [] = _
    rw [if_pos rfl, List.append_nil]
    rfl
  have e : sFl b0 ty lay (σF σ8 σ9) 0 lay = sFl b0 ty lay9 σ9 0 lay9 ++ (sFl b0 ty lay8 σ8 0 lay8 ++ [(b0 + 361, .inl (ty 3, 1, .inr (.inl (fun _ => 0))))]) := by
    have e1 : sFl b0 ty lay (σF σ8 σ9) 0 (layA ++ (layB ++ layC)) = sFl b0 ty lay9 σ9 0 lay9 ++ (sFl b0 ty lay8 σ8 0 lay8 ++ [(b0 + 361, .inl (ty 3, 1, .inr (.inl (fun _ => 0))))]) := by
      rw [sFl_app2, sFl_app2, ln9, ln8, e9, Nat.zero_add, e8, show 34 + 66 = 100 from rfl, ec]
    rw [← lay_abc] at e1
    exact e1
  rw [e]
  refine hP9.app (hP8.app ?_)
  intro k q hk
  have hz : k < 1 := (List.getElem?_eq_some_iff.mp hk).1
  rw [show k = 0 by omega] at hk
  cases hk
  exact hO
end
