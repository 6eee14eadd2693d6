/-! A WORLD WITH ONE CELL MORE: values, locals, addresses -/
def avN (v : AV) : Prop := match v with
  | .inl (.ref i) => i ≠ 101
  | .inr q => q.1 ≠ 101
  | _ => True
section
variable {b0 : Nat} {ty : Nat → ClassId} {x : Nat × sKd}
theorem sCv_one {v : AV} (h : avN v) : sCv b0 (lay ++ [x]) v = sCv b0 lay v := by
  unfold avN at h
  unfold sCv
  split
  · rw [sOff_app (by rw [lay_len]; exact h)]
  · rfl
  · rfl
  · rw [sOff_app (by rw [lay_len]; exact h)]
theorem sLv_one : ∀ (E : List (Option AV)) (n : Nat), (∀ v, some v ∈ E → avN v) → sLv b0 (lay ++ [x]) n E = sLv b0 lay n E
  | [], _, _ => rfl
  | none :: r, n, h => sLv_one r (n + 1) (fun v hv => h v (List.mem_cons_of_mem _ hv))
  | some v :: r, n, h => by
    show (n, sCv b0 (lay ++ [x]) v) :: sLv b0 (lay ++ [x]) (n + 1) r = (n, sCv b0 lay v) :: sLv b0 lay (n + 1) r
    rw [sCv_one (h v List.mem_cons_self), sLv_one r (n + 1) (fun v hv => h v (List.mem_cons_of_mem _ hv))]
theorem sAdr_one (o n : Nat) : sAdr (lay ++ [(o, .inr (.inl (0, n)))]) = sAdr lay ++ [o] := by
  unfold sAdr
  rw [List.flatMap_append]
  rfl
theorem nd_one {o n : Nat} (h : o ∉ sAdr lay) : (sAdr (lay ++ [(o, .inr (.inl (0, n)))])).Nodup := by
  rw [sAdr_one]
  refine List.nodup_append.mpr ⟨lay_nd, by simp, fun a ha b hb e => ?_⟩
  rw [List.mem_singleton] at hb
  exact h (by rw [← hb, ← e]; exact ha)
theorem sA_one {o n q : Nat} : sA b0 (lay ++ [(o, .inr (.inl (0, n)))]) q ↔ sA b0 lay q ∨ q = b0 + o := by
  unfold sA
  rw [sAdr_one]
  constructor
  · rintro ⟨a, ha, rfl⟩
    rcases List.mem_append.mp ha with h | h
    · exact Or.inl ⟨a, h, rfl⟩
    · rw [List.mem_singleton] at h
      exact Or.inr (by rw [h])
  · rintro (⟨a, ha, rfl⟩ | rfl)
    · exact ⟨a, List.mem_append_left _ ha, rfl⟩
    · exact ⟨o, List.mem_append_right _ (List.mem_singleton.mpr rfl), rfl⟩
/-- a memory that agrees but for the variable behind the last, and for numbers behind it -/
theorem fl_back {σ σ' : sMem} (h : ∀ i, i ≠ 101 → σ i = nz σ' i) : sFl b0 ty lay σ 0 lay = sFl b0 ty lay σ' 0 lay := by
  rw [← nz_fl (σ := σ')]
  have hl : ∀ k q, lay[k]? = some q → k ≠ 101 := fun k q hk => by
    have := (List.getElem?_eq_some_iff.mp hk).1
    rw [lay_len] at this
    omega
  refine sFl_cg2 lay 0 (fun k o cj fs hk p hp => ?_) (fun k o r hk => ?_)
  · rw [Nat.zero_add]
    unfold sFv
    rw [h k (hl k _ hk)]
  · rw [Nat.zero_add]
    exact h k (hl k _ hk)
end
