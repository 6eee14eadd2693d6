/-! A METHOD THAT MAKES ONE ROW OF TWELVE INTS, and then calls nothing -/
theorem fl_adr {b0 : Nat} {ty : Nat → ClassId} {L : sLay} {σ : sMem} : ∀ (l : sLay) (n a : Nat), a ∈ sAdr l → ∃ q ∈ sFl b0 ty L σ n l, q.1 = b0 + a
  | [], _, _, h => by simp [sAdr] at h
  | (o, k) :: r, n, a, h => by
    unfold sAdr at h
    rw [List.flatMap_cons] at h
    rcases List.mem_append.mp h with h | h
    · obtain ⟨j, hj, rfl⟩ := List.mem_map.mp h
      rw [List.mem_range] at hj
      have : ∃ q ∈ sBlk b0 ty L σ n (o, k), q.1 = b0 + (o + j) := by
        rcases k with x | x | x
        · have : j = 0 := by simp [sSz] at hj; exact hj
          subst this
          exact ⟨_, List.mem_singleton.mpr rfl, rfl⟩
        · have : j = 0 := by simp [sSz] at hj; exact hj
          subst this
          exact ⟨_, List.mem_singleton.mpr rfl, rfl⟩
        · simp only [sSz] at hj
          cases j with
          | zero => exact ⟨_, List.mem_cons_self, rfl⟩
          | succ j => exact ⟨(b0 + o + 1 + j, .inl (ty 0, x.2, .inl (σ n j))), List.mem_cons_of_mem _ (List.mem_map.mpr ⟨j, List.mem_range.mpr (by omega), rfl⟩), by show b0 + o + 1 + j = b0 + (o + (j + 1)); omega⟩
      obtain ⟨q, h1, h2⟩ := this
      exact ⟨q, List.mem_append_left _ h1, h2⟩
    · obtain ⟨q, h1, h2⟩ := fl_adr (b0 := b0) (ty := ty) (L := L) (σ := σ) r (n + 1) a h
      exact ⟨q, List.mem_append_right _ h1, h2⟩
theorem fl_lt {D : va_G} {b0 : Nat} {ty : Nat → ClassId} {σ : sMem} {H : Heap} (hP : va_P D vwCl (sFl b0 ty lay σ 0 lay) H) {a : Nat} (h : a ∈ sAdr lay) : b0 + a < H.size := by
  obtain ⟨q, h1, h2⟩ := fl_adr (b0 := b0) (ty := ty) (L := lay) (σ := σ) lay 0 a h
  obtain ⟨k, hk⟩ := List.mem_iff_getElem?.mp h1
  have := (hP k q hk).lt
  rw [h2] at this
  exact this
theorem lay_0 : 0 ∈ sAdr lay := by decide +kernel
