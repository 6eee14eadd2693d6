/-! What was written in cells that the method has made may be forgotten, wherever it stands in the list -/
section
variable {p : Program} {l : Launch} {e : Env} {R : Room} {s : State} {m : MethodId} {args : Array Value} {below : List Frame} {meth : Method} {c : Code} {H : Heap} {locs : List Loc} {cells slots : Nat} {Q : State → Prop}
theorem st_filt {T : State} (X : Stand p l e R s m args below meth c T locs cells slots) : Stand p l e R s m args below meth c T (locs.filter fun q => decide (q.base < s.heap.size)) cells slots := by
  refine { X with same := ?_ }
  obtain ⟨h1, h2, h3, h4, h5, h6⟩ := X.same
  refine ⟨h1, h2, h3, h4, h5, fun a c hc => ?_⟩
  obtain ⟨c', g1, g2, g3, g4⟩ := h6 a c hc
  exact ⟨c', g1, g2, g3, fun i hi => g4 i (fun q => hi (List.mem_filter.mpr ⟨q, decide_eq_true (Array.getElem?_eq_some_iff.mp hc).1⟩))⟩
theorem w_filt {g : JFrame} (kk : W p l e R s m args below meth c H (locs.filter fun q => decide (q.base < s.heap.size)) cells slots Q g) : W p l e R s m args below meth c H locs cells slots Q g := fun T hT X => kk T hT (st_filt X)
/-- behind the cell more: what is left of the frame -/
theorem s_filt {b0 o n : Nat} {H0 : Heap} (h : va_S (sA b0 (lay ++ [(o, .inr (.inl (0, n)))])) H0 H locs) (ho : H0.size ≤ b0 + o) : va_S (sA b0 lay) H0 H (locs.filter fun q => decide (q.base < H0.size)) := by
  refine ⟨h.1, fun q h1 h2 => h.2.1 q h1 (fun z => ?_), fun q hq => ?_⟩
  · rcases sA_one.mp z with z | z
    · exact h2 z
    · omega
  · obtain ⟨q1, q2⟩ := List.mem_filter.mp hq
    have q3 : q.base < H0.size := of_decide_eq_true q2
    rcases sA_one.mp (h.2.2 q q1) with z | z
    · exact z
    · rw [z] at q3
      exact absurd q3 (Nat.not_lt.mpr ho)
end
