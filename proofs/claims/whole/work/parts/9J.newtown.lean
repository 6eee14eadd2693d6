/-! A NEW TOWN: what is known of it, on both sides -/
theorem TR_of {t : sMem} {N : Nat} (h : WY t N) : TR t N := fun a b c ha hb9 hc h1 h2 => by
  have := h.2.1 a b c ha hb9 hc
  have := fN_660 h hb9 ha h1
  have := fN_660 h hc hb9 h2
  omega
section
variable {Z Y : sMem} {N P S G Q : Nat}
theorem TC.q (hC : TC Z Y 6 12 P S G 8) : Y 4 = Z 4 := hC.1 4 (by decide) (by decide) (by decide) (by decide) (by decide) (by decide) (by decide)
theorem TC.g4 (hC : TC Z Y 6 12 P S G 8) : gN Y Q = gN Z Q := by
  unfold gN
  rw [snM_cg Q (fun k _ => by rw [hC.q])]
theorem fs_lt {g F : mtx} {a b c : Nat} (h : fsN g F N a b = some c) : c < N := by
  unfold fsN at h
  split at h
  · cases h
  · have := (fsF_some N 0 h).2.1
    omega
theorem MI_town (hV : RVN Z N P S G Q) (hC : TC Z Y 6 12 P S G 8) : MI (lfM N Q Y) N P S G := by
  obtain ⟨⟨hN2, hN12, hP10, hS8, hG4, hQ20⟩, ⟨t0, t1, t2, t3, t5, w, t4, hw⟩, vp, vs, vg, vq, vx⟩ := hV
  have hq : ∀ k, k < Q → vQ (Y 4 k) N := fun k hk => by rw [hC.q]; exact vq k hk
  obtain ⟨f1, f2⟩ := lf_at hN12 hq
  obtain ⟨hW, -⟩ := lf_WY hN12 hq
  obtain ⟨c0, c1, c2, c3, c12, c6, c8, c10, c16⟩ := hC
  have g3 : lfM N Q Y 3 = Y 3 := f1 3 (by decide) (by decide) (by decide)
  have g6 : lfM N Q Y 6 = Y 6 := f1 6 (by decide) (by decide) (by decide)
  have g8 : lfM N Q Y 8 = Y 8 := f1 8 (by decide) (by decide) (by decide)
  have g10 : lfM N Q Y 10 = Y 10 := f1 10 (by decide) (by decide) (by decide)
  have g12 : lfM N Q Y 12 = Y 12 := f1 12 (by decide) (by decide) (by decide)
  have g16 : lfM N Q Y 16 = Y 16 := f1 16 (by decide) (by decide) (by decide)
  generalize hT : lfM N Q Y = t at f1 f2 hW g3 g6 g8 g10 g12 g16 ⊢
  have u : ∀ k, k < 6 → t 3 0 k = Z 2 0 k := fun k hk => by rw [g3]; exact c3 k hk
  have up : ∀ p, p < P → vP (t 6 p) N := fun p hp => (vp p hp).pw (fun k hk => by rw [g6]; exact c6 p k hp hk)
  have us : ∀ s, s < S → vS (t 8 s) N := fun s hs => (vs s hs).pw (fun k hk => by rw [g8]; exact c8 s k hs hk)
  have ug : ∀ g, g < G → vG (t 10 g) N := fun g hg => (vg g hg).pw (fun k hk => by rw [g10]; exact c10 g k hg hk)
  refine ⟨⟨⟨hW.1, hN2, (u 0 (by decide)).trans t0, ⟨(u 1 (by decide)).trans t1, hP10⟩, ⟨(u 2 (by decide)).trans t2, hS8⟩, fun p hp => ?_, fun s hs => ?_⟩, TR_of hW, fun a b ha hb9 => ?_, fun s hs => Or.inl (by rw [g16]; exact c16 s (by omega)), (u 3 (by decide)).trans t3, hG4⟩, hW, ⟨w, (u 4 (by decide)).trans t4, hw⟩, fun p hp => ?_, fun s hs => ?_, fun s hs => ?_, fun p hp => ?_, fun g hg => ?_, fun x hx => ?_⟩
  · obtain ⟨a, b, m, v, k, q0, q1, -, q2, q3, -⟩ := up p hp
    exact ⟨a, b, m, v, q0, q1, q2, q3⟩
  · obtain ⟨a, b, m, c, k, q0, q1, -, q2, ⟨q3, -, q4⟩, -⟩ := us s hs
    exact ⟨a, b, m, c, q0, q1, q2, q3, q4⟩
  · rw [(f2 a b ha hb9).2.2]
    cases ho : fsN (gN Y Q) (flM N (m0 (gN Y Q)) N) N a b with
    | none => exact Or.inl rfl
    | some c => exact Or.inr ⟨c, rfl, fs_lt ho⟩
  · obtain ⟨a, b, m, v, k, -, -, -, -, -, q4, q5⟩ := up p hp
    exact ⟨k, q4, q5⟩
  · obtain ⟨a, b, m, c, k, -, -, -, -, -, q4, q5⟩ := us s hs
    exact ⟨k, q4, q5⟩
  · obtain ⟨a, b, m, c, k, q0, q1, q2, -, q3, -⟩ := us s hs
    exact ⟨fun e => q2 ((nI_eq (by omega) (by omega)).mp (q0.1.symm.trans (e.trans q1.1))), c, q3⟩
  · obtain ⟨a, b, m, v, k, q0, q1, q2, -⟩ := up p hp
    exact fun e => q2 ((nI_eq (by omega) (by omega)).mp (q0.1.symm.trans (e.trans q1.1)))
  · obtain ⟨a, f, q0, q1, q2⟩ := ug g hg
    exact ⟨a, f, q0, q1, q2⟩
  · rw [g12, c12 x hx]
    exact vx x hx
theorem CT_town {σ : sMem} {v : Nat} (hF : TWF σ Z v N P S G Q) (hC : TC Z Y 6 12 P S G 8) : CT σ (lfM N Q Y) v N P S G := by
  obtain ⟨hT, hV, h3, h4⟩ := hF
  obtain ⟨hRM, -⟩ := RM_of hT hV
  have hg := hC.g4 (Q := Q)
  obtain ⟨⟨hN2, hN12, hP10, hS8, hG4, hQ20⟩, ⟨t0, t1, t2, t3, t5, w, t4, hw⟩, vp, vs, vg, vq, vx⟩ := hV
  have hq : ∀ k, k < Q → vQ (Y 4 k) N := fun k hk => by rw [hC.q]; exact vq k hk
  obtain ⟨f1, f2⟩ := lf_at hN12 hq
  rw [hg] at f2
  obtain ⟨c0, c1, c2, c3, c12, c6, c8, c10, c16⟩ := hC
  obtain ⟨⟨a0, a5, a1, a2, a3, a4⟩, -, ap, as_, ag, ax⟩ := hT
  rw [rc_at t1 (by omega)] at ap
  rw [rc_at t2 (by omega)] at as_
  rw [rc_at t3 (by omega)] at ag
  refine ⟨a0.trans t0, a1.trans t1, a2.trans t2, a3.trans t3, ?_, fun a b ha hb9 => ⟨?_, ?_, ?_⟩, fun p hp => ?_, fun s hs => ?_, fun g hg => ?_, fun x hx => ?_⟩
  · rw [a4, f1 3 (by decide) (by decide) (by decide)]
    exact (c3 4 (by decide)).symm
  · rw [(f2 a b ha hb9).1]; exact (hRM a b ha hb9).1
  · rw [(f2 a b ha hb9).2.1]; exact (h3 a b ha hb9).1
  · rw [(f2 a b ha hb9).2.2, h4 a b ha hb9]
    unfold fsG
    cases ho : fsN (gN Z Q) (flM N (m0 (gN Z Q)) N) N a b with
    | none => exact (if_pos rfl).symm
    | some c =>
      have := fs_lt ho
      exact (if_neg (nI_ne (show c < 2 ^ 31 by omega))).symm
  · rw [f1 6 (by decide) (by decide) (by decide), c6 p 0 hp (by decide), c6 p 1 hp (by decide), c6 p 2 hp (by decide), c6 p 3 hp (by decide), c6 p 4 hp (by decide)]
    exact ap p hp
  · rw [f1 8 (by decide) (by decide) (by decide), c8 s 0 hs (by decide), c8 s 1 hs (by decide), c8 s 2 hs (by decide), c8 s 3 hs (by decide), c8 s 4 hs (by decide)]
    exact as_ s hs
  · rw [f1 10 (by decide) (by decide) (by decide), c10 g 0 hg (by decide), c10 g 1 hg (by decide)]
    exact ag g hg
  · rw [f1 12 (by decide) (by decide) (by decide), c12 x hx]
    exact ax x hx
end
