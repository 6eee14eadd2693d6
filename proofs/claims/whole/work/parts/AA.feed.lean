/-! FEED on both sides -/
theorem sy_all : ∀ b, b < 256 → vp_nar FieldType.byte (Int8.ofBitVec (BitVec.ofNat 8 b)).toInt32 = syB b := by decide +kernel
theorem fd_byte {x : Int32} {s32 : Int32} {u32 : UInt32} {n : Nat} (hn : n ≤ 24) (h1 : (s32.toBitVec.smod 32).toNat = n) (h2 : (u32.toBitVec % 32).toNat = n) : ∃ b : Nat, b < 256 ∧ (x >>> s32) &&& 255 = nI b ∧ vp_nar FieldType.byte ((x.toUInt32 >>> u32).toInt32).toInt8.toInt32 = syB b := by
  have hy : ((x >>> s32) &&& 255).toBitVec = x.toBitVec.sshiftRight n &&& 255#32 := by
    rw [Int32.toBitVec_and, Int32.toBitVec_shiftRight]
    show x.toBitVec.sshiftRight (s32.toBitVec.smod 32).toNat &&& _ = _
    rw [h1]; rfl
  have hb : (x.toBitVec.sshiftRight n &&& 255#32).toNat < 256 := by
    rw [BitVec.toNat_and]
    exact Nat.lt_of_le_of_lt Nat.and_le_right (by decide)
  refine ⟨(x.toBitVec.sshiftRight n &&& 255#32).toNat, hb, ?_, ?_⟩
  · apply Int32.toBitVec_inj.mp
    rw [hy]
    show _ = BitVec.ofNat 32 _
    simp
  · rw [← sy_all _ hb]
    have e1 : ((x.toUInt32 >>> u32).toInt32).toInt8 = Int8.ofBitVec (BitVec.ofNat 8 (x.toBitVec.sshiftRight n &&& 255#32).toNat) := by
      apply Int8.toBitVec_inj.mp
      show ((x.toBitVec >>> (u32.toBitVec % 32)).signExtend 8) = BitVec.ofNat 8 _
      apply BitVec.eq_of_getLsbD_eq
      intro i hi
      rw [BitVec.getLsbD_signExtend, BitVec.getLsbD_ofNat, BitVec.testBit_toNat, BitVec.getLsbD_and, BitVec.getLsbD_sshiftRight, if_pos (show i < 32 by omega), if_pos (show n + i < 32 by omega)]
      have e255 : ∀ i, i < 8 → (255#32).getLsbD i = true := by decide
      rw [e255 i hi, BitVec.ushiftRight_eq', BitVec.getLsbD_ushiftRight, h2]
      simp [hi, show i < 32 by omega, show n + i < 32 by omega]
    rw [e1]
theorem fd_shift : ∀ k, k < 20 → ((((24 : Int32) - 8 * (nI k - nI k / 4 * 4)) &&& 31).toBitVec.smod 32).toNat = 24 - 8 * (k % 4) ∧ (((nI (24 - 8 * (k % 4))).toUInt32 &&& Int32.toUInt32 31).toBitVec % 32).toNat = 24 - 8 * (k % 4) := by decide +kernel
theorem fd_both {x : Int32} {k : Nat} (hk : k < 20) : ∃ b : Nat, b < 256 ∧ (x >>> ((24 - 8 * (nI k - nI k / 4 * 4)) &&& 31)) &&& 255 = nI b ∧ pbB x (k % 4) = syB b := by
  obtain ⟨h1, h2⟩ := fd_shift k hk
  exact fd_byte (n := 24 - 8 * (k % 4)) (by omega) h1 h2
theorem PB5_at {σ σ' : sMem} {a b c e g : Int32} {T : Nat} (h : PB5 σ a b c e g T σ') : σ' 34 0 1 = nI (T + 20) ∧ (∀ i, i ≠ 34 → i ≠ 35 → σ' i = σ i) ∧ (∀ k, k ≠ 1 → σ' 34 0 k = σ 34 0 k) ∧ (∀ k, k < 20 → σ' 35 0 (T + k) = pbB (fbV a b c e g k) (k % 4)) ∧ ∀ j, j < T → σ' 35 0 j = σ 35 0 j := by
  obtain ⟨m1, m2, m3, m4, h1, h2, h3, h4, h5⟩ := h
  refine ⟨h5.1, fun i p q => by rw [h5.2.1 i p q, h4.2.1 i p q, h3.2.1 i p q, h2.2.1 i p q, h1.2.1 i p q], fun k p => by rw [h5.2.2.1 k p, h4.2.2.1 k p, h3.2.2.1 k p, h2.2.2.1 k p, h1.2.2.1 k p], fun k hk => ?_, fun j hj => by rw [h5.2.2.2.2 j (by omega), h4.2.2.2.2 j (by omega), h3.2.2.2.2 j (by omega), h2.2.2.2.2 j (by omega), h1.2.2.2.2 j (by omega)]⟩
  unfold fbV
  by_cases c1 : k < 4
  · rw [if_pos c1, h5.2.2.2.2 _ (by omega), h4.2.2.2.2 _ (by omega), h3.2.2.2.2 _ (by omega), h2.2.2.2.2 _ (by omega), h1.2.2.2.1 k c1, Nat.mod_eq_of_lt c1]
  · rw [if_neg c1]
    by_cases c2 : k < 8
    · rw [if_pos c2, h5.2.2.2.2 _ (by omega), h4.2.2.2.2 _ (by omega), h3.2.2.2.2 _ (by omega), show T + k = T + 4 + (k - 4) by omega, h2.2.2.2.1 (k - 4) (by omega), show k % 4 = k - 4 by omega]
    · rw [if_neg c2]
      by_cases c3 : k < 12
      · rw [if_pos c3, h5.2.2.2.2 _ (by omega), h4.2.2.2.2 _ (by omega), show T + k = T + 8 + (k - 8) by omega, h3.2.2.2.1 (k - 8) (by omega), show k % 4 = k - 8 by omega]
      · rw [if_neg c3]
        by_cases c4 : k < 16
        · rw [if_pos c4, h5.2.2.2.2 _ (by omega), show T + k = T + 12 + (k - 12) by omega, h4.2.2.2.1 (k - 12) (by omega), show k % 4 = k - 12 by omega]
        · rw [if_neg c4, show T + k = T + 16 + (k - 16) by omega, h5.2.2.2.1 (k - 16) (by omega), show k % 4 = k - 16 by omega]
theorem fdM_at (a b c e g : Int32) {z : sMem} {T : Nat} (hT : T + 20 ≤ 600) (h1 : z 0 0 1 = nI T) : (∀ i, i ≠ 0 → i ≠ 1 → forM (fdS a b c e g) z 20 i = z i) ∧ (∀ k, k ≠ 1 → forM (fdS a b c e g) z 20 0 0 k = z 0 0 k) ∧ forM (fdS a b c e g) z 20 0 0 1 = nI (T + 20) ∧ (∀ j, j < T → forM (fdS a b c e g) z 20 1 0 j = z 1 0 j) ∧ ∀ k, k < 20 → forM (fdS a b c e g) z 20 1 0 (T + k) = (fbV a b c e g k >>> ((24 - 8 * (nI k - nI k / 4 * 4)) &&& 31)) &&& 255 := by
  have h := forM_I (I := fun n t => (∀ i, i ≠ 0 → i ≠ 1 → t i = z i) ∧ (∀ k, k ≠ 1 → t 0 0 k = z 0 0 k) ∧ t 0 0 1 = nI (T + n) ∧ (∀ j, j < T → t 1 0 j = z 1 0 j) ∧ ∀ k, k < n → t 1 0 (T + k) = (fbV a b c e g k >>> ((24 - 8 * (nI k - nI k / 4 * 4)) &&& 31)) &&& 255) (f := fdS a b c e g) (σ := z) ⟨fun _ _ _ => rfl, fun _ _ => rfl, h1, fun _ _ => rfl, fun k hk => absurd hk (Nat.not_lt_zero _)⟩ 20 (fun n t hn ⟨i1, i2, i3, i4, i5⟩ => by
    have e9 : (t 0 0 1).toNatClampNeg = T + n := by rw [i3, nI_clamp (by omega)]
    unfold fdS
    rw [e9]
    refine ⟨fun i p q => by rw [sUp_off p, sUp_off q]; exact i1 i p q, fun k p => by rw [sUp_k p, sUp_off (by decide)]; exact i2 k p, ?_, fun j hj => ?_, fun k hk => ?_⟩
    · rw [sUp_at, i3]; exact nIs _
    · rw [sUp_off (by decide), sUp_k (by omega)]; exact i4 j hj
    · rw [sUp_off (by decide)]
      by_cases e : k = n
      · subst e; rw [sUp_at]
      · rw [sUp_k (by omega)]; exact i5 k (by omega))
  exact h
section
variable {l : Launch} {D : va_G} {b0 : Nat} {ty : Nat → ClassId} {ad av : Nat → Nat}
theorem jd_feed (σ : sMem) (hJ : JR σ) (a b c e g : Int32) : JD l D b0 ty ad av mX8_feed mX9_feed [aI a, aI b, aI c, aI e, aI g] σ := by
  obtain ⟨v, N, P, S, G, T, m, hJ⟩ := hJ
  have hH := hJ.2.1
  have hT := hJ.2.2.1
  have hM := hH.2.2.1
  have hN := hM.1.1.1.1
  have hP10 := hM.1.1.2.2.2.1.2
  have hS8 := hM.1.1.2.2.2.2.1.2
  have hzM : ∀ z : sMem, (∀ i, i < 74 → z i = σ i) → MJ z N P S G := fun z hz => hM.1.cg (fun a ha => hz a (by omega))
  have hzI : ∀ z : sMem, (∀ i, i < 74 → z i = σ i) → MI z N P S G := fun z hz => hM.cg (fun a ha => hz a (by omega))
  have hzS : ∀ z : sMem, (∀ i, i < 74 → z i = σ i) → SM σ (sUp z 0 0 0 0) G := fun z hz => (SM.low (fun a ha => hz a (by omega))).trans (SM.z0 0 0 ⟨by decide, by decide, by decide⟩)
  obtain ⟨hT6, e34, e0, hB⟩ := hJ.2.2.2.2.1
  by_cases hc : T + 20 ≤ 600
  rotate_left
  · refine JD_ok hJ (A := -1) (y_of_s (c8_feed_no 201 σ T hT6 (by omega) e34 a b c e g)) (fun r σ' h => ⟨h.1, fun i hi => by rw [h.2]⟩) (fun z hz => R9.s (c9_feed 201 z T (by rw [hz 0 (by decide)]; exact e0) hT6 a b c e g) (fun r σ' h => ?_))
    exact ⟨(h.1 (by omega)).1, by rw [(h.1 (by omega)).2]; exact KP.rfl'⟩
  refine ⟨_, y_of_s (c8_feed_ok 200 σ T hc e34 a b c e g), ?_⟩
  rintro r σ1 ⟨rfl, hPB⟩
  refine ⟨_, rfl, ?_⟩
  obtain ⟨p1, p2, p3, p4, p5⟩ := PB5_at hPB
  refine R9.s (c9_feed 201 σ1 T (by rw [p2 0 (by decide) (by decide)]; exact e0) hT6 a b c e g) (fun r σ' h => ?_)
  obtain ⟨hr, hs⟩ := h.2 hc
  refine ⟨hr, ?_⟩
  obtain ⟨f1, f2, f3, f4, f5⟩ := fdM_at a b c e g (z := sUp σ1 0 0 0 0) hc (by rw [sUp_k (by decide), p2 0 (by decide) (by decide)]; exact e0)
  rw [← hs] at f1 f2 f3 f4 f5
  clear hs h
  have k1 : ∀ i, i ≠ 0 → i ≠ 1 → i ≠ 34 → i ≠ 35 → σ' i = σ i := fun i x0 x1 x2 x3 => by rw [f1 i x0 x1, sUp_off x0]; exact p2 i x2 x3
  have k34 : σ' 34 = σ1 34 := by rw [f1 34 (by decide) (by decide), sUp_off (by decide)]
  have k35 : σ' 35 = σ1 35 := by rw [f1 35 (by decide) (by decide), sUp_off (by decide)]
  have k0 : ∀ k, k ≠ 0 → k ≠ 1 → σ' 0 0 k = σ 0 0 k := fun k x y => by rw [f2 k y, sUp_k x, p2 0 (by decide) (by decide)]
  refine ⟨v, N, P, S, G, T + 20, m, hJ.1, hH.new ?_ ?_ (fun a ha => k1 a (by omega) (by omega) (by omega) (by omega)) (fun g j _ => by rw [k1 10 (by decide) (by decide) (by decide) (by decide)]) ?_ (fun s hs => ?_), ⟨?_, ?_, ?_⟩, ?_, ⟨by omega, by rw [k34]; exact p1, f3, fun j hj => ?_⟩, ⟨hJ.2.2.2.2.2.1.1, ?_, ?_, fun i hi => ?_⟩, ?_⟩
  · rw [k34, p3 3 (by decide)]; exact hH.1
  · intro i h1 h2; have := hJ.1; exact k1 i (by omega) (by omega) (by omega) (by omega)
  · unfold TF; rw [k1 16 (by decide) (by decide) (by decide) (by decide)]; exact hM.1.2.2.2.1
  · rw [k1 16 (by decide) (by decide) (by decide) (by decide), k1 72 (by decide) (by decide) (by decide) (by decide)]; exact hH.2.2.2 s hs
  · rw [k0 28 (by decide) (by decide)]; exact hT.1
  · rw [k0 29 (by decide) (by decide)]; exact hT.2.1
  · rw [k0 31 (by decide) (by decide)]; exact hT.2.2
  · rw [k34, p3 4 (by decide)]; exact hJ.2.2.2.1
  · by_cases hj2 : j < T
    · rw [f4 j hj2, k35, p5 j hj2, sUp_off (by decide), p2 1 (by decide) (by decide)]; exact hB j hj2
    · have ej : j = T + (j - T) := by omega
      obtain ⟨x, x1, x2, x3⟩ := fd_both (x := fbV a b c e g (j - T)) (k := j - T) (by omega)
      rw [ej, f5 (j - T) (by omega), k35, p4 (j - T) (by omega)]
      exact ⟨x, x1, x2, x3⟩
  · rw [k34, p3 7 (by decide)]; exact hJ.2.2.2.2.2.1.2.1
  · rw [k0 25 (by decide) (by decide)]; exact hJ.2.2.2.2.2.1.2.2.1
  · rw [k1 73 (by decide) (by decide) (by decide) (by decide), k1 17 (by decide) (by decide) (by decide) (by decide)]; exact hJ.2.2.2.2.2.1.2.2.2 i hi
  · rw [k34, p3 2 (by decide), k0 3 (by decide) (by decide)]; exact hJ.2.2.2.2.2.2
end

