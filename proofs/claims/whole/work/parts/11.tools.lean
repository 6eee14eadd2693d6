/-! TOOLS of the pure side -/
theorem kDown {P : Nat → Prop} {n : Nat} (hx : P n) (hs : ∀ k, k < n → P (k + 1) → P k) : ∀ k, k ≤ n → P k := by
  intro k hk
  obtain ⟨j, rfl⟩ := Nat.le.dest hk
  clear hk
  induction j generalizing k with
  | zero => exact hx
  | succ j ih =>
    refine hs k (by omega) (ih (k + 1) ?_ ?_)
    · have : k + 1 + j = k + (j + 1) := by omega
      rw [this]; exact hx
    · intro q hq hp
      exact hs q (by omega) hp
theorem sUp_at (σ : sMem) (i j k : Nat) (v : Int32) : sUp σ i j k v i j k = v := by simp [sUp]
theorem sUp_self (σ : sMem) (i j k : Nat) : sUp σ i j k (σ i j k) = σ := by
  funext a b c
  simp only [sUp]
  split
  · rename_i h; obtain ⟨rfl, rfl, rfl⟩ := h; rfl
  · rfl
theorem sUp_eq {σ : sMem} {i j k : Nat} {v : Int32} (h : σ i j k = v) : sUp σ i j k v = σ := by rw [← h]; exact sUp_self σ i j k
theorem sUp_twice (σ : sMem) (i j k : Nat) (v w : Int32) : sUp (sUp σ i j k v) i j k w = sUp σ i j k w := by
  funext a b c
  simp only [sUp]
  split <;> rfl
theorem i8 (n : Nat) (h : n < 128) : (Int8.ofInt (n : Int)).toInt32 = nI n := by
  apply Int32.toInt_inj.mp
  rw [nI_toInt (by omega)]
  simp [Int8.toInt_ofInt]
  unfold Int8.size
  rw [Int.bmod_def]
  omega
theorem i16 (n : Nat) (h : n < 32768) : (Int16.ofInt (n : Int)).toInt32 = nI n := by
  apply Int32.toInt_inj.mp
  rw [nI_toInt (by omega)]
  simp [Int16.toInt_ofInt]
  unfold Int16.size
  rw [Int.bmod_def]
  omega
theorem i32 (n : Nat) (h : n < 2 ^ 31) : Int32.ofInt (n : Int) = nI n := by
  apply Int32.toInt_inj.mp
  rw [nI_toInt (by omega)]
  simp [Int32.toInt_ofInt]
  unfold Int32.size
  rw [Int.bmod_def]
  omega
/-- a call out of a contract -/
theorem calD {l : Launch} {D : va_G} {b0 : Nat} {ty : Nat → ClassId} {L : sLay} {d : Nat} {q : xMe} {as : List AV} {σ : sMem} {P P' : List AV → sMem → Prop} (h : sMet l D b0 ty L d q as σ P) (hp : ∀ r σ', P r σ' → P' r σ') : sCalD l D b0 ty L (d + 1) q as σ P' := sMet_mono h hp
