/-! WHAT IS READ OFF A DAY -/
def DLo (c : sMem) (P : Nat) (D : DA) : Prop := ∀ p, p < P → ouP c p = true → pT c p + fN c (pP c p) (pQ c p) ≤ (D.1 p).2 + fN c (D.1 p).1 (pQ c p)
def losP (c : sMem) (D : DA) (p : Nat) : Nat := if ouP c p then pV c p * ((D.1 p).2 + fN c (D.1 p).1 (pQ c p) - (pT c p + fN c (pP c p) (pQ c p))) else 0
def cosA (c : sMem) (D : DA) : Nat → Nat
  | 0 => D.2.2.2.1
  | p + 1 => cosA c D p + losP c D p
def lefA (D : DA) (s : Nat) : Bool := decide ((D.2.1 s).2.2.1 = none ∧ (D.2.1 s).2.1 < 1000000)
def arrA (D : DA) (s : Nat) : Bool := match (D.2.1 s).2.2.1 with
  | none => false
  | some m => decide (m ≤ 999)
section
variable {c : sMem} {N P S G : Nat}
theorem as_DLo {D : DA} {B s kd m : Nat} (hM : MC c N P S) (hS : SC c N P S G) (hV : DV c N P S B D) (hs : s < S) (h : DLo c P D) : DLo c P (asA c P G kd s m D) := by
  have hbp : ∀ p, asPA c D P s kd m = some p → DLo c P (byPA c D p s m) := by
    intro p hp r hr ho
    obtain ⟨p1, p2⟩ := asPA_some hs hS hp
    obtain ⟨c1, c2, -, c4, c5⟩ := caA_of p2
    obtain ⟨x1, -⟩ := hV.2.1 s hs
    obtain ⟨-, ⟨-, hy⟩, -⟩ := hM.2.2.2.2.2 s hs
    show _ ≤ ((fu D.1 p _) r).2 + fN c ((fu D.1 p _) r).1 (pQ c r)
    by_cases e : r = p
    · subst e
      rw [fu_at]
      have hq := (hM.2.2.2.2.1 r hr).2.1.2
      obtain ⟨b1, b2, b3⟩ := hV.1 r hr c1
      obtain ⟨l1, l2, l3, -, -⟩ := led_at hM.1 hS.1 x1 hy c4
      obtain ⟨k, -, -, k3, k4, k5⟩ := atP_at hM.1 hq b1 b2 c2
      have f4 := hM.1.2.1 (D.2.1 s).1 (ledM c (D.2.1 s).1 (sY c s)) (pQ c r) x1 l1 hq
      have := h r hr ho
      dsimp only
      omega
    · rw [fu_ne e]
      exact h r hr ho
  unfold asA
  dsimp only
  split
  · exact h
  · split
    · exact h
    · split
      · rename_i g p hg hp
        split
        · exact h
        · exact hbp p hp
      · exact h
      · rename_i p hg hp
        exact hbp p hp
      · exact h
theorem da_DLo {cm : Nat → Bool} {kd : Nat} (hM : MC c N P S) (hS : SC c N P S G) : ∀ k, k ≤ 1000 → DLo c P (forG (dmA c P G S kd) (beA c cm) k)
  | 0, _ => fun p _ _ => Nat.le_refl _
  | k + 1, hk => by
    have ih := da_DLo (cm := cm) (kd := kd) hM hS k (by omega)
    have hV := daA_DV (cm := cm) (kd := kd) hM hS k (by omega)
    show DLo c P (forG (dsA c P G kd k) (forG (dmA c P G S kd) (beA c cm) k) S)
    generalize forG (dmA c P G S kd) (beA c cm) k = D at *
    have : ∀ j, j ≤ S → DLo c P (forG (dsA c P G kd k) D j) := by
      intro j
      induction j with
      | zero => intro _; exact ih
      | succ j ihj =>
        intro hj
        have h1 := ihj (by omega)
        have h2 := dmA_DV (kd := kd) (m := k) hV hM hS (by omega) j (by omega)
        show DLo c P (dsA c P G kd k j (forG (dsA c P G kd k) D j))
        unfold dsA
        split
        · exact as_DLo hM hS h2 (by omega) h1
        · exact h1
    exact this S (Nat.le_refl _)
theorem losP_le {D : DA} {B p : Nat} (hM : MC c N P S) (hV : DV c N P S B D) (hp : p < P) : losP c D p ≤ 99 * 2319 := by
  unfold losP
  split
  · rename_i ho
    obtain ⟨b1, b2, b3⟩ := hV.1 p hp ho
    have hq := (hM.2.2.2.2.1 p hp).2.1.2
    have hv := (hM.2.2.2.2.1 p hp).2.2.2.2.2
    have := fN_660 hM.1 hq b1 b2
    exact Nat.mul_le_mul hv (by omega)
  · exact Nat.zero_le _
theorem cosA_le {D : DA} {B : Nat} (hM : MC c N P S) (hV : DV c N P S B D) : ∀ k, k ≤ P → cosA c D k ≤ 11880 * B + 229581 * k
  | 0, _ => hV.2.2.2.1
  | k + 1, hk => by
    have := cosA_le hM hV k (by omega)
    have h2 := losP_le hM hV (show k < P by omega)
    unfold cosA
    omega
theorem los_RA {t : sMem} {D : DA} {B p : Nat} (hM : MC c N P S) (hV : DV c N P S B D) (hL : DLo c P D) (hR : RA c t P S G D) (hp : p < P) : t 6 p 3 * (t 23 0 p - t 22 0 p) = nI (losP c D p) := by
  obtain ⟨-, -, -, ev, -⟩ := hM.2.2.2.2.1 p hp
  rw [hR.1.1 6 (by omega), ev]
  unfold losP
  cases ho : ouP c p with
  | true =>
    obtain ⟨-, -, h3, h4, -⟩ := (hR.2.1 p hp).1 ho
    rw [h3, h4, nIm (hL p hp ho), nIx]
    rfl
  | false =>
    obtain ⟨-, h2, h3⟩ := (hR.2.1 p hp).2 ho
    rw [h2, h3]
    simp only [Bool.false_eq_true, if_false]
    show nI (pV c p) * (0 - 0) = nI 0
    rw [Int32.sub_self, Int32.mul_zero]
    rfl
theorem cs_RA {t : sMem} {D : DA} {B : Nat} (hM : MC c N P S) (hV : DV c N P S B D) (hL : DLo c P D) (hR : RA c t P S G D) : ∀ k, k ≤ P → csM t k = nI (cosA c D k)
  | 0, _ => hR.2.2.2.2.1
  | k + 1, hk => by
    unfold csM cosA
    rw [cs_RA hM hV hL hR k (by omega), los_RA hM hV hL hR (by omega), nIa]
theorem lf_RA {t : sMem} {D : DA} {B : Nat} (hV : DV c N P S B D) (hR : RA c t P S G D) : ∀ k, k ≤ S → lfN t k = nI (cnA (lefA D) k)
  | 0, _ => rfl
  | k + 1, hk => by
    obtain ⟨-, x2, x3, -⟩ := hV.2.1 k (by omega)
    obtain ⟨-, q2, q3, -⟩ := hR.2.2.1 k (by omega)
    unfold lfN cnA
    rw [lf_RA hV hR k (by omega), q2, q3]
    have e : (oI (D.2.1 k).2.2.1 = -1 ∧ nI (D.2.1 k).2.1 < 1000000) ↔ ((D.2.1 k).2.2.1 = none ∧ (D.2.1 k).2.1 < 1000000) := by
      rw [oI_inj (fun m hm => by have := x3 m hm; omega)]
      exact and_congr_right fun _ => nI_ltI (b := 1000000) (by omega) (by decide)
    by_cases h : (D.2.1 k).2.2.1 = none ∧ (D.2.1 k).2.1 < 1000000
    · rw [if_pos (e.mpr h), show lefA D k = true from decide_eq_true h]
      exact nIs _
    · rw [if_neg (fun z => h (e.mp z)), show lefA D k = false from decide_eq_false h]
      exact Int32.add_zero _
theorem ar_RA {t : sMem} {D : DA} {B : Nat} (hV : DV c N P S B D) (hR : RA c t P S G D) : ∀ k, k ≤ S → arN t k = nI (cnA (arrA D) k)
  | 0, _ => rfl
  | k + 1, hk => by
    obtain ⟨-, x2, x3, -⟩ := hV.2.1 k (by omega)
    obtain ⟨-, q2, q3, -⟩ := hR.2.2.1 k (by omega)
    unfold arN cnA
    rw [ar_RA hV hR k (by omega), q3]
    unfold arrA
    cases hd : (D.2.1 k).2.2.1 with
    | none =>
      rw [if_neg (fun z => z.1 rfl)]
      exact Int32.add_zero _
    | some m =>
      have hm := x3 m hd
      have e : (¬ oI (some m) = -1 ∧ oI (some m) ≤ 999) ↔ m ≤ 999 := ⟨fun z => (nI_leI (b := 999) (by omega) (by decide)).mp z.2, fun z => ⟨nI_ne (by omega), (nI_leI (b := 999) (by omega) (by decide)).mpr z⟩⟩
      by_cases h : m ≤ 999
      · rw [if_pos (e.mpr h)]
        simp only [decide_eq_true h]
        exact nIs _
      · rw [if_neg (fun z => h (e.mp z))]
        simp only [decide_eq_false h]
        exact Int32.add_zero _
end
