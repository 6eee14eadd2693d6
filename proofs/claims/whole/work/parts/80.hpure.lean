/-! HANDING ON by numbers: all ends that can be, and the least of them -/
theorem pth_sh (t : sMem) (q a w : Nat) : ∀ k, pth t q k (a, w) = ((pth t q k (a, 0)).1, w + (pth t q k (a, 0)).2)
  | 0 => rfl
  | k + 1 => by
    rw [pth_s, pth_s, pth_sh t q a w k]
    unfold st1
    simp only [Nat.add_assoc]
/-- nobody asks p: he is at x in minute w -/
def psQ (t : sMem) (p x w : Nat) : Prop := fN t (pP t p) (pQ t p) < 1000000 ∧ ∃ k, k ≤ pl t (pQ t p) (pP t p) ∧ pth t (pQ t p) k (pP t p, pT t p) = (x, w)
def wayQ (t : sMem) (y x z : Nat) : Prop := ∃ j, 1 ≤ j ∧ j < pl t y x ∧ (pth t y j (x, 0)).1 = z
def hcQ (t : sMem) (P y p U x m w : Nat) : Prop := p < P ∧ U.testBit p = false ∧ bt (t 6 p 4) y = true ∧ fN t x y < 1000000 ∧ fN t y (pQ t p) < 1000000 ∧ psQ t p x w ∧ m ≤ w
/-- where p leads him to, from x in minute w -/
def hdZ (t : sMem) (y : Nat) (R : Nat → Nat → Nat → Nat → Nat × Nat → Prop) (x U l p w : Nat) (o : Nat × Nat) : Prop := o = (l + losA t p x y, w + fN t x y) ∨ ∃ z, wayQ t y x z ∧ R z (w + fN t x z) (U ||| 2 ^ p) (l + losA t p x z) o
def hd1 (t : sMem) (P y : Nat) (R : Nat → Nat → Nat → Nat → Nat × Nat → Prop) (x m U l p : Nat) (o : Nat × Nat) : Prop := ∃ w, hcQ t P y p U x m w ∧ hdZ t y R x U l p w o
def hdN (t : sMem) (P y : Nat) : Nat → Nat → Nat → Nat → Nat → Nat × Nat → Prop
  | 0 => fun _ _ _ _ _ => False
  | n + 1 => fun x m U l o => ∃ p, hd1 t P y (hdN t P y n) x m U l p o
def lxL (a b : Nat × Nat) : Prop := a.1 < b.1 ∨ (a.1 = b.1 ∧ a.2 ≤ b.2)
def lxU (B : Option (Nat × Nat)) (o : Nat × Nat) : Option (Nat × Nat) := match B with
  | none => some o
  | some b => if o.1 < b.1 ∨ (o.1 = b.1 ∧ o.2 < b.2) then some o else some b
/-- B1 is the least of B0 and of Q -/
def LU (B0 : Option (Nat × Nat)) (Q : Nat × Nat → Prop) (B1 : Option (Nat × Nat)) : Prop := (∀ o, (Q o ∨ B0 = some o) → ∃ b, B1 = some b ∧ lxL b o) ∧ ∀ b, B1 = some b → Q b ∨ B0 = some b
theorem lxL_rf (a : Nat × Nat) : lxL a a := Or.inr ⟨rfl, Nat.le_refl _⟩
theorem lxL_tr {a b c : Nat × Nat} (h : lxL a b) (h' : lxL b c) : lxL a c := by
  unfold lxL at *
  omega
theorem lxL_as {a b : Nat × Nat} (h : lxL a b) (h' : lxL b a) : a = b := by
  unfold lxL at *
  exact Prod.ext (by omega) (by omega)
theorem LU_nil {B : Option (Nat × Nat)} {Q : Nat × Nat → Prop} (h : ∀ o, ¬ Q o) : LU B Q B :=
  ⟨fun o ho => ho.elim (fun q => absurd q (h o)) (fun q => ⟨o, q, lxL_rf o⟩), fun _ hb => Or.inr hb⟩
theorem LU_tr {B0 B1 B2 : Option (Nat × Nat)} {Q Q' : Nat × Nat → Prop} (h : LU B0 Q B1) (h' : LU B1 Q' B2) : LU B0 (fun o => Q o ∨ Q' o) B2 := by
  refine ⟨fun o ho => ?_, fun b hb => ?_⟩
  · rcases ho with (ho | ho) | ho
    · obtain ⟨b, e, hl⟩ := h.1 o (Or.inl ho)
      obtain ⟨c, e', hl'⟩ := h'.1 b (Or.inr e)
      exact ⟨c, e', lxL_tr hl' hl⟩
    · exact h'.1 o (Or.inl ho)
    · obtain ⟨b, e, hl⟩ := h.1 o (Or.inr ho)
      obtain ⟨c, e', hl'⟩ := h'.1 b (Or.inr e)
      exact ⟨c, e', lxL_tr hl' hl⟩
  · rcases h'.2 b hb with q | q
    · exact Or.inl (Or.inr q)
    · rcases h.2 b q with q | q
      · exact Or.inl (Or.inl q)
      · exact Or.inr q
theorem LU_cg {B B' : Option (Nat × Nat)} {Q Q' : Nat × Nat → Prop} (h : LU B Q B') (hq : ∀ o, Q o ↔ Q' o) : LU B Q' B' :=
  ⟨fun o ho => h.1 o (ho.imp (hq o).mpr id), fun b hb => (h.2 b hb).imp (hq b).mp id⟩
theorem LU_one (B : Option (Nat × Nat)) (o : Nat × Nat) : LU B (fun x => x = o) (lxU B o) := by
  cases B with
  | none => exact ⟨fun x hx => hx.elim (fun e => ⟨o, rfl, by rw [e]; exact lxL_rf o⟩) (fun e => by cases e), fun b hb => by cases hb; exact Or.inl rfl⟩
  | some b =>
    have e : lxU (some b) o = if o.1 < b.1 ∨ (o.1 = b.1 ∧ o.2 < b.2) then some o else some b := rfl
    rw [e]
    by_cases h : o.1 < b.1 ∨ (o.1 = b.1 ∧ o.2 < b.2)
    · rw [if_pos h]
      refine ⟨fun x hx => ⟨o, rfl, ?_⟩, fun c hc => by cases hc; exact Or.inl rfl⟩
      rcases hx with rfl | hx
      · exact lxL_rf _
      · cases hx
        unfold lxL; omega
    · rw [if_neg h]
      refine ⟨fun x hx => ⟨b, rfl, ?_⟩, fun c hc => Or.inr hc⟩
      rcases hx with rfl | hx
      · unfold lxL; omega
      · cases hx; exact lxL_rf _
theorem LU_cut {B : Option (Nat × Nat)} {Q : Nat × Nat → Prop} {b : Nat × Nat} (hb9 : B = some b) (h : ∀ o, Q o → lxL b o) : LU B Q B :=
  ⟨fun o ho => ho.elim (fun q => ⟨b, hb9, h o q⟩) (fun q => ⟨o, q, lxL_rf o⟩), fun _ hb => Or.inr hb⟩
theorem LU_uq {Q : Nat × Nat → Prop} {B B' : Option (Nat × Nat)} (h : LU none Q B) (h' : LU none Q B') : B = B' := by
  cases hB : B with
  | none =>
    cases hB' : B' with
    | none => rfl
    | some b =>
      rcases h'.2 b hB' with q | q
      · obtain ⟨c, e, -⟩ := h.1 b (Or.inl q)
        rw [hB] at e; cases e
      · cases q
  | some b =>
    have q : Q b := (h.2 b hB).elim id (fun e => by cases e)
    obtain ⟨c, e, hl⟩ := h'.1 b (Or.inl q)
    have q' : Q c := (h'.2 c e).elim id (fun e => by cases e)
    obtain ⟨d, e', hl'⟩ := h.1 c (Or.inl q')
    rw [hB] at e'
    cases e'
    rw [e, lxL_as hl hl']
/-- no end loses less than what is lost already; none is large -/
theorem psQ_at {t : sMem} {N P S p x w : Nat} (hm : MC t N P S) (hp : p < P) (h : psQ t p x w) : x < N ∧ w = pT t p + fN t (pP t p) x ∧ fN t x (pQ t p) < 1000000 ∧ w + fN t x (pQ t p) = pT t p + fN t (pP t p) (pQ t p) := by
  obtain ⟨hf, k, hk, e⟩ := h
  obtain ⟨⟨-, ha⟩, ⟨-, hb9⟩, -, -⟩ := hm.2.2.2.2.1 p hp
  obtain ⟨a1, a2, a3, -, -⟩ := pth_at hm.1 hb9 k (pP t p) (pT t p) ha hf hk
  have f1 := pth_far hm.1 hb9 ha hf k hk
  have sh := pth_sh t (pQ t p) (pP t p) (pT t p) k
  rw [e] at a1 a2 a3 sh
  have s1 := congrArg Prod.fst sh
  have s2 := congrArg Prod.snd sh
  have s1' : x = (pth t (pQ t p) k (pP t p, 0)).1 := s1
  have s2' : w = pT t p + (pth t (pQ t p) k (pP t p, 0)).2 := s2
  rw [← s1'] at f1
  exact ⟨a1, by rw [f1]; exact s2', a2, a3⟩
theorem wayQ_at {t : sMem} {N x y z : Nat} (h : WY t N) (hx : x < N) (hy : y < N) (hf : fN t x y < 1000000) (hz : wayQ t y x z) : z < N ∧ z ≠ y ∧ fN t z y < 1000000 ∧ fN t x z + fN t z y = fN t x y := by
  obtain ⟨j, h1, h2, e⟩ := hz
  obtain ⟨a1, a2, a3, a4, -⟩ := pth_at h hy j x 0 hx hf (by omega)
  have f1 := pth_far h hy hx hf j (by omega)
  have hq := pth_q (w := 0) h hy hx hf (show j ≤ pl t y x by omega)
  rw [e] at a1 a2 a3 f1 hq
  exact ⟨a1, fun q => by have := hq.mp q; omega, a2, by omega⟩
theorem los_le {t : sMem} {N P S p x z : Nat} (hm : MC t N P S) (hp : p < P) (hx : x < N) (hz : z < N) (h1 : fN t x z < 1000000) (h2 : fN t z (pQ t p) < 1000000) : losA t p x z ≤ 200000 := by
  obtain ⟨-, ⟨-, hb9⟩, -, -, hv⟩ := hm.2.2.2.2.1 p hp
  have f1 := fN_660 hm.1 hz hx h1
  have f2 := fN_660 hm.1 hb9 hz h2
  unfold losA
  exact Nat.le_trans (Nat.mul_le_mul hv.2 (Nat.le_trans (Nat.sub_le _ _) (show _ ≤ 1320 by omega))) (by decide)
theorem psQ_le {t : sMem} {N P S p x w : Nat} (hm : MC t N P S) (hp : p < P) (h : psQ t p x w) : w ≤ 1160 := by
  obtain ⟨a, -, -, d⟩ := psQ_at hm hp h
  obtain ⟨⟨-, ha⟩, ⟨-, hb9⟩, ⟨-, ht⟩, -⟩ := hm.2.2.2.2.1 p hp
  have := fN_660 hm.1 hb9 ha h.1
  omega
theorem zQ {t : sMem} {N x y z q : Nat} (h : WY t N) (hx : x < N) (hy : y < N) (hz9 : z < N) (hq : q < N) (h1 : fN t z y < 1000000) (h2 : fN t y q < 1000000) : fN t z q < 1000000 := by
  have a := fN_660 h hy hz9 h1
  have b := fN_660 h hq hy h2
  have c := h.2.1 z y q hz9 hy hq
  omega
theorem hdN_le {t : sMem} {N P S y : Nat} (hm : MC t N P S) (hy : y < N) : ∀ n x m U l o, hdN t P y n x m U l o → l ≤ o.1 ∧ o.1 ≤ l + 200000 * n ∧ o.2 ≤ 2000
  | 0, _, _, _, _, _, h => h.elim
  | n + 1, x, m, U, l, o, h => by
    obtain ⟨p, w, ⟨hp, -, -, h4, h5, h6, -⟩, hz⟩ := h
    have hw := psQ_le hm hp h6
    have hx := (psQ_at hm hp h6).1
    have hq := (hm.2.2.2.2.1 p hp).2.1.2
    rcases hz with rfl | ⟨z, hz, hr⟩
    · have a := los_le hm hp hx hy h4 h5
      have b := fN_660 hm.1 hy hx h4
      exact ⟨Nat.le_add_right _ _, by show l + losA t p x y ≤ l + 200000 * (n + 1); omega, by show w + fN t x y ≤ 2000; omega⟩
    · obtain ⟨z1, -, z3, z4⟩ := wayQ_at hm.1 hx hy h4 hz
      have a := los_le hm hp hx z1 (by omega) (zQ hm.1 hx hy z1 hq z3 h5)
      obtain ⟨b1, b2, b3⟩ := hdN_le hm hy n z _ _ _ o hr
      exact ⟨by omega, by omega, b3⟩
