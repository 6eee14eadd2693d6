/-! THE REFERENCE'S DAY is the day by numbers -/
theorem nIm {a b : Nat} (h : b ≤ a) : nI a - nI b = nI (a - b) := by
  have e : nI a = nI (a - b) + nI b := by rw [nIa]; congr 1; omega
  rw [e, Int32.add_sub_cancel]
theorem nIx (a b : Nat) : nI a * nI b = nI (a * b) := by
  show Int32.ofNat a * Int32.ofNat b = Int32.ofNat (a * b)
  rw [Int32.ofNat_mul]
def PA (c t : sMem) (p : Nat) (b : Nat × Nat) : Prop := t 20 0 p = nI (pl c (pQ c p) b.1 + 1) ∧ (∀ k, k ≤ pl c (pQ c p) b.1 → t 18 p k = nI (pth c (pQ c p) k b).1 ∧ t 19 p k = nI (pth c (pQ c p) k b).2) ∧ t 23 0 p = nI (b.2 + fN c b.1 (pQ c p)) ∧ t 22 0 p = nI (pT c p + fN c (pP c p) (pQ c p)) ∧ ∃ u : Nat, t 21 0 p = nI u ∧ u ≤ b.2
def TW (c t : sMem) (G : Nat) : Prop := (∀ a, a = 6 ∨ a = 8 ∨ a = 12 ∨ a = 13 ∨ a = 14 ∨ a = 15 ∨ a = 16 → t a = c a) ∧ (∀ g j, g < G → j < 2 → t 10 g j = c 10 g j) ∧ ∀ k, k = 27 ∨ k = 28 ∨ k = 29 → t 0 0 k = c 0 0 k
theorem TW.cg {c t t' : sMem} {G : Nat} (h : TW c t G) (h1 : ∀ a, a ≠ 0 → (a < 18 ∨ 34 ≤ a) → t' a = t a) (h2 : ∀ k, k = 27 ∨ k = 28 ∨ k = 29 → t' 0 0 k = t 0 0 k) : TW c t' G :=
  ⟨fun a ha => (h1 a (by omega) (by omega)).trans (h.1 a ha), fun g j hg hj => by rw [h1 10 (by omega) (by omega)]; exact h.2.1 g j hg hj, fun k hk => (h2 k hk).trans (h.2.2 k hk)⟩
def RA (c t : sMem) (P S G : Nat) (D : DA) : Prop := TW c t G ∧
  (∀ p, p < P → (ouP c p = true → PA c t p (D.1 p)) ∧ (ouP c p = false → t 20 0 p = 0 ∧ t 22 0 p = 0 ∧ t 23 0 p = 0)) ∧
  (∀ s, s < S → t 25 0 s = nI (D.2.1 s).1 ∧ t 26 0 s = nI (D.2.1 s).2.1 ∧ t 27 0 s = oI (D.2.1 s).2.2.1 ∧ t 28 0 s = nI (D.2.1 s).2.2.2.length ∧ ∀ i w, (D.2.1 s).2.2.2[i]? = some w → t 29 s i = nI w) ∧
  (∀ g, g < G → t 24 0 g = nI (D.2.2.1 g)) ∧ t 0 0 44 = nI D.2.2.2.1 ∧ t 0 0 46 = nI D.2.2.2.2.1 ∧ t 0 0 45 = nI D.2.2.2.2.2
section
variable {c : sMem} {N P S G : Nat}
/-- what 'sets' lays -/
theorem stL_at {to p : Nat} (h : WY c N) (hto : to < N) : ∀ (f a w n : Nat) (s : sMem), s 13 = c 13 → s 15 = c 15 → a < N → fN c a to < 1000000 → pl c to a < f →
    stL to p f a (nI w) n s 20 0 p = nI (n + pl c to a) ∧ stL to p f a (nI w) n s 23 0 p = nI (w + fN c a to) ∧ (∀ k, k < pl c to a → stL to p f a (nI w) n s 18 p (n + k) = nI (pth c to (k + 1) (a, w)).1 ∧ stL to p f a (nI w) n s 19 p (n + k) = nI (pth c to (k + 1) (a, w)).2) ∧
    (∀ i, i < n → stL to p f a (nI w) n s 18 p i = s 18 p i ∧ stL to p f a (nI w) n s 19 p i = s 19 p i) ∧ (∀ r, r ≠ p → stL to p f a (nI w) n s 18 r = s 18 r ∧ stL to p f a (nI w) n s 19 r = s 19 r ∧ stL to p f a (nI w) n s 20 0 r = s 20 0 r ∧ stL to p f a (nI w) n s 23 0 r = s 23 0 r)
  | 0, _, _, _, _, _, _, _, _, h0 => absurd h0 (Nat.not_lt_zero _)
  | f + 1, a, w, n, s, h13, h15, ha, hf, hlt => by
    unfold stL
    by_cases hne : a = to
    · rw [if_pos hne]
      subst hne
      rw [pl_self, fN_self h hto]
      refine ⟨by rw [sUp_off (by decide), sUp_at]; rfl, by rw [sUp_at]; rfl, fun k hk => absurd hk (Nat.not_lt_zero _), fun i hi => ?_, fun r hr => ?_⟩
      · rw [sUp_off (by decide), sUp_off (by decide), sUp_off (by decide), sUp_off (by decide)]; exact ⟨rfl, rfl⟩
      · rw [sUp_off (by decide), sUp_off (by decide), sUp_off (by decide), sUp_off (by decide)]
        refine ⟨rfl, rfl, ?_, ?_⟩
        · rw [sUp_off (by decide), sUp_k hr]
        · rw [sUp_k hr, sUp_off (by decide)]
    · rw [if_neg hne]
      obtain ⟨n1, n2, n3, n4, n5, n6⟩ := nx_at h ha hto hf hne
      have h12 := h.1.1
      have hs := pl_s h hto ha hf hne
      rw [h15, n2, nI_clamp (show nxN c a to < 2 ^ 31 by omega), h13, n3, nIa]
      obtain ⟨i1, i2, i3, i4, i5⟩ := stL_at (p := p) h hto f (nxN c a to) (w + fN c a (nxN c a to)) (n + 1) (sUp (sUp s 18 p n (nI (nxN c a to))) 19 p n (nI (w + fN c a (nxN c a to)))) (by rw [sUp_off (by decide), sUp_off (by decide)]; exact h13) (by rw [sUp_off (by decide), sUp_off (by decide)]; exact h15) n1 (by omega) (by omega)
      refine ⟨?_, ?_, fun k hk => ?_, fun i hi => ?_, fun r hr => ?_⟩
      · rw [i1]; congr 1; omega
      · rw [i2]; congr 1; omega
      · cases k with
        | zero =>
          obtain ⟨j1, j2⟩ := i4 n (by omega)
          rw [show n + 0 = n from rfl, j1, j2]
          constructor
          · rw [sUp_off (by decide), sUp_at]; rfl
          · rw [sUp_at]; rfl
        | succ k =>
          have := i3 k (by omega)
          rw [show n + (k + 1) = n + 1 + k by omega]
          exact this
      · obtain ⟨j1, j2⟩ := i4 i (by omega)
        rw [j1, j2]
        constructor
        · rw [sUp_off (by decide), sUp_k (by omega)]
        · rw [sUp_k (by omega), sUp_off (by decide)]
      · obtain ⟨j1, j2, j3, j4⟩ := i5 r hr
        rw [j1, j2, j3, j4]
        refine ⟨?_, ?_, ?_, ?_⟩
        · rw [sUp_off (by decide), sUp_rowne hr]
        · rw [sUp_rowne hr, sUp_off (by decide)]
        · rw [sUp_off (by decide), sUp_off (by decide)]
        · rw [sUp_off (by decide), sUp_off (by decide)]
theorem stM_at {t : sMem} {p a w : Nat} (h : WY c N) (hT : t 6 = c 6 ∧ t 13 = c 13 ∧ t 15 = c 15) (hq : pQ c p < N) (ha : a < N) (hf : fN c a (pQ c p) < 1000000) :
    stM t p a (nI w) 20 0 p = nI (pl c (pQ c p) a + 1) ∧ (∀ k, k ≤ pl c (pQ c p) a → stM t p a (nI w) 18 p k = nI (pth c (pQ c p) k (a, w)).1 ∧ stM t p a (nI w) 19 p k = nI (pth c (pQ c p) k (a, w)).2) ∧ stM t p a (nI w) 23 0 p = nI (w + fN c a (pQ c p)) ∧
    ∀ r, r ≠ p → stM t p a (nI w) 18 r = t 18 r ∧ stM t p a (nI w) 19 r = t 19 r ∧ stM t p a (nI w) 20 0 r = t 20 0 r ∧ stM t p a (nI w) 23 0 r = t 23 0 r := by
  unfold stM
  rw [show (t 6 p 1).toNatClampNeg = pQ c p by rw [hT.1]; rfl]
  have hl := pl_le h hq ha hf
  obtain ⟨i1, i2, i3, i4, i5⟩ := stL_at (p := p) h hq 12 a w 1 (sUp (sUp t 18 p 0 (nI a)) 19 p 0 (nI w)) (by rw [sUp_off (by decide), sUp_off (by decide)]; exact hT.2.1) (by rw [sUp_off (by decide), sUp_off (by decide)]; exact hT.2.2) ha hf (by omega)
  refine ⟨by rw [i1]; congr 1; omega, fun k hk => ?_, i2, fun r hr => ?_⟩
  · cases k with
    | zero =>
      obtain ⟨j1, j2⟩ := i4 0 (by omega)
      rw [j1, j2]
      constructor
      · rw [sUp_off (by decide), sUp_at]; rfl
      · rw [sUp_at]; rfl
    | succ k =>
      have := i3 k (by omega)
      rw [show k + 1 = 1 + k by omega]
      rw [show 1 + k = k + 1 by omega] at this ⊢
      exact this
  · obtain ⟨j1, j2, j3, j4⟩ := i5 r hr
    rw [j1, j2, j3, j4]
    refine ⟨?_, ?_, ?_, ?_⟩
    · rw [sUp_off (by decide), sUp_rowne hr]
    · rw [sUp_rowne hr, sUp_off (by decide)]
    · rw [sUp_off (by decide), sUp_off (by decide)]
    · rw [sUp_off (by decide), sUp_off (by decide)]
/-- where one is -/
theorem atS_eq {t : sMem} {p x m : Nat} {b : Nat × Nat} (h : WY c N) (hq : pQ c p < N) (hb : b.1 < N) (hf : fN c b.1 (pQ c p) < 1000000) (hbt : b.2 ≤ 1659) (hx : x < N) (hm : m < 2 ^ 30) (hP : PA c t p b) : ∀ f k g, k + f = pl c (pQ c p) b.1 → f ≤ g → atS t p (nI x) (nI m) (f + 1) k = atP c (pQ c p) x m g (pth c (pQ c p) k b)
  | f, k, g, hk, hg => by
    obtain ⟨b1, b2⟩ := b
    dsimp only at hb hf hbt hk
    have h12 := h.1.1
    obtain ⟨e1, e2⟩ := hP.2.1 k (by dsimp only; omega)
    obtain ⟨i1, i2, i3, i4, i5⟩ := pth_at h hq k b1 b2 hb hf (by omega)
    have f6 := fN_660 h hq hb hf
    have hiff : (t 18 p k = nI x ∧ t 19 p k = nI m) ↔ pth c (pQ c p) k (b1, b2) = (x, m) := by
      rw [e1, e2, nI_eq (by omega) (by omega), nI_eq (by omega) (by omega)]
      constructor
      · rintro ⟨r1, r2⟩; rw [← r1, ← r2]
      · intro r; rw [r]; exact ⟨rfl, rfl⟩
    unfold atS
    cases f with
    | zero =>
      have hqq := (pth_q (w := b2) h hq hb hf (by omega)).mpr (show k = pl c (pQ c p) b1 by omega)
      by_cases hc : pth c (pQ c p) k (b1, b2) = (x, m)
      · rw [if_pos (hiff.mpr hc)]
        cases g with
        | zero => exact (decide_eq_true hc).symm
        | succ g => unfold atP; rw [decide_eq_true hc]; rfl
      · rw [if_neg (fun z => hc (hiff.mp z))]
        cases g with
        | zero => exact (decide_eq_false hc).symm
        | succ g => unfold atP; rw [decide_eq_false hc, if_pos hqq]; rfl
    | succ f =>
      cases g with
      | zero => omega
      | succ g =>
        have hqn : ¬ (pth c (pQ c p) k (b1, b2)).1 = pQ c p := fun z => by
          have := (pth_q (w := b2) h hq hb hf (by omega)).mp z
          omega
        unfold atP
        by_cases hc : pth c (pQ c p) k (b1, b2) = (x, m)
        · rw [if_pos (hiff.mpr hc), decide_eq_true hc]; rfl
        · rw [if_neg (fun z => hc (hiff.mp z)), decide_eq_false hc, if_neg hqn, Bool.false_or, ← pth_s]
          exact atS_eq h hq hb hf hbt hx hm hP f (k + 1) g (by show k + 1 + f = pl c (pQ c p) b1; omega) (by omega)
theorem atP_of {x m : Nat} {q : Nat} : ∀ f s, atP c q x m f s = true → ∃ k, k ≤ f ∧ pth c q k s = (x, m) ∧ ∀ j, j < k → (pth c q j s).1 ≠ q
  | 0, s, h => ⟨0, Nat.le_refl _, of_decide_eq_true h, fun j hj => absurd hj (Nat.not_lt_zero _)⟩
  | f + 1, s, h => by
    unfold atP at h
    rw [Bool.or_eq_true] at h
    rcases h with h | h
    · exact ⟨0, by omega, of_decide_eq_true h, fun j hj => absurd hj (Nat.not_lt_zero _)⟩
    · split at h
      · cases h
      · rename_i hne
        obtain ⟨k, hk, e, hj⟩ := atP_of f _ h
        refine ⟨k + 1, by omega, e, fun j hjk => ?_⟩
        cases j with
        | zero => exact hne
        | succ j => exact hj j (by omega)
/-- .. and the minute's path goes on to q as it was -/
theorem atP_at {q x m : Nat} {b : Nat × Nat} (h : WY c N) (hq : q < N) (hb : b.1 < N) (hf : fN c b.1 q < 1000000) (ha : atP c q x m 12 b = true) : ∃ k, k ≤ pl c q b.1 ∧ pth c q k b = (x, m) ∧ b.2 ≤ m ∧ m + fN c x q = b.2 + fN c b.1 q ∧ fN c x q < 1000000 := by
  obtain ⟨b1, b2⟩ := b
  obtain ⟨k, hk, e, hj⟩ := atP_of 12 _ ha
  have hkl : k ≤ pl c q b1 := by
    rcases Nat.lt_or_ge (pl c q b1) k with g | g
    · exact absurd ((pth_q (w := b2) h hq hb hf (Nat.le_refl _)).mpr rfl) (hj _ g)
    · exact g
  obtain ⟨i1, i2, i3, i4, i5⟩ := pth_at h hq k b1 b2 hb hf hkl
  rw [e] at i2 i3 i5
  exact ⟨k, hkl, e, by dsimp only at i5 ⊢; omega, by dsimp only at i3 ⊢; omega, i2⟩
theorem isAt_eq {t : sMem} {p x m : Nat} {b : Nat × Nat} (h : WY c N) (hq : pQ c p < N) (hb : b.1 < N) (hf : fN c b.1 (pQ c p) < 1000000) (hbt : b.2 ≤ 1659) (hx : x < N) (hm : m < 2 ^ 30) (hP : PA c t p b) : isAtM t p (nI x) (nI m) = atP c (pQ c p) x m 12 b := by
  have hl := pl_le h hq hb hf
  have e0 : atS t p (nI x) (nI m) (t 20 0 p).toNatClampNeg 0 = atP c (pQ c p) x m 12 b := by
    rw [hP.1, nI_clamp (by omega)]
    exact atS_eq h hq hb hf hbt hx hm hP (pl c (pQ c p) b.1) 0 12 (by omega) (by omega)
  unfold isAtM
  rw [e0]
  obtain ⟨u, eu, hu⟩ := hP.2.2.2.2
  split
  · rename_i hlt
    rw [eu] at hlt
    have := (nI_ltI (by omega) (by omega)).mp hlt
    cases ha : atP c (pQ c p) x m 12 b with
    | false => rfl
    | true =>
      obtain ⟨k, -, -, h5, -⟩ := atP_at h hq hb hf ha
      omega
  · rfl
theorem can_eq {t : sMem} {D : DA} {B p s m : Nat} (hM : MC c N P S) (hV : DV c N P S B D) (hR : RA c t P S G D) (hp : p < P) (hs : s < S) (hm : m < 2 ^ 30) : canM t p s (nI m) = caA c D p s m := by
  obtain ⟨r1, r2, r3, -⟩ := hR
  obtain ⟨x1, -⟩ := hV.2.1 s hs
  obtain ⟨-, ⟨ey, hy⟩, -⟩ := hM.2.2.2.2.2 s hs
  obtain ⟨-, ⟨eq, hq⟩, -⟩ := hM.2.2.2.2.1 p hp
  have h12 := hM.1.1.1
  unfold canM caA
  rw [(r3 s hs).1, nI_clamp (show (D.2.1 s).1 < 2 ^ 31 by omega), r1.1 6 (by omega), r1.1 8 (by omega), r1.1 14 (by omega), ey, nI_clamp (show sY c s < 2 ^ 31 by omega), eq, nI_clamp (show pQ c p < 2 ^ 31 by omega)]
  have w1 := hM.1.1.lt x1 hy
  have w2 := hM.1.1.lt hy hq
  have e1 : isAtM t p (nI (D.2.1 s).1) (nI m) = (ouP c p && atP c (pQ c p) (D.2.1 s).1 m 12 (D.1 p)) := by
    cases ho : ouP c p with
    | true =>
      obtain ⟨b1, b2, b3⟩ := hV.1 p hp ho
      rw [isAt_eq hM.1 hq b1 b2 b3 x1 hm ((r2 p hp).1 ho)]
      rfl
    | false =>
      obtain ⟨z1, -⟩ := (r2 p hp).2 ho
      unfold isAtM
      rw [z1]
      split <;> rfl
  rw [e1]
  have d1 : decide (c 14 (D.2.1 s).1 (sY c s) < 1000000) = decide (fN c (D.2.1 s).1 (sY c s) < 1000000) := decide_eq_decide.mpr w1
  have d2 : decide (c 14 (sY c s) (pQ c p) < 1000000) = decide (fN c (sY c s) (pQ c p) < 1000000) := decide_eq_decide.mpr w2
  rw [d1, d2]
  rfl
end
