/-! THE REFERENCE: layFar by numbers -/
def gN (ρ : sMem) (Q : Nat) : mtx := fun a b => (snM ρ Q a b).toNatClampNeg
theorem sn_ok {ρ : sMem} {N : Nat} (hN : N ≤ 12) : ∀ Q, (∀ k, k < Q → vQ (ρ 4 k) N) → ∀ a b, ∃ w : Nat, snM ρ Q a b = nI w ∧ (w = 1000000 ∨ (1 ≤ w ∧ w ≤ 60)) ∧ (a = b → w = 1000000)
  | 0, _, _, _ => ⟨1000000, rfl, Or.inl rfl, fun _ => rfl⟩
  | Q + 1, h, a, b => by
    obtain ⟨x, y, m, ⟨e0, hx⟩, ⟨e1, hy⟩, hxy, e2, m1, m2⟩ := h Q (Nat.lt_succ_self Q)
    have ih := sn_ok hN Q (fun k hk => h k (by omega))
    unfold snM
    rw [e0, e1, e2, nI_clamp (show x < 2 ^ 31 by omega), nI_clamp (show y < 2 ^ 31 by omega)]
    split
    · rename_i hc
      obtain ⟨w, ew, hw, -⟩ := ih x y
      have hab : a ≠ b := fun e => by
        rcases hc with ⟨c1, c2⟩ | ⟨c1, c2⟩
        · exact hxy (by rw [← c2, ← c1, e])
        · exact hxy (by rw [← c1, ← c2, e])
      rw [ew]
      by_cases hl : nI m < nI w
      · rw [if_pos hl]
        exact ⟨m, rfl, Or.inr ⟨m1, m2⟩, fun q => absurd q hab⟩
      · rw [if_neg hl]
        exact ⟨w, rfl, hw, fun q => absurd q hab⟩
    · exact ih a b
theorem gN_at {ρ : sMem} {N Q : Nat} (hN : N ≤ 12) (h : ∀ k, k < Q → vQ (ρ 4 k) N) (a b : Nat) : snM ρ Q a b = nI (gN ρ Q a b) ∧ (gN ρ Q a b = 1000000 ∨ (1 ≤ gN ρ Q a b ∧ gN ρ Q a b ≤ 60)) ∧ (a = b → gN ρ Q a b = 1000000) := by
  obtain ⟨w, e, hw, hd⟩ := sn_ok hN Q h a b
  have : gN ρ Q a b = w := by unfold gN; rw [e, nI_clamp (by omega)]
  rw [this]
  exact ⟨e, hw, hd⟩
theorem gN_ok {ρ : sMem} {N Q : Nat} (hN : N ≤ 12) (h : ∀ k, k < Q → vQ (ρ 4 k) N) : gOK N (gN ρ Q) := fun a b _ _ => (gN_at hN h a b).2
/-- a memory and a matrix, step by step -/
theorem forM_G {α : Type} {R : sMem → α → Prop} {f : Nat → sMem → sMem} {h : Nat → α → α} : ∀ (n : Nat) (s : sMem) (M : α), (∀ k s M, k < n → R s M → R (f k s) (h k M)) → R s M → R (forM f s n) (forG h M n)
  | 0, _, _, _, h0 => h0
  | n + 1, s, M, hs, h0 => hs n _ _ (Nat.lt_succ_self n) (forM_G n s M (fun k s M hk => hs k s M (by omega)) h0)
theorem lfA_at (N : Nat) (s : sMem) : (∀ i, i ≠ 13 → i ≠ 14 → lfA N s i = s i) ∧ ∀ a b, a < N → b < N → lfA N s 13 a b = 1000000 ∧ lfA N s 14 a b = if a = b then 0 else 1000000 := by
  have key : ∀ n, n ≤ N → (∀ i, i ≠ 13 → i ≠ 14 → forM (fun a s => forM (lf1 a) s N) s n i = s i) ∧ ∀ a b, a < n → b < N → forM (fun a s => forM (lf1 a) s N) s n 13 a b = 1000000 ∧ forM (fun a s => forM (lf1 a) s N) s n 14 a b = if a = b then 0 else 1000000 := by
    intro n
    induction n with
    | zero => intro _; exact ⟨fun _ _ _ => rfl, fun a b h => absurd h (Nat.not_lt_zero _)⟩
    | succ n ih =>
      intro hn
      obtain ⟨i1, i2⟩ := ih (by omega)
      have e0 : forM (fun a s => forM (lf1 a) s N) s (n + 1) = forM (lf1 n) (forM (fun a s => forM (lf1 a) s N) s n) N := rfl
      rw [e0]
      generalize forM (fun a s => forM (lf1 a) s N) s n = z at i1 i2 ⊢
      have k2 : ∀ m, (∀ i, i ≠ 13 → i ≠ 14 → forM (lf1 n) z m i = s i) ∧ (∀ a b, a < n → b < N → forM (lf1 n) z m 13 a b = 1000000 ∧ forM (lf1 n) z m 14 a b = if a = b then 0 else 1000000) ∧ ∀ b, b < m → forM (lf1 n) z m 13 n b = 1000000 ∧ forM (lf1 n) z m 14 n b = if n = b then 0 else 1000000 := by
        intro m
        induction m with
        | zero => exact ⟨i1, i2, fun b h => absurd h (Nat.not_lt_zero _)⟩
        | succ m ih2 =>
          obtain ⟨j1, j2, j3⟩ := ih2
          have e1 : forM (lf1 n) z (m + 1) = lf1 n m (forM (lf1 n) z m) := rfl
          rw [e1]
          generalize forM (lf1 n) z m = y at j1 j2 j3 ⊢
          unfold lf1
          refine ⟨fun i h1 h2 => by rw [sUp_off h2, sUp_off h1]; exact j1 i h1 h2, fun a b ha hb9 => ?_, fun b hb9 => ?_⟩
          · rw [sUp_off (by decide), sUp_rowne (by omega), sUp_rowne (by omega), sUp_off (by decide)]
            exact j2 a b ha hb9
          · rw [sUp_off (by decide)]
            by_cases e : b = m
            · subst e; rw [sUp_at, sUp_at]; exact ⟨rfl, rfl⟩
            · rw [sUp_k e, sUp_k e, sUp_off (by decide)]; exact j3 b (by omega)
      obtain ⟨j1, j2, j3⟩ := k2 N
      refine ⟨j1, fun a b ha hb9 => ?_⟩
      by_cases e : a = n
      · subst e; exact j3 b hb9
      · exact j2 a b (by omega) hb9
  exact key N (Nat.le_refl _)
theorem lfB_at {N : Nat} (hN : N ≤ 12) {s0 z : sMem} (h4 : z 4 = s0 4) (h13 : ∀ a b, a < N → b < N → z 13 a b = 1000000) : ∀ Q, (∀ k, k < Q → vQ (s0 4 k) N) → (∀ i, i ≠ 13 → lfB Q z i = z i) ∧ ∀ a b, a < N → b < N → lfB Q z 13 a b = snM s0 Q a b
  | 0, _ => ⟨fun _ _ => rfl, h13⟩
  | Q + 1, h => by
    obtain ⟨i1, i2⟩ := lfB_at hN h4 h13 Q (fun k hk => h k (by omega))
    obtain ⟨x, y, m, ⟨e0, hx⟩, ⟨e1, hy⟩, hxy, e2, m1, m2⟩ := h Q (Nat.lt_succ_self Q)
    have e3 : lfB (Q + 1) z = lf2 Q (lfB Q z) := rfl
    rw [e3]
    generalize lfB Q z = y9 at i1 i2 ⊢
    have f0 : y9 4 Q 0 = nI x := by rw [i1 4 (by decide), h4]; exact e0
    have f1 : y9 4 Q 1 = nI y := by rw [i1 4 (by decide), h4]; exact e1
    have f2 : y9 4 Q 2 = nI m := by rw [i1 4 (by decide), h4]; exact e2
    have e4 : lf2 Q y9 = sUp (sUp y9 13 x y (if nI m < y9 13 x y then nI m else y9 13 x y)) 13 y x (if nI m < y9 13 x y then nI m else y9 13 x y) := by
      unfold lf2
      dsimp only
      rw [f0, f1, f2, nI_clamp (show x < 2 ^ 31 by omega), nI_clamp (show y < 2 ^ 31 by omega), sUp_at]
    rw [e4]
    refine ⟨fun i hi => by rw [sUp_off hi, sUp_off hi]; exact i1 i hi, fun a b ha hb9 => ?_⟩
    unfold snM
    rw [e0, e1, e2, nI_clamp (show x < 2 ^ 31 by omega), nI_clamp (show y < 2 ^ 31 by omega), i2 x y hx hy]
    generalize (if nI m < snM s0 Q x y then nI m else snM s0 Q x y) = v
    by_cases c1 : a = y ∧ b = x
    · obtain ⟨rfl, rfl⟩ := c1
      rw [sUp_at, if_pos (Or.inl ⟨rfl, rfl⟩)]
    · have o1 : ∀ (s : sMem) (v : Int32), sUp s 13 y x v 13 a b = s 13 a b := fun s v => by simp only [sUp]; rw [if_neg (fun q => c1 q.2)]
      rw [o1]
      by_cases c2 : a = x ∧ b = y
      · obtain ⟨rfl, rfl⟩ := c2
        rw [sUp_at, if_pos (Or.inr ⟨rfl, rfl⟩)]
      · have o2 : ∀ (s : sMem) (v : Int32), sUp s 13 x y v 13 a b = s 13 a b := fun s v => by simp only [sUp]; rw [if_neg (fun q => c2 q.2)]
        rw [o2, if_neg (fun q => q.elim c1 c2)]
        exact i2 a b ha hb9
theorem lfC_at {N : Nat} {z : sMem} {g : mtx} (h13 : ∀ a b, a < N → b < N → z 13 a b = nI (g a b)) (hg : gOK N g) (h14 : ∀ a b, a < N → b < N → z 14 a b = if a = b then 0 else 1000000) : (∀ i, i ≠ 14 → lfC N z i = z i) ∧ ∀ a b, a < N → b < N → lfC N z 14 a b = nI (m0 g a b) := by
  have hv : ∀ a b, a < N → b < N → (if z 13 a b < z 14 a b then z 13 a b else z 14 a b) = nI (m0 g a b) := by
    intro a b ha hb9
    rw [h13 a b ha hb9, h14 a b ha hb9]
    have q := hg a b ha hb9
    unfold m0
    by_cases e : a = b
    · have hg9 : g a b < 2 ^ 31 := by omega
      rw [if_pos e, if_pos e]
      exact if_neg (fun q2 => absurd ((nI_ltI (b := 0) hg9 (by decide)).mp q2) (Nat.not_lt_zero _))
    · rw [if_neg e, if_neg e]
      by_cases hl : nI (g a b) < 1000000
      · rw [if_pos hl]
      · rw [if_neg hl]
        have : ¬ g a b < 1000000 := fun q2 => hl ((nI_ltI (b := 1000000) (by omega) (by decide)).mpr q2)
        rw [show g a b = 1000000 by omega]; rfl
  have key : ∀ n, n ≤ N → (∀ i, i ≠ 14 → forM (fun a s => forM (lf3 a) s N) z n i = z i) ∧ (∀ a b, a < n → b < N → forM (fun a s => forM (lf3 a) s N) z n 14 a b = nI (m0 g a b)) ∧ ∀ a b, n ≤ a → forM (fun a s => forM (lf3 a) s N) z n 14 a b = z 14 a b := by
    intro n
    induction n with
    | zero => intro _; exact ⟨fun _ _ => rfl, fun a b h => absurd h (Nat.not_lt_zero _), fun _ _ _ => rfl⟩
    | succ n ih =>
      intro hn
      obtain ⟨i1, i2, i3⟩ := ih (by omega)
      have e0 : forM (fun a s => forM (lf3 a) s N) z (n + 1) = forM (lf3 n) (forM (fun a s => forM (lf3 a) s N) z n) N := rfl
      rw [e0]
      generalize forM (fun a s => forM (lf3 a) s N) z n = y at i1 i2 i3 ⊢
      have k2 : ∀ m, m ≤ N → (∀ i, i ≠ 14 → forM (lf3 n) y m i = z i) ∧ (∀ a b, a ≠ n → forM (lf3 n) y m 14 a b = y 14 a b) ∧ (∀ b, b < m → forM (lf3 n) y m 14 n b = nI (m0 g n b)) ∧ ∀ b, m ≤ b → forM (lf3 n) y m 14 n b = z 14 n b := by
        intro m
        induction m with
        | zero => intro _; exact ⟨i1, fun _ _ _ => rfl, fun b h => absurd h (Nat.not_lt_zero _), fun b _ => i3 n b (Nat.le_refl _)⟩
        | succ m ih2 =>
          intro hm
          obtain ⟨j1, j2, j3, j4⟩ := ih2 (by omega)
          have e1 : forM (lf3 n) y (m + 1) = lf3 n m (forM (lf3 n) y m) := rfl
          rw [e1]
          generalize forM (lf3 n) y m = x at j1 j2 j3 j4 ⊢
          unfold lf3
          refine ⟨fun i h => by rw [sUp_off h]; exact j1 i h, fun a b h => by rw [sUp_rowne h]; exact j2 a b h, fun b hb9 => ?_, fun b hb9 => by rw [sUp_k (by omega)]; exact j4 b (by omega)⟩
          by_cases e : b = m
          · subst e
            rw [sUp_at, j1 13 (by decide), j4 b (Nat.le_refl _)]
            exact hv n b (by omega) (by omega)
          · rw [sUp_k e]; exact j3 b (by omega)
      obtain ⟨j1, j2, j3, j4⟩ := k2 N (Nat.le_refl _)
      refine ⟨j1, fun a b ha hb9 => ?_, fun a b ha => by rw [j2 a b (by omega)]; exact i3 a b (by omega)⟩
      by_cases e : a = n
      · subst e; exact j3 b hb9
      · rw [j2 a b e]; exact i2 a b (by omega) hb9
  obtain ⟨k1, k2, -⟩ := key N (Nat.le_refl _)
  exact ⟨k1, k2⟩
def R14 (N : Nat) (z : sMem) (s : sMem) (M : mtx) : Prop := (∀ i, i ≠ 14 → s i = z i) ∧ ∀ a b, a < N → b < N → s 14 a b = nI (M a b) ∧ M a b ≤ 1000000
theorem lf4_R {N : Nat} {z s : sMem} {M : mtx} {k a b : Nat} (hk : k < N) (ha : a < N) (hb9 : b < N) (h : R14 N z s M) : R14 N z (lf4 k a b s) (flS k a b M) := by
  obtain ⟨h1, h2⟩ := h
  have q1 := h2 a k ha hk
  have q2 := h2 k b hk hb9
  have q3 := h2 a b ha hb9
  have hc : (s 14 a k + s 14 k b < s 14 a b) ↔ M a k + M k b < M a b := by
    rw [q1.1, q2.1, q3.1, nIa]
    exact nI_ltI (by omega) (by omega)
  unfold lf4
  by_cases hl : M a k + M k b < M a b
  · rw [if_pos (hc.mpr hl), q1.1, q2.1, nIa]
    refine ⟨fun i hi => by rw [sUp_off hi]; exact h1 i hi, fun x y hx hy => ?_⟩
    unfold flS
    by_cases e : x = a ∧ y = b
    · obtain ⟨rfl, rfl⟩ := e
      rw [if_pos ⟨rfl, rfl⟩, if_pos hl, sUp_at]
      exact ⟨rfl, by omega⟩
    · rw [if_neg e]
      have o1 : ∀ (v : Int32), sUp s 14 a b v 14 x y = s 14 x y := fun v => by simp only [sUp]; rw [if_neg (fun q => e q.2)]
      rw [o1]
      exact h2 x y hx hy
  · rw [if_neg (fun q => hl (hc.mp q))]
    refine ⟨h1, fun x y hx hy => ?_⟩
    unfold flS
    by_cases e : x = a ∧ y = b
    · obtain ⟨rfl, rfl⟩ := e
      rw [if_pos ⟨rfl, rfl⟩, if_neg hl]
      exact h2 x y hx hy
    · rw [if_neg e]; exact h2 x y hx hy
theorem lfD_R {N : Nat} {z s : sMem} {M : mtx} (h : R14 N z s M) : R14 N z (lfD N s) (flM N M N) :=
  forM_G N s M (fun k s M hk h => forM_G N s M (fun a s M ha h => forM_G N s M (fun b s M hb9 h => lf4_R hk ha hb9 h) h) h) h
theorem fsF_snoc {g F : mtx} {a b : Nat} : ∀ n d, fsF g F a b (n + 1) d = match fsF g F a b n d with
    | some c => some c
    | none => if g a (d + n) < 1000000 ∧ g a (d + n) + F (d + n) b = F a b then some (d + n) else none
  | 0, d => rfl
  | n + 1, d => by
    have ih := fsF_snoc (g := g) (F := F) (a := a) (b := b) n (d + 1)
    have e1 : fsF g F a b (n + 1 + 1) d = if g a d < 1000000 ∧ g a d + F d b = F a b then some d else fsF g F a b (n + 1) (d + 1) := rfl
    have e2 : fsF g F a b (n + 1) d = if g a d < 1000000 ∧ g a d + F d b = F a b then some d else fsF g F a b n (d + 1) := rfl
    rw [e1, e2]
    by_cases hc : g a d < 1000000 ∧ g a d + F d b = F a b
    · rw [if_pos hc, if_pos hc]
    · rw [if_neg hc, if_neg hc, ih, show d + 1 + n = d + (n + 1) by omega]
theorem dn_at {N a b : Nat} (ha : a < N) (hb9 : b < N) {z : sMem} {g F : mtx} (h13 : ∀ c, c < N → z 13 a c = nI (g a c) ∧ g a c ≤ 1000000) (h14 : ∀ c, c < N → z 14 c b = nI (F c b) ∧ F c b ≤ 1000000) : ∀ n, n ≤ N → ∀ (s : sMem) (x : Option Nat), s 13 = z 13 → s 14 = z 14 → s 15 a b = oI x → (∀ i, i ≠ 15 → dnM (lf5c a b) n s i = s i) ∧ (∀ c e, (c ≠ a ∨ e ≠ b) → dnM (lf5c a b) n s 15 c e = s 15 c e) ∧ dnM (lf5c a b) n s 15 a b = oI (match fsF g F a b n 0 with
    | some c => some c
    | none => x)
  | 0, _, s, x, _, _, h => ⟨fun _ _ => rfl, fun _ _ _ => rfl, h⟩
  | n + 1, hn, s, x, h3, h4, h => by
    have hc : (s 13 a n < 1000000 ∧ s 13 a n + s 14 n b = s 14 a b) ↔ (g a n < 1000000 ∧ g a n + F n b = F a b) := by
      have p1 := h13 n (by omega)
      have p2 := h14 n (by omega)
      have p3 := h14 a ha
      rw [h3, h4, p1.1, p2.1, p3.1, nIa]
      exact and_congr (nI_lt1 p1.2) (nI_eq (by omega) (by omega))
    have e0 : dnM (lf5c a b) (n + 1) s = dnM (lf5c a b) n (lf5c a b n s) := rfl
    rw [e0, fsF_snoc, Nat.zero_add]
    by_cases hq : g a n < 1000000 ∧ g a n + F n b = F a b
    · have el : lf5c a b n s = sUp s 15 a b (nI n) := if_pos (hc.mpr hq)
      obtain ⟨i1, i2, i3⟩ := dn_at ha hb9 h13 h14 n (by omega) (sUp s 15 a b (nI n)) (some n) (by rw [sUp_off (by decide)]; exact h3) (by rw [sUp_off (by decide)]; exact h4) (sUp_at _ _ _ _ _)
      rw [el]
      refine ⟨fun i hi => by rw [i1 i hi, sUp_off hi], fun c e hce => by
        rw [i2 c e hce]
        simp only [sUp]
        rw [if_neg (fun q => hce.elim (fun h => h q.2.1) (fun h => h q.2.2))], ?_⟩
      rw [i3, if_pos hq]
      cases fsF g F a b n 0 <;> rfl
    · have el : lf5c a b n s = s := if_neg (fun q => hq (hc.mp q))
      obtain ⟨i1, i2, i3⟩ := dn_at ha hb9 h13 h14 n (by omega) s x h3 h4 h
      rw [el]
      refine ⟨i1, i2, ?_⟩
      rw [i3, if_neg hq]
      cases fsF g F a b n 0 <;> rfl
theorem lf5_at {N a b : Nat} (ha : a < N) (hb9 : b < N) {s : sMem} {g F : mtx} (h13 : ∀ c, c < N → s 13 a c = nI (g a c) ∧ g a c ≤ 1000000) (h14 : ∀ c, c < N → s 14 c b = nI (F c b) ∧ F c b ≤ 1000000) : (∀ i, i ≠ 15 → lf5 N a b s i = s i) ∧ (∀ c e, (c ≠ a ∨ e ≠ b) → lf5 N a b s 15 c e = s 15 c e) ∧ lf5 N a b s 15 a b = oI (fsN g F N a b) := by
  have hc : (¬ a = b ∧ s 14 a b < 1000000) ↔ ¬ (a = b ∨ ¬ F a b < 1000000) := by
    rw [(h14 a ha).1, nI_lt1 (h14 a ha).2]
    constructor
    · rintro ⟨q1, q2⟩ (q | q)
      · exact q1 q
      · exact q q2
    · intro q
      exact ⟨fun e => q (Or.inl e), Decidable.byContradiction fun e => q (Or.inr e)⟩
  have o1 : ∀ c e, (c ≠ a ∨ e ≠ b) → sUp s 15 a b (-1) 15 c e = s 15 c e := fun c e hce => by
    simp only [sUp]
    rw [if_neg (fun q => hce.elim (fun h => h q.2.1) (fun h => h q.2.2))]
  unfold lf5 fsN
  by_cases hq : a = b ∨ ¬ F a b < 1000000
  · rw [if_neg (fun q => hc.mp q hq), if_pos hq]
    exact ⟨fun i hi => sUp_off hi, o1, sUp_at _ _ _ _ _⟩
  · rw [if_pos (hc.mpr hq), if_neg hq]
    obtain ⟨i1, i2, i3⟩ := dn_at ha hb9 h13 h14 N (Nat.le_refl _) (sUp s 15 a b (-1)) none (sUp_off (by decide)) (sUp_off (by decide)) (sUp_at _ _ _ _ _)
    refine ⟨fun i hi => by rw [i1 i hi, sUp_off hi], fun c e hce => by rw [i2 c e hce]; exact o1 c e hce, ?_⟩
    rw [i3]
    cases fsF g F a b N 0 <;> rfl
theorem lfE_at {N : Nat} {s : sMem} {g F : mtx} (h13 : ∀ a b, a < N → b < N → s 13 a b = nI (g a b) ∧ g a b ≤ 1000000) (h14 : ∀ a b, a < N → b < N → s 14 a b = nI (F a b) ∧ F a b ≤ 1000000) : (∀ i, i ≠ 15 → lfE N s i = s i) ∧ ∀ a b, a < N → b < N → lfE N s 15 a b = oI (fsN g F N a b) := by
  have key : ∀ n, n ≤ N → (∀ i, i ≠ 15 → forM (fun a s => forM (lf5 N a) s N) s n i = s i) ∧ ∀ a b, a < n → b < N → forM (fun a s => forM (lf5 N a) s N) s n 15 a b = oI (fsN g F N a b) := by
    intro n
    induction n with
    | zero => intro _; exact ⟨fun _ _ => rfl, fun a b h => absurd h (Nat.not_lt_zero _)⟩
    | succ n ih =>
      intro hn
      obtain ⟨i1, i2⟩ := ih (by omega)
      have e0 : forM (fun a s => forM (lf5 N a) s N) s (n + 1) = forM (lf5 N n) (forM (fun a s => forM (lf5 N a) s N) s n) N := rfl
      rw [e0]
      generalize forM (fun a s => forM (lf5 N a) s N) s n = y at i1 i2 ⊢
      have k2 : ∀ m, m ≤ N → (∀ i, i ≠ 15 → forM (lf5 N n) y m i = s i) ∧ (∀ a b, a ≠ n → forM (lf5 N n) y m 15 a b = y 15 a b) ∧ ∀ b, b < m → forM (lf5 N n) y m 15 n b = oI (fsN g F N n b) := by
        intro m
        induction m with
        | zero => intro _; exact ⟨i1, fun _ _ _ => rfl, fun b h => absurd h (Nat.not_lt_zero _)⟩
        | succ m ih2 =>
          intro hm
          obtain ⟨j1, j2, j3⟩ := ih2 (by omega)
          have e1 : forM (lf5 N n) y (m + 1) = lf5 N n m (forM (lf5 N n) y m) := rfl
          rw [e1]
          generalize forM (lf5 N n) y m = x at j1 j2 j3 ⊢
          obtain ⟨l1, l2, l3⟩ := lf5_at (N := N) (a := n) (b := m) (s := x) (g := g) (F := F) (by omega) (by omega) (fun c hc => by rw [j1 13 (by decide)]; exact h13 n c (by omega) hc) (fun c hc => by rw [j1 14 (by decide)]; exact h14 c m hc (by omega))
          refine ⟨fun i h => (l1 i h).trans (j1 i h), fun a b h => (l2 a b (Or.inl h)).trans (j2 a b h), fun b hb9 => ?_⟩
          by_cases e : b = m
          · subst e; exact l3
          · rw [l2 n b (Or.inr e)]; exact j3 b (by omega)
      obtain ⟨j1, j2, j3⟩ := k2 N (Nat.le_refl _)
      refine ⟨j1, fun a b ha hb9 => ?_⟩
      by_cases e : a = n
      · subst e; exact j3 b hb9
      · rw [j2 a b e]; exact i2 a b (by omega) hb9
  exact key N (Nat.le_refl _)
/-- layFar lays the least minutes and the first steps -/
theorem lf_at {N Q : Nat} (hN : N ≤ 12) {s : sMem} (h : ∀ k, k < Q → vQ (s 4 k) N) : (∀ i, i ≠ 13 → i ≠ 14 → i ≠ 15 → lfM N Q s i = s i) ∧ ∀ a b, a < N → b < N → lfM N Q s 13 a b = nI (gN s Q a b) ∧ lfM N Q s 14 a b = nI (flM N (m0 (gN s Q)) N a b) ∧ lfM N Q s 15 a b = oI (fsN (gN s Q) (flM N (m0 (gN s Q)) N) N a b) := by
  have hg := gN_ok hN h
  obtain ⟨a1, a2⟩ := lfA_at N s
  obtain ⟨b1, b2⟩ := lfB_at hN (s0 := s) (z := lfA N s) (a1 4 (by decide) (by decide)) (fun a b ha hb9 => (a2 a b ha hb9).1) Q h
  have b3 : ∀ a b, a < N → b < N → lfB Q (lfA N s) 13 a b = nI (gN s Q a b) := fun a b ha hb9 => (b2 a b ha hb9).trans (gN_at hN h a b).1
  obtain ⟨c1, c2⟩ := lfC_at (z := lfB Q (lfA N s)) b3 hg (fun a b ha hb9 => by rw [b1 14 (by decide)]; exact (a2 a b ha hb9).2)
  obtain ⟨d1, d2⟩ := lfD_R (N := N) (z := lfC N (lfB Q (lfA N s))) (s := lfC N (lfB Q (lfA N s))) (M := m0 (gN s Q)) ⟨fun _ _ => rfl, fun a b ha hb9 => ⟨c2 a b ha hb9, ((fIv_0 hg).1 a b ha hb9).1⟩⟩
  have d3 : ∀ a b, a < N → b < N → lfD N (lfC N (lfB Q (lfA N s))) 13 a b = nI (gN s Q a b) ∧ gN s Q a b ≤ 1000000 := fun a b ha hb9 => ⟨by rw [d1 13 (by decide), c1 13 (by decide)]; exact b3 a b ha hb9, by have := (hg a b ha hb9).1; omega⟩
  obtain ⟨e1, e2⟩ := lfE_at d3 d2
  have em : lfM N Q s = lfE N (lfD N (lfC N (lfB Q (lfA N s)))) := rfl
  rw [em]
  refine ⟨fun i h1 h2 h3 => by rw [e1 i h3, d1 i h2, c1 i h2, b1 i h1, a1 i h1 h2], fun a b ha hb9 => ⟨?_, ?_, e2 a b ha hb9⟩⟩
  · rw [e1 13 (by decide)]; exact (d3 a b ha hb9).1
  · rw [e1 14 (by decide)]; exact (d2 a b ha hb9).1
/-- .. which are ways -/
theorem lf_WY {N Q : Nat} (hN : N ≤ 12) {s : sMem} (h : ∀ k, k < Q → vQ (s 4 k) N) : WY (lfM N Q s) N ∧ ∀ a b, a < N → b < N → fN (lfM N Q s) a b = flM N (m0 (gN s Q)) N a b := by
  have hg := gN_ok hN h
  obtain ⟨-, h2⟩ := lf_at hN h
  obtain ⟨f1, f2, f3⟩ := fl_all hg
  have hf : ∀ a b, a < N → b < N → fN (lfM N Q s) a b = flM N (m0 (gN s Q)) N a b := fun a b ha hb9 => by
    unfold fN
    rw [(h2 a b ha hb9).2.1, nI_clamp (by have := (f1 a b ha hb9).1; omega)]
  refine ⟨⟨⟨hN, fun a b ha hb9 => ?_, fun a b ha hb9 hne hl => ?_⟩, fun a b c ha hb9 hc => ?_, fun a b ha hb9 => ?_, fun a b ha hb9 hq => ?_⟩, hf⟩
  · rw [hf a b ha hb9]
    exact ⟨(h2 a b ha hb9).2.1, (f1 a b ha hb9).1, (f1 a b ha hb9).2.1⟩
  · rw [hf a b ha hb9] at hl ⊢
    obtain ⟨c, c1, c2, c3, c4, c5⟩ := f3 a b ha hb9 hne hl
    refine ⟨c, gN s Q a c, c1, ?_, (h2 a c ha c1).1, c3, c4, by rw [hf c b c1 hb9]; exact c5⟩
    rw [(h2 a b ha hb9).2.2, c2]; rfl
  · rw [hf a c ha hc, hf a b ha hb9, hf b c hb9 hc]
    exact f2 a b c ha hb9 hc
  · refine ⟨gN s Q a b, (h2 a b ha hb9).1, ?_, (hg a b ha hb9).1⟩
    rw [hf a b ha hb9]
    exact (f1 a b ha hb9).2.2
  · rw [hf a b ha hb9] at hq
    rw [(h2 a b ha hb9).2.2]
    unfold fsN
    rw [if_pos hq]; rfl
