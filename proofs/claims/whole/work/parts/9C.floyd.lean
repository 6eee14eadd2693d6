/-! THE LEAST MINUTES by numbers -/
abbrev mtx : Type := Nat → Nat → Nat
def flS (k a b : Nat) (m : mtx) : mtx := fun x y => if x = a ∧ y = b then (if m a k + m k b < m a b then m a k + m k b else m a b) else m x y
def flR9 (N k a : Nat) (m : mtx) : mtx := forG (flS k a) m N
def flK (N k : Nat) (m : mtx) : mtx := forG (flR9 N k) m N
def flM (N : Nat) (m : mtx) : Nat → mtx := forG (flK N) m
/-- one more place allowed on the way -/
def flD (k : Nat) (m : mtx) : mtx := fun x y => if m x k + m k y < m x y then m x k + m k y else m x y
theorem flD_le (k : Nat) (m : mtx) (x y : Nat) : flD k m x y ≤ m x y ∧ flD k m x y ≤ m x k + m k y := by
  unfold flD
  split <;> omega
theorem flD_k {k : Nat} {m : mtx} (h : m k k = 0) (x : Nat) : flD k m x k = m x k ∧ flD k m k x = m k x := by
  unfold flD
  rw [h]
  constructor
  · rw [if_neg (by omega)]
  · rw [if_neg (by omega)]
theorem fwR_at {N k a : Nat} {D m : mtx} (h : D k k = 0) (hm : ∀ x y, (x = a → m x y = D x y) ∧ (m x y = D x y ∨ m x y = flD k D x y)) : ∀ n x y, forG (flS k a) m n x y = if x = a ∧ y < n then flD k D x y else m x y
  | 0, x, y => by rw [if_neg (fun q => absurd q.2 (Nat.not_lt_zero _))]; rfl
  | n + 1, x, y => by
    have ih := fwR_at (N := N) h hm n
    have e0 : forG (flS k a) m (n + 1) = flS k a n (forG (flS k a) m n) := rfl
    rw [e0]
    generalize forG (flS k a) m n = M at ih
    have e1 : M a k = D a k := by
      rw [ih]
      split
      · exact (flD_k h a).1
      · exact (hm a k).1 rfl
    have e2 : ∀ b, M k b = D k b := by
      intro b
      rw [ih]
      split
      · exact (flD_k h b).2
      · rcases (hm k b).2 with q | q
        · exact q
        · rw [q]; exact (flD_k h b).2
    unfold flS
    by_cases hc : x = a ∧ y = n
    · obtain ⟨rfl, rfl⟩ := hc
      have e3 : M x y = D x y := by rw [ih, if_neg (fun q => absurd q.2 (Nat.lt_irrefl _)), (hm x y).1 rfl]
      rw [if_pos (show x = x ∧ y = y from ⟨rfl, rfl⟩), if_pos (show x = x ∧ y < y + 1 from ⟨rfl, Nat.lt_succ_self _⟩), e1, e2, e3]
      rfl
    · rw [if_neg hc, ih]
      by_cases hd : x = a ∧ y < n
      · rw [if_pos hd, if_pos ⟨hd.1, by omega⟩]
      · rw [if_neg hd, if_neg (fun q => hd ⟨q.1, Nat.lt_of_le_of_ne (by omega) (fun e => hc ⟨q.1, e⟩)⟩)]
theorem flK_at {N k : Nat} {D : mtx} (h : D k k = 0) : ∀ n x y, forG (flR9 N k) D n x y = if x < n ∧ y < N then flD k D x y else D x y
  | 0, x, y => by rw [if_neg (fun q => absurd q.1 (Nat.not_lt_zero _))]; rfl
  | n + 1, x, y => by
    have ih := flK_at (N := N) h n
    have e0 : forG (flR9 N k) D (n + 1) = forG (flS k n) (forG (flR9 N k) D n) N := rfl
    rw [e0]
    generalize forG (flR9 N k) D n = M at ih
    rw [fwR_at (N := N) h (m := M) (fun x y => by
      have e := ih x y
      refine ⟨fun q => ?_, ?_⟩
      · rw [e, if_neg (fun q2 => by omega)]
      · rw [e]
        split
        · exact Or.inr rfl
        · exact Or.inl rfl)]
    by_cases hc : x = n ∧ y < N
    · rw [if_pos hc, if_pos ⟨by omega, hc.2⟩]
    · rw [if_neg hc, ih]
      by_cases hd : x < n ∧ y < N
      · rw [if_pos hd, if_pos ⟨by omega, hd.2⟩]
      · rw [if_neg hd, if_neg (fun q => by
          by_cases e : x = n
          · exact hc ⟨e, q.2⟩
          · exact hd ⟨by omega, q.2⟩)]
/-- minutes of streets: 1 to 60, or none -/
def gOK (N : Nat) (g : mtx) : Prop := ∀ a b, a < N → b < N → (g a b = 1000000 ∨ (1 ≤ g a b ∧ g a b ≤ 60)) ∧ (a = b → g a b = 1000000)
def m0 (g : mtx) : mtx := fun a b => if a = b then 0 else g a b
def fIv (N : Nat) (g : mtx) (k : Nat) (D : mtx) : Prop := (∀ a b, a < N → b < N → D a b ≤ 1000000 ∧ (a = b ↔ D a b = 0) ∧ D a b ≤ g a b) ∧ (∀ a b j, a < N → b < N → j < k → D a b ≤ D a j + D j b) ∧
  ∀ a b, a < N → b < N → a ≠ b → D a b < 1000000 → ∃ c, c < N ∧ g a c < 1000000 ∧ g a c + D c b ≤ D a b
theorem fIv_0 {N : Nat} {g : mtx} (h : gOK N g) : fIv N g 0 (m0 g) := by
  refine ⟨fun a b ha hb9 => ?_, fun a b j _ _ hj => absurd hj (Nat.not_lt_zero _), fun a b ha hb9 hne hf => ⟨b, hb9, ?_, ?_⟩⟩
  · have hg := h a b ha hb9
    unfold m0
    by_cases e : a = b
    · rw [if_pos e]; exact ⟨by omega, ⟨fun _ => rfl, fun _ => e⟩, by omega⟩
    · rw [if_neg e]; exact ⟨by omega, ⟨fun q => absurd q e, fun q => by omega⟩, Nat.le_refl _⟩
  · unfold m0 at hf
    rw [if_neg hne] at hf
    exact hf
  · unfold m0
    rw [if_neg hne, if_pos rfl]
    omega
theorem fIv_s {N k : Nat} {g D : mtx} (hk : k < N) (h : fIv N g k D) : fIv N g (k + 1) (flK N k D) := by
  obtain ⟨h1, h2, h3⟩ := h
  have hkk : D k k = 0 := (h1 k k hk hk).2.1.mp rfl
  have e : ∀ x y, x < N → y < N → flK N k D x y = flD k D x y := fun x y hx hy => by
    unfold flK
    rw [flK_at hkk, if_pos ⟨hx, hy⟩]
  refine ⟨fun a b ha hb9 => ?_, fun a b j ha hb9 hj => ?_, fun a b ha hb9 hne hf => ?_⟩
  · rw [e a b ha hb9]
    have q := h1 a b ha hb9
    have l := flD_le k D a b
    refine ⟨by omega, ⟨fun q2 => by have := q.2.1.mp q2; omega, fun q2 => ?_⟩, by omega⟩
    unfold flD at q2
    split at q2
    · have a1 := (h1 a k ha hk).2.1.mpr (by omega)
      have a2 := (h1 k b hk hb9).2.1.mpr (by omega)
      exact a1.trans a2
    · exact q.2.1.mpr q2
  · by_cases ej : j = k
    · subst ej
      rw [e a b ha hb9, e a j ha hk, e j b hk hb9, (flD_k hkk a).1, (flD_k hkk b).2]
      exact (flD_le j D a b).2
    · have hjk : j < k := by omega
      rw [e a b ha hb9, e a j ha (by omega), e j b (by omega) hb9]
      have l := flD_le k D a b
      have t1 := h2 a b j ha hb9 hjk
      have t2 := h2 k b j hk hb9 hjk
      have t3 := h2 a k j ha hk hjk
      have c1 : flD k D a j = D a j ∨ flD k D a j = D a k + D k j := by unfold flD; split <;> simp
      have c2 : flD k D j b = D j b ∨ flD k D j b = D j k + D k b := by unfold flD; split <;> simp
      rcases c1 with c1 | c1 <;> rcases c2 with c2 | c2 <;> omega
  · rw [e a b ha hb9] at hf ⊢
    by_cases hl : D a k + D k b < D a b
    · have ev : flD k D a b = D a k + D k b := if_pos hl
      have hak : a ≠ k := fun q => by subst q; omega
      obtain ⟨c, c1, c2, c3⟩ := h3 a k ha hk hak (by have := (h1 a b ha hb9).1; omega)
      refine ⟨c, c1, c2, ?_⟩
      rw [e c b c1 hb9, ev]
      have := (flD_le k D c b).2
      omega
    · have ev : flD k D a b = D a b := if_neg hl
      rw [ev] at hf ⊢
      obtain ⟨c, c1, c2, c3⟩ := h3 a b ha hb9 hne hf
      refine ⟨c, c1, c2, ?_⟩
      rw [e c b c1 hb9]
      have := (flD_le k D c b).1
      omega
theorem flM_iv {N : Nat} {g : mtx} (h : gOK N g) : ∀ k, k ≤ N → fIv N g k (flM N (m0 g) k)
  | 0, _ => fIv_0 h
  | k + 1, hk => fIv_s (by omega) (flM_iv h k (by omega))
/-- the first place of the WAY, from c on -/
def fsF (g F : mtx) (a b : Nat) : Nat → Nat → Option Nat
  | 0, _ => none
  | f + 1, c => if g a c < 1000000 ∧ g a c + F c b = F a b then some c else fsF g F a b f (c + 1)
def fsN (g F : mtx) (N a b : Nat) : Option Nat := if a = b ∨ ¬ F a b < 1000000 then none else fsF g F a b N 0
theorem fsF_some {g F : mtx} {a b c : Nat} : ∀ f d, fsF g F a b f d = some c → d ≤ c ∧ c < d + f ∧ g a c < 1000000 ∧ g a c + F c b = F a b
  | 0, _, h => by cases h
  | f + 1, d, h => by
    unfold fsF at h
    split at h
    · rename_i hc
      cases h
      exact ⟨Nat.le_refl _, by omega, hc.1, hc.2⟩
    · obtain ⟨a1, a2, a3⟩ := fsF_some f (d + 1) h
      exact ⟨by omega, by omega, a3⟩
theorem fsF_none {g F : mtx} {a b : Nat} : ∀ f d, fsF g F a b f d = none → ∀ c, d ≤ c → c < d + f → ¬ (g a c < 1000000 ∧ g a c + F c b = F a b)
  | 0, _, _ => fun c h1 h2 => by omega
  | f + 1, d, h => fun c h1 h2 => by
    unfold fsF at h
    split at h
    · cases h
    · rename_i hc
      by_cases e : c = d
      · subst e; exact hc
      · exact fsF_none f (d + 1) h c (by omega) (by omega)
/-- all of it -/
theorem fl_all {N : Nat} {g : mtx} (h : gOK N g) : (∀ a b, a < N → b < N → flM N (m0 g) N a b ≤ 1000000 ∧ (a = b ↔ flM N (m0 g) N a b = 0) ∧ flM N (m0 g) N a b ≤ g a b) ∧ (∀ a b c, a < N → b < N → c < N → flM N (m0 g) N a c ≤ flM N (m0 g) N a b + flM N (m0 g) N b c) ∧
    ∀ a b, a < N → b < N → a ≠ b → flM N (m0 g) N a b < 1000000 → ∃ c, c < N ∧ fsN g (flM N (m0 g) N) N a b = some c ∧ 1 ≤ g a c ∧ g a c ≤ 60 ∧ g a c + flM N (m0 g) N c b = flM N (m0 g) N a b := by
  obtain ⟨h1, h2, h3⟩ := flM_iv h N (Nat.le_refl _)
  generalize flM N (m0 g) N = F at h1 h2 h3
  refine ⟨h1, fun a b c ha hb9 hc => h2 a c b ha hc hb9, fun a b ha hb9 hne hf => ?_⟩
  obtain ⟨c, c1, c2, c3⟩ := h3 a b ha hb9 hne hf
  have hx : g a c + F c b = F a b := by
    have := h2 a b c ha hb9 c1
    have := (h1 a c ha c1).2.2
    omega
  have e : fsN g F N a b = fsF g F a b N 0 := if_neg (fun q => q.elim hne (fun q => q hf))
  rw [e]
  cases ho : fsF g F a b N 0 with
  | none => exact absurd ⟨c2, hx⟩ (fsF_none _ _ ho c (Nat.zero_le _) (by omega))
  | some d =>
    obtain ⟨-, d2, d3, d4⟩ := fsF_some _ _ ho
    have hg := (h a d ha (by omega)).1
    exact ⟨d, by omega, rfl, by omega, by omega, d4⟩
