/-! AVOID by numbers: the class's rounds and the reference's give the same at the end of the errand -/
def stN (t : sMem) (a b : Nat) : Nat := (t 13 a b).toNatClampNeg
theorem st_at {t : sMem} {N : Nat} (h : WY t N) {a b : Nat} (ha : a < N) (hb9 : b < N) : t 13 a b = nI (stN t a b) ∧ (stN t a b = 1000000 ∨ (1 ≤ stN t a b ∧ stN t a b ≤ 60)) := by
  obtain ⟨w, e, -, hw⟩ := h.2.2.1 a b ha hb9
  have : stN t a b = w := by unfold stN; rw [e, nI_clamp (by omega)]
  rw [this]
  exact ⟨e, hw⟩
def mnN (a b : Nat) : Nat := if b < a then b else a
/-- the class: one place on -/
def avC (g : Nat → Nat → Nat) (a b : Nat) (c : Nat → Nat) : Nat → Nat := fu c b (mnN (c b) (c a + g a b))
def avA (g : Nat → Nat → Nat) (N f : Nat) (bl : Nat → Bool) (a : Nat) (c : Nat → Nat) : Nat → Nat := if 1000000 ≤ c a ∨ (a ≠ f ∧ bl a = true) then c else forG (avC g a) c N
def avR (g : Nat → Nat → Nat) (N f : Nat) (bl : Nat → Bool) (c : Nat → Nat) : Nat → Nat := forG (avA g N f bl) c N
def av0 (f : Nat) : Nat → Nat := fun k => if k = f then 0 else 1000000
def avK (g : Nat → Nat → Nat) (N f : Nat) (bl : Nat → Bool) : Nat → Nat → Nat := forG (fun _ c => avR g N f bl c) (av0 f)
/-- the reference -/
def shB (bl : Nat → Bool) (f u z : Nat) : Bool := bl z && !decide (z = f) && !decide (z = u)
def rvC (g : Nat → Nat → Nat) (f u : Nat) (bl : Nat → Bool) (x y : Nat) (r : Nat → Nat) : Nat → Nat := if shB bl f u x = true ∨ shB bl f u y = true ∨ g x y = 1000000 then r else fu r y (if r x + g x y < r y then r x + g x y else r y)
def rvA (g : Nat → Nat → Nat) (N f u : Nat) (bl : Nat → Bool) (x : Nat) (r : Nat → Nat) : Nat → Nat := forG (rvC g f u bl x) r N
def rvR (g : Nat → Nat → Nat) (N f u : Nat) (bl : Nat → Bool) (r : Nat → Nat) : Nat → Nat := forG (rvA g N f u bl) r N
def rvK (g : Nat → Nat → Nat) (N f u : Nat) (bl : Nat → Bool) : Nat → Nat → Nat := forG (fun _ r => rvR g N f u bl r) (av0 f)
def avQ (N f u : Nat) (bl : Nat → Bool) (c r : Nat → Nat) : Prop := r u = c u ∧ (∀ z, z < N → c z ≤ 1000000 ∧ r z ≤ 1000000) ∧ ∀ z, z < N → shB bl f u z = false → r z ≤ c z ∧ (r z = c z ∨ r u ≤ r z)
theorem sh_t {bl : Nat → Bool} {f u z : Nat} : shB bl f u z = true ↔ bl z = true ∧ z ≠ f ∧ z ≠ u := by
  unfold shB
  simp [and_assoc]
section
variable {g : Nat → Nat → Nat} {N f u : Nat} {bl : Nat → Bool} {c r : Nat → Nat} {x y : Nat}
theorem fu_le {p : Nat → Nat} {k v z B : Nat} (h : p z ≤ B) (hv : v ≤ B) : fu p k v z ≤ B := by
  unfold fu
  split
  · exact hv
  · exact h
/-- the class doesn't go on from x -/
theorem av_skip (hg : ∀ a b, a < N → b < N → 1 ≤ g a b) (hu : u < N) (hx : x < N) (hy : y < N) (h : avQ N f u bl c r) (hs : shB bl f u x = true ∨ x = u ∨ c x = 1000000) : avQ N f u bl c (rvC g f u bl x y r) := by
  unfold rvC
  split
  · exact h
  · rename_i hn
    have hgx := hg x y hx hy
    have hxs : shB bl f u x = false := by
      cases hq : shB bl f u x with
      | false => rfl
      | true => exact absurd (Or.inl hq) hn
    have bx := h.2.2 x hx hxs
    have by9 := h.2.1 y hy
    have bx9 := h.2.1 x hx
    have hru : r u ≤ r x ∨ r x = 1000000 := by
      rcases hs with q | q | q
      · exact absurd (Or.inl q) hn
      · subst q; exact Or.inl (Nat.le_refl _)
      · rcases bx.2 with e | e
        · exact Or.inr (e.trans q)
        · exact Or.inl e
    by_cases hl : r x + g x y < r y
    · rw [if_pos hl]
      have hru' : r u ≤ r x := hru.elim id (fun q => by omega)
      have huy : u ≠ y := fun e => by subst e; omega
      refine ⟨by rw [fu_ne huy]; exact h.1, fun z hz => ⟨(h.2.1 z hz).1, fu_le (h.2.1 z hz).2 (by omega)⟩, fun z hz hzs => ?_⟩
      rw [fu_ne huy]
      have hq := h.2.2 z hz hzs
      by_cases e : z = y
      · subst e
        rw [fu_at]
        exact ⟨by omega, Or.inr (by omega)⟩
      · rw [fu_ne e]; exact hq
    · rw [if_neg hl]
      have e : fu r y (r y) = r := by
        funext z
        unfold fu
        split
        · rename_i e; rw [e]
        · rfl
      rw [e]
      exact h
/-- both go on from x -/
theorem av_step (hg : ∀ a b, a < N → b < N → 1 ≤ g a b) (hu : u < N) (hx : x < N) (hy : y < N) (h : avQ N f u bl c r) (hs : x = f ∨ bl x = false) : avQ N f u bl (avC g x y c) (rvC g f u bl x y r) := by
  have hxs : shB bl f u x = false := by
    cases hq : shB bl f u x with
    | false => rfl
    | true =>
      obtain ⟨a, b, -⟩ := sh_t.mp hq
      rcases hs with e | e
      · exact absurd e b
      · rw [e] at a; cases a
  have hgx := hg x y hx hy
  have bx := h.2.2 x hx hxs
  have b1 := h.2.1 x hx
  have b2 := h.2.1 y hy
  unfold avC rvC
  by_cases hys : shB bl f u y = true
  · rw [if_pos (Or.inr (Or.inl hys))]
    have huy : u ≠ y := fun e => by subst e; exact absurd rfl (sh_t.mp hys).2.2
    refine ⟨by rw [fu_ne huy]; exact h.1, fun z hz => ⟨fu_le (h.2.1 z hz).1 (by unfold mnN; split <;> omega), (h.2.1 z hz).2⟩, fun z hz hzs => ?_⟩
    have e : z ≠ y := fun e => by subst e; rw [hys] at hzs; cases hzs
    rw [fu_ne e]
    exact h.2.2 z hz hzs
  · have hys' : shB bl f u y = false := by simpa using hys
    have by9 := h.2.2 y hy hys'
    by_cases hm : g x y = 1000000
    · rw [if_pos (Or.inr (Or.inr hm))]
      have e : fu c y (mnN (c y) (c x + g x y)) = c := by
        funext z
        unfold fu
        split
        · rename_i e
          rw [e]
          unfold mnN
          rw [if_neg (by omega)]
        · rfl
      rw [e]
      exact h
    · rw [if_neg (fun q => q.elim (fun q => by rw [hxs] at q; cases q) (fun q => q.elim hys hm))]
      have ec : mnN (c y) (c x + g x y) = if c x + g x y < c y then c x + g x y else c y := rfl
      rw [ec]
      by_cases huy : u = y
      · subst huy
        have hru := h.1
        refine ⟨by rw [fu_at, fu_at]; split <;> split <;> omega, fun z hz => ⟨fu_le (h.2.1 z hz).1 (by split <;> omega), fu_le (h.2.1 z hz).2 (by split <;> omega)⟩, fun z hz hzs => ?_⟩
        rw [fu_at]
        have hq := h.2.2 z hz hzs
        by_cases e : z = u
        · subst e
          rw [fu_at, fu_at]
          constructor
          · split <;> split <;> omega
          · right; exact Nat.le_refl _
        · rw [fu_ne e, fu_ne e]
          refine ⟨hq.1, hq.2.imp id (fun q => ?_)⟩
          split <;> omega
      · refine ⟨by rw [fu_ne huy, fu_ne huy]; exact h.1, fun z hz => ⟨fu_le (h.2.1 z hz).1 (by split <;> omega), fu_le (h.2.1 z hz).2 (by split <;> omega)⟩, fun z hz hzs => ?_⟩
        rw [fu_ne huy]
        have hq := h.2.2 z hz hzs
        by_cases e : z = y
        · subst e
          rw [fu_at, fu_at]
          rcases bx.2 with q | q <;> rcases hq.2 with q2 | q2
          · rw [q, q2]; exact ⟨Nat.le_refl _, Or.inl rfl⟩
          · constructor
            · split <;> split <;> omega
            · split <;> split <;> omega
          · constructor
            · split <;> split <;> omega
            · split <;> split <;> omega
          · constructor
            · split <;> split <;> omega
            · split <;> split <;> omega
        · rw [fu_ne e, fu_ne e]; exact hq
theorem avA_q (hg : ∀ a b, a < N → b < N → 1 ≤ g a b) (hu : u < N) (hx : x < N) (h : avQ N f u bl c r) : avQ N f u bl (avA g N f bl x c) (rvA g N f u bl x r) := by
  unfold avA rvA
  by_cases hs : 1000000 ≤ c x ∨ (x ≠ f ∧ bl x = true)
  · rw [if_pos hs]
    refine forG_I (I := fun _ r => avQ N f u bl c r) h N (fun k s hk q => av_skip hg hu hx hk q ?_)
    rcases hs with e | ⟨e1, e2⟩
    · have := (h.2.1 x hx).1
      exact Or.inr (Or.inr (by omega))
    · by_cases e : x = u
      · exact Or.inr (Or.inl e)
      · exact Or.inl (sh_t.mpr ⟨e2, e1, e⟩)
  · rw [if_neg hs]
    have hs' : x = f ∨ bl x = false := by
      by_cases e : x = f
      · exact Or.inl e
      · right
        cases hb9 : bl x with
        | false => rfl
        | true => exact absurd (Or.inr ⟨e, hb9⟩) hs
    have key : ∀ n, n ≤ N → avQ N f u bl (forG (avC g x) c n) (forG (rvC g f u bl x) r n) := by
      intro n
      induction n with
      | zero => intro _; exact h
      | succ n ih => intro hn; exact av_step hg hu hx (by omega) (ih (by omega)) hs'
    exact key N (Nat.le_refl _)
theorem avK_q (hg : ∀ a b, a < N → b < N → 1 ≤ g a b) (hu : u < N) : ∀ n, avQ N f u bl (avK g N f bl n) (rvK g N f u bl n)
  | 0 => ⟨rfl, fun z _ => ⟨by show (if z = f then 0 else 1000000) ≤ 1000000; split <;> omega, by show (if z = f then 0 else 1000000) ≤ 1000000; split <;> omega⟩, fun z _ _ => ⟨Nat.le_refl _, Or.inl rfl⟩⟩
  | n + 1 => by
    have ih := avK_q hg hu n
    show avQ N f u bl (avR g N f bl (avK g N f bl n)) (rvR g N f u bl (rvK g N f u bl n))
    unfold avR rvR
    have key : ∀ k, k ≤ N → avQ N f u bl (forG (avA g N f bl) (avK g N f bl n) k) (forG (rvA g N f u bl) (rvK g N f u bl n) k) := by
      intro k
      induction k with
      | zero => intro _; exact ih
      | succ k ih2 => intro hk; exact avA_q hg hu (by omega) (ih2 (by omega))
    exact key N (Nat.le_refl _)
/-- no value grows over what it was -/
theorem avC_le (hc : ∀ z, z < N → c z ≤ 1000000) (hy : y < N) : ∀ z, z < N → avC g x y c z ≤ 1000000 := fun z hz => fu_le (hc z hz) (by have := hc y hy; unfold mnN; split <;> omega)
end
/-- where strangers come -/
def blN (t : sMem) : Nat → Nat
  | 0 => 0
  | s + 1 => blN t s ||| 2 ^ (sX t s)
theorem blN_lt {t : sMem} {N P S : Nat} (hm : MC t N P S) : ∀ s, s ≤ S → blN t s < 2 ^ 12
  | 0, _ => Nat.two_pow_pos 12
  | s + 1, hs => by
    have h := (hm.2.2.2.2.2 s (by omega)).1.2
    have hN := hm.1.1.1
    exact or_lt (blN_lt hm s (by omega)) (by omega)
def avB (t : sMem) (S z : Nat) : Bool := (blN t S).testBit z
def avO (t : sMem) (N S p : Nat) : Int32 := if avK (stN t) N (pP t p) (avB t S) N (pQ t p) < 1000000 then nI (avK (stN t) N (pP t p) (avB t S) N (pQ t p)) else -1
