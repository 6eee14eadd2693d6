/-! A DAY, by numbers: bounds -/
def DV (c : sMem) (N P S : Nat) (B : Nat) (D : DA) : Prop :=
  (∀ p, p < P → ouP c p = true → (D.1 p).1 < N ∧ fN c (D.1 p).1 (pQ c p) < 1000000 ∧ (D.1 p).2 ≤ 1659) ∧
  (∀ s, s < S → (D.2.1 s).1 < N ∧ ((D.2.1 s).2.1 = 1000000 ∨ (D.2.1 s).2.1 ≤ 1659) ∧ (∀ m, (D.2.1 s).2.2.1 = some m → m ≤ 1659) ∧ ((D.2.1 s).2.2.1 = none → (D.2.1 s).1 ≠ sY c s) ∧ (fN c (D.2.1 s).1 (sY c s) < 1000000 → (D.2.1 s).2.2.2.length + pl c (sY c s) (D.2.1 s).1 ≤ 11) ∧ (D.2.1 s).2.2.2.length ≤ 11 ∧ ∀ w ∈ (D.2.1 s).2.2.2, w < 106) ∧
  (∀ g, D.2.2.1 g ≤ 2319) ∧ D.2.2.2.1 ≤ 11880 * B ∧ D.2.2.2.2.1 ≤ B ∧ D.2.2.2.2.2 ≤ B
theorem DV.mono {c : sMem} {N P S B B' : Nat} {D : DA} (h : DV c N P S B D) (hb : B ≤ B') : DV c N P S B' D :=
  ⟨h.1, h.2.1, h.2.2.1, by have := h.2.2.2.1; omega, by have := h.2.2.2.2.1; omega, by have := h.2.2.2.2.2; omega⟩
section
variable {c : sMem} {N P S G : Nat}
theorem goA_DV {B s z m : Nat} {D : DA} (h : DV c N P S B D) (hz : z < N) (hm : m ≤ 1659) (hl : (D.2.1 s).2.2.2.length + pl c (sY c s) z ≤ 11) (hh : (D.2.1 s).2.2.1 = none) : DV c N P S B (goA c D s z m) := by
  refine ⟨h.1, fun u hu => ?_, h.2.2⟩
  show _
  unfold goA
  by_cases e : u = s
  · subst e
    dsimp only
    rw [fu_at]
    refine ⟨hz, Or.inr hm, fun k hk => ?_, fun hn => ?_, fun _ => hl, by dsimp only; omega, (h.2.1 u hu).2.2.2.2.2.2⟩
    · dsimp only at hk
      split at hk
      · cases hk; exact hm
      · rw [hh] at hk; cases hk
    · dsimp only at hn ⊢
      split at hn
      · cases hn
      · assumption
  · dsimp only
    rw [fu_ne e]
    exact h.2.1 u hu
theorem caA_of {D : DA} {p s m : Nat} (h : caA c D p s m = true) : ouP c p = true ∧ atP c (pQ c p) (D.2.1 s).1 m 12 (D.1 p) = true ∧ bt (c 6 p 4) (sY c s) = true ∧ fN c (D.2.1 s).1 (sY c s) < 1000000 ∧ fN c (sY c s) (pQ c p) < 1000000 := by
  unfold caA at h
  simp only [Bool.and_eq_true, decide_eq_true_eq] at h
  exact ⟨h.1.1.1.1, h.1.1.1.2, h.1.1.2, h.1.2, h.2⟩
theorem pfA_some {D : DA} {s m : Nat} {ch : Bool} : ∀ (f p : Nat) (b : Option Nat) (P q : Nat), p + f = P → (∀ r, b = some r → r < P ∧ caA c D r s m = true) → pfA c D s m ch f p b = some q → q < P ∧ caA c D q s m = true
  | 0, _, b, _, q, _, hb, h => hb q h
  | f + 1, p, b, P, q, hp, hb, h => by
    unfold pfA at h
    refine pfA_some f (p + 1) _ P q (by omega) (fun r hr => ?_) h
    split at hr
    · rename_i hc
      cases b with
      | none => cases hr; exact ⟨by omega, hc⟩
      | some b =>
        dsimp only at hr
        split at hr
        · cases hr; exact ⟨by omega, hc⟩
        · cases hr; exact hb _ rfl
    · exact hb r hr
theorem gfA_some {D : DA} {s m : Nat} : ∀ (f g q : Nat), gfA c D s m f g = some q → g ≤ q ∧ q < g + f ∧ gA c q = (D.2.1 s).1 ∧ D.2.2.1 q ≤ m ∧ fN c (D.2.1 s).1 (sY c s) < 1000000
  | 0, _, _, h => by cases h
  | f + 1, g, q, h => by
    unfold gfA at h
    split at h
    · rename_i hc
      cases h
      exact ⟨by omega, by omega, hc⟩
    · have := gfA_some f (g + 1) q h
      exact ⟨by omega, by omega, this.2.2⟩
theorem asPA_some {D : DA} {s kd m q : Nat} (hs : s < S) (hS : SC c N P S G) (h : asPA c D P s kd m = some q) : q < P ∧ caA c D q s m = true := by
  unfold asPA at h
  split at h
  · cases ht : tlO c s with
    | none => rw [ht] at h; cases h
    | some p =>
      rw [ht] at h
      dsimp only at h
      split at h
      · cases h
        exact ⟨(hS.2.2.2 s hs _ ht).1, by assumption⟩
      · cases h
  · exact pfA_some P 0 none P q (by omega) (fun r hr => by cases hr) h
theorem asGA_some {D : DA} {s kd m g : Nat} (h : asGA c D G s kd m = some g) : g < G ∧ gA c g = (D.2.1 s).1 ∧ D.2.2.1 g ≤ m ∧ fN c (D.2.1 s).1 (sY c s) < 1000000 := by
  unfold asGA at h
  split at h
  · cases h
  · have := gfA_some G 0 g h
    exact ⟨by omega, this.2.2⟩
theorem ldA_DV {B s w : Nat} {D : DA} (h : DV c N P S B D) (hlen : (D.2.1 s).2.2.2.length + 1 ≤ 11) (hw : w < 106) : (∀ p, p < P → ouP c p = true → ((ldA D s w).1 p).1 < N ∧ fN c ((ldA D s w).1 p).1 (pQ c p) < 1000000 ∧ ((ldA D s w).1 p).2 ≤ 1659) ∧
  (∀ u, u < S → u ≠ s → (ldA D s w).2.1 u = D.2.1 u) ∧ ((ldA D s w).2.1 s = ((D.2.1 s).1, (D.2.1 s).2.1, (D.2.1 s).2.2.1, (D.2.1 s).2.2.2 ++ [w])) := by
  refine ⟨h.1, fun u _ e => fu_ne e, fu_at _ _ _⟩
theorem byPA_DV {B p s m : Nat} {D : DA} (h : DV c N P S B D) (hM : MC c N P S) (hS : SC c N P S G) (hs : s < S) (hp : p < P) (hm : m ≤ 999) (hc : caA c D p s m = true) (hh : (D.2.1 s).2.2.1 = none) : DV c N P S (B + 1) (byPA c D p s m) := by
  obtain ⟨c1, -, -, c4, c5⟩ := caA_of hc
  obtain ⟨x1, x2, x3, x4, x5, x6, x7⟩ := h.2.1 s hs
  have hy := (hM.2.2.2.2.2 s hs).2.1.2
  have hq := (hM.2.2.2.2.1 p hp).2.1.2
  obtain ⟨l1, l2, l3, l4, l5⟩ := led_at hM.1 hS.1 x1 hy c4
  have f1 := fN_660 hM.1 hy x1 c4
  have f2 := fN_660 hM.1 hy l1 l2
  have f3 := fN_660 hM.1 hq hy c5
  have f4 := hM.1.2.1 _ (sY c s) (pQ c p) l1 hy hq
  have l6 := l5 (x4 hh)
  have x5' := x5 c4
  have hP := hM.2.2.1
  refine ⟨fun r hr ho => ?_, fun u hu => ?_, h.2.2.1, ?_, ?_, ?_⟩
  · show ((fu D.1 p _) r).1 < N ∧ fN c ((fu D.1 p _) r).1 (pQ c r) < 1000000 ∧ ((fu D.1 p _) r).2 ≤ 1659
    by_cases e : r = p
    · subst e
      rw [fu_at]
      exact ⟨l1, by dsimp only; omega, by dsimp only; omega⟩
    · rw [fu_ne e]
      exact h.1 r hr ho
  · by_cases e : u = s
    · subst e
      have e1 : (byPA c D p u m).2.1 u = (ledM c (D.2.1 u).1 (sY c u), m + fN c (D.2.1 u).1 (ledM c (D.2.1 u).1 (sY c u)), (if ledM c (D.2.1 u).1 (sY c u) = sY c u then some (m + fN c (D.2.1 u).1 (ledM c (D.2.1 u).1 (sY c u))) else (D.2.1 u).2.2.1), (D.2.1 u).2.2.2 ++ [p]) := by
        simp [byPA, goA, ldA, fu]
      rw [e1]
      refine ⟨l1, Or.inr (by dsimp only; omega), fun k hk => ?_, fun hn => ?_, fun _ => ?_, ?_, fun w hw => ?_⟩
      · dsimp only at hk
        split at hk
        · cases hk; omega
        · rw [hh] at hk; cases hk
      · dsimp only at hn ⊢
        split at hn
        · cases hn
        · assumption
      · dsimp only; rw [List.length_append, List.length_singleton]; omega
      · dsimp only; rw [List.length_append, List.length_singleton]; omega
      · rcases List.mem_append.mp hw with hw | hw
        · exact x7 w hw
        · rw [List.mem_singleton.mp hw]; omega
    · have e1 : (byPA c D p s m).2.1 u = D.2.1 u := by
        simp [byPA, goA, ldA, fu, e]
      rw [e1]
      exact h.2.1 u hu
  · have := h.2.2.2.1
    show D.2.2.2.1 ≤ 11880 * (B + 1)
    omega
  · have := h.2.2.2.2.1
    show D.2.2.2.2.1 + 1 ≤ B + 1
    omega
  · have := h.2.2.2.2.2
    show D.2.2.2.2.2 ≤ B + 1
    omega
theorem byGA_DV {B g s m : Nat} {D : DA} (h : DV c N P S B D) (hM : MC c N P S) (hS : SC c N P S G) (hs : s < S) (hg : g < G) (hm : m ≤ 999) (hf : fN c (D.2.1 s).1 (sY c s) < 1000000) (hh : (D.2.1 s).2.2.1 = none) : DV c N P S (B + 1) (byGA c D g s m) := by
  obtain ⟨x1, x2, x3, x4, x5, x6, x7⟩ := h.2.1 s hs
  have hy := (hM.2.2.2.2.2 s hs).2.1.2
  have f1 := fN_660 hM.1 hy x1 hf
  have x5' := x5 hf
  have x8 := pl_s hM.1 hy x1 hf (x4 hh)
  have hG := hS.2.1
  have hF := (hS.2.2.1 g hg).2.2
  refine ⟨h.1, fun u hu => ?_, fun g' => ?_, ?_, ?_, ?_⟩
  · by_cases e : u = s
    · subst e
      have e1 : (byGA c D g u m).2.1 u = (sY c u, m + fN c (D.2.1 u).1 (sY c u), some (m + fN c (D.2.1 u).1 (sY c u)), (D.2.1 u).2.2.2 ++ [100 + g]) := by
        simp [byGA, goA, ldA, fu]
      rw [e1]
      refine ⟨hy, Or.inr (by dsimp only; omega), fun k hk => ?_, fun hn => ?_, fun _ => ?_, ?_, fun w hw => ?_⟩
      · cases hk; omega
      · cases hn
      · dsimp only; rw [List.length_append, List.length_singleton, pl_self]; omega
      · dsimp only; rw [List.length_append, List.length_singleton]; omega
      · rcases List.mem_append.mp hw with hw | hw
        · exact x7 w hw
        · rw [List.mem_singleton.mp hw]; omega
    · have e1 : (byGA c D g s m).2.1 u = D.2.1 u := by
        simp [byGA, goA, ldA, fu, e]
      rw [e1]
      exact h.2.1 u hu
  · show (fu D.2.2.1 g _) g' ≤ 2319
    by_cases e : g' = g
    · subst e
      rw [fu_at]
      omega
    · rw [fu_ne e]
      exact h.2.2.1 g'
  · have := h.2.2.2.1
    show D.2.2.2.1 + gF c g * 2 * fN c (D.2.1 s).1 (sY c s) ≤ 11880 * (B + 1)
    have h8 : gF c g * 2 * fN c (D.2.1 s).1 (sY c s) ≤ 18 * 660 := Nat.mul_le_mul (by omega) f1
    omega
  · have := h.2.2.2.2.1
    show D.2.2.2.2.1 + 1 ≤ B + 1
    omega
  · have := h.2.2.2.2.2
    show D.2.2.2.2.2 ≤ B + 1
    omega
theorem asA_DV {B s kd m : Nat} {D : DA} (h : DV c N P S B D) (hM : MC c N P S) (hS : SC c N P S G) (hs : s < S) (hm : m ≤ 999) (hh : (D.2.1 s).2.2.1 = none) : DV c N P S (B + 1) (asA c P G kd s m D) := by
  obtain ⟨x1, x2, x3, x4, x5, x6, x7⟩ := h.2.1 s hs
  have hy := (hM.2.2.2.2.2 s hs).2.1.2
  unfold asA
  dsimp only
  split
  · rename_i h1
    have f1 := fN_660 hM.1 hy x1 h1.2
    exact (goA_DV h hy (by omega) (by rw [pl_self]; omega) hh).mono (by omega)
  · split
    · rename_i h1
      obtain ⟨n1, -, -, n4, n5, n6⟩ := nx_at hM.1 x1 hy h1.2.1 (x4 hh)
      have x8 := pl_s hM.1 hy x1 h1.2.1 (x4 hh)
      have x5' := x5 h1.2.1
      exact (goA_DV h n1 (by omega) (by omega) hh).mono (by omega)
    · split
      · rename_i g p hg hp
        obtain ⟨g1, -, -, g4⟩ := asGA_some hg
        obtain ⟨p1, p2⟩ := asPA_some hs hS hp
        split
        · exact byGA_DV h hM hS hs g1 hm g4 hh
        · exact byPA_DV h hM hS hs p1 hm p2 hh
      · rename_i g hg hp
        obtain ⟨g1, -, -, g4⟩ := asGA_some hg
        exact byGA_DV h hM hS hs g1 hm g4 hh
      · rename_i p hg hp
        obtain ⟨p1, p2⟩ := asPA_some hs hS hp
        exact byPA_DV h hM hS hs p1 hm p2 hh
      · refine ⟨h.1, h.2.1, h.2.2.1, ?_, ?_, ?_⟩
        · have := h.2.2.2.1; dsimp only; omega
        · have := h.2.2.2.2.1; dsimp only; omega
        · have := h.2.2.2.2.2; dsimp only; omega
theorem dsA_DV {B s kd m : Nat} {D : DA} (h : DV c N P S B D) (hM : MC c N P S) (hS : SC c N P S G) (hs : s < S) (hm : m ≤ 999) : DV c N P S (B + 1) (dsA c P G kd m s D) := by
  unfold dsA
  split
  · rename_i h1
    exact asA_DV h hM hS hs hm h1.1
  · exact h.mono (by omega)
theorem dmA_DV {B kd m : Nat} {D : DA} (h : DV c N P S B D) (hM : MC c N P S) (hS : SC c N P S G) (hm : m ≤ 999) : ∀ k, k ≤ S → DV c N P S (B + k) (forG (dsA c P G kd m) D k) := fun k hk =>
  forG_I (I := fun k D => DV c N P S (B + k) D) h k (fun j D hj hD => dsA_DV hD hM hS (by omega) hm)
theorem beA_DV {cm : Nat → Bool} (hM : MC c N P S) : DV c N P S 0 (beA c cm) := by
  refine ⟨fun p hp ho => ?_, fun s hs => ?_, fun g => Nat.zero_le _, Nat.zero_le _, Nat.zero_le _, Nat.zero_le _⟩
  · obtain ⟨⟨-, h1⟩, -, ⟨-, h3⟩, -⟩ := hM.2.2.2.2.1 p hp
    have h5 : fN c (pP c p) (pQ c p) < 1000000 := by
      unfold ouP at ho
      simp only [Bool.and_eq_true, decide_eq_true_eq] at ho
      exact ho.2
    exact ⟨h1, h5, by show pT c p ≤ 1659; omega⟩
  · obtain ⟨⟨-, h1⟩, ⟨-, h2⟩, ⟨-, h3⟩, h4⟩ := hM.2.2.2.2.2 s hs
    refine ⟨h1, ?_, fun m hm => (by cases hm), fun _ => h4, fun hf => ?_, Nat.zero_le _, fun w hw => (by cases hw)⟩
    · show (if cm s then sT c s else 1000000) = 1000000 ∨ (if cm s then sT c s else 1000000) ≤ 1659
      split
      · right; omega
      · left; rfl
    · have := pl_le hM.1 h2 h1 hf
      show 0 + pl c (sY c s) (sX c s) ≤ 11
      omega
theorem daA_DV {cm : Nat → Bool} {kd : Nat} (hM : MC c N P S) (hS : SC c N P S G) : ∀ k, k ≤ 1000 → DV c N P S (k * S) (forG (dmA c P G S kd) (beA c cm) k) := fun k hk =>
  forG_I (I := fun k D => DV c N P S (k * S) D) (by rw [Nat.zero_mul]; exact beA_DV hM) k (fun j D hj hD => by
    have := dmA_DV (kd := kd) (m := j) hD hM hS (by omega) S (Nat.le_refl _)
    rw [Nat.succ_mul]
    exact this)
end
