/-! BETWEEN TWO CALLS: how the class's memory and the reference's stand to each other -/
def JT (σ : sMem) (T : Nat) : Prop := T ≤ 600 ∧ σ 34 0 1 = nI T ∧ σ 0 0 1 = nI T ∧ ∀ j, j < T → ∃ b : Nat, b < 256 ∧ σ 1 0 j = nI b ∧ σ 35 0 j = syB b
def JI (σ : sMem) (m P S : Nat) : Prop := m ≤ 3 ∧ σ 34 0 7 = nI m ∧ σ 0 0 25 = nI m ∧ ∀ i, i < m → (∀ s, s < 8 → σ 73 i s = σ 17 i s) ∧ ∀ s, s < S → σ 17 i s = -1 ∨ ∃ q : Nat, σ 17 i s = nI q ∧ q < P
def JP (σ : sMem) (v N P S G T m : Nat) : Prop := (v = 36 ∨ v = 54) ∧ HR σ σ v N P S G ∧ HT σ ∧ σ 34 0 4 = nI (90 - v) ∧ JT σ T ∧ JI σ m P S ∧ σ 34 0 2 = σ 0 0 3
def JR (σ : sMem) : Prop := ∃ v N P S G T m, JP σ v N P S G T m
def KJ (G : Nat) (σ σ' : sMem) : Prop := (∀ a, a ≠ 0 → a ≠ 10 → (a < 18 ∨ (34 ≤ a ∧ a < 74)) → σ' a = σ a) ∧ (∀ g j, g < G → σ' 10 g j = σ 10 g j) ∧ ∀ k, k ≠ 0 → k ≠ 26 → k ≠ 27 → k ≠ 30 → k < 44 → σ' 0 0 k = σ 0 0 k
theorem CT.tg {σ t t' : sMem} {v N P S G : Nat} (h : CT σ t v N P S G) (hh : ∀ a, a = 3 ∨ a = 6 ∨ a = 8 ∨ a = 12 ∨ a = 13 ∨ a = 14 ∨ a = 15 → t' a = t a) (hg : ∀ g j, g < G → t' 10 g j = t 10 g j) : CT σ t' v N P S G := by
  unfold CT
  rw [hh 3 (by omega), hh 6 (by omega), hh 8 (by omega), hh 12 (by omega), hh 13 (by omega), hh 14 (by omega), hh 15 (by omega)]
  refine ⟨h.1, h.2.1, h.2.2.1, h.2.2.2.1, h.2.2.2.2.1, h.2.2.2.2.2.1, h.2.2.2.2.2.2.1, h.2.2.2.2.2.2.2.1, fun g hgg => ?_, h.2.2.2.2.2.2.2.2.2⟩
  rw [hg g 0 hgg, hg g 1 hgg]
  exact h.2.2.2.2.2.2.2.2.1 g hgg
theorem MI.tg {t t' : sMem} {N P S G : Nat} (h : MI t N P S G) (hh : ∀ a, a = 3 ∨ a = 6 ∨ a = 8 ∨ a = 12 ∨ a = 13 ∨ a = 14 ∨ a = 15 ∨ a = 16 → t' a = t a) (hg : ∀ g j, g < G → t' 10 g j = t 10 g j) : MI t' N P S G := by
  refine ⟨h.1.cg (fun a ha => hh a (by omega)), ?_⟩
  unfold WY fN
  rw [hh 3 (by omega), hh 6 (by omega), hh 8 (by omega), hh 12 (by omega), hh 13 (by omega), hh 14 (by omega), hh 15 (by omega)]
  refine ⟨⟨h.1.1.1.congr (hh 13 (by omega)) (hh 14 (by omega)) (hh 15 (by omega)), h.2.1.2⟩, h.2.2.1, h.2.2.2.1, h.2.2.2.2.1, h.2.2.2.2.2.1, h.2.2.2.2.2.2.1, fun g hgg => ?_, h.2.2.2.2.2.2.2.2⟩
  rw [hg g 0 hgg, hg g 1 hgg]
  exact h.2.2.2.2.2.2.2.1 g hgg
theorem JP.keep {σ σ' : sMem} {v N P S G T m : Nat} (h : JP σ v N P S G T m) (hk : KJ G σ σ') : JP σ' v N P S G T m := by
  obtain ⟨hv, hR, hT, h4, hJT, hJI, h2⟩ := h
  obtain ⟨k1, k2, k3⟩ := hk
  have e : ∀ a, (1 ≤ a ∧ a < 10) ∨ (11 ≤ a ∧ a < 18) ∨ (34 ≤ a ∧ a < 74) → σ' a = σ a := fun a ha => k1 a (by omega) (by omega) (by omega)
  have e34 := e 34 (by omega)
  refine ⟨hv, ⟨by rw [e34]; exact hR.1, (hR.2.1.cg (fun i h1 h9 => e i (by omega))).tg (fun a ha => e a (by omega)) k2, hR.2.2.1.tg (fun a ha => e a (by omega)) k2, fun s hs => ?_⟩, ⟨?_, ?_, ?_⟩, by rw [e34]; exact h4, ⟨hJT.1, by rw [e34]; exact hJT.2.1, ?_, fun j hj => ?_⟩, ⟨hJI.1, by rw [e34]; exact hJI.2.1, ?_, fun i hi => ?_⟩, ?_⟩
  · rw [e 72 (by omega), e 16 (by omega)]; exact hR.2.2.2 s hs
  · rw [k3 28 (by decide) (by decide) (by decide) (by decide) (by decide)]; exact hT.1
  · rw [k3 29 (by decide) (by decide) (by decide) (by decide) (by decide)]; exact hT.2.1
  · rw [k3 31 (by decide) (by decide) (by decide) (by decide) (by decide)]; exact hT.2.2
  · rw [k3 1 (by decide) (by decide) (by decide) (by decide) (by decide)]; exact hJT.2.2.1
  · rw [e 1 (by omega), e 35 (by omega)]; exact hJT.2.2.2 j hj
  · rw [k3 25 (by decide) (by decide) (by decide) (by decide) (by decide)]; exact hJI.2.2.1
  · rw [e 73 (by omega), e 17 (by omega)]; exact hJI.2.2.2 i hi
  · rw [e34, k3 3 (by decide) (by decide) (by decide) (by decide) (by decide)]; exact h2
theorem KJ.z0 {G : Nat} (σ : sMem) (v : Int32) : KJ G σ (sUp σ 0 0 0 v) := ⟨fun a h _ _ => sUp_off h, fun g j _ => by rw [sUp_off (by decide)], fun k h _ _ _ _ => sUp_k h⟩
/-- the class has changed rows of its own, the answer lies in the long, and the reference has run -/
theorem KJ.of {G : Nat} {σ z τ : sMem} (hz : ∀ i, i < 74 → z i = σ i) (hk : KP G (sUp z 0 0 0 0) τ) : KJ G σ τ := by
  refine ⟨fun a h1 h2 h3 => ?_, fun g j hg => ?_, fun k h0 h1 h2 h3 h4 => ?_⟩
  · rw [hk.1 a h1 h2 (by omega), sUp_off h1, hz a (by omega)]
  · rw [hk.2.1 g j hg, sUp_off (by decide), hz 10 (by decide)]
  · rw [hk.2.2 k h1 h2 h3 h4, sUp_k h0, hz 0 (by decide)]
section
variable {l : Launch} {D : va_G} {b0 : Nat} {ty : Nat → ClassId} {ad av : Nat → Nat}
theorem y_of_s {d : Nat} {q : xMe} {as : List AV} {σ : sMem} {P : List AV → sMem → Prop} (h : sMet l D b0 ty lay d q as σ P) : yMet l D b0 ty ad av lay d 0 q as σ P (fun _ _ => False) := by
  intro _
  unfold vx_Met
  unfold sMet Met at h
  refine Jvm.Free.MetFree.mono (P := va_Pc (as.map (sCv b0 lay)) (fun U => va_P D vwCl (sFl b0 ty lay σ 0 lay) U.heap ∧ va_K D vwCl (sTys ty) U)) h (fun _ _ q => ⟨q.1, q.2.1, q.2.2.1⟩) (fun _ _ _ _ _ q => q) ?_
  intro a s o s' _ h
  exact Or.inl h
/-- the reference's call: it throws nothing, and makes at most one row -/
def R9 (l : Launch) (D : va_G) (b0 : Nat) (ty : Nat → ClassId) (ad av : Nat → Nat) (q : xMe) (as : List AV) (σ : sMem) (post : List AV → sMem → Prop) : Prop := ∃ n, n ≤ 1 ∧ yMet l D b0 ty ad av lay 201 n q as σ post (fun _ _ => False)
theorem R9.mono {q : xMe} {as : List AV} {σ : sMem} {P P' : List AV → sMem → Prop} (h : R9 l D b0 ty ad av q as σ P) (hp : ∀ r σ', P r σ' → P' r σ') : R9 l D b0 ty ad av q as σ P' := h.elim fun n hn => ⟨n, hn.1, yMet_mono hn.2 hp (fun _ _ h => h)⟩
theorem R9.s {q : xMe} {as : List AV} {σ : sMem} {P P' : List AV → sMem → Prop} (h : sMet l D b0 ty lay 201 q as σ P) (hp : ∀ r σ', P r σ' → P' r σ') : R9 l D b0 ty ad av q as σ P' := ⟨0, by decide, yMet_mono (y_of_s h) hp (fun _ _ h => h)⟩
/-- A CALL THAT MAY THROW, on both sides -/
def JW (l : Launch) (D : va_G) (b0 : Nat) (ty : Nat → ClassId) (ad av : Nat → Nat) (q8 q9 : xMe) (cd : String → Option Int32) (xs : List AV) (σ : sMem) : Prop := ∃ n0 P XP, n0 ≤ 1 ∧ yMet l D b0 ty ad av lay 200 n0 q8 (aR 34 :: xs) σ P XP ∧ (∀ r σ', P r σ' → ∃ v, r = [aI v]) ∧ (∀ e σ', XP e σ' → ∃ k, cd e = some k) ∧
  (∀ v σ1, P [aI v] σ1 → R9 l D b0 ty ad av q9 (aR 0 :: xs) (sUp σ1 100 0 0 v) (fun r σ2 => r = [aI v] ∧ σ2 0 0 0 = 0 ∧ σ2 100 0 0 = v ∧ JR σ2)) ∧
  ∀ e σ1 k, XP e σ1 → cd e = some k → ¬ k = 0 ∧ R9 l D b0 ty ad av q9 (aR 0 :: xs) σ1 (fun r σ2 => (∃ b, r = [aI b]) ∧ σ2 0 0 0 = k ∧ JR σ2)
/-- A CALL THAT THROWS NOTHING, on both sides -/
def JD (l : Launch) (D : va_G) (b0 : Nat) (ty : Nat → ClassId) (ad av : Nat → Nat) (q8 q9 : xMe) (xs : List AV) (σ : sMem) : Prop := ∃ P, yMet l D b0 ty ad av lay 201 0 q8 (aR 34 :: xs) σ P (fun _ _ => False) ∧
  ∀ r σ1, P r σ1 → ∃ v, r = [aI v] ∧ R9 l D b0 ty ad av q9 (aR 0 :: xs) σ1 (fun r σ2 => r = [aI v] ∧ JR σ2)
theorem JW_x {q8 q9 : xMe} {cd : String → Option Int32} {xs : List AV} {σ : sMem} {v N P S G T m : Nat} (hJ : JP σ v N P S G T m) {E : String} {k : Int32} (hk : cd E = some k) (hk0 : ¬ k = 0) (h8 : yMet l D b0 ty ad av lay 200 1 q8 (aR 34 :: xs) σ (fun _ _ => False) (fun e σ' => e = E ∧ σ' = σ)) (h9 : R9 l D b0 ty ad av q9 (aR 0 :: xs) σ (fun r σ' => r = [aI 0] ∧ σ' = sUp σ 0 0 0 k)) : JW l D b0 ty ad av q8 q9 cd xs σ := by
  refine ⟨1, _, _, Nat.le_refl _, h8, fun _ _ h => h.elim, fun e σ' h => ⟨k, by rw [h.1]; exact hk⟩, fun _ _ h => h.elim, ?_⟩
  rintro e σ1 k' ⟨rfl, rfl⟩ hk'
  have e1 : k = k' := Option.some.inj (hk.symm.trans hk')
  subst e1
  exact ⟨hk0, h9.mono (fun r σ' h => ⟨⟨0, h.1⟩, by rw [h.2, sUp_at], by rw [h.2]; exact ⟨_, _, _, _, _, _, _, hJ.keep (KJ.z0 _ _)⟩⟩)⟩
theorem JW_ok {q8 q9 : xMe} {cd : String → Option Int32} {xs : List AV} {σ : sMem} {v N P S G T m : Nat} (hJ : JP σ v N P S G T m) {A : Int32} {Q : List AV → sMem → Prop} (h8 : yMet l D b0 ty ad av lay 200 0 q8 (aR 34 :: xs) σ Q (fun _ _ => False)) (hQ : ∀ r σ', Q r σ' → r = [aI A] ∧ ∀ i, i < 74 → σ' i = σ i) (h9 : ∀ z, (∀ i, i < 74 → z i = σ i) → R9 l D b0 ty ad av q9 (aR 0 :: xs) z (fun r σ' => r = [aI A] ∧ KP G (sUp z 0 0 0 0) σ')) : JW l D b0 ty ad av q8 q9 cd xs σ := by
  refine ⟨0, _, _, by decide, h8, fun r σ' h => ⟨A, (hQ r σ' h).1⟩, fun _ _ h => h.elim, fun v σ1 h => ?_, fun _ _ _ h => h.elim⟩
  obtain ⟨hr, hf⟩ := hQ _ _ h
  have hv : v = A := by simpa using hr
  subst hv
  have hz : ∀ i, i < 74 → sUp σ1 100 0 0 v i = σ i := fun i hi => by rw [sUp_off (by omega)]; exact hf i hi
  refine (h9 _ hz).mono (fun r σ' h => ⟨h.1, ?_, ?_, ⟨_, _, _, _, _, _, _, hJ.keep (KJ.of hz h.2)⟩⟩)
  · rw [h.2.2.2 0 (by decide) (by decide) (by decide) (by decide), sUp_at]
  · rw [h.2.1 100 (by decide) (by decide) (by decide), sUp_off (by decide), sUp_at]
theorem JD_ok {q8 q9 : xMe} {xs : List AV} {σ : sMem} {v N P S G T m : Nat} (hJ : JP σ v N P S G T m) {A : Int32} {Q : List AV → sMem → Prop} (h8 : yMet l D b0 ty ad av lay 201 0 q8 (aR 34 :: xs) σ Q (fun _ _ => False)) (hQ : ∀ r σ', Q r σ' → r = [aI A] ∧ ∀ i, i < 74 → σ' i = σ i) (h9 : ∀ z, (∀ i, i < 74 → z i = σ i) → R9 l D b0 ty ad av q9 (aR 0 :: xs) z (fun r σ' => r = [aI A] ∧ KP G (sUp z 0 0 0 0) σ')) : JD l D b0 ty ad av q8 q9 xs σ := by
  refine ⟨_, h8, fun r σ1 h => ?_⟩
  obtain ⟨hr, hf⟩ := hQ _ _ h
  exact ⟨A, hr, (h9 _ hf).mono (fun r σ' h => ⟨h.1, ⟨_, _, _, _, _, _, _, hJ.keep (KJ.of hf h.2)⟩⟩)⟩
end
