/-! THE REFERENCE: what a day leaves as it was; the calls that go through one day -/
/-- what stands between the calls is the same -/
def KP (G : Nat) (σ τ : sMem) : Prop := (∀ a, a ≠ 0 → a ≠ 10 → (a < 18 ∨ 34 ≤ a) → τ a = σ a) ∧ (∀ g j, g < G → τ 10 g j = σ 10 g j) ∧ ∀ k, k ≠ 26 → k ≠ 27 → k ≠ 30 → k < 44 → τ 0 0 k = σ 0 0 k
theorem KP.rfl' {G : Nat} {σ : sMem} : KP G σ σ := ⟨fun _ _ _ _ => rfl, fun _ _ _ => rfl, fun _ _ _ _ _ => rfl⟩
theorem KP.trans {G : Nat} {σ τ υ : sMem} (h : KP G σ τ) (h' : KP G τ υ) : KP G σ υ :=
  ⟨fun a h1 h2 h3 => (h'.1 a h1 h2 h3).trans (h.1 a h1 h2 h3), fun g j hg => (h'.2.1 g j hg).trans (h.2.1 g j hg), fun k h1 h2 h3 h4 => (h'.2.2 k h1 h2 h3 h4).trans (h.2.2 k h1 h2 h3 h4)⟩
theorem KP.MJ {G N P S G0 : Nat} {σ τ : sMem} (h : KP G σ τ) (hJ : MJ σ N P S G0) : MJ τ N P S G0 := hJ.cg (fun a ha => h.1 a (by omega) (by omega) (by omega))
theorem KP.of {G : Nat} {σ τ : sMem} (h : ∀ a, a ≠ 0 → (a < 18 ∨ 34 ≤ a) → τ a = σ a) (h0 : ∀ k, k ≠ 26 → k ≠ 27 → k ≠ 30 → k < 44 → τ 0 0 k = σ 0 0 k) : KP G σ τ :=
  ⟨fun a h1 _ h3 => h a h1 h3, fun g j _ => by rw [h 10 (by decide) (by decide)], h0⟩
theorem KP.z0 {G : Nat} (σ : sMem) (k : Nat) (v : Int32) (hk : k = 26 ∨ k = 27 ∨ k = 30 ∨ 44 ≤ k) : KP G σ (sUp σ 0 0 k v) :=
  KP.of (fun a h1 _ => sUp_off h1) (fun j _ _ _ _ => sUp_k (by omega))
theorem gtM_KP (G : Nat) (σ : sMem) (s : Nat) (z m : Int32) : KP G σ (gtM σ s z m) := KP.of (fun a h1 h2 => gtM_off (by omega)) (fun k _ _ _ _ => by rw [gtM_off (by decide)])
theorem bpM_KP (G : Nat) (σ : sMem) (p s : Nat) (m : Int32) : KP G σ (bpM σ p s m) := by
  unfold bpM
  dsimp only
  refine KP.of (fun a h1 h2 => ?_) (fun k _ _ _ hk => ?_)
  · rw [gtM_off (by omega), sUp_off (by omega), stM_off (by omega), lbM_off (by omega)]
  · rw [gtM_off (by decide), sUp_off (by decide), stM_off (by decide), lbM_0 _ _ _ _ (by omega)]
theorem bgM_KP (G : Nat) (σ : sMem) (g s : Nat) (m : Int32) : KP G σ (bgM σ g s m) := by
  unfold bgM
  dsimp only
  refine KP.of (fun a h1 h2 => ?_) (fun k _ _ _ hk => ?_)
  · rw [gtM_off (by omega), sUp_off (by omega), sUp_off (by omega), lbM_off (by omega)]
  · rw [gtM_off (by decide), sUp_k (by omega), sUp_off (by decide), lbM_0 _ _ _ _ (by omega)]
theorem asM_KP (G0 : Nat) (σ : sMem) (P G s : Nat) (kd m : Int32) : KP G0 σ (asM σ P G s kd m) := by
  unfold asM
  dsimp only
  split
  · exact gtM_KP _ _ _ _ _
  · split
    · exact gtM_KP _ _ _ _ _
    · split
      · split
        · exact bgM_KP _ _ _ _ _
        · exact bpM_KP _ _ _ _ _
      · exact bgM_KP _ _ _ _ _
      · exact bpM_KP _ _ _ _ _
      · exact KP.z0 _ _ _ (by omega)
theorem beM_KP (G0 : Nat) (σ : sMem) (P G S : Nat) : KP G0 σ (beM σ P G S) := KP.of (fun a h1 h2 => beM_off _ _ _ _ _ (by omega)) (fun k _ _ h3 hk => beM_0 _ _ _ _ _ hk h3)
theorem daM_KP (G0 : Nat) (σ : sMem) (kd : Int32) (P G S : Nat) : KP G0 σ (daM σ kd P G S) := by
  unfold daM
  refine (beM_KP G0 σ P G S).trans ?_
  refine forM_P (P := fun t => KP G0 _ t) KP.rfl' 1000 (fun m t _ ht => ht.trans ?_)
  unfold dyM
  refine forM_P (P := fun u => KP G0 t u) KP.rfl' S (fun s u _ hu => hu.trans ?_)
  unfold dyS
  split
  · exact asM_KP _ _ _ _ _ _ _
  · exact KP.rfl'
theorem goM_KP (G0 : Nat) (σ : sMem) (kd : Int32) (P S : Nat) : KP G0 σ (goM σ kd P S) := by
  unfold goM
  exact ((KP.z0 σ 26 _ (by omega)).trans (KP.z0 _ 27 _ (by omega))).trans (daM_KP _ _ _ _ _ _)
/-- behind a day -/
theorem daM_end {σ : sMem} {N P S G G0 : Nat} (kd : Int32) (h : MJ σ N P S G0) (eG : σ 0 0 26 = nI G) (hG : G ≤ 6) : DJ (daM σ kd P G S) N P S G (1000 * S) := by
  unfold daM
  exact daM_DJ (beM_DJ h eG hG) kd 1000
theorem goM_end {σ : sMem} {N P S G : Nat} (kd : Int32) (h : MJ σ N P S G) : DJ (goM σ kd P S) N P S G (1000 * S) := by
  unfold goM
  have hG := h.2.2.2.2.2
  rw [h.2.2.2.2.1, nI_clamp (by omega)]
  exact daM_end kd ((h.z0 26 _).z0 27 _) (by rw [sUp_k (by decide), sUp_at]) (by omega)
def arN (t : sMem) : Nat → Int32
  | 0 => 0
  | s + 1 => arN t s + if t 27 0 s ≠ -1 ∧ t 27 0 s ≤ 999 then 1 else 0
def dyR (t : sMem) (P S : Nat) (w : Int32) : Int32 := if w = 0 then csM t P else if w = 1 then lfN t S else if w = 2 then t 0 0 45 else if w = 3 then t 0 0 46 else arN t S
/-- one of the first n leaders of s is p -/
def ilS (t : sMem) (s : Nat) (p : Int32) : Nat → Nat → Bool
  | 0, _ => false
  | f + 1, k => if nI k < t 28 0 s ∧ k < 40 then (if t 29 s k = p then true else ilS t s p f (k + 1)) else false
def ilM (t : sMem) (s : Nat) (p : Int32) : Bool := ilS t s p 41 0
def juL (t : sMem) (w : Int32) : Nat → Nat → Int32
  | 0, _ => -1
  | f + 1, s => if (if w = 0 then t 27 0 s = -1 else t 16 0 s ≠ -1 ∧ ilM t s (t 16 0 s) = false) then nI s else juL t w f (s + 1)
section
variable {l : Launch} {D : va_G} {b0 : Nat} {ty : Nat → ClassId}
set_option maxHeartbeats 4000000 in
theorem c9_day (d : Nat) (σ : sMem) (N P S G : Nat) (hJ : MJ σ N P S G) (kd w : Int32) : sMet l D b0 ty lay (d + 6) mX9_day [aR 0, aI (kd), aI (w)] σ (fun r σ' => (((0 ≤ kd ∧ kd ≤ 4) ∧ (0 ≤ w ∧ w ≤ 4)) → r = [aI (dyR (goM (sUp σ 0 0 0 0) kd P S) P S w)] ∧ σ' = goM (sUp σ 0 0 0 0) kd P S) ∧ (¬ ((0 ≤ kd ∧ kd ≤ 4) ∧ (0 ≤ w ∧ w ≤ 4)) → r = [aI 0] ∧ σ' = sUp σ 0 0 0 1)) := by
  refine sMet_intro lay_nd kX9_day xX9_ok (by decide +kernel) rfl ?_
  intro K hK
  have hN := hJ.1.1.1
  have hN2 := hJ.1.2.1
  have hP := hJ.1.2.2.2.1.2
  have hS := hJ.1.2.2.2.2.1.2
  have hG4 := hJ.2.2.2.2.2
  iterate 3 refine hK _ _ _ _ ?_
  show K _ _ _ (sUp σ 0 0 0 0)
  have hJz := hJ.z0 0 0
  have z0 : sUp σ 0 0 0 0 0 0 0 = 0 := sUp_at _ _ _ _ _
  generalize hz : sUp σ 0 0 0 0 = z at hJz z0 ⊢
  iterate 3 refine hK _ _ _ _ ?_
  refine calD (c9_isKind _ _ _) ?_
  rintro r σ' ⟨rfl, hσ⟩
  subst σ'
  refine hK _ _ _ _ ?_
  refine And.intro (fun h00 => ?_) (fun h00 => ?_)
  · have hn : ¬ ((0 ≤ kd ∧ kd ≤ 4) ∧ (0 ≤ w ∧ w ≤ 4)) := fun q => ite_eq h00 q.1
    iterate 4 refine hK _ _ _ _ ?_
    refine calD (c9_bad1 _ _ _ z0 (by decide)) ?_
    rintro r σ' ⟨rfl, rfl⟩
    refine hK _ _ _ _ ?_
    refine And.intro (fun h => absurd h (by decide)) (fun _ => ?_)
    iterate 2 refine hK _ _ _ _ ?_
    exact ⟨fun q0 => absurd q0 hn, fun _ => ⟨rfl, by rw [← hz, sUp_twice]; rfl⟩⟩
  · iterate 4 refine hK _ _ _ _ ?_
    refine calD (c9_in _ _ _ _ _) ?_
    rintro r σ' ⟨rfl, hσ⟩
    subst σ'
    refine hK _ _ _ _ ?_
    refine And.intro (fun h01 => ?_) (fun h01 => ?_)
    · have hg0 : ((0 ≤ kd ∧ kd ≤ 4) ∧ (0 ≤ w ∧ w ≤ 4)) := ⟨ite_ne h00, ite_ne h01⟩
      iterate 3 refine hK _ _ _ _ ?_
      refine calD (c9_bad0 _ _ _ z0) ?_
      rintro r σ' ⟨rfl, hσ⟩
      subst σ'
      refine hK _ _ _ _ ?_
      refine And.intro (fun _ => ?_) (fun h => absurd rfl h)
      iterate 3 refine hK _ _ _ _ ?_
      refine calD (c9_goes d z N P S G kd hJz) ?_
      rintro r σ' ⟨rfl, rfl⟩
      have hD := goM_end kd hJz
      rw [hz] at hK
      generalize goM z kd P S = t at hD hK ⊢
      iterate 4 refine hK _ _ _ _ ?_
      have key : ∀ s, s ≤ S → K 46 [some (aR 0), some (aI kd), some (aI w), some (aI (arN t s)), some (aI (nI s))] [] t := by
        refine kDown (P := fun s => K 46 [some (aR 0), some (aI kd), some (aI w), some (aI (arN t s)), some (aI (nI s))] [] t) ?_ ?_
        · iterate 5 refine hK _ _ _ _ ?_
          refine And.intro (vp_in_nI (n := 2) (by decide) (by decide)) ?_
          rw [show (Int32.ofInt 2).toNatClampNeg = 2 from rfl]
          rw [show t 3 0 2 = nI S from hD.1.2.2.2.2.1.1]
          refine hK _ _ _ _ ?_
          refine And.intro (fun _ => ?_) (fun h => absurd (Int32.le_refl _) h)
          have l143 : ∀ (x : Int32), dyR t P S w = x → K 143 [some (aR 0), some (aI (kd)), some (aI (w)), some (aI (arN t S)), some (aI (nI S))] [aI (x)] t := by
            intro x hx
            refine hK _ _ _ _ ?_
            refine ⟨fun _ => ?_, fun n => absurd hg0 n⟩
            exact ⟨by rw [hx], rfl⟩
          iterate 2 refine hK _ _ _ _ ?_
          refine And.intro (fun h => ?_) (fun h => ?_)
          · iterate 3 refine hK _ _ _ _ ?_
            refine And.intro (fun h1 => ?_) (fun h1 => ?_)
            · iterate 3 refine hK _ _ _ _ ?_
              refine And.intro (fun h2 => ?_) (fun h2 => ?_)
              · iterate 3 refine hK _ _ _ _ ?_
                refine And.intro (fun h3 => ?_) (fun h3 => ?_)
                · refine hK _ _ _ _ ?_
                  exact l143 _ (by unfold dyR; rw [if_neg h, if_neg (show ¬ w = 1 from h1), if_neg (show ¬ w = 2 from h2), if_neg (show ¬ w = 3 from h3)])
                · iterate 2 refine hK _ _ _ _ ?_
                  refine hK _ _ _ _ ?_
                  exact l143 _ (by unfold dyR; rw [if_neg h, if_neg (show ¬ w = 1 from h1), if_neg (show ¬ w = 2 from h2), if_pos (show w = 3 from h3)])
              · iterate 2 refine hK _ _ _ _ ?_
                refine hK _ _ _ _ ?_
                exact l143 _ (by unfold dyR; rw [if_neg h, if_neg (show ¬ w = 1 from h1), if_pos (show w = 2 from h2)])
            · iterate 2 refine hK _ _ _ _ ?_
              refine calD (c9_leftNow _ t S hD.1.2.2.2.2.1.1 hS) ?_
              rintro r σ' ⟨rfl, hσ⟩
              subst σ'
              refine hK _ _ _ _ ?_
              exact l143 _ (by unfold dyR; rw [if_neg h, if_pos (show w = 1 from h1)])
          · iterate 2 refine hK _ _ _ _ ?_
            refine calD (c9_costNow (d + 4) t P hD.1.2.2.2.1.1 hP) ?_
            rintro r σ' ⟨rfl, hσ⟩
            subst σ'
            refine hK _ _ _ _ ?_
            exact l143 _ (by unfold dyR; rw [if_pos h])
        · intro s hs ih
          unfold arN at ih
          have l87 : ∀ (c : Int32), (if t 27 0 s ≠ -1 ∧ t 27 0 s ≤ 999 then 1 else 0) = c → K 87 [some (aR 0), some (aI (kd)), some (aI (w)), some (aI (arN t s)), some (aI (nI s))] [aI (c), aI (arN t s)] t := by
            intro c hc
            rw [hc] at ih
            iterate 3 refine hK _ _ _ _ ?_
            show K _ _ _ _
            rw [show nI s + Int32.ofInt 1 = nI (s + 1) from nIs _]
            refine hK _ _ _ _ ?_
            exact ih
          iterate 5 refine hK _ _ _ _ ?_
          refine And.intro (vp_in_nI (n := 2) (by decide) (by decide)) ?_
          rw [show (Int32.ofInt 2).toNatClampNeg = 2 from rfl]
          rw [show t 3 0 2 = nI S from hD.1.2.2.2.2.1.1]
          refine hK _ _ _ _ ?_
          refine And.intro (fun h => absurd h (nI_ge hs (by omega))) (fun _ => ?_)
          iterate 5 refine hK _ _ _ _ ?_
          refine And.intro (vp_in_nI (n := s) (by omega) (by decide)) ?_
          rw [nI_clamp (show s < 2 ^ 31 by omega)]
          iterate 2 refine hK _ _ _ _ ?_
          refine And.intro (fun h => ?_) (fun h => ?_)
          · refine hK _ _ _ _ ?_
            exact l87 _ (if_neg (fun q => q.1 h))
          · iterate 4 refine hK _ _ _ _ ?_
            refine And.intro (vp_in_nI (n := s) (by omega) (by decide)) ?_
            rw [nI_clamp (show s < 2 ^ 31 by omega)]
            iterate 2 refine hK _ _ _ _ ?_
            refine And.intro (fun h2 => ?_) (fun h2 => ?_)
            · refine hK _ _ _ _ ?_
              exact l87 _ (if_neg (fun q => Int32.not_le.mpr h2 q.2))
            · iterate 2 refine hK _ _ _ _ ?_
              exact l87 _ (if_pos ⟨h, Int32.not_lt.mp h2⟩)
      exact key 0 (Nat.zero_le _)
    · have hn : ¬ ((0 ≤ kd ∧ kd ≤ 4) ∧ (0 ≤ w ∧ w ≤ 4)) := fun q => ite_eq h01 q.2
      iterate 4 refine hK _ _ _ _ ?_
      refine calD (c9_bad1 _ _ _ z0 (by decide)) ?_
      rintro r σ' ⟨rfl, rfl⟩
      refine hK _ _ _ _ ?_
      refine And.intro (fun h => absurd h (by decide)) (fun _ => ?_)
      iterate 2 refine hK _ _ _ _ ?_
      exact ⟨fun q0 => absurd q0 hn, fun _ => ⟨rfl, by rw [← hz, sUp_twice]; rfl⟩⟩
theorem c9_leads (d : Nat) (σ : sMem) (N P S G : Nat) (hJ : MJ σ N P S G) (kd x i : Int32) (hL : ∀ s, s < S → ∃ k : Nat, goM (sUp σ 0 0 0 0) kd P S 28 0 s = nI k ∧ k ≤ 40) : sMet l D b0 ty lay (d + 6) mX9_leads [aR 0, aI (kd), aI (x), aI (i)] σ (fun r σ' => ((0 ≤ x ∧ x ≤ nI S - 1) → (0 ≤ kd ∧ kd ≤ 4) → r = [aI (if 0 ≤ i ∧ i ≤ goM (sUp σ 0 0 0 0) kd P S 28 0 x.toNatClampNeg - 1 then goM (sUp σ 0 0 0 0) kd P S 29 x.toNatClampNeg i.toNatClampNeg else -1)] ∧ σ' = goM (sUp σ 0 0 0 0) kd P S) ∧ (¬ (0 ≤ x ∧ x ≤ nI S - 1) → r = [aI 0] ∧ σ' = sUp σ 0 0 0 1) ∧ ((0 ≤ x ∧ x ≤ nI S - 1) → ¬ (0 ≤ kd ∧ kd ≤ 4) → r = [aI 0] ∧ σ' = sUp σ 0 0 0 2)) := by
  refine sMet_intro lay_nd kX9_leads xX9_ok (by decide +kernel) rfl ?_
  intro K hK
  have hN := hJ.1.1.1
  have hN2 := hJ.1.2.1
  have hP := hJ.1.2.2.2.1.2
  have hS := hJ.1.2.2.2.2.1.2
  have hG4 := hJ.2.2.2.2.2
  iterate 3 refine hK _ _ _ _ ?_
  show K _ _ _ (sUp σ 0 0 0 0)
  have hJz := hJ.z0 0 0
  have z0 : sUp σ 0 0 0 0 0 0 0 = 0 := sUp_at _ _ _ _ _
  generalize hz : sUp σ 0 0 0 0 = z at hJz z0 ⊢
  iterate 4 refine hK _ _ _ _ ?_
  refine calD (c9_isStranger _ _ _) ?_
  rintro r σ' ⟨rfl, hσ⟩
  subst σ'
  rw [show z 3 0 2 = nI S from hJz.1.2.2.2.2.1.1]
  refine hK _ _ _ _ ?_
  refine And.intro (fun h00 => ?_) (fun h00 => ?_)
  · have hg0 : (0 ≤ x ∧ x ≤ nI S - 1) := ite_ne h00
    iterate 3 refine hK _ _ _ _ ?_
    refine calD (c9_bad0 _ _ _ z0) ?_
    rintro r σ' ⟨rfl, hσ⟩
    subst σ'
    refine hK _ _ _ _ ?_
    refine And.intro (fun h => absurd rfl h) (fun _ => ?_)
    iterate 3 refine hK _ _ _ _ ?_
    refine calD (c9_isKind _ _ _) ?_
    rintro r σ' ⟨rfl, hσ⟩
    subst σ'
    refine hK _ _ _ _ ?_
    refine And.intro (fun h10 => ?_) (fun h10 => ?_)
    · have hg1 : (0 ≤ kd ∧ kd ≤ 4) := ite_ne h10
      iterate 3 refine hK _ _ _ _ ?_
      refine calD (c9_bad0 _ _ _ z0) ?_
      rintro r σ' ⟨rfl, hσ⟩
      subst σ'
      refine hK _ _ _ _ ?_
      refine And.intro (fun _ => ?_) (fun h => absurd rfl h)
      obtain ⟨s, hs, rfl⟩ := inN hg0 (by omega)
      iterate 3 refine hK _ _ _ _ ?_
      refine calD (c9_goes d z N P S G kd hJz) ?_
      rintro r σ' ⟨rfl, rfl⟩
      rw [hz] at hK hL
      generalize goM z kd P S = t at hL hK ⊢
      obtain ⟨k, ek, hk⟩ := hL s hs
      have cs := nI_clamp (show s < 2 ^ 31 by omega)
      iterate 6 refine hK _ _ _ _ ?_
      refine And.intro (vp_in_nI (n := s) (by omega) (by decide)) ?_
      rw [nI_clamp (show s < 2 ^ 31 by omega)]
      rw [show t 28 0 s = nI k from ek]
      iterate 3 refine hK _ _ _ _ ?_
      refine calD (c9_in _ _ _ _ _) ?_
      rintro r σ' ⟨rfl, hσ⟩
      subst σ'
      refine hK _ _ _ _ ?_
      refine And.intro (fun h => ?_) (fun h => ?_)
      · iterate 2 refine hK _ _ _ _ ?_
        refine ⟨fun _ _ => ?_, fun n => absurd hg0 n, fun _ n => absurd hg1 n⟩
        rw [cs, ek, if_neg (show ¬ (0 ≤ i ∧ i ≤ nI k - 1) from ite_eq h)]
        exact ⟨rfl, rfl⟩
      · have hq := ite_ne h
        obtain ⟨j, hj, rfl⟩ := inN hq (by omega)
        have cj := nI_clamp (show j < 2 ^ 31 by omega)
        iterate 4 refine hK _ _ _ _ ?_
        refine And.intro (vp_in_nI (n := s) (by omega) (by decide)) ?_
        rw [nI_clamp (show s < 2 ^ 31 by omega)]
        iterate 2 refine hK _ _ _ _ ?_
        refine And.intro (by first | omega | (rw [nI_clamp (by omega)]; omega)) (And.intro (vp_in_nI (n := j) (by omega) (by decide)) ?_)
        rw [nI_clamp (show j < 2 ^ 31 by omega)]
        iterate 2 refine hK _ _ _ _ ?_
        refine ⟨fun _ _ => ?_, fun n => absurd hg0 n, fun _ n => absurd hg1 n⟩
        rw [cs, cj, ek, if_pos (show 0 ≤ nI j ∧ nI j ≤ nI k - 1 from hq)]
        exact ⟨rfl, rfl⟩
    · have hn : ¬ (0 ≤ kd ∧ kd ≤ 4) := ite_eq h10
      iterate 4 refine hK _ _ _ _ ?_
      refine calD (c9_bad1 _ _ _ z0 (by decide)) ?_
      rintro r σ' ⟨rfl, rfl⟩
      refine hK _ _ _ _ ?_
      refine And.intro (fun h => absurd h (by decide)) (fun _ => ?_)
      iterate 2 refine hK _ _ _ _ ?_
      exact ⟨fun q0 q1 => absurd q1 hn, fun n => absurd hg0 n, fun _ _ => ⟨rfl, by rw [← hz, sUp_twice]; rfl⟩⟩
  · have hn : ¬ (0 ≤ x ∧ x ≤ nI S - 1) := ite_eq h00
    iterate 4 refine hK _ _ _ _ ?_
    refine calD (c9_bad1 _ _ _ z0 (by decide)) ?_
    rintro r σ' ⟨rfl, rfl⟩
    refine hK _ _ _ _ ?_
    refine And.intro (fun _ => ?_) (fun h => absurd h (by decide))
    iterate 2 refine hK _ _ _ _ ?_
    exact ⟨fun q0 q1 => absurd q0 hn, fun _ => ⟨rfl, by rw [← hz, sUp_twice]; rfl⟩, fun q0 _ => absurd q0 hn⟩
theorem c9_there (d : Nat) (σ : sMem) (N P S G : Nat) (hJ : MJ σ N P S G) (kd x : Int32) : sMet l D b0 ty lay (d + 6) mX9_there [aR 0, aI (kd), aI (x)] σ (fun r σ' => ((0 ≤ x ∧ x ≤ nI S - 1) → (0 ≤ kd ∧ kd ≤ 4) → r = [aI (goM (sUp σ 0 0 0 0) kd P S 27 0 x.toNatClampNeg)] ∧ σ' = goM (sUp σ 0 0 0 0) kd P S) ∧ (¬ (0 ≤ x ∧ x ≤ nI S - 1) → r = [aI 0] ∧ σ' = sUp σ 0 0 0 1) ∧ ((0 ≤ x ∧ x ≤ nI S - 1) → ¬ (0 ≤ kd ∧ kd ≤ 4) → r = [aI 0] ∧ σ' = sUp σ 0 0 0 2)) := by
  refine sMet_intro lay_nd kX9_there xX9_ok (by decide +kernel) rfl ?_
  intro K hK
  have hN := hJ.1.1.1
  have hN2 := hJ.1.2.1
  have hP := hJ.1.2.2.2.1.2
  have hS := hJ.1.2.2.2.2.1.2
  have hG4 := hJ.2.2.2.2.2
  iterate 3 refine hK _ _ _ _ ?_
  show K _ _ _ (sUp σ 0 0 0 0)
  have hJz := hJ.z0 0 0
  have z0 : sUp σ 0 0 0 0 0 0 0 = 0 := sUp_at _ _ _ _ _
  generalize hz : sUp σ 0 0 0 0 = z at hJz z0 ⊢
  iterate 4 refine hK _ _ _ _ ?_
  refine calD (c9_isStranger _ _ _) ?_
  rintro r σ' ⟨rfl, hσ⟩
  subst σ'
  rw [show z 3 0 2 = nI S from hJz.1.2.2.2.2.1.1]
  refine hK _ _ _ _ ?_
  refine And.intro (fun h00 => ?_) (fun h00 => ?_)
  · have hg0 : (0 ≤ x ∧ x ≤ nI S - 1) := ite_ne h00
    iterate 3 refine hK _ _ _ _ ?_
    refine calD (c9_bad0 _ _ _ z0) ?_
    rintro r σ' ⟨rfl, hσ⟩
    subst σ'
    refine hK _ _ _ _ ?_
    refine And.intro (fun h => absurd rfl h) (fun _ => ?_)
    iterate 3 refine hK _ _ _ _ ?_
    refine calD (c9_isKind _ _ _) ?_
    rintro r σ' ⟨rfl, hσ⟩
    subst σ'
    refine hK _ _ _ _ ?_
    refine And.intro (fun h10 => ?_) (fun h10 => ?_)
    · have hg1 : (0 ≤ kd ∧ kd ≤ 4) := ite_ne h10
      iterate 3 refine hK _ _ _ _ ?_
      refine calD (c9_bad0 _ _ _ z0) ?_
      rintro r σ' ⟨rfl, hσ⟩
      subst σ'
      refine hK _ _ _ _ ?_
      refine And.intro (fun _ => ?_) (fun h => absurd rfl h)
      obtain ⟨s, hs, rfl⟩ := inN hg0 (by omega)
      iterate 3 refine hK _ _ _ _ ?_
      refine calD (c9_goes d z N P S G kd hJz) ?_
      rintro r σ' ⟨rfl, rfl⟩
      have hD := goM_end kd hJz
      rw [hz] at hK
      generalize goM z kd P S = t at hD hK ⊢
      iterate 4 refine hK _ _ _ _ ?_
      refine And.intro (vp_in_nI (n := s) (by omega) (by decide)) ?_
      rw [nI_clamp (show s < 2 ^ 31 by omega)]
      refine hK _ _ _ _ ?_
      refine ⟨fun _ _ => ?_, fun n => absurd hg0 n, fun _ n => absurd hg1 n⟩
      rw [nI_clamp (show s < 2 ^ 31 by omega)]
      exact ⟨rfl, rfl⟩
    · have hn : ¬ (0 ≤ kd ∧ kd ≤ 4) := ite_eq h10
      iterate 4 refine hK _ _ _ _ ?_
      refine calD (c9_bad1 _ _ _ z0 (by decide)) ?_
      rintro r σ' ⟨rfl, rfl⟩
      refine hK _ _ _ _ ?_
      refine And.intro (fun h => absurd h (by decide)) (fun _ => ?_)
      iterate 2 refine hK _ _ _ _ ?_
      exact ⟨fun q0 q1 => absurd q1 hn, fun n => absurd hg0 n, fun _ _ => ⟨rfl, by rw [← hz, sUp_twice]; rfl⟩⟩
  · have hn : ¬ (0 ≤ x ∧ x ≤ nI S - 1) := ite_eq h00
    iterate 4 refine hK _ _ _ _ ?_
    refine calD (c9_bad1 _ _ _ z0 (by decide)) ?_
    rintro r σ' ⟨rfl, rfl⟩
    refine hK _ _ _ _ ?_
    refine And.intro (fun _ => ?_) (fun h => absurd h (by decide))
    iterate 2 refine hK _ _ _ _ ?_
    exact ⟨fun q0 q1 => absurd q0 hn, fun _ => ⟨rfl, by rw [← hz, sUp_twice]; rfl⟩, fun q0 _ => absurd q0 hn⟩
def loR (t : sMem) (p : Nat) : Int32 := t 6 p 3 * (t 23 0 p - t 22 0 p)
theorem c9_lost (d : Nat) (σ : sMem) (N P S G : Nat) (hJ : MJ σ N P S G) (kd x : Int32) : sMet l D b0 ty lay (d + 6) mX9_lost [aR 0, aI (kd), aI (x)] σ (fun r σ' => ((0 ≤ x ∧ x ≤ nI P - 1) → (0 ≤ kd ∧ kd ≤ 4) → r = [aI (loR (goM (sUp σ 0 0 0 0) kd P S) x.toNatClampNeg)] ∧ σ' = goM (sUp σ 0 0 0 0) kd P S) ∧ (¬ (0 ≤ x ∧ x ≤ nI P - 1) → r = [aI 0] ∧ σ' = sUp σ 0 0 0 1) ∧ ((0 ≤ x ∧ x ≤ nI P - 1) → ¬ (0 ≤ kd ∧ kd ≤ 4) → r = [aI 0] ∧ σ' = sUp σ 0 0 0 2)) := by
  refine sMet_intro lay_nd kX9_lost xX9_ok (by decide +kernel) rfl ?_
  intro K hK
  have hN := hJ.1.1.1
  have hN2 := hJ.1.2.1
  have hP := hJ.1.2.2.2.1.2
  have hS := hJ.1.2.2.2.2.1.2
  have hG4 := hJ.2.2.2.2.2
  iterate 3 refine hK _ _ _ _ ?_
  show K _ _ _ (sUp σ 0 0 0 0)
  have hJz := hJ.z0 0 0
  have z0 : sUp σ 0 0 0 0 0 0 0 = 0 := sUp_at _ _ _ _ _
  generalize hz : sUp σ 0 0 0 0 = z at hJz z0 ⊢
  iterate 4 refine hK _ _ _ _ ?_
  refine calD (c9_isPerson _ _ _) ?_
  rintro r σ' ⟨rfl, hσ⟩
  subst σ'
  rw [show z 3 0 1 = nI P from hJz.1.2.2.2.1.1]
  refine hK _ _ _ _ ?_
  refine And.intro (fun h00 => ?_) (fun h00 => ?_)
  · have hg0 : (0 ≤ x ∧ x ≤ nI P - 1) := ite_ne h00
    iterate 3 refine hK _ _ _ _ ?_
    refine calD (c9_bad0 _ _ _ z0) ?_
    rintro r σ' ⟨rfl, hσ⟩
    subst σ'
    refine hK _ _ _ _ ?_
    refine And.intro (fun h => absurd rfl h) (fun _ => ?_)
    iterate 3 refine hK _ _ _ _ ?_
    refine calD (c9_isKind _ _ _) ?_
    rintro r σ' ⟨rfl, hσ⟩
    subst σ'
    refine hK _ _ _ _ ?_
    refine And.intro (fun h10 => ?_) (fun h10 => ?_)
    · have hg1 : (0 ≤ kd ∧ kd ≤ 4) := ite_ne h10
      iterate 3 refine hK _ _ _ _ ?_
      refine calD (c9_bad0 _ _ _ z0) ?_
      rintro r σ' ⟨rfl, hσ⟩
      subst σ'
      refine hK _ _ _ _ ?_
      refine And.intro (fun _ => ?_) (fun h => absurd rfl h)
      obtain ⟨p, hp, rfl⟩ := inN hg0 (by omega)
      iterate 3 refine hK _ _ _ _ ?_
      refine calD (c9_goes d z N P S G kd hJz) ?_
      rintro r σ' ⟨rfl, rfl⟩
      have hD := goM_end kd hJz
      rw [hz] at hK
      generalize goM z kd P S = t at hD hK ⊢
      iterate 3 refine hK _ _ _ _ ?_
      refine calD (c9_lostBy _ t p (by omega)) ?_
      rintro r σ' ⟨rfl, hσ⟩
      subst σ'
      refine hK _ _ _ _ ?_
      refine ⟨fun _ _ => ?_, fun n => absurd hg0 n, fun _ n => absurd hg1 n⟩
      rw [nI_clamp (show p < 2 ^ 31 by omega)]
      exact ⟨rfl, rfl⟩
    · have hn : ¬ (0 ≤ kd ∧ kd ≤ 4) := ite_eq h10
      iterate 4 refine hK _ _ _ _ ?_
      refine calD (c9_bad1 _ _ _ z0 (by decide)) ?_
      rintro r σ' ⟨rfl, rfl⟩
      refine hK _ _ _ _ ?_
      refine And.intro (fun h => absurd h (by decide)) (fun _ => ?_)
      iterate 2 refine hK _ _ _ _ ?_
      exact ⟨fun q0 q1 => absurd q1 hn, fun n => absurd hg0 n, fun _ _ => ⟨rfl, by rw [← hz, sUp_twice]; rfl⟩⟩
  · have hn : ¬ (0 ≤ x ∧ x ≤ nI P - 1) := ite_eq h00
    iterate 4 refine hK _ _ _ _ ?_
    refine calD (c9_bad1 _ _ _ z0 (by decide)) ?_
    rintro r σ' ⟨rfl, rfl⟩
    refine hK _ _ _ _ ?_
    refine And.intro (fun _ => ?_) (fun h => absurd h (by decide))
    iterate 2 refine hK _ _ _ _ ?_
    exact ⟨fun q0 q1 => absurd q0 hn, fun _ => ⟨rfl, by rw [← hz, sUp_twice]; rfl⟩, fun q0 _ => absurd q0 hn⟩
theorem c9_fees (d : Nat) (σ : sMem) (N P S G : Nat) (hJ : MJ σ N P S G) (kd : Int32) : sMet l D b0 ty lay (d + 6) mX9_fees [aR 0, aI (kd)] σ (fun r σ' => ((0 ≤ kd ∧ kd ≤ 4) → r = [aI (goM (sUp σ 0 0 0 0) kd P S 0 0 44)] ∧ σ' = goM (sUp σ 0 0 0 0) kd P S) ∧ (¬ (0 ≤ kd ∧ kd ≤ 4) → r = [aI 0] ∧ σ' = sUp σ 0 0 0 1)) := by
  refine sMet_intro lay_nd kX9_fees xX9_ok (by decide +kernel) rfl ?_
  intro K hK
  have hN := hJ.1.1.1
  have hN2 := hJ.1.2.1
  have hP := hJ.1.2.2.2.1.2
  have hS := hJ.1.2.2.2.2.1.2
  have hG4 := hJ.2.2.2.2.2
  iterate 3 refine hK _ _ _ _ ?_
  show K _ _ _ (sUp σ 0 0 0 0)
  have hJz := hJ.z0 0 0
  have z0 : sUp σ 0 0 0 0 0 0 0 = 0 := sUp_at _ _ _ _ _
  generalize hz : sUp σ 0 0 0 0 = z at hJz z0 ⊢
  iterate 3 refine hK _ _ _ _ ?_
  refine calD (c9_isKind _ _ _) ?_
  rintro r σ' ⟨rfl, hσ⟩
  subst σ'
  refine hK _ _ _ _ ?_
  refine And.intro (fun h00 => ?_) (fun h00 => ?_)
  · have hg0 : (0 ≤ kd ∧ kd ≤ 4) := ite_ne h00
    iterate 3 refine hK _ _ _ _ ?_
    refine calD (c9_bad0 _ _ _ z0) ?_
    rintro r σ' ⟨rfl, hσ⟩
    subst σ'
    refine hK _ _ _ _ ?_
    refine And.intro (fun _ => ?_) (fun h => absurd rfl h)
    iterate 3 refine hK _ _ _ _ ?_
    refine calD (c9_goes d z N P S G kd hJz) ?_
    rintro r σ' ⟨rfl, rfl⟩
    have hD := goM_end kd hJz
    rw [hz] at hK
    generalize goM z kd P S = t at hD hK ⊢
    iterate 2 refine hK _ _ _ _ ?_
    refine hK _ _ _ _ ?_
    refine ⟨fun _ => ?_, fun n => absurd hg0 n⟩
    exact ⟨rfl, rfl⟩
  · have hn : ¬ (0 ≤ kd ∧ kd ≤ 4) := ite_eq h00
    iterate 4 refine hK _ _ _ _ ?_
    refine calD (c9_bad1 _ _ _ z0 (by decide)) ?_
    rintro r σ' ⟨rfl, rfl⟩
    refine hK _ _ _ _ ?_
    refine And.intro (fun h => absurd h (by decide)) (fun _ => ?_)
    iterate 2 refine hK _ _ _ _ ?_
    exact ⟨fun q0 => absurd q0 hn, fun _ => ⟨rfl, by rw [← hz, sUp_twice]; rfl⟩⟩
theorem c9_isLedBy (d : Nat) (t : sMem) (s : Nat) (p : Int32) (hs : s < 8) : sMet l D b0 ty lay d mX9_isLedBy [aR 0, aI (nI s), aI (p)] t (fun r σ' => r = [aI (bI (ilM t s p))] ∧ σ' = t) := by
  refine sMet_intro lay_nd kX9_isLedBy xX9_ok (by decide +kernel) rfl ?_
  intro K hK
  generalize hZ : ilM t s p = Z at hK
  unfold ilM at hZ
  iterate 2 refine hK _ _ _ _ ?_
  have key : ∀ (f : Nat) (k : Nat), k + f = 41 → ilS t s p f k = Z → K 2 [some (aR 0), some (aI (nI s)), some (aI (p)), some (aI (nI k))] [] t := by
    intro f
    induction f with
    | zero =>
      intro k hk he
      have no : Z = false → K 38 [some (aR 0), some (aI (nI s)), some (aI (p)), some (aI (nI k))] [] t := by
        intro hz
        iterate 2 refine hK _ _ _ _ ?_
        exact ⟨Or.inl rfl, by rw [hz]; rfl, rfl⟩
      iterate 5 refine hK _ _ _ _ ?_
      refine And.intro (vp_in_nI (n := s) (by omega) (by decide)) ?_
      rw [nI_clamp (show s < 2 ^ 31 by omega)]
      refine hK _ _ _ _ ?_
      refine And.intro (fun h => no he.symm) (fun h => ?_)
      iterate 3 refine hK _ _ _ _ ?_
      refine And.intro (fun h2 => no he.symm) (fun h2 => ?_)
      exact absurd ((nI_leI (a := 40) (b := k) (by decide) (by omega)).mpr (by omega)) h2
    | succ f ih =>
      intro k hk he
      unfold ilS at he
      have no : Z = false → K 38 [some (aR 0), some (aI (nI s)), some (aI (p)), some (aI (nI k))] [] t := by
        intro hz
        iterate 2 refine hK _ _ _ _ ?_
        exact ⟨Or.inl rfl, by rw [hz]; rfl, rfl⟩
      iterate 5 refine hK _ _ _ _ ?_
      refine And.intro (vp_in_nI (n := s) (by omega) (by decide)) ?_
      rw [nI_clamp (show s < 2 ^ 31 by omega)]
      refine hK _ _ _ _ ?_
      refine And.intro (fun h => ?_) (fun h => ?_)
      · refine no ?_
        rw [← he, if_neg (fun q => Int32.not_lt.mpr h q.1)]
      · iterate 3 refine hK _ _ _ _ ?_
        refine And.intro (fun h2 => ?_) (fun h2 => ?_)
        · refine no ?_
          rw [← he, if_neg (fun q => absurd ((nI_leI (a := 40) (b := k) (by decide) (by omega)).mp h2) (by omega))]
        · have hk40 : k < 40 := (nI_ltI (a := k) (b := 40) (by omega) (by decide)).mp (Int32.not_le.mp h2)
          rw [if_pos ⟨Int32.not_le.mp h, hk40⟩] at he
          iterate 4 refine hK _ _ _ _ ?_
          refine And.intro (vp_in_nI (n := s) (by omega) (by decide)) ?_
          rw [nI_clamp (show s < 2 ^ 31 by omega)]
          iterate 2 refine hK _ _ _ _ ?_
          refine And.intro (by first | omega | (rw [nI_clamp (by omega)]; omega)) (And.intro (vp_in_nI (n := k) (by omega) (by decide)) ?_)
          rw [nI_clamp (show k < 2 ^ 31 by omega)]
          iterate 2 refine hK _ _ _ _ ?_
          refine And.intro (fun h3 => ?_) (fun h3 => ?_)
          · rw [if_neg h3] at he
            refine hK _ _ _ _ ?_
            show K _ _ _ _
            rw [show nI k + Int32.ofInt 1 = nI (k + 1) from nIs _]
            refine hK _ _ _ _ ?_
            exact ih (k + 1) (by omega) he
          · rw [if_pos h3] at he
            iterate 2 refine hK _ _ _ _ ?_
            exact ⟨Or.inr rfl, by rw [← he]; rfl, rfl⟩
  exact key 41 0 (by omega) hZ
theorem c9_judge (d : Nat) (σ : sMem) (N P S G : Nat) (hJ : MJ σ N P S G) (w : Int32) : sMet l D b0 ty lay (d + 6) mX9_judge [aR 0, aI (w)] σ (fun r σ' => ((0 ≤ w ∧ w ≤ 1) → r = [aI (juL (goM (sUp σ 0 0 0 0) 4 P S) w S 0)] ∧ σ' = goM (sUp σ 0 0 0 0) 4 P S) ∧ (¬ (0 ≤ w ∧ w ≤ 1) → r = [aI 0] ∧ σ' = sUp σ 0 0 0 1)) := by
  refine sMet_intro lay_nd kX9_judge xX9_ok (by decide +kernel) rfl ?_
  intro K hK
  have hN := hJ.1.1.1
  have hN2 := hJ.1.2.1
  have hP := hJ.1.2.2.2.1.2
  have hS := hJ.1.2.2.2.2.1.2
  have hG4 := hJ.2.2.2.2.2
  iterate 3 refine hK _ _ _ _ ?_
  show K _ _ _ (sUp σ 0 0 0 0)
  have hJz := hJ.z0 0 0
  have z0 : sUp σ 0 0 0 0 0 0 0 = 0 := sUp_at _ _ _ _ _
  generalize hz : sUp σ 0 0 0 0 = z at hJz z0 ⊢
  iterate 5 refine hK _ _ _ _ ?_
  refine calD (c9_in _ _ _ _ _) ?_
  rintro r σ' ⟨rfl, hσ⟩
  subst σ'
  refine hK _ _ _ _ ?_
  refine And.intro (fun h00 => ?_) (fun h00 => ?_)
  · have hg0 : (0 ≤ w ∧ w ≤ 1) := ite_ne h00
    iterate 3 refine hK _ _ _ _ ?_
    refine calD (c9_bad0 _ _ _ z0) ?_
    rintro r σ' ⟨rfl, hσ⟩
    subst σ'
    refine hK _ _ _ _ ?_
    refine And.intro (fun _ => ?_) (fun h => absurd rfl h)
    iterate 3 refine hK _ _ _ _ ?_
    refine calD (c9_goes d z N P S G 4 hJz) ?_
    rintro r σ' ⟨rfl, rfl⟩
    have hD := goM_end 4 hJz
    rw [hz] at hK
    generalize goM z 4 P S = t at hD hK ⊢
    generalize hR : juL t w S 0 = R at hK
    iterate 2 refine hK _ _ _ _ ?_
    have key : ∀ (f : Nat) (s : Nat), s + f = S → juL t w f s = R → K 36 [some (aR 0), some (aI (w)), some (aI (nI s))] [] t := by
      intro f
      induction f with
      | zero =>
        intro s hs he
        have hsS : s = S := by omega
        subst s
        iterate 5 refine hK _ _ _ _ ?_
        refine And.intro (vp_in_nI (n := 2) (by decide) (by decide)) ?_
        rw [show (Int32.ofInt 2).toNatClampNeg = 2 from rfl]
        rw [show t 3 0 2 = nI S from hD.1.2.2.2.2.1.1]
        refine hK _ _ _ _ ?_
        refine And.intro (fun _ => ?_) (fun h => absurd (Int32.le_refl _) h)
        iterate 2 refine hK _ _ _ _ ?_
        refine ⟨fun _ => ?_, fun n => absurd hg0 n⟩
        exact ⟨by rw [← he]; rfl, rfl⟩
      | succ f ih =>
        intro s hs he
        unfold juL at he
        have hsS : s < S := by omega
        have l89 : (¬ (if w = 0 then t 27 0 s = -1 else t 16 0 s ≠ -1 ∧ ilM t s (t 16 0 s) = false)) → K 89 [some (aR 0), some (aI (w)), some (aI (nI s))] [] t := by
          intro hn
          rw [if_neg hn] at he
          refine hK _ _ _ _ ?_
          show K _ _ _ _
          rw [show nI s + Int32.ofInt 1 = nI (s + 1) from nIs _]
          refine hK _ _ _ _ ?_
          exact ih (s + 1) (by omega) he
        have l87 : (if w = 0 then t 27 0 s = -1 else t 16 0 s ≠ -1 ∧ ilM t s (t 16 0 s) = false) → K 87 [some (aR 0), some (aI (w)), some (aI (nI s))] [] t := by
          intro hn
          rw [if_pos hn] at he
          iterate 2 refine hK _ _ _ _ ?_
          refine ⟨fun _ => ?_, fun n => absurd hg0 n⟩
          exact ⟨by rw [← he], rfl⟩
        iterate 5 refine hK _ _ _ _ ?_
        refine And.intro (vp_in_nI (n := 2) (by decide) (by decide)) ?_
        rw [show (Int32.ofInt 2).toNatClampNeg = 2 from rfl]
        rw [show t 3 0 2 = nI S from hD.1.2.2.2.2.1.1]
        refine hK _ _ _ _ ?_
        refine And.intro (fun h => absurd h (nI_ge hsS (by omega))) (fun _ => ?_)
        iterate 2 refine hK _ _ _ _ ?_
        refine And.intro (fun h => ?_) (fun h => ?_)
        · iterate 4 refine hK _ _ _ _ ?_
          refine And.intro (vp_in_nI (n := s) (by omega) (by decide)) ?_
          rw [nI_clamp (show s < 2 ^ 31 by omega)]
          iterate 2 refine hK _ _ _ _ ?_
          refine And.intro (fun h1 => l89 (by rw [if_neg h]; exact fun q => q.1 h1)) (fun h1 => ?_)
          iterate 6 refine hK _ _ _ _ ?_
          refine And.intro (vp_in_nI (n := s) (by omega) (by decide)) ?_
          rw [nI_clamp (show s < 2 ^ 31 by omega)]
          refine hK _ _ _ _ ?_
          refine calD (c9_isLedBy _ t s _ (by omega)) ?_
          rintro r σ' ⟨rfl, hσ⟩
          subst σ'
          refine hK _ _ _ _ ?_
          refine And.intro (fun h2 => l89 (by rw [if_neg h]; exact fun q => by rw [bI_t h2] at q; exact absurd q.2 (by decide))) (fun h2 => l87 (by rw [if_neg h]; exact ⟨h1, bI_f h2⟩))
        · iterate 4 refine hK _ _ _ _ ?_
          refine And.intro (vp_in_nI (n := s) (by omega) (by decide)) ?_
          rw [nI_clamp (show s < 2 ^ 31 by omega)]
          iterate 2 refine hK _ _ _ _ ?_
          refine And.intro (fun h1 => l89 (by rw [if_pos h]; exact h1)) (fun h1 => ?_)
          refine hK _ _ _ _ ?_
          exact l87 (by rw [if_pos h]; exact h1)
    exact key S 0 (by omega) hR
  · have hn : ¬ (0 ≤ w ∧ w ≤ 1) := ite_eq h00
    iterate 4 refine hK _ _ _ _ ?_
    refine calD (c9_bad1 _ _ _ z0 (by decide)) ?_
    rintro r σ' ⟨rfl, rfl⟩
    refine hK _ _ _ _ ?_
    refine And.intro (fun h => absurd h (by decide)) (fun _ => ?_)
    iterate 2 refine hK _ _ _ _ ?_
    exact ⟨fun q0 => absurd q0 hn, fun _ => ⟨rfl, by rw [← hz, sUp_twice]; rfl⟩⟩
end
