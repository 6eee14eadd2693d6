/-! THE REFERENCE'S ANSWERS of a day, by numbers -/
/-- no one rests, no sign is added, no lots -/
def HT (t : sMem) : Prop := t 0 0 28 = -1 ∧ t 0 0 29 = -1 ∧ t 0 0 31 = 0
/-- as far as a day can see, z is t -/
def SM (t z : sMem) (G : Nat) : Prop := (∀ a, a ≠ 0 → a ≠ 10 → a < 18 → z a = t a) ∧ (∀ g j, g < G → z 10 g j = t 10 g j) ∧ z 0 0 28 = t 0 0 28 ∧ z 0 0 29 = t 0 0 29 ∧ z 0 0 31 = t 0 0 31
theorem SM.rfl' {t : sMem} {G : Nat} : SM t t G := ⟨fun _ _ _ _ => rfl, fun _ _ _ => rfl, rfl, rfl, rfl⟩
theorem SM.trans {t z y : sMem} {G : Nat} (h : SM t z G) (h' : SM z y G) : SM t y G :=
  ⟨fun a h1 h2 h3 => (h'.1 a h1 h2 h3).trans (h.1 a h1 h2 h3), fun g j hg => (h'.2.1 g j hg).trans (h.2.1 g j hg), h'.2.2.1.trans h.2.2.1, h'.2.2.2.1.trans h.2.2.2.1, h'.2.2.2.2.trans h.2.2.2.2⟩
theorem SM.z0 {t : sMem} {G : Nat} (k : Nat) (v : Int32) (hk : k ≠ 28 ∧ k ≠ 29 ∧ k ≠ 31) : SM t (sUp t 0 0 k v) G :=
  ⟨fun a h0 _ _ => sUp_off h0, fun g j _ => by rw [sUp_off (by decide)], sUp_k (by omega), sUp_k (by omega), sUp_k (by omega)⟩
theorem KP.SM {t z : sMem} {G : Nat} (h : KP G t z) : SM t z G := ⟨fun a h1 h2 h3 => h.1 a h1 h2 (Or.inl h3), h.2.1, h.2.2 28 (by decide) (by decide) (by decide) (by decide), h.2.2 29 (by decide) (by decide) (by decide) (by decide), h.2.2 31 (by decide) (by decide) (by decide) (by decide)⟩
theorem SM.low {t z : sMem} {G : Nat} (h : ∀ a, a < 34 → z a = t a) : SM t z G := ⟨fun a _ _ h3 => h a (by omega), fun g j _ => by rw [h 10 (by decide)], by rw [h 0 (by decide)], by rw [h 0 (by decide)], by rw [h 0 (by decide)]⟩
/-- .. the same more told on both sides -/
theorem SM.up {t z : sMem} {G : Nat} (h : SM t z G) (k : Nat) (v : Int32) : SM (sUp t 0 0 k v) (sUp z 0 0 k v) G := by
  have hk : ∀ j, z 0 0 j = t 0 0 j → sUp z 0 0 k v 0 0 j = sUp t 0 0 k v 0 0 j := fun j hj => by
    by_cases e : j = k
    · subst e; rw [sUp_at, sUp_at]
    · rw [sUp_k e, sUp_k e]; exact hj
  exact ⟨fun a h0 h1 h2 => by rw [sUp_off h0, sUp_off h0]; exact h.1 a h0 h1 h2, fun g j hg => by rw [sUp_off (by decide), sUp_off (by decide)]; exact h.2.1 g j hg, hk 28 h.2.2.1, hk 29 h.2.2.2.1, hk 31 h.2.2.2.2⟩
def uP (t : sMem) : sMem := sUp t 0 0 27 (t 3 0 4)
def cP (t : sMem) (G : Nat) : sMem := cn (uP t) G
theorem cn_go {t z : sMem} {G : Nat} {x : Int32} (h : SM t z G) : cn (sUp (sUp z 0 0 26 x) 0 0 27 (z 3 0 4)) G = cP t G := by
  unfold cP uP
  refine cn_cg (fun a ha => ?_) (fun g j hg _ => ?_) (fun k hk => ?_)
  · rw [sUp_off (by omega), sUp_off (by omega), sUp_off (by omega)]; exact h.1 a (by omega) (by omega) (by omega)
  · rw [sUp_off (by decide), sUp_off (by decide), sUp_off (by decide)]; exact h.2.1 g j hg
  · rcases hk with rfl | rfl | rfl
    · rw [sUp_at, sUp_at, h.1 3 (by decide) (by decide) (by decide)]
    · rw [sUp_k (by decide), sUp_k (by decide), sUp_k (by decide)]; exact h.2.2.1
    · rw [sUp_k (by decide), sUp_k (by decide), sUp_k (by decide)]; exact h.2.2.2.1
/-- a day of t can be gone through -/
def OK (t : sMem) (N P S G : Nat) : Prop := MC (cP t G) N P S ∧ SC (cP t G) N P S G
section
variable {t z : sMem} {N P S G : Nat}
theorem uP_UI (hM : MI t N P S G) {r q : Int32} (hr : z 0 0 28 = r) (hq : z 0 0 29 = q) (hz : ∀ a, a ≠ 0 → z a = t a) : UI t (uP z) N G G (t 3 0 4) r q := by
  have hG := hM.1.2.2.2.2.2
  unfold uP
  refine ⟨fun a ha => ?_, fun g j hg => ?_, ?_, ?_, ?_, ⟨Nat.le_refl _, by omega⟩, fun g h1 h2 => absurd h2 (by omega)⟩
  · rw [sUp_off (by omega), hz a (by omega)]
  · rw [sUp_off (by decide), hz 10 (by decide)]
  · rw [sUp_at, hz 3 (by decide)]
  · rw [sUp_k (by decide)]; exact hr
  · rw [sUp_k (by decide)]; exact hq
theorem UI.OK (hM : MI t N P S G) {r q : Int32} (hU : UI t (uP z) N G G (t 3 0 4) r q) : OK z N P S G := by
  obtain ⟨k, e, hk⟩ := hM.2.2.1
  exact ⟨hU.MC hM, hU.SC hM e hk⟩
theorem go_RA {t0 : sMem} (hM : MI t0 N P S G) (h0 : t 3 = t0 3) (hO : OK t N P S G) (h : SM t z G) {cm : Nat → Bool} (hc : cmF z = cm) {kd : Nat} (hk : kd < 2 ^ 31) : RA (cP t G) (goM z (nI kd) P S) P S G (daA (cP t G) cm P G S kd) := by
  have hG := hM.1.2.2.2.2.2
  unfold goM
  rw [h.1 3 (by decide) (by decide) (by decide), h0, hM.1.2.2.2.2.1, nI_clamp (by omega)]
  have e := cn_go (x := nI G) h
  rw [h.1 3 (by decide) (by decide) (by decide), h0] at e
  have hc2 : cmF (sUp (sUp z 0 0 26 (nI G)) 0 0 27 (t0 3 0 4)) = cm := by
    rw [← hc]
    exact cm_cg (by rw [sUp_off (by decide), sUp_off (by decide)]) (by rw [sUp_k (by decide), sUp_k (by decide)]) (by rw [sUp_k (by decide), sUp_k (by decide)])
  have hR := day_RA (u := sUp (sUp z 0 0 26 (nI G)) 0 0 27 (t0 3 0 4)) (G := G) (kd := kd) (by rw [e]; exact hO.1) (by rw [e]; exact hO.2) hk
  rw [e, hc2] at hR
  exact hR
end
def dyA (c : sMem) (D : DA) (P S : Nat) (w : Int32) : Int32 := if w = 0 then nI (cosA c D P) else if w = 1 then nI (cnA (lefA D) S) else if w = 2 then nI D.2.2.2.2.2 else if w = 3 then nI D.2.2.2.2.1 else nI (cnA (arrA D) S)
def leA (L : List Nat) (i : Int32) : Int32 := if 0 ≤ i ∧ i ≤ nI L.length - 1 then nI (L.getD i.toNatClampNeg 0) else -1
def juB (c : sMem) (D : DA) (w : Int32) (s : Nat) : Bool := if w = 0 then decide ((D.2.1 s).2.2.1 = none) else match tlO c s with
  | none => false
  | some p => !(D.2.1 s).2.2.2.contains p
def juA (c : sMem) (D : DA) (w : Int32) : Nat → Nat → Int32
  | 0, _ => -1
  | f + 1, s => if juB c D w s = true then nI s else juA c D w f (s + 1)
section
variable {c x : sMem} {N P S G B : Nat} {D : DA}
theorem dy_RA (hM : MC c N P S) (hV : DV c N P S B D) (hL : DLo c P D) (hR : RA c x P S G D) (w : Int32) : dyR x P S w = dyA c D P S w := by
  unfold dyR dyA
  rw [cs_RA hM hV hL hR P (Nat.le_refl _), lf_RA hV hR S (Nat.le_refl _), ar_RA hV hR S (Nat.le_refl _), hR.2.2.2.2.2.1, hR.2.2.2.2.2.2]
theorem le_RA (hV : DV c N P S B D) (hR : RA c x P S G D) {s : Nat} (hs : s < S) (i : Int32) : (if 0 ≤ i ∧ i ≤ x 28 0 s - 1 then x 29 s i.toNatClampNeg else -1) = leA (D.2.1 s).2.2.2 i := by
  have h1 := (hV.2.1 s hs).2.2.2.2.2.1
  obtain ⟨-, -, -, e28, e29⟩ := hR.2.2.1 s hs
  unfold leA
  rw [e28]
  by_cases hc : 0 ≤ i ∧ i ≤ nI (D.2.1 s).2.2.2.length - 1
  · rw [if_pos hc, if_pos hc]
    obtain ⟨k, rfl, hk⟩ := in_nI (by omega) hc
    rw [nI_clamp (show k < 2 ^ 31 by omega)]
    refine e29 k _ ?_
    rw [List.getD_eq_getElem?_getD, List.getElem?_eq_getElem hk]
    rfl
  · rw [if_neg hc, if_neg hc]
theorem il_RA (hV : DV c N P S B D) (hR : RA c x P S G D) {s : Nat} (hs : s < S) {p : Nat} (hp : p < 2 ^ 31) : ilM x s (nI p) = (D.2.1 s).2.2.2.contains p := by
  have h1 := (hV.2.1 s hs).2.2.2.2.2.1
  have h2 := (hV.2.1 s hs).2.2.2.2.2.2
  obtain ⟨-, -, -, e28, e29⟩ := hR.2.2.1 s hs
  generalize (D.2.1 s).2.2.2 = L at h1 h2 e28 e29 ⊢
  have key : ∀ f k, k + f = 41 → ilS x s (nI p) f k = (L.drop k).contains p := by
    intro f
    induction f with
    | zero =>
      intro k hk
      rw [List.drop_eq_nil_of_le (by omega)]
      rfl
    | succ f ih =>
      intro k hk
      unfold ilS
      rw [e28]
      by_cases hl : k < L.length
      · rw [if_pos ⟨(nI_ltI (by omega) (by omega)).mpr hl, by omega⟩, List.drop_eq_getElem_cons hl, List.contains_cons, e29 k _ (List.getElem?_eq_getElem hl), ih (k + 1) (by omega)]
        have hw := h2 _ (List.getElem_mem hl)
        by_cases e : L[k] = p
        · rw [if_pos (by rw [e]), e, beq_self_eq_true, Bool.true_or]
        · rw [if_neg (fun q => e ((nI_eq (by omega) (by omega)).mp q)), show (p == L[k]) = false from beq_eq_false_iff_ne.mpr (fun q => e q.symm), Bool.false_or]
      · rw [if_neg (fun q => hl ((nI_ltI (by omega) (by omega)).mp q.1)), List.drop_eq_nil_of_le (by omega)]
        rfl
  unfold ilM
  rw [key 41 0 rfl]
  rfl
theorem ju_RA (hM : MC c N P S) (hSC : SC c N P S G) (hV : DV c N P S B D) (hR : RA c x P S G D) (w : Int32) : ∀ f s, s + f ≤ S → juL x w f s = juA c D w f s
  | 0, _, _ => rfl
  | f + 1, s, hs => by
    have hP := hM.2.2.1
    unfold juL juA
    rw [ju_RA hM hSC hV hR w f (s + 1) (by omega)]
    have e27 := (hR.2.2.1 s (by omega)).2.2.1
    have h3 := (hV.2.1 s (by omega)).2.2.1
    have e16 := hR.1.1 16 (by omega)
    have hiff : (if w = 0 then x 27 0 s = -1 else x 16 0 s ≠ -1 ∧ ilM x s (x 16 0 s) = false) ↔ juB c D w s = true := by
      unfold juB
      by_cases hw : w = 0
      · rw [if_pos hw, if_pos hw, e27, decide_eq_true_iff]
        exact oI_inj (fun k hk => by have := h3 k hk; omega)
      · rw [if_neg hw, if_neg hw, e16]
        cases ht : tlO c s with
        | none =>
          unfold tlO at ht
          split at ht
          · rename_i h9
            exact ⟨fun q => absurd h9 q.1, fun q => by cases q⟩
          · cases ht
        | some p =>
          obtain ⟨h8, h9⟩ := hSC.2.2.2 s (by omega) p ht
          rw [h9, il_RA hV hR (by omega) (show p < 2 ^ 31 by omega)]
          dsimp only
          constructor
          · intro q; rw [q.2]; rfl
          · intro q
            refine ⟨nI_ne (by omega), ?_⟩
            cases hh : (D.2.1 s).2.2.2.contains p with
            | false => rfl
            | true => rw [hh] at q; cases q
    by_cases hj : juB c D w s = true
    · rw [if_pos (hiff.mpr hj), if_pos hj]
    · rw [if_neg (fun q => hj (hiff.mp q)), if_neg hj]
end
