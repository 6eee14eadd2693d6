/-! THE CLASS'S SETTING -/
def btO (f : Nat → Bool) : Nat → Nat
  | 0 => 0
  | s + 1 => btO f s + if f s then 2 ^ s else 0
theorem btO_lt (f : Nat → Bool) : ∀ n, btO f n < 2 ^ n
  | 0 => Nat.one_pos
  | n + 1 => by
    have := btO_lt f n
    unfold btO
    rw [Nat.pow_succ]
    split <;> omega
theorem btO_bit (f : Nat → Bool) : ∀ n s, s < n → (btO f n / 2 ^ s) % 2 = if f s then 1 else 0
  | 0, s, h => absurd h (Nat.not_lt_zero _)
  | n + 1, s, h => by
    have hl := btO_lt f n
    show ((btO f n + if f n then 2 ^ n else 0) / 2 ^ s) % 2 = _
    by_cases e : s = n
    · subst e
      have hp : 0 < 2 ^ s := Nat.two_pow_pos s
      cases f s with
      | true => simp only [if_true]; rw [Nat.add_div_right _ hp, Nat.div_eq_of_lt hl]
      | false => simp only [Bool.false_eq_true, if_false, Nat.add_zero]; rw [Nat.div_eq_of_lt hl]
    · have ih := btO_bit f n s (by omega)
      cases f n with
      | true =>
        simp only [if_true]
        have e2 : 2 ^ n = 2 ^ s * (2 * 2 ^ (n - s - 1)) := by
          rw [← Nat.mul_assoc, Nat.mul_comm (2 ^ s) 2, ← Nat.pow_succ', ← Nat.pow_add]
          congr 1; omega
        rw [e2, Nat.add_mul_div_left _ _ (Nat.two_pow_pos s), Nat.add_mul_mod_self_left]
        exact ih
      | false => simp only [Bool.false_eq_true, if_false, Nat.add_zero]; exact ih
theorem btO_all : ∀ n, btO (fun _ => true) n = 2 ^ n - 1
  | 0 => rfl
  | n + 1 => by
    have := btO_all n
    have hp : 0 < 2 ^ n := Nat.two_pow_pos n
    show btO (fun _ => true) n + 2 ^ n = _
    rw [Nat.pow_succ]
    omega
set_option maxRecDepth 100000 in
theorem hb_num : ∀ s, s < 8 → ∀ w, w < 256 → hb (nI w) (nI s) = decide ((w / 2 ^ s) % 2 = 1) := by decide +kernel
set_option maxRecDepth 100000 in
theorem or_num : ∀ s, s < 8 → ∀ w, w < 256 → w < 2 ^ s → nI w ||| (1 <<< (nI s &&& 31)) = nI (w + 2 ^ s) := by decide +kernel
theorem all_num : ∀ s, s < 13 → (1 : Int32) <<< (nI s &&& 31) - 1 = nI (2 ^ s - 1) := by decide +kernel
theorem hb_btO (f : Nat → Bool) {S s : Nat} (hS : S ≤ 8) (hs : s < S) : hb (nI (btO f S)) (nI s) = f s := by
  have h1 := btO_lt f S
  have h2 : 2 ^ S ≤ 2 ^ 8 := Nat.pow_le_pow_right (by decide) hS
  have h3 : btO f S < 256 := Nat.lt_of_lt_of_le h1 h2
  rw [hb_num s (by omega) _ h3, btO_bit f S s hs]
  cases f s with
  | true => rfl
  | false => rfl
def popN : Nat → Nat → Nat
  | 0, _ => 0
  | f + 1, w => w % 2 + popN f (w / 2)
set_option maxRecDepth 100000 in
theorem bc_num : ∀ w, w < 4096 → bcI (nI w) = nI (popN 12 w) := by decide +kernel
theorem pop_btO (f : Nat → Bool) : ∀ n k, n ≤ k → popN k (btO f n) = cnA f n := by
  have hz : ∀ k, popN k 0 = 0 := by
    intro k
    induction k with
    | zero => rfl
    | succ k ih => show 0 % 2 + popN k (0 / 2) = 0; rw [show 0 / 2 = 0 from rfl, ih]
  have key : ∀ n k w, w < 2 ^ n → n < k → popN k (w + 2 ^ n) = popN k w + 1 := by
    intro n
    induction n with
    | zero =>
      intro k w hw hk
      have : w = 0 := by omega
      subst this
      obtain ⟨k, rfl⟩ : ∃ j, k = j + 1 := ⟨k - 1, by omega⟩
      show 1 % 2 + popN k 0 = 0 % 2 + popN k 0 + 1
      rw [hz]
    | succ n ih =>
      intro k w hw hk
      obtain ⟨k, rfl⟩ : ∃ j, k = j + 1 := ⟨k - 1, by omega⟩
      show (w + 2 ^ (n + 1)) % 2 + popN k ((w + 2 ^ (n + 1)) / 2) = w % 2 + popN k (w / 2) + 1
      have e1 : (w + 2 ^ (n + 1)) % 2 = w % 2 := by rw [Nat.pow_succ]; omega
      have e2 : (w + 2 ^ (n + 1)) / 2 = w / 2 + 2 ^ n := by rw [Nat.pow_succ]; omega
      rw [Nat.pow_succ] at hw
      rw [e1, e2, ih k (w / 2) (by omega) (by omega)]
      omega
  intro n
  induction n with
  | zero => intro k _; exact hz k
  | succ n ih =>
    intro k hk
    show popN k (btO f n + if f n then 2 ^ n else 0) = cnA f n + if f n then 1 else 0
    cases f n with
    | true => simp only [if_true]; rw [key n k _ (btO_lt f n) (by omega), ih k (by omega)]
    | false => simp only [Bool.false_eq_true, if_false, Nat.add_zero]; exact ih k (by omega)
/-- what copyFrom lays -/
def CY (σ : sMem) (v : Nat) (σ' : sMem) : Prop := (∀ i, i < 76 ∨ 80 < i → σ' i = σ i) ∧ σ' 76 0 0 = σ v 0 17 ∧ σ' 76 0 1 = σ v 0 13 ∧ (∀ g, g < 4 → σ' 77 0 g = σ (v + 15) 0 g ∧ σ' 78 0 g = σ (v + 16) 0 g) ∧ (∀ x, x < 12 → σ' 79 0 x = σ (v + 17) 0 x) ∧ (∀ s, s < 8 → σ' 80 0 s = σ 72 0 s) ∧ σ' 76 0 6 = (1 : Int32) <<< (σ v 0 7 &&& 31) - 1 ∧ σ' 76 0 7 = -1
theorem cpy_at {f g : Nat → Int32} {n k : Nat} (h : k < n) : va_cpy f g 0 0 n k = f k := by
  unfold va_cpy
  rw [if_pos ⟨Nat.zero_le _, by omega⟩]
  congr 1
  omega
section
variable {l : Launch} {D0 : va_G} {b0 : Nat} {ty : Nat → ClassId} {ad av : Nat → Nat}
theorem c5_copyFrom_36 (d : Nat) (σ : sMem) : yMet l D0 b0 ty ad av lay (d + 1) 0 mX5_copyFrom [aR 76, aR 36, aR 72] σ (fun r σ' => r = [] ∧ CY σ 36 σ') (fun _ _ => False) := by
  refine yMet_intro lay_nd kX5_copyFrom xX5_ok (yY5_ok _) (by decide +kernel) rfl ?_
  intro K hK
  iterate 3 refine hK _ _ _ _ _ ?_
  iterate 4 refine hK _ _ _ _ _ ?_
  show K _ _ _ _ _
  rw [sUp_off (by decide)]
  iterate 9 refine hK _ _ _ _ _ ?_
  refine ⟨51, 0, 4, 77, 0, 6, 0, 0, 4, ⟨rfl, rfl, rfl⟩, ⟨rfl, rfl, rfl⟩, rfl, rfl, rfl, by decide, by decide, by decide, by decide, ?_⟩
  have e0 : ∀ i, i ≠ 77 → (sRow (sUp (sUp σ 76 0 0 (σ 36 0 17)) 76 0 1 (σ 36 0 13)) 77 0 (va_cpy ((sUp (sUp σ 76 0 0 (σ 36 0 17)) 76 0 1 (σ 36 0 13)) 51 0) ((sUp (sUp σ 76 0 0 (σ 36 0 17)) 76 0 1 (σ 36 0 13)) 77 0) 0 0 4)) i = (sUp (sUp σ 76 0 0 (σ 36 0 17)) 76 0 1 (σ 36 0 13)) i := fun i hi => sRow_off hi
  have a0 : ∀ x, x < 4 → (sRow (sUp (sUp σ 76 0 0 (σ 36 0 17)) 76 0 1 (σ 36 0 13)) 77 0 (va_cpy ((sUp (sUp σ 76 0 0 (σ 36 0 17)) 76 0 1 (σ 36 0 13)) 51 0) ((sUp (sUp σ 76 0 0 (σ 36 0 17)) 76 0 1 (σ 36 0 13)) 77 0) 0 0 4)) 77 0 x = (sUp (sUp σ 76 0 0 (σ 36 0 17)) 76 0 1 (σ 36 0 13)) 51 0 x := fun x hx => by rw [sRow_at, cpy_at hx]
  generalize (sRow (sUp (sUp σ 76 0 0 (σ 36 0 17)) 76 0 1 (σ 36 0 13)) 77 0 (va_cpy ((sUp (sUp σ 76 0 0 (σ 36 0 17)) 76 0 1 (σ 36 0 13)) 51 0) ((sUp (sUp σ 76 0 0 (σ 36 0 17)) 76 0 1 (σ 36 0 13)) 77 0) 0 0 4)) = m0 at e0 a0 ⊢
  have t0 : ∀ i, i ≠ 77 → i ≠ 76 → m0 i = σ i := fun i h1 h2 => by rw [e0 i h1, sUp_off h2, sUp_off h2]
  have t6 : ∀ k, k ≠ 0 → k ≠ 1 → m0 76 0 k = σ 76 0 k := fun k h1 h2 => by rw [e0 76 (by decide), sUp_k h2, sUp_k h1]
  have t00 : m0 76 0 0 = σ 36 0 17 := by rw [e0 76 (by decide), sUp_k (by decide), sUp_at]
  have t01 : m0 76 0 1 = σ 36 0 13 := by rw [e0 76 (by decide), sUp_at]
  iterate 8 refine hK _ _ _ _ _ ?_
  refine ⟨52, 0, 4, 78, 0, 6, 0, 0, 4, ⟨rfl, rfl, rfl⟩, ⟨rfl, rfl, rfl⟩, rfl, rfl, rfl, by decide, by decide, by decide, by decide, ?_⟩
  have e1 : ∀ i, i ≠ 78 → (sRow m0 78 0 (va_cpy (m0 52 0) (m0 78 0) 0 0 4)) i = m0 i := fun i hi => sRow_off hi
  have a1 : ∀ x, x < 4 → (sRow m0 78 0 (va_cpy (m0 52 0) (m0 78 0) 0 0 4)) 78 0 x = m0 52 0 x := fun x hx => by rw [sRow_at, cpy_at hx]
  generalize (sRow m0 78 0 (va_cpy (m0 52 0) (m0 78 0) 0 0 4)) = m1 at e1 a1 ⊢
  iterate 8 refine hK _ _ _ _ _ ?_
  refine ⟨53, 0, 12, 79, 0, 12, 0, 0, 12, ⟨rfl, rfl, rfl⟩, ⟨rfl, rfl, rfl⟩, rfl, rfl, rfl, by decide, by decide, by decide, by decide, ?_⟩
  have e2 : ∀ i, i ≠ 79 → (sRow m1 79 0 (va_cpy (m1 53 0) (m1 79 0) 0 0 12)) i = m1 i := fun i hi => sRow_off hi
  have a2 : ∀ x, x < 12 → (sRow m1 79 0 (va_cpy (m1 53 0) (m1 79 0) 0 0 12)) 79 0 x = m1 53 0 x := fun x hx => by rw [sRow_at, cpy_at hx]
  generalize (sRow m1 79 0 (va_cpy (m1 53 0) (m1 79 0) 0 0 12)) = m2 at e2 a2 ⊢
  iterate 7 refine hK _ _ _ _ _ ?_
  refine ⟨72, 0, 8, 80, 0, 8, 0, 0, 8, ⟨rfl, rfl, rfl⟩, ⟨rfl, rfl, rfl⟩, rfl, rfl, rfl, by decide, by decide, by decide, by decide, ?_⟩
  have e3 : ∀ i, i ≠ 80 → (sRow m2 80 0 (va_cpy (m2 72 0) (m2 80 0) 0 0 8)) i = m2 i := fun i hi => sRow_off hi
  have a3 : ∀ x, x < 8 → (sRow m2 80 0 (va_cpy (m2 72 0) (m2 80 0) 0 0 8)) 80 0 x = m2 72 0 x := fun x hx => by rw [sRow_at, cpy_at hx]
  generalize (sRow m2 80 0 (va_cpy (m2 72 0) (m2 80 0) 0 0 8)) = m3 at e3 a3 ⊢
  iterate 3 refine hK _ _ _ _ _ ?_
  refine hK _ _ _ _ _ ?_
  refine calD (c8_allBits _ _ _) ?_
  rintro r σ' ⟨rfl, hσ⟩
  subst σ'
  rw [show m3 36 0 7 = σ 36 0 7 by rw [e3 36 (by decide), e2 36 (by decide), e1 36 (by decide), t0 36 (by decide) (by decide)]]
  iterate 5 refine hK _ _ _ _ _ ?_
  refine ⟨rfl, fun i hi => ?_, ?_, ?_, fun g hg => ⟨?_, ?_⟩, fun x hx => ?_, fun u hu => ?_, ?_, ?_⟩
  · rw [sUp_off (by omega), sUp_off (by omega), e3 i (by omega), e2 i (by omega), e1 i (by omega), t0 i (by omega) (by omega)]
  · rw [sUp_k (by decide), sUp_k (by decide), e3 76 (by decide), e2 76 (by decide), e1 76 (by decide), t00]
  · rw [sUp_k (by decide), sUp_k (by decide), e3 76 (by decide), e2 76 (by decide), e1 76 (by decide), t01]
  · rw [sUp_off (by decide), sUp_off (by decide), e3 77 (by decide), e2 77 (by decide), e1 77 (by decide), a0 g hg, sUp_off (by decide), sUp_off (by decide)]
  · rw [sUp_off (by decide), sUp_off (by decide), e3 78 (by decide), e2 78 (by decide), a1 g hg, t0 52 (by decide) (by decide)]
  · rw [sUp_off (by decide), sUp_off (by decide), e3 79 (by decide), a2 x hx, e1 53 (by decide), t0 53 (by decide) (by decide)]
  · rw [sUp_off (by decide), sUp_off (by decide), a3 u hu, e2 72 (by decide), e1 72 (by decide), t0 72 (by decide) (by decide)]
  · rw [sUp_k (by decide), sUp_at]
  · rw [sUp_at]; rfl
set_option maxHeartbeats 2000000 in
theorem c5_drawComing_36 (d : Nat) (σ t : sMem) (S : Nat) (hS8 : S ≤ 8) (eS : σ 36 0 7 = nI S) (h31 : ¬ t 0 0 31 = 0) (hc : ∀ s, s < S → σ 49 0 s = t 8 s 3) : sMet l D0 b0 ty lay d mX5_drawComing [aR 76, aR 36, aI (t 0 0 30)] σ (fun r σ' => r = [] ∧ σ' = sUp σ 76 0 6 (nI (btO (cmF t) S))) := by
  refine sMet_intro lay_nd kX5_drawComing xX5_ok (by decide +kernel) rfl ?_
  intro K hK
  iterate 7 refine hK _ _ _ _ ?_
  show K _ _ _ _
  have L10 : ∀ (f : Nat) (s : Nat) (μ : sMem) (e : Int32) (e5 : Option AV), s + f = S → μ = sUp σ 76 0 6 (nI (btO (cmF t) s)) → e = ltA t s → K 10 [some (aR 76), some (aR 36), some (aI (t 0 0 30)), some (aI (e)), some (aI (nI s)), e5] [] μ := by
    intro f
    induction f with
    | zero =>
      intro s μ e e5 hsS hμ hd
      have m7 : μ 36 0 7 = nI S := by rw [hμ, sUp_off (by decide)]; exact eS
      have m6 : μ 76 0 6 = nI (btO (cmF t) s) := by rw [hμ, sUp_at]
      iterate 3 refine hK _ _ _ _ ?_
      show K _ _ _ _
      rw [show μ 36 0 7 = nI S from m7]
      refine hK _ _ _ _ ?_
      refine And.intro (fun _ => ?_) (fun h => absurd ((nI_leI (by omega) (by omega)).mpr (by omega)) h)
      refine hK _ _ _ _ ?_
      exact ⟨rfl, by rw [hμ, show s = S by omega]⟩
    | succ f ih =>
      intro s μ e e5 hsS hμ hd
      have m7 : μ 36 0 7 = nI S := by rw [hμ, sUp_off (by decide)]; exact eS
      have m6 : μ 76 0 6 = nI (btO (cmF t) s) := by rw [hμ, sUp_at]
      have m13 : μ 49 0 s = t 8 s 3 := by rw [hμ, sUp_off (by decide)]; exact hc s (by omega)
      have hb9 := btO_lt (cmF t) s
      have hb8 : 2 ^ s ≤ 2 ^ 8 := Nat.pow_le_pow_right (by decide) (by omega)
      have hlt : ltA t (s + 1) = if t 0 0 31 = 0 ∨ t 8 s 3 = 8 then ltA t s else ltA t s * 1103515245 + 12345 := rfl
      have hbo : btO (cmF t) (s + 1) = btO (cmF t) s + if cmF t s = true then 2 ^ s else 0 := rfl
      iterate 3 refine hK _ _ _ _ ?_
      show K _ _ _ _
      rw [show μ 36 0 7 = nI S from m7]
      refine hK _ _ _ _ ?_
      refine And.intro (fun h => absurd ((nI_leI (by omega) (by omega)).mp h) (by omega)) (fun _ => ?_)
      iterate 4 refine hK _ _ _ _ ?_
      refine And.intro (vp_in_nI (n := s) (by omega) (by decide)) ?_
      rw [nI_clamp (show s < 2 ^ 31 by omega)]
      rw [show μ 49 0 s = t 8 s 3 from m13]
      iterate 2 refine hK _ _ _ _ ?_
      refine And.intro (fun h9 => ?_) (fun h9 => ?_)
      · have h9' : ¬ t 8 s 3 = 8 := h9
        have hnx : ltA t (s + 1) = ltA t s * 1103515245 + 12345 := by rw [hlt, if_neg (fun q => q.elim h31 h9')]
        have hbits : ∀ x : Int32, ushI x 16 &&& (7 : Int32) = (x >>> ((16 : Int32) &&& 31)) &&& 7 := fun x => by
          apply Int32.toBitVec_inj.mp
          apply BitVec.eq_of_getLsbD_eq
          intro i hi
          rw [Int32.toBitVec_and, Int32.toBitVec_and, BitVec.getLsbD_and, BitVec.getLsbD_and]
          by_cases h3 : i < 3
          · have e2 : (ushI x 16).toBitVec.getLsbD i = x.toBitVec.getLsbD (16 + i) := by
              show (x.toBitVec >>> (16#32 % 32#32)).getLsbD i = _
              rw [BitVec.ushiftRight_eq', BitVec.getLsbD_ushiftRight]
              rfl
            have e3 : (x >>> ((16 : Int32) &&& 31)).toBitVec.getLsbD i = x.toBitVec.getLsbD (16 + i) := by
              rw [Int32.toBitVec_shiftRight, BitVec.sshiftRight_eq', BitVec.getLsbD_sshiftRight]
              have e5 : (((16 : Int32) &&& 31).toBitVec.smod 32).toNat = 16 := by decide
              rw [e5]
              have : 16 + i < 32 := by omega
              simp [this, hi]
            rw [e2, e3]
          · have e7 : (7 : Int32).toBitVec.getLsbD i = false := by
              have : ∀ i : Nat, i < 32 → ¬ i < 3 → (7 : Int32).toBitVec.getLsbD i = false := by decide
              exact this i hi h3
            rw [e7, Bool.and_false, Bool.and_false]
        iterate 4 refine hK _ _ _ _ ?_
        refine And.intro (fun h7 => absurd rfl h7) (fun _ => ?_)
        iterate 15 refine hK _ _ _ _ ?_
        refine And.intro (vp_in_nI (n := s) (by omega) (by decide)) ?_
        rw [nI_clamp (show s < 2 ^ 31 by omega)]
        rw [show μ 49 0 s = t 8 s 3 from m13]
        refine hK _ _ _ _ ?_
        refine And.intro (fun h6 => ?_) (fun h6 => ?_)
        · have hcm : cmF t s = false := by
            unfold cmF
            rw [show decide (((ltA t s * 1103515245 + 12345) >>> (16 &&& 31)) &&& 7 < t 8 s 3) = false from decide_eq_false (by rw [← hbits, ← hd]; exact Int32.not_lt.mpr h6), decide_eq_false (fun q => q.elim h31 h9')]
            rfl
          iterate 4 refine hK _ _ _ _ ?_
          refine And.intro (fun _ => ?_) (fun h5 => absurd rfl h5)
          refine hK _ _ _ _ ?_
          show K _ _ _ _
          rw [show nI s + Int32.ofInt 1 = nI (s + 1) from nIs _]
          refine hK _ _ _ _ ?_
          refine ih (s + 1) μ _ _ (by omega) ?_ ?_
          · rw [hμ, hbo, hcm]; rfl
          · rw [hnx, hd]; rfl
        · have hcm : cmF t s = true := by
            unfold cmF
            rw [show decide (((ltA t s * 1103515245 + 12345) >>> (16 &&& 31)) &&& 7 < t 8 s 3) = true from decide_eq_true (by rw [← hbits, ← hd]; exact Int32.not_le.mp h6), Bool.or_true]
          iterate 5 refine hK _ _ _ _ ?_
          refine And.intro (fun h5 => absurd h5 (by decide)) (fun _ => ?_)
          iterate 3 refine hK _ _ _ _ ?_
          show K _ _ _ _
          rw [show μ 76 0 6 = nI (btO (cmF t) s) from m6]
          iterate 4 refine hK _ _ _ _ ?_
          show K _ _ _ _
          rw [show nI (btO (cmF t) s) ||| (Int32.ofInt 1 <<< (nI s &&& 31)) = nI (btO (cmF t) s + 2 ^ s) from or_num s (by omega) _ (by omega) hb9]
          iterate 2 refine hK _ _ _ _ ?_
          show K _ _ _ _
          rw [show nI s + Int32.ofInt 1 = nI (s + 1) from nIs _]
          refine hK _ _ _ _ ?_
          refine ih (s + 1) _ _ _ (by omega) ?_ ?_
          · rw [hμ, sUp_twice, hbo, hcm, if_pos rfl]
          · rw [hnx, hd]; rfl
      · have hcm : cmF t s = true := by unfold cmF; rw [decide_eq_true (Or.inr (show t 8 s 3 = 8 from h9)), Bool.true_or]
        iterate 5 refine hK _ _ _ _ ?_
        refine And.intro (fun _ => ?_) (fun h7 => absurd h7 (by decide))
        iterate 2 refine hK _ _ _ _ ?_
        refine And.intro (fun h7 => absurd h7 (by decide)) (fun _ => ?_)
        iterate 3 refine hK _ _ _ _ ?_
        show K _ _ _ _
        rw [show μ 76 0 6 = nI (btO (cmF t) s) from m6]
        iterate 4 refine hK _ _ _ _ ?_
        show K _ _ _ _
        rw [show nI (btO (cmF t) s) ||| (Int32.ofInt 1 <<< (nI s &&& 31)) = nI (btO (cmF t) s + 2 ^ s) from or_num s (by omega) _ (by omega) hb9]
        iterate 2 refine hK _ _ _ _ ?_
        show K _ _ _ _
        rw [show nI s + Int32.ofInt 1 = nI (s + 1) from nIs _]
        refine hK _ _ _ _ ?_
        refine ih (s + 1) _ _ _ (by omega) ?_ ?_
        · rw [hμ, sUp_twice, hbo, hcm, if_pos rfl]
        · rw [hlt, if_pos (Or.inr (show t 8 s 3 = 8 from h9))]; exact hd
  exact L10 S 0 _ _ none (by omega) rfl rfl
theorem c5_copyFrom_54 (d : Nat) (σ : sMem) : yMet l D0 b0 ty ad av lay (d + 1) 0 mX5_copyFrom [aR 76, aR 54, aR 72] σ (fun r σ' => r = [] ∧ CY σ 54 σ') (fun _ _ => False) := by
  refine yMet_intro lay_nd kX5_copyFrom xX5_ok (yY5_ok _) (by decide +kernel) rfl ?_
  intro K hK
  iterate 3 refine hK _ _ _ _ _ ?_
  iterate 4 refine hK _ _ _ _ _ ?_
  show K _ _ _ _ _
  rw [sUp_off (by decide)]
  iterate 9 refine hK _ _ _ _ _ ?_
  refine ⟨69, 0, 4, 77, 0, 6, 0, 0, 4, ⟨rfl, rfl, rfl⟩, ⟨rfl, rfl, rfl⟩, rfl, rfl, rfl, by decide, by decide, by decide, by decide, ?_⟩
  have e0 : ∀ i, i ≠ 77 → (sRow (sUp (sUp σ 76 0 0 (σ 54 0 17)) 76 0 1 (σ 54 0 13)) 77 0 (va_cpy ((sUp (sUp σ 76 0 0 (σ 54 0 17)) 76 0 1 (σ 54 0 13)) 69 0) ((sUp (sUp σ 76 0 0 (σ 54 0 17)) 76 0 1 (σ 54 0 13)) 77 0) 0 0 4)) i = (sUp (sUp σ 76 0 0 (σ 54 0 17)) 76 0 1 (σ 54 0 13)) i := fun i hi => sRow_off hi
  have a0 : ∀ x, x < 4 → (sRow (sUp (sUp σ 76 0 0 (σ 54 0 17)) 76 0 1 (σ 54 0 13)) 77 0 (va_cpy ((sUp (sUp σ 76 0 0 (σ 54 0 17)) 76 0 1 (σ 54 0 13)) 69 0) ((sUp (sUp σ 76 0 0 (σ 54 0 17)) 76 0 1 (σ 54 0 13)) 77 0) 0 0 4)) 77 0 x = (sUp (sUp σ 76 0 0 (σ 54 0 17)) 76 0 1 (σ 54 0 13)) 69 0 x := fun x hx => by rw [sRow_at, cpy_at hx]
  generalize (sRow (sUp (sUp σ 76 0 0 (σ 54 0 17)) 76 0 1 (σ 54 0 13)) 77 0 (va_cpy ((sUp (sUp σ 76 0 0 (σ 54 0 17)) 76 0 1 (σ 54 0 13)) 69 0) ((sUp (sUp σ 76 0 0 (σ 54 0 17)) 76 0 1 (σ 54 0 13)) 77 0) 0 0 4)) = m0 at e0 a0 ⊢
  have t0 : ∀ i, i ≠ 77 → i ≠ 76 → m0 i = σ i := fun i h1 h2 => by rw [e0 i h1, sUp_off h2, sUp_off h2]
  have t6 : ∀ k, k ≠ 0 → k ≠ 1 → m0 76 0 k = σ 76 0 k := fun k h1 h2 => by rw [e0 76 (by decide), sUp_k h2, sUp_k h1]
  have t00 : m0 76 0 0 = σ 54 0 17 := by rw [e0 76 (by decide), sUp_k (by decide), sUp_at]
  have t01 : m0 76 0 1 = σ 54 0 13 := by rw [e0 76 (by decide), sUp_at]
  iterate 8 refine hK _ _ _ _ _ ?_
  refine ⟨70, 0, 4, 78, 0, 6, 0, 0, 4, ⟨rfl, rfl, rfl⟩, ⟨rfl, rfl, rfl⟩, rfl, rfl, rfl, by decide, by decide, by decide, by decide, ?_⟩
  have e1 : ∀ i, i ≠ 78 → (sRow m0 78 0 (va_cpy (m0 70 0) (m0 78 0) 0 0 4)) i = m0 i := fun i hi => sRow_off hi
  have a1 : ∀ x, x < 4 → (sRow m0 78 0 (va_cpy (m0 70 0) (m0 78 0) 0 0 4)) 78 0 x = m0 70 0 x := fun x hx => by rw [sRow_at, cpy_at hx]
  generalize (sRow m0 78 0 (va_cpy (m0 70 0) (m0 78 0) 0 0 4)) = m1 at e1 a1 ⊢
  iterate 8 refine hK _ _ _ _ _ ?_
  refine ⟨71, 0, 12, 79, 0, 12, 0, 0, 12, ⟨rfl, rfl, rfl⟩, ⟨rfl, rfl, rfl⟩, rfl, rfl, rfl, by decide, by decide, by decide, by decide, ?_⟩
  have e2 : ∀ i, i ≠ 79 → (sRow m1 79 0 (va_cpy (m1 71 0) (m1 79 0) 0 0 12)) i = m1 i := fun i hi => sRow_off hi
  have a2 : ∀ x, x < 12 → (sRow m1 79 0 (va_cpy (m1 71 0) (m1 79 0) 0 0 12)) 79 0 x = m1 71 0 x := fun x hx => by rw [sRow_at, cpy_at hx]
  generalize (sRow m1 79 0 (va_cpy (m1 71 0) (m1 79 0) 0 0 12)) = m2 at e2 a2 ⊢
  iterate 7 refine hK _ _ _ _ _ ?_
  refine ⟨72, 0, 8, 80, 0, 8, 0, 0, 8, ⟨rfl, rfl, rfl⟩, ⟨rfl, rfl, rfl⟩, rfl, rfl, rfl, by decide, by decide, by decide, by decide, ?_⟩
  have e3 : ∀ i, i ≠ 80 → (sRow m2 80 0 (va_cpy (m2 72 0) (m2 80 0) 0 0 8)) i = m2 i := fun i hi => sRow_off hi
  have a3 : ∀ x, x < 8 → (sRow m2 80 0 (va_cpy (m2 72 0) (m2 80 0) 0 0 8)) 80 0 x = m2 72 0 x := fun x hx => by rw [sRow_at, cpy_at hx]
  generalize (sRow m2 80 0 (va_cpy (m2 72 0) (m2 80 0) 0 0 8)) = m3 at e3 a3 ⊢
  iterate 3 refine hK _ _ _ _ _ ?_
  refine hK _ _ _ _ _ ?_
  refine calD (c8_allBits _ _ _) ?_
  rintro r σ' ⟨rfl, hσ⟩
  subst σ'
  rw [show m3 54 0 7 = σ 54 0 7 by rw [e3 54 (by decide), e2 54 (by decide), e1 54 (by decide), t0 54 (by decide) (by decide)]]
  iterate 5 refine hK _ _ _ _ _ ?_
  refine ⟨rfl, fun i hi => ?_, ?_, ?_, fun g hg => ⟨?_, ?_⟩, fun x hx => ?_, fun u hu => ?_, ?_, ?_⟩
  · rw [sUp_off (by omega), sUp_off (by omega), e3 i (by omega), e2 i (by omega), e1 i (by omega), t0 i (by omega) (by omega)]
  · rw [sUp_k (by decide), sUp_k (by decide), e3 76 (by decide), e2 76 (by decide), e1 76 (by decide), t00]
  · rw [sUp_k (by decide), sUp_k (by decide), e3 76 (by decide), e2 76 (by decide), e1 76 (by decide), t01]
  · rw [sUp_off (by decide), sUp_off (by decide), e3 77 (by decide), e2 77 (by decide), e1 77 (by decide), a0 g hg, sUp_off (by decide), sUp_off (by decide)]
  · rw [sUp_off (by decide), sUp_off (by decide), e3 78 (by decide), e2 78 (by decide), a1 g hg, t0 70 (by decide) (by decide)]
  · rw [sUp_off (by decide), sUp_off (by decide), e3 79 (by decide), a2 x hx, e1 71 (by decide), t0 71 (by decide) (by decide)]
  · rw [sUp_off (by decide), sUp_off (by decide), a3 u hu, e2 72 (by decide), e1 72 (by decide), t0 72 (by decide) (by decide)]
  · rw [sUp_k (by decide), sUp_at]
  · rw [sUp_at]; rfl
set_option maxHeartbeats 2000000 in
theorem c5_drawComing_54 (d : Nat) (σ t : sMem) (S : Nat) (hS8 : S ≤ 8) (eS : σ 54 0 7 = nI S) (h31 : ¬ t 0 0 31 = 0) (hc : ∀ s, s < S → σ 67 0 s = t 8 s 3) : sMet l D0 b0 ty lay d mX5_drawComing [aR 76, aR 54, aI (t 0 0 30)] σ (fun r σ' => r = [] ∧ σ' = sUp σ 76 0 6 (nI (btO (cmF t) S))) := by
  refine sMet_intro lay_nd kX5_drawComing xX5_ok (by decide +kernel) rfl ?_
  intro K hK
  iterate 7 refine hK _ _ _ _ ?_
  show K _ _ _ _
  have L10 : ∀ (f : Nat) (s : Nat) (μ : sMem) (e : Int32) (e5 : Option AV), s + f = S → μ = sUp σ 76 0 6 (nI (btO (cmF t) s)) → e = ltA t s → K 10 [some (aR 76), some (aR 54), some (aI (t 0 0 30)), some (aI (e)), some (aI (nI s)), e5] [] μ := by
    intro f
    induction f with
    | zero =>
      intro s μ e e5 hsS hμ hd
      have m7 : μ 54 0 7 = nI S := by rw [hμ, sUp_off (by decide)]; exact eS
      have m6 : μ 76 0 6 = nI (btO (cmF t) s) := by rw [hμ, sUp_at]
      iterate 3 refine hK _ _ _ _ ?_
      show K _ _ _ _
      rw [show μ 54 0 7 = nI S from m7]
      refine hK _ _ _ _ ?_
      refine And.intro (fun _ => ?_) (fun h => absurd ((nI_leI (by omega) (by omega)).mpr (by omega)) h)
      refine hK _ _ _ _ ?_
      exact ⟨rfl, by rw [hμ, show s = S by omega]⟩
    | succ f ih =>
      intro s μ e e5 hsS hμ hd
      have m7 : μ 54 0 7 = nI S := by rw [hμ, sUp_off (by decide)]; exact eS
      have m6 : μ 76 0 6 = nI (btO (cmF t) s) := by rw [hμ, sUp_at]
      have m13 : μ 67 0 s = t 8 s 3 := by rw [hμ, sUp_off (by decide)]; exact hc s (by omega)
      have hb9 := btO_lt (cmF t) s
      have hb8 : 2 ^ s ≤ 2 ^ 8 := Nat.pow_le_pow_right (by decide) (by omega)
      have hlt : ltA t (s + 1) = if t 0 0 31 = 0 ∨ t 8 s 3 = 8 then ltA t s else ltA t s * 1103515245 + 12345 := rfl
      have hbo : btO (cmF t) (s + 1) = btO (cmF t) s + if cmF t s = true then 2 ^ s else 0 := rfl
      iterate 3 refine hK _ _ _ _ ?_
      show K _ _ _ _
      rw [show μ 54 0 7 = nI S from m7]
      refine hK _ _ _ _ ?_
      refine And.intro (fun h => absurd ((nI_leI (by omega) (by omega)).mp h) (by omega)) (fun _ => ?_)
      iterate 4 refine hK _ _ _ _ ?_
      refine And.intro (vp_in_nI (n := s) (by omega) (by decide)) ?_
      rw [nI_clamp (show s < 2 ^ 31 by omega)]
      rw [show μ 67 0 s = t 8 s 3 from m13]
      iterate 2 refine hK _ _ _ _ ?_
      refine And.intro (fun h9 => ?_) (fun h9 => ?_)
      · have h9' : ¬ t 8 s 3 = 8 := h9
        have hnx : ltA t (s + 1) = ltA t s * 1103515245 + 12345 := by rw [hlt, if_neg (fun q => q.elim h31 h9')]
        have hbits : ∀ x : Int32, ushI x 16 &&& (7 : Int32) = (x >>> ((16 : Int32) &&& 31)) &&& 7 := fun x => by
          apply Int32.toBitVec_inj.mp
          apply BitVec.eq_of_getLsbD_eq
          intro i hi
          rw [Int32.toBitVec_and, Int32.toBitVec_and, BitVec.getLsbD_and, BitVec.getLsbD_and]
          by_cases h3 : i < 3
          · have e2 : (ushI x 16).toBitVec.getLsbD i = x.toBitVec.getLsbD (16 + i) := by
              show (x.toBitVec >>> (16#32 % 32#32)).getLsbD i = _
              rw [BitVec.ushiftRight_eq', BitVec.getLsbD_ushiftRight]
              rfl
            have e3 : (x >>> ((16 : Int32) &&& 31)).toBitVec.getLsbD i = x.toBitVec.getLsbD (16 + i) := by
              rw [Int32.toBitVec_shiftRight, BitVec.sshiftRight_eq', BitVec.getLsbD_sshiftRight]
              have e5 : (((16 : Int32) &&& 31).toBitVec.smod 32).toNat = 16 := by decide
              rw [e5]
              have : 16 + i < 32 := by omega
              simp [this, hi]
            rw [e2, e3]
          · have e7 : (7 : Int32).toBitVec.getLsbD i = false := by
              have : ∀ i : Nat, i < 32 → ¬ i < 3 → (7 : Int32).toBitVec.getLsbD i = false := by decide
              exact this i hi h3
            rw [e7, Bool.and_false, Bool.and_false]
        iterate 4 refine hK _ _ _ _ ?_
        refine And.intro (fun h7 => absurd rfl h7) (fun _ => ?_)
        iterate 15 refine hK _ _ _ _ ?_
        refine And.intro (vp_in_nI (n := s) (by omega) (by decide)) ?_
        rw [nI_clamp (show s < 2 ^ 31 by omega)]
        rw [show μ 67 0 s = t 8 s 3 from m13]
        refine hK _ _ _ _ ?_
        refine And.intro (fun h6 => ?_) (fun h6 => ?_)
        · have hcm : cmF t s = false := by
            unfold cmF
            rw [show decide (((ltA t s * 1103515245 + 12345) >>> (16 &&& 31)) &&& 7 < t 8 s 3) = false from decide_eq_false (by rw [← hbits, ← hd]; exact Int32.not_lt.mpr h6), decide_eq_false (fun q => q.elim h31 h9')]
            rfl
          iterate 4 refine hK _ _ _ _ ?_
          refine And.intro (fun _ => ?_) (fun h5 => absurd rfl h5)
          refine hK _ _ _ _ ?_
          show K _ _ _ _
          rw [show nI s + Int32.ofInt 1 = nI (s + 1) from nIs _]
          refine hK _ _ _ _ ?_
          refine ih (s + 1) μ _ _ (by omega) ?_ ?_
          · rw [hμ, hbo, hcm]; rfl
          · rw [hnx, hd]; rfl
        · have hcm : cmF t s = true := by
            unfold cmF
            rw [show decide (((ltA t s * 1103515245 + 12345) >>> (16 &&& 31)) &&& 7 < t 8 s 3) = true from decide_eq_true (by rw [← hbits, ← hd]; exact Int32.not_le.mp h6), Bool.or_true]
          iterate 5 refine hK _ _ _ _ ?_
          refine And.intro (fun h5 => absurd h5 (by decide)) (fun _ => ?_)
          iterate 3 refine hK _ _ _ _ ?_
          show K _ _ _ _
          rw [show μ 76 0 6 = nI (btO (cmF t) s) from m6]
          iterate 4 refine hK _ _ _ _ ?_
          show K _ _ _ _
          rw [show nI (btO (cmF t) s) ||| (Int32.ofInt 1 <<< (nI s &&& 31)) = nI (btO (cmF t) s + 2 ^ s) from or_num s (by omega) _ (by omega) hb9]
          iterate 2 refine hK _ _ _ _ ?_
          show K _ _ _ _
          rw [show nI s + Int32.ofInt 1 = nI (s + 1) from nIs _]
          refine hK _ _ _ _ ?_
          refine ih (s + 1) _ _ _ (by omega) ?_ ?_
          · rw [hμ, sUp_twice, hbo, hcm, if_pos rfl]
          · rw [hnx, hd]; rfl
      · have hcm : cmF t s = true := by unfold cmF; rw [decide_eq_true (Or.inr (show t 8 s 3 = 8 from h9)), Bool.true_or]
        iterate 5 refine hK _ _ _ _ ?_
        refine And.intro (fun _ => ?_) (fun h7 => absurd h7 (by decide))
        iterate 2 refine hK _ _ _ _ ?_
        refine And.intro (fun h7 => absurd h7 (by decide)) (fun _ => ?_)
        iterate 3 refine hK _ _ _ _ ?_
        show K _ _ _ _
        rw [show μ 76 0 6 = nI (btO (cmF t) s) from m6]
        iterate 4 refine hK _ _ _ _ ?_
        show K _ _ _ _
        rw [show nI (btO (cmF t) s) ||| (Int32.ofInt 1 <<< (nI s &&& 31)) = nI (btO (cmF t) s + 2 ^ s) from or_num s (by omega) _ (by omega) hb9]
        iterate 2 refine hK _ _ _ _ ?_
        show K _ _ _ _
        rw [show nI s + Int32.ofInt 1 = nI (s + 1) from nIs _]
        refine hK _ _ _ _ ?_
        refine ih (s + 1) _ _ _ (by omega) ?_ ?_
        · rw [hμ, sUp_twice, hbo, hcm, if_pos rfl]
        · rw [hlt, if_pos (Or.inr (show t 8 s 3 = 8 from h9))]; exact hd
  exact L10 S 0 _ _ none (by omega) rfl rfl
theorem c5_addGuide (d : Nat) (σ : sMem) (g : Nat) (hg : g < 6) (e1 : σ 76 0 1 = nI g) (x f : Int32) : sMet l D0 b0 ty lay d mX5_addGuide [aR 76, aI (x), aI (f)] σ (fun r σ' => r = [] ∧ σ' = sUp (sUp (sUp σ 77 0 g x) 78 0 g f) 76 0 1 (nI (g + 1))) := by
  refine sMet_intro lay_nd kX5_addGuide xX5_ok (by decide +kernel) rfl ?_
  intro K hK
  iterate 2 refine hK _ _ _ _ ?_
  show K _ _ _ _
  rw [show σ 76 0 1 = nI g from e1]
  iterate 4 refine hK _ _ _ _ ?_
  refine And.intro (fun _ => ?_) (fun h => absurd ((nI_ltI (a := g) (b := 6) (by omega) (by decide)).mpr hg) h)
  iterate 4 refine hK _ _ _ _ ?_
  show K _ _ _ _
  rw [show σ 76 0 1 = nI g from e1]
  iterate 2 refine hK _ _ _ _ ?_
  refine And.intro (vp_in_nI (n := g) (by omega) (by decide)) ?_
  rw [nI_clamp (show g < 2 ^ 31 by omega)]
  iterate 4 refine hK _ _ _ _ ?_
  show K _ _ _ _
  rw [sUp_off (by decide), show σ 76 0 1 = nI g from e1]
  iterate 2 refine hK _ _ _ _ ?_
  refine And.intro (vp_in_nI (n := g) (by omega) (by decide)) ?_
  rw [nI_clamp (show g < 2 ^ 31 by omega)]
  iterate 3 refine hK _ _ _ _ ?_
  show K _ _ _ _
  rw [sUp_off (by decide), sUp_off (by decide), show σ 76 0 1 = nI g from e1]
  iterate 2 refine hK _ _ _ _ ?_
  show K _ _ _ _
  rw [show nI g + Int32.ofInt 1 = nI (g + 1) from nIs _]
  iterate 2 refine hK _ _ _ _ ?_
  exact ⟨rfl, rfl⟩
end
