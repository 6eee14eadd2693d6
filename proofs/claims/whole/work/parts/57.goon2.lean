/-! THE CLASS'S COURSE: he goes on, or waits; people move -/
def waA (D : DA) : DA := (D.1, D.2.1, D.2.2.1, D.2.2.2.1, D.2.2.2.2.1, D.2.2.2.2.2 + 1)
section
variable {c : sMem} {N P S G : Nat}
theorem wait_CR {σ : sMem} {v kd s m : Nat} {D : DA} {mv : Bool} (hs : s < S) (hC : CR σ c v kd N P S G D m s mv) (h : (D.2.1 s).2.2.1 = none ∧ (D.2.1 s).2.1 ≤ m) : CR σ c v kd N P S G (waA D) m (s + 1) mv := by
  obtain ⟨hO, hA, hC, wc, hw1, hw2⟩ := hC
  refine ⟨hO, hA, hC, wc, hw1, ?_⟩
  have e1 : peS (waA D) m (s + 1) S = peS D m (s + 1) S := by
    apply peS_eq
    rfl
  have := pe_wait hs h
  show wc + peS (waA D) m (s + 1) S = D.2.2.2.2.2 + 1
  omega
theorem stay_CR {σ : sMem} {v kd s m : Nat} {D : DA} {mv : Bool} (hs : s < S) (hC : CR σ c v kd N P S G D m s mv) (h : ¬ ((D.2.1 s).2.2.1 = none ∧ (D.2.1 s).2.1 ≤ m)) : CR σ c v kd N P S G D m (s + 1) mv := by
  obtain ⟨hO, hA, hC, wc, hw1, hw2⟩ := hC
  refine ⟨hO, hA, hC, wc, hw1, ?_⟩
  rw [pe_stay hs h]
  exact hw2
theorem pf_none {D : DA} {s m : Nat} {ch : Bool} (h : ∀ p, caA c D p s m = false) : ∀ f p, pfA c D s m ch f p none = none
  | 0, _ => rfl
  | f + 1, p => by rw [pfA_n (h p)]; exact pf_none h f (p + 1)
theorem as_nw {D : DA} {s kd m : Nat} (hf : ¬ fN c (D.2.1 s).1 (sY c s) < 1000000) : asA c P G kd s m D = waA D := by
  have hc : ∀ p, caA c D p s m = false := fun p => by
    unfold caA
    rw [decide_eq_false hf]
    simp
  have hg : ∀ f g, gfA c D s m f g = none := by
    intro f
    induction f with
    | zero => intro g; rfl
    | succ f ih =>
      intro g
      unfold gfA
      rw [if_neg (fun z => hf z.2.2)]
      exact ih (g + 1)
  have h1 : asGA c D G s kd m = none := by
    unfold asGA
    split
    · rfl
    · exact hg G 0
  have h2 : asPA c D P s kd m = none := by
    unfold asPA
    split
    · cases tlO c s with
      | none => rfl
      | some p => dsimp only; rw [hc p]; rfl
    · exact pf_none hc P 0
  unfold asA
  dsimp only
  rw [if_neg (fun z => hf z.2), if_neg (fun z => hf z.2.1), h1, h2]
  rfl
theorem ld_cases {D : DA} {s kd m : Nat} (hs : s < S) (hS : SC c N P S G) (h1 : ¬ (sgB c (D.2.1 s).1 (sY c s) = true ∧ fN c (D.2.1 s).1 (sY c s) < 1000000)) (h2 : ¬ (kd = 3 ∧ fN c (D.2.1 s).1 (sY c s) < 1000000 ∧ bt (c 8 s 4) (nxN c (D.2.1 s).1 (sY c s)) = true)) :
    (ldC c D P G s kd m = -1 ∧ asA c P G kd s m D = waA D) ∨ (∃ p, p < P ∧ caA c D p s m = true ∧ ldC c D P G s kd m = nI p ∧ asA c P G kd s m D = byPA c D p s m) ∨ (∃ g, g < G ∧ ldC c D P G s kd m = nI (100 + g) ∧ asA c P G kd s m D = byGA c D g s m) := by
  unfold asA ldC
  dsimp only
  rw [if_neg h1, if_neg h2]
  cases hg : asGA c D G s kd m with
  | some g =>
    have g1 := (asGA_some hg).1
    cases hp : asPA c D P s kd m with
    | some p =>
      obtain ⟨p1, p2⟩ := asPA_some hs hS hp
      dsimp only
      by_cases h3 : kd = 2
      · rw [if_pos h3, if_pos h3]
        exact Or.inr (Or.inr ⟨g, g1, rfl, rfl⟩)
      · rw [if_neg h3, if_neg h3]
        exact Or.inr (Or.inl ⟨p, p1, p2, rfl, rfl⟩)
    | none => exact Or.inr (Or.inr ⟨g, g1, rfl, rfl⟩)
  | none =>
    cases hp : asPA c D P s kd m with
    | some p =>
      obtain ⟨p1, p2⟩ := asPA_some hs hS hp
      exact Or.inr (Or.inl ⟨p, p1, p2, rfl, rfl⟩)
    | none => exact Or.inl ⟨rfl, rfl⟩
end
section
variable {l : Launch} {D0 : va_G} {b0 : Nat} {ty : Nat → ClassId} {ad av : Nat → Nat}
set_option maxHeartbeats 2000000 in
theorem c0_tryToGoOn_36 (d : Nat) (σ c : sMem) (cm : Nat → Bool) (kd N P S G : Nat) (D : DA) (m B : Nat) (s : Nat) (hs : s < S) (h : CE σ c cm 36 kd N P S G D m s true B) (hm : m ≤ 999) (hk : kd ≤ 4) (hn : (D.2.1 s).2.2.1 = none) (hF : (D.2.1 s).2.1 ≤ m) : yMet l D0 b0 ty ad av lay (d + 3) 0 mX0_tryToGoOn [aR 81, aI (nI s), aI (nI m)] σ (fun r σ' => r = [] ∧ CE σ' c cm 36 kd N P S G (asA c P G kd s m D) m (s + 1) true (B + 1) ∧ ∀ i, i < 81 ∨ 89 < i → σ' i = σ i) (fun _ _ => False) := by
  refine yMet_intro lay_nd kX0_tryToGoOn xX0_ok (yY0_ok _) (by decide +kernel) rfl ?_
  intro K hK
  have h0 := h
  obtain ⟨hT, hM, hS, hSC, hCR, hV⟩ := h
  have hN := hM.1.1.1
  have hP := hM.2.2.1
  have hS8 := hM.2.2.2.1
  have hCR0 := hCR
  obtain ⟨hO, hA, hC, wc, hw1, hw2⟩ := hCR0
  obtain ⟨x1, x2, x3, x4, x5, x6, x7⟩ := hV.2.1 s hs
  obtain ⟨⟨ex, hx⟩, ⟨ey, hy⟩, ⟨et, ht⟩, hxy⟩ := hM.2.2.2.2.2 s hs
  have g84 : σ 84 0 s = nI (D.2.1 s).1 := (hC.1 s hs).1
  have g11 : σ 47 0 s = nI (sY c s) := (hT.2.2.2.2.2 s hs).2.1
  have fin : ∀ σ', CR σ' c 36 kd N P S G (asA c P G kd s m D) m (s + 1) true → (∀ i, i < 81 ∨ 89 < i → σ' i = σ i) → CE σ' c cm 36 kd N P S G (asA c P G kd s m D) m (s + 1) true (B + 1) ∧ ∀ i, i < 81 ∨ 89 < i → σ' i = σ i := fun σ' h1 h2 => ⟨⟨hT.cg (fun i _ _ => h2 i (by omega)), hM, hS.cg (fun i _ _ => h2 i (by omega)), hSC, h1, asA_DV hV hM hSC hs hm hn⟩, h2⟩
  have g85 : σ 85 0 s = nI (D.2.1 s).2.1 := (hC.1 s hs).2.1
  have gst : σ 40 (D.2.1 s).1 (sY c s) = nI (nxN c (D.2.1 s).1 (sY c s)) := (hT.2.2.2.1 _ _ x1 hy).2
  have gfi : σ 50 0 s = c 8 s 4 := (hT.2.2.2.2.2 s hs).2.2.2
  have nl := nx_lt hM.1 x1 hy
  iterate 4 refine hK _ _ _ _ _ ?_
  refine And.intro (vp_in_nI (n := s) (by omega) (by decide)) ?_
  rw [nI_clamp (show s < 2 ^ 31 by omega)]
  rw [show σ 84 0 s = nI (D.2.1 s).1 from g84]
  iterate 3 refine hK _ _ _ _ _ ?_
  show K _ _ _ _ _
  rw [show σ 81 0 0 = nI 36 from hO.1]
  show K _ _ _ _ _
  rw [show (nI 36).toNatClampNeg = 36 from rfl]
  iterate 3 refine hK _ _ _ _ _ ?_
  refine And.intro (vp_in_nI (n := s) (by omega) (by decide)) ?_
  rw [nI_clamp (show s < 2 ^ 31 by omega)]
  rw [show σ 47 0 s = nI (sY c s) from g11]
  iterate 3 refine hK _ _ _ _ _ ?_
  show K _ _ _ _ _
  rw [show σ 81 0 0 = nI 36 from hO.1]
  show K _ _ _ _ _
  rw [show (nI 36).toNatClampNeg = 36 from rfl]
  iterate 4 refine hK _ _ _ _ _ ?_
  refine Or.inl (calD (t6_reaches_36 _ _ c N P S hT hM (D.2.1 s).1 (sY c s) x1 hy) ?_)
  rintro r σ' ⟨rfl, hσ⟩
  subst σ'
  refine hK _ _ _ _ _ ?_
  refine And.intro (fun h => ?_) (fun h => ?_)
  · have hf : fN c (D.2.1 s).1 (sY c s) < 1000000 := of_decide_eq_true (bI_t h)
    have f6 := fN_660 hM.1 hy x1 hf
    have hz1 : 1 ≤ fN c (D.2.1 s).1 (sY c s) := by
      rcases Nat.eq_zero_or_pos (fN c (D.2.1 s).1 (sY c s)) with h0 | h0
      · exact absurd ((hM.1.1.2.1 (D.2.1 s).1 (sY c s) x1 hy).2.2.mpr h0) (x4 hn)
      · exact h0
    obtain ⟨n1, n2, n3, n4, n5, n6⟩ := nx_at hM.1 x1 hy hf (x4 hn)
    iterate 2 refine hK _ _ _ _ _ ?_
    show K _ _ _ _ _
    rw [show σ 81 0 1 = nI 76 from hO.2.1]
    show K _ _ _ _ _
    rw [show (nI 76).toNatClampNeg = 76 from rfl]
    iterate 3 refine hK _ _ _ _ _ ?_
    refine And.intro (vp_in_nI (n := ((D.2.1 s).1)) (by omega) (by decide)) ?_
    rw [nI_clamp (show ((D.2.1 s).1) < 2 ^ 31 by omega)]
    iterate 2 refine hK _ _ _ _ _ ?_
    refine calD (c8_hasBit _ _ _ _) ?_
    rintro r σ' ⟨rfl, hσ⟩
    subst σ'
    rw [hS.2.2.2.1 (D.2.1 s).1 (sY c s) x1 hy]
    refine hK _ _ _ _ _ ?_
    refine And.intro (fun h2 => ?_) (fun h2 => ?_)
    · have hsg := bI_f h2
      have ns1 : ¬ (sgB c (D.2.1 s).1 (sY c s) = true ∧ fN c (D.2.1 s).1 (sY c s) < 1000000) := fun z => by rw [hsg] at z; cases z.1
      iterate 2 refine hK _ _ _ _ _ ?_
      show K _ _ _ _ _
      rw [show σ 81 0 0 = nI 36 from hO.1]
      show K _ _ _ _ _
      rw [show (nI 36).toNatClampNeg = 36 from rfl]
      iterate 4 refine hK _ _ _ _ _ ?_
      refine And.intro (vp_in_nI (n := ((D.2.1 s).1)) (by omega) (by decide)) ?_
      rw [nI_clamp (show ((D.2.1 s).1) < 2 ^ 31 by omega)]
      iterate 2 refine hK _ _ _ _ _ ?_
      refine And.intro (by first | omega | (rw [nI_clamp (by omega)]; omega)) (And.intro (vp_in_nI (n := (sY c s)) (by omega) (by decide)) ?_)
      rw [nI_clamp (show (sY c s) < 2 ^ 31 by omega)]
      rw [show σ 40 ((D.2.1 s).1) (sY c s) = nI (nxN c (D.2.1 s).1 (sY c s)) from gst]
      iterate 3 refine hK _ _ _ _ _ ?_
      show K _ _ _ _ _
      rw [show σ 81 0 2 = nI kd from hO.2.2]
      iterate 2 refine hK _ _ _ _ _ ?_
      refine And.intro (fun h3 => ?_) (fun h3 => ?_)
      · have nh1 : ¬ (kd = 3 ∧ fN c (D.2.1 s).1 (sY c s) < 1000000 ∧ bt (c 8 s 4) (nxN c (D.2.1 s).1 (sY c s)) = true) := fun z => h3 (by rw [z.1]; rfl)
        iterate 4 refine hK _ _ _ _ _ ?_
        refine Or.inl (calD (c0_leaderFor_36 _ _ c cm kd N P S G D m s B h0 hm hk s hs hf) ?_)
        rintro r σ' ⟨rfl, hσ⟩
        subst σ'
        rcases ld_cases (m := m) hs hSC ns1 nh1 with ⟨e, ea⟩ | ⟨p, hp, hc, e, ea⟩ | ⟨g, hg, e, ea⟩
        · rw [e]
          iterate 4 refine hK _ _ _ _ _ ?_
          refine And.intro (fun _ => ?_) (fun h9 => absurd rfl h9)
          refine hK _ _ _ _ _ ?_
          exact ⟨rfl, fin σ (by rw [ea]; exact wait_CR hs hCR ⟨hn, hF⟩) (fun _ _ => rfl)⟩
        · rw [e]
          iterate 4 refine hK _ _ _ _ _ ?_
          refine And.intro (fun h9 => absurd h9 (nI_ne (by omega))) (fun _ => ?_)
          iterate 5 refine hK _ _ _ _ _ ?_
          refine Or.inl (calD (c0_isLedP_36 _ _ c cm kd N P S G D m B s hs h0 hm hn hF p hp hc) ?_)
          rintro r σ1 ⟨rfl, hR1, hfr⟩
          refine hK _ _ _ _ _ ?_
          exact ⟨rfl, fin σ1 (by rw [ea]; exact hR1) hfr⟩
        · rw [e]
          have hG6 := hSC.2.1
          iterate 4 refine hK _ _ _ _ _ ?_
          refine And.intro (fun h9 => absurd h9 (nI_ne (by omega))) (fun _ => ?_)
          iterate 5 refine hK _ _ _ _ _ ?_
          refine Or.inl (calD (c0_isLedG_36 _ _ c cm kd N P S G D m B s hs h0 hm hn hF g hg hf) ?_)
          rintro r σ1 ⟨rfl, hR1, hfr⟩
          refine hK _ _ _ _ _ ?_
          exact ⟨rfl, fin σ1 (by rw [ea]; exact hR1) hfr⟩
      · have k3 : kd = 3 := (nI_eq (b := 3) (by omega) (by decide)).mp h3
        iterate 2 refine hK _ _ _ _ _ ?_
        show K _ _ _ _ _
        rw [show σ 81 0 0 = nI 36 from hO.1]
        show K _ _ _ _ _
        rw [show (nI 36).toNatClampNeg = 36 from rfl]
        iterate 3 refine hK _ _ _ _ _ ?_
        refine And.intro (vp_in_nI (n := s) (by omega) (by decide)) ?_
        rw [nI_clamp (show s < 2 ^ 31 by omega)]
        rw [show σ 50 0 s = c 8 s 4 from gfi]
        iterate 2 refine hK _ _ _ _ _ ?_
        refine calD (c8_hasBit _ _ _ _) ?_
        rintro r σ' ⟨rfl, hσ⟩
        subst σ'
        rw [hb_bt _ _ (by omega)]
        refine hK _ _ _ _ _ ?_
        refine And.intro (fun h4 => ?_) (fun h4 => ?_)
        · have hbt := bI_f h4
          have nh1 : ¬ (kd = 3 ∧ fN c (D.2.1 s).1 (sY c s) < 1000000 ∧ bt (c 8 s 4) (nxN c (D.2.1 s).1 (sY c s)) = true) := fun z => by rw [hbt] at z; cases z.2.2
          iterate 4 refine hK _ _ _ _ _ ?_
          refine Or.inl (calD (c0_leaderFor_36 _ _ c cm kd N P S G D m s B h0 hm hk s hs hf) ?_)
          rintro r σ' ⟨rfl, hσ⟩
          subst σ'
          rcases ld_cases (m := m) hs hSC ns1 nh1 with ⟨e, ea⟩ | ⟨p, hp, hc, e, ea⟩ | ⟨g, hg, e, ea⟩
          · rw [e]
            iterate 4 refine hK _ _ _ _ _ ?_
            refine And.intro (fun _ => ?_) (fun h9 => absurd rfl h9)
            refine hK _ _ _ _ _ ?_
            exact ⟨rfl, fin σ (by rw [ea]; exact wait_CR hs hCR ⟨hn, hF⟩) (fun _ _ => rfl)⟩
          · rw [e]
            iterate 4 refine hK _ _ _ _ _ ?_
            refine And.intro (fun h9 => absurd h9 (nI_ne (by omega))) (fun _ => ?_)
            iterate 5 refine hK _ _ _ _ _ ?_
            refine Or.inl (calD (c0_isLedP_36 _ _ c cm kd N P S G D m B s hs h0 hm hn hF p hp hc) ?_)
            rintro r σ1 ⟨rfl, hR1, hfr⟩
            refine hK _ _ _ _ _ ?_
            exact ⟨rfl, fin σ1 (by rw [ea]; exact hR1) hfr⟩
          · rw [e]
            have hG6 := hSC.2.1
            iterate 4 refine hK _ _ _ _ _ ?_
            refine And.intro (fun h9 => absurd h9 (nI_ne (by omega))) (fun _ => ?_)
            iterate 5 refine hK _ _ _ _ _ ?_
            refine Or.inl (calD (c0_isLedG_36 _ _ c cm kd N P S G D m B s hs h0 hm hn hF g hg hf) ?_)
            rintro r σ1 ⟨rfl, hR1, hfr⟩
            refine hK _ _ _ _ _ ?_
            exact ⟨rfl, fin σ1 (by rw [ea]; exact hR1) hfr⟩
        · have hbt := bI_t h4
          iterate 5 refine hK _ _ _ _ _ ?_
          refine Or.inl (calD (c0_move_36 _ _ c N P S hT hM kd hO s hs (D.2.1 s).1 (nxN c (D.2.1 s).1 (sY c s)) (D.2.1 s).2.1 m wc x1 nl g84 g85 hF (by omega) hw1) ?_)
          rintro r σ' ⟨rfl, rfl⟩
          refine hK _ _ _ _ _ ?_
          exact ⟨rfl, fin _ (by unfold asA; dsimp only; rw [if_neg ns1, if_pos ⟨k3, hf, hbt⟩]; exact mv_CR (B := 0) hs hCR ⟨hw1, hw2⟩ hn hF n4) (fun i hi => mvC_off (by omega))⟩
    · have hsg := bI_t h2
      iterate 5 refine hK _ _ _ _ _ ?_
      refine Or.inl (calD (c0_move_36 _ _ c N P S hT hM kd hO s hs (D.2.1 s).1 (sY c s) (D.2.1 s).2.1 m wc x1 hy g84 g85 hF (by omega) hw1) ?_)
      rintro r σ' ⟨rfl, rfl⟩
      refine hK _ _ _ _ _ ?_
      exact ⟨rfl, fin _ (by unfold asA; dsimp only; rw [if_pos ⟨hsg, hf⟩]; exact mv_CR (B := 0) hs hCR ⟨hw1, hw2⟩ hn hF hz1) (fun i hi => mvC_off (by omega))⟩
  · have hf : ¬ fN c (D.2.1 s).1 (sY c s) < 1000000 := of_decide_eq_false (bI_f h)
    refine hK _ _ _ _ _ ?_
    exact ⟨rfl, fin σ (by rw [as_nw hf]; exact wait_CR hs hCR ⟨hn, hF⟩) (fun _ _ => rfl)⟩
set_option maxHeartbeats 2000000 in
theorem c0_tryToGoOn_54 (d : Nat) (σ c : sMem) (cm : Nat → Bool) (kd N P S G : Nat) (D : DA) (m B : Nat) (s : Nat) (hs : s < S) (h : CE σ c cm 54 kd N P S G D m s true B) (hm : m ≤ 999) (hk : kd ≤ 4) (hn : (D.2.1 s).2.2.1 = none) (hF : (D.2.1 s).2.1 ≤ m) : yMet l D0 b0 ty ad av lay (d + 3) 0 mX0_tryToGoOn [aR 81, aI (nI s), aI (nI m)] σ (fun r σ' => r = [] ∧ CE σ' c cm 54 kd N P S G (asA c P G kd s m D) m (s + 1) true (B + 1) ∧ ∀ i, i < 81 ∨ 89 < i → σ' i = σ i) (fun _ _ => False) := by
  refine yMet_intro lay_nd kX0_tryToGoOn xX0_ok (yY0_ok _) (by decide +kernel) rfl ?_
  intro K hK
  have h0 := h
  obtain ⟨hT, hM, hS, hSC, hCR, hV⟩ := h
  have hN := hM.1.1.1
  have hP := hM.2.2.1
  have hS8 := hM.2.2.2.1
  have hCR0 := hCR
  obtain ⟨hO, hA, hC, wc, hw1, hw2⟩ := hCR0
  obtain ⟨x1, x2, x3, x4, x5, x6, x7⟩ := hV.2.1 s hs
  obtain ⟨⟨ex, hx⟩, ⟨ey, hy⟩, ⟨et, ht⟩, hxy⟩ := hM.2.2.2.2.2 s hs
  have g84 : σ 84 0 s = nI (D.2.1 s).1 := (hC.1 s hs).1
  have g11 : σ 65 0 s = nI (sY c s) := (hT.2.2.2.2.2 s hs).2.1
  have fin : ∀ σ', CR σ' c 54 kd N P S G (asA c P G kd s m D) m (s + 1) true → (∀ i, i < 81 ∨ 89 < i → σ' i = σ i) → CE σ' c cm 54 kd N P S G (asA c P G kd s m D) m (s + 1) true (B + 1) ∧ ∀ i, i < 81 ∨ 89 < i → σ' i = σ i := fun σ' h1 h2 => ⟨⟨hT.cg (fun i _ _ => h2 i (by omega)), hM, hS.cg (fun i _ _ => h2 i (by omega)), hSC, h1, asA_DV hV hM hSC hs hm hn⟩, h2⟩
  have g85 : σ 85 0 s = nI (D.2.1 s).2.1 := (hC.1 s hs).2.1
  have gst : σ 58 (D.2.1 s).1 (sY c s) = nI (nxN c (D.2.1 s).1 (sY c s)) := (hT.2.2.2.1 _ _ x1 hy).2
  have gfi : σ 68 0 s = c 8 s 4 := (hT.2.2.2.2.2 s hs).2.2.2
  have nl := nx_lt hM.1 x1 hy
  iterate 4 refine hK _ _ _ _ _ ?_
  refine And.intro (vp_in_nI (n := s) (by omega) (by decide)) ?_
  rw [nI_clamp (show s < 2 ^ 31 by omega)]
  rw [show σ 84 0 s = nI (D.2.1 s).1 from g84]
  iterate 3 refine hK _ _ _ _ _ ?_
  show K _ _ _ _ _
  rw [show σ 81 0 0 = nI 54 from hO.1]
  show K _ _ _ _ _
  rw [show (nI 54).toNatClampNeg = 54 from rfl]
  iterate 3 refine hK _ _ _ _ _ ?_
  refine And.intro (vp_in_nI (n := s) (by omega) (by decide)) ?_
  rw [nI_clamp (show s < 2 ^ 31 by omega)]
  rw [show σ 65 0 s = nI (sY c s) from g11]
  iterate 3 refine hK _ _ _ _ _ ?_
  show K _ _ _ _ _
  rw [show σ 81 0 0 = nI 54 from hO.1]
  show K _ _ _ _ _
  rw [show (nI 54).toNatClampNeg = 54 from rfl]
  iterate 4 refine hK _ _ _ _ _ ?_
  refine Or.inl (calD (t6_reaches_54 _ _ c N P S hT hM (D.2.1 s).1 (sY c s) x1 hy) ?_)
  rintro r σ' ⟨rfl, hσ⟩
  subst σ'
  refine hK _ _ _ _ _ ?_
  refine And.intro (fun h => ?_) (fun h => ?_)
  · have hf : fN c (D.2.1 s).1 (sY c s) < 1000000 := of_decide_eq_true (bI_t h)
    have f6 := fN_660 hM.1 hy x1 hf
    have hz1 : 1 ≤ fN c (D.2.1 s).1 (sY c s) := by
      rcases Nat.eq_zero_or_pos (fN c (D.2.1 s).1 (sY c s)) with h0 | h0
      · exact absurd ((hM.1.1.2.1 (D.2.1 s).1 (sY c s) x1 hy).2.2.mpr h0) (x4 hn)
      · exact h0
    obtain ⟨n1, n2, n3, n4, n5, n6⟩ := nx_at hM.1 x1 hy hf (x4 hn)
    iterate 2 refine hK _ _ _ _ _ ?_
    show K _ _ _ _ _
    rw [show σ 81 0 1 = nI 76 from hO.2.1]
    show K _ _ _ _ _
    rw [show (nI 76).toNatClampNeg = 76 from rfl]
    iterate 3 refine hK _ _ _ _ _ ?_
    refine And.intro (vp_in_nI (n := ((D.2.1 s).1)) (by omega) (by decide)) ?_
    rw [nI_clamp (show ((D.2.1 s).1) < 2 ^ 31 by omega)]
    iterate 2 refine hK _ _ _ _ _ ?_
    refine calD (c8_hasBit _ _ _ _) ?_
    rintro r σ' ⟨rfl, hσ⟩
    subst σ'
    rw [hS.2.2.2.1 (D.2.1 s).1 (sY c s) x1 hy]
    refine hK _ _ _ _ _ ?_
    refine And.intro (fun h2 => ?_) (fun h2 => ?_)
    · have hsg := bI_f h2
      have ns1 : ¬ (sgB c (D.2.1 s).1 (sY c s) = true ∧ fN c (D.2.1 s).1 (sY c s) < 1000000) := fun z => by rw [hsg] at z; cases z.1
      iterate 2 refine hK _ _ _ _ _ ?_
      show K _ _ _ _ _
      rw [show σ 81 0 0 = nI 54 from hO.1]
      show K _ _ _ _ _
      rw [show (nI 54).toNatClampNeg = 54 from rfl]
      iterate 4 refine hK _ _ _ _ _ ?_
      refine And.intro (vp_in_nI (n := ((D.2.1 s).1)) (by omega) (by decide)) ?_
      rw [nI_clamp (show ((D.2.1 s).1) < 2 ^ 31 by omega)]
      iterate 2 refine hK _ _ _ _ _ ?_
      refine And.intro (by first | omega | (rw [nI_clamp (by omega)]; omega)) (And.intro (vp_in_nI (n := (sY c s)) (by omega) (by decide)) ?_)
      rw [nI_clamp (show (sY c s) < 2 ^ 31 by omega)]
      rw [show σ 58 ((D.2.1 s).1) (sY c s) = nI (nxN c (D.2.1 s).1 (sY c s)) from gst]
      iterate 3 refine hK _ _ _ _ _ ?_
      show K _ _ _ _ _
      rw [show σ 81 0 2 = nI kd from hO.2.2]
      iterate 2 refine hK _ _ _ _ _ ?_
      refine And.intro (fun h3 => ?_) (fun h3 => ?_)
      · have nh1 : ¬ (kd = 3 ∧ fN c (D.2.1 s).1 (sY c s) < 1000000 ∧ bt (c 8 s 4) (nxN c (D.2.1 s).1 (sY c s)) = true) := fun z => h3 (by rw [z.1]; rfl)
        iterate 4 refine hK _ _ _ _ _ ?_
        refine Or.inl (calD (c0_leaderFor_54 _ _ c cm kd N P S G D m s B h0 hm hk s hs hf) ?_)
        rintro r σ' ⟨rfl, hσ⟩
        subst σ'
        rcases ld_cases (m := m) hs hSC ns1 nh1 with ⟨e, ea⟩ | ⟨p, hp, hc, e, ea⟩ | ⟨g, hg, e, ea⟩
        · rw [e]
          iterate 4 refine hK _ _ _ _ _ ?_
          refine And.intro (fun _ => ?_) (fun h9 => absurd rfl h9)
          refine hK _ _ _ _ _ ?_
          exact ⟨rfl, fin σ (by rw [ea]; exact wait_CR hs hCR ⟨hn, hF⟩) (fun _ _ => rfl)⟩
        · rw [e]
          iterate 4 refine hK _ _ _ _ _ ?_
          refine And.intro (fun h9 => absurd h9 (nI_ne (by omega))) (fun _ => ?_)
          iterate 5 refine hK _ _ _ _ _ ?_
          refine Or.inl (calD (c0_isLedP_54 _ _ c cm kd N P S G D m B s hs h0 hm hn hF p hp hc) ?_)
          rintro r σ1 ⟨rfl, hR1, hfr⟩
          refine hK _ _ _ _ _ ?_
          exact ⟨rfl, fin σ1 (by rw [ea]; exact hR1) hfr⟩
        · rw [e]
          have hG6 := hSC.2.1
          iterate 4 refine hK _ _ _ _ _ ?_
          refine And.intro (fun h9 => absurd h9 (nI_ne (by omega))) (fun _ => ?_)
          iterate 5 refine hK _ _ _ _ _ ?_
          refine Or.inl (calD (c0_isLedG_54 _ _ c cm kd N P S G D m B s hs h0 hm hn hF g hg hf) ?_)
          rintro r σ1 ⟨rfl, hR1, hfr⟩
          refine hK _ _ _ _ _ ?_
          exact ⟨rfl, fin σ1 (by rw [ea]; exact hR1) hfr⟩
      · have k3 : kd = 3 := (nI_eq (b := 3) (by omega) (by decide)).mp h3
        iterate 2 refine hK _ _ _ _ _ ?_
        show K _ _ _ _ _
        rw [show σ 81 0 0 = nI 54 from hO.1]
        show K _ _ _ _ _
        rw [show (nI 54).toNatClampNeg = 54 from rfl]
        iterate 3 refine hK _ _ _ _ _ ?_
        refine And.intro (vp_in_nI (n := s) (by omega) (by decide)) ?_
        rw [nI_clamp (show s < 2 ^ 31 by omega)]
        rw [show σ 68 0 s = c 8 s 4 from gfi]
        iterate 2 refine hK _ _ _ _ _ ?_
        refine calD (c8_hasBit _ _ _ _) ?_
        rintro r σ' ⟨rfl, hσ⟩
        subst σ'
        rw [hb_bt _ _ (by omega)]
        refine hK _ _ _ _ _ ?_
        refine And.intro (fun h4 => ?_) (fun h4 => ?_)
        · have hbt := bI_f h4
          have nh1 : ¬ (kd = 3 ∧ fN c (D.2.1 s).1 (sY c s) < 1000000 ∧ bt (c 8 s 4) (nxN c (D.2.1 s).1 (sY c s)) = true) := fun z => by rw [hbt] at z; cases z.2.2
          iterate 4 refine hK _ _ _ _ _ ?_
          refine Or.inl (calD (c0_leaderFor_54 _ _ c cm kd N P S G D m s B h0 hm hk s hs hf) ?_)
          rintro r σ' ⟨rfl, hσ⟩
          subst σ'
          rcases ld_cases (m := m) hs hSC ns1 nh1 with ⟨e, ea⟩ | ⟨p, hp, hc, e, ea⟩ | ⟨g, hg, e, ea⟩
          · rw [e]
            iterate 4 refine hK _ _ _ _ _ ?_
            refine And.intro (fun _ => ?_) (fun h9 => absurd rfl h9)
            refine hK _ _ _ _ _ ?_
            exact ⟨rfl, fin σ (by rw [ea]; exact wait_CR hs hCR ⟨hn, hF⟩) (fun _ _ => rfl)⟩
          · rw [e]
            iterate 4 refine hK _ _ _ _ _ ?_
            refine And.intro (fun h9 => absurd h9 (nI_ne (by omega))) (fun _ => ?_)
            iterate 5 refine hK _ _ _ _ _ ?_
            refine Or.inl (calD (c0_isLedP_54 _ _ c cm kd N P S G D m B s hs h0 hm hn hF p hp hc) ?_)
            rintro r σ1 ⟨rfl, hR1, hfr⟩
            refine hK _ _ _ _ _ ?_
            exact ⟨rfl, fin σ1 (by rw [ea]; exact hR1) hfr⟩
          · rw [e]
            have hG6 := hSC.2.1
            iterate 4 refine hK _ _ _ _ _ ?_
            refine And.intro (fun h9 => absurd h9 (nI_ne (by omega))) (fun _ => ?_)
            iterate 5 refine hK _ _ _ _ _ ?_
            refine Or.inl (calD (c0_isLedG_54 _ _ c cm kd N P S G D m B s hs h0 hm hn hF g hg hf) ?_)
            rintro r σ1 ⟨rfl, hR1, hfr⟩
            refine hK _ _ _ _ _ ?_
            exact ⟨rfl, fin σ1 (by rw [ea]; exact hR1) hfr⟩
        · have hbt := bI_t h4
          iterate 5 refine hK _ _ _ _ _ ?_
          refine Or.inl (calD (c0_move_54 _ _ c N P S hT hM kd hO s hs (D.2.1 s).1 (nxN c (D.2.1 s).1 (sY c s)) (D.2.1 s).2.1 m wc x1 nl g84 g85 hF (by omega) hw1) ?_)
          rintro r σ' ⟨rfl, rfl⟩
          refine hK _ _ _ _ _ ?_
          exact ⟨rfl, fin _ (by unfold asA; dsimp only; rw [if_neg ns1, if_pos ⟨k3, hf, hbt⟩]; exact mv_CR (B := 0) hs hCR ⟨hw1, hw2⟩ hn hF n4) (fun i hi => mvC_off (by omega))⟩
    · have hsg := bI_t h2
      iterate 5 refine hK _ _ _ _ _ ?_
      refine Or.inl (calD (c0_move_54 _ _ c N P S hT hM kd hO s hs (D.2.1 s).1 (sY c s) (D.2.1 s).2.1 m wc x1 hy g84 g85 hF (by omega) hw1) ?_)
      rintro r σ' ⟨rfl, rfl⟩
      refine hK _ _ _ _ _ ?_
      exact ⟨rfl, fin _ (by unfold asA; dsimp only; rw [if_pos ⟨hsg, hf⟩]; exact mv_CR (B := 0) hs hCR ⟨hw1, hw2⟩ hn hF hz1) (fun i hi => mvC_off (by omega))⟩
  · have hf : ¬ fN c (D.2.1 s).1 (sY c s) < 1000000 := of_decide_eq_false (bI_f h)
    refine hK _ _ _ _ _ ?_
    exact ⟨rfl, fin σ (by rw [as_nw hf]; exact wait_CR hs hCR ⟨hn, hF⟩) (fun _ _ => rfl)⟩
end
