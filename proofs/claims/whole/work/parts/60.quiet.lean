/-! QUIET MINUTES: in which all who wait wait on -/
section
variable {c : sMem} {N P S G : Nat}
/-- strangers below j who still wait behind minute m: no sign, nothing found, no guide free -/
def HI (c : sMem) (S G kd : Nat) (D : DA) (m j : Nat) : Prop := ∀ s, s < j → s < S → (D.2.1 s).2.2.1 = none → (D.2.1 s).2.1 ≤ m → ¬ (sgB c (D.2.1 s).1 (sY c s) = true ∧ fN c (D.2.1 s).1 (sY c s) < 1000000) ∧ ¬ (kd = 3 ∧ fN c (D.2.1 s).1 (sY c s) < 1000000 ∧ bt (c 8 s 4) (nxN c (D.2.1 s).1 (sY c s)) = true) ∧ (fN c (D.2.1 s).1 (sY c s) < 1000000 → kd ≠ 4 → ∀ g, g < G → gA c g = (D.2.1 s).1 → m < D.2.2.1 g)
theorem gf_none {D : DA} {s m : Nat} : ∀ f g, gfA c D s m f g = none → ∀ g', g ≤ g' → g' < g + f → gA c g' = (D.2.1 s).1 → fN c (D.2.1 s).1 (sY c s) < 1000000 → m < D.2.2.1 g'
  | 0, g, _, g', h1, h2, _, _ => by omega
  | f + 1, g, h, g', h1, h2, h3, h4 => by
    unfold gfA at h
    split at h
    · cases h
    · rename_i hn
      by_cases e : g' = g
      · subst e
        exact Nat.lt_of_not_le (fun q => hn ⟨h3, q, h4⟩)
      · exact gf_none f (g + 1) h g' (by omega) (by omega) h3 h4
/-- what one stranger's turn does to the others and to the guides -/
theorem as_oth {D : DA} {s kd m u : Nat} (hu : u ≠ s) : (asA c P G kd s m D).2.1 u = D.2.1 u := by
  unfold asA
  dsimp only
  split
  · exact fu_ne hu
  · split
    · exact fu_ne hu
    · split
      · split
        · unfold byGA goA ldA; dsimp only; rw [fu_ne hu, fu_ne hu]
        · unfold byPA goA ldA; dsimp only; rw [fu_ne hu, fu_ne hu]
      · unfold byGA goA ldA; dsimp only; rw [fu_ne hu, fu_ne hu]
      · unfold byPA goA ldA; dsimp only; rw [fu_ne hu, fu_ne hu]
      · rfl
theorem as_gui {D : DA} {s kd m g : Nat} (hz : fN c (D.2.1 s).1 (sY c s) < 1000000 → 1 ≤ fN c (D.2.1 s).1 (sY c s)) : (asA c P G kd s m D).2.2.1 g = D.2.2.1 g ∨ m < (asA c P G kd s m D).2.2.1 g := by
  have hg : ∀ g', fN c (D.2.1 s).1 (sY c s) < 1000000 → (byGA c D g' s m).2.2.1 g = D.2.2.1 g ∨ m < (byGA c D g' s m).2.2.1 g := fun g' hf => by
    show (fu D.2.2.1 g' _) g = _ ∨ m < (fu D.2.2.1 g' _) g
    by_cases e : g = g'
    · subst e
      right
      rw [fu_at]
      have := hz hf
      omega
    · left; exact fu_ne e
  unfold asA
  dsimp only
  split
  · left; rfl
  · split
    · left; rfl
    · split
      · rename_i g' p hg' hp
        split
        · exact hg g' (asGA_some hg').2.2.2
        · left; rfl
      · rename_i g' hg' hp
        exact hg g' (asGA_some hg').2.2.2
      · left; rfl
      · left; rfl
theorem ds_HI {D : DA} {B kd m s : Nat} (hM : MC c N P S) (hS : SC c N P S G) (hV : DV c N P S B D) (hs : s < S) (hm : m ≤ 999) (h : HI c S G kd D m s) : HI c S G kd (dsA c P G kd m s D) m (s + 1) := by
  unfold dsA
  obtain ⟨x1, x2, x3, x4, x5, x6, x7⟩ := hV.2.1 s hs
  have hy := (hM.2.2.2.2.2 s hs).2.1.2
  split
  · rename_i he
    have hz : fN c (D.2.1 s).1 (sY c s) < 1000000 → 1 ≤ fN c (D.2.1 s).1 (sY c s) := fun _ => by
      rcases Nat.eq_zero_or_pos (fN c (D.2.1 s).1 (sY c s)) with h0 | h0
      · exact absurd ((hM.1.1.2.1 _ _ x1 hy).2.2.mpr h0) (x4 he.1)
      · exact h0
    intro u hu huS hun huf
    by_cases e : u = s
    · subst e
      -- he is still waiting: nobody led him
      have key : asA c P G kd u m D = waA D ∧ ¬ (sgB c (D.2.1 u).1 (sY c u) = true ∧ fN c (D.2.1 u).1 (sY c u) < 1000000) ∧ ¬ (kd = 3 ∧ fN c (D.2.1 u).1 (sY c u) < 1000000 ∧ bt (c 8 u 4) (nxN c (D.2.1 u).1 (sY c u)) = true) ∧ asGA c D G u kd m = none := by
        by_cases hf : fN c (D.2.1 u).1 (sY c u) < 1000000
        · by_cases h1 : sgB c (D.2.1 u).1 (sY c u) = true ∧ fN c (D.2.1 u).1 (sY c u) < 1000000
          · exfalso
            have e1 : asA c P G kd u m D = goA c D u (sY c u) (m + fN c (D.2.1 u).1 (sY c u)) := by unfold asA; dsimp only; rw [if_pos h1]
            rw [e1] at hun
            unfold goA at hun
            dsimp only at hun
            rw [fu_at, if_pos rfl] at hun
            cases hun
          · by_cases h2 : kd = 3 ∧ fN c (D.2.1 u).1 (sY c u) < 1000000 ∧ bt (c 8 u 4) (nxN c (D.2.1 u).1 (sY c u)) = true
            · exfalso
              have e1 : asA c P G kd u m D = goA c D u (nxN c (D.2.1 u).1 (sY c u)) (m + fN c (D.2.1 u).1 (nxN c (D.2.1 u).1 (sY c u))) := by unfold asA; dsimp only; rw [if_neg h1, if_pos h2]
              have n4 := (nx_at hM.1 x1 hy hf (x4 he.1)).2.2.2.1
              rw [e1] at huf
              unfold goA at huf
              dsimp only at huf
              rw [fu_at] at huf
              dsimp only at huf
              omega
            · refine ⟨?_, h1, h2, ?_⟩
              · rcases ld_cases (m := m) hs hS h1 h2 with ⟨-, ea⟩ | ⟨p, hp, hc, -, ea⟩ | ⟨g, hg, -, ea⟩
                · exact ea
                · exfalso
                  rw [ea] at huf
                  obtain ⟨-, -, -, c4, -⟩ := caA_of hc
                  obtain ⟨l1, l2, l3, -, l5⟩ := led_at hM.1 hS.1 x1 hy c4
                  have e1 : ((byPA c D p u m).2.1 u).2.1 = m + fN c (D.2.1 u).1 (ledM c (D.2.1 u).1 (sY c u)) := by simp [byPA, goA, ldA, fu]
                  rw [e1] at huf
                  have h0 : fN c (D.2.1 u).1 (ledM c (D.2.1 u).1 (sY c u)) = 0 := by omega
                  have e0 := (hM.1.1.2.1 _ _ x1 l1).2.2.mpr h0
                  have h9 := l5 (x4 he.1)
                  rw [← e0] at h9
                  exact absurd h9 (Nat.lt_irrefl _)
                · exfalso
                  rw [ea] at hun
                  have e1 : ((byGA c D g u m).2.1 u).2.2.1 = some (m + fN c (D.2.1 u).1 (sY c u)) := by simp [byGA, goA, ldA, fu]
                  rw [e1] at hun
                  cases hun
              · cases hg : asGA c D G u kd m with
                | none => rfl
                | some g =>
                  exfalso
                  have h3 : asA c P G kd u m D = (match asPA c D P u kd m with
                    | some p => if kd = 2 then byGA c D g u m else byPA c D p u m
                    | none => byGA c D g u m) := by
                    unfold asA
                    dsimp only
                    rw [if_neg h1, if_neg h2, hg]
                    cases asPA c D P u kd m with
                    | none => rfl
                    | some p => rfl
                  have hG : ((byGA c D g u m).2.1 u).2.2.1 = some (m + fN c (D.2.1 u).1 (sY c u)) := by simp [byGA, goA, ldA, fu]
                  cases hp : asPA c D P u kd m with
                  | none =>
                    rw [hp] at h3
                    rw [h3, hG] at hun
                    cases hun
                  | some p =>
                    rw [hp] at h3
                    dsimp only at h3
                    by_cases h4 : kd = 2
                    · rw [if_pos h4] at h3
                      rw [h3, hG] at hun
                      cases hun
                    · rw [if_neg h4] at h3
                      rw [h3] at huf
                      obtain ⟨-, p2⟩ := asPA_some hs hS hp
                      obtain ⟨-, -, -, c4, -⟩ := caA_of p2
                      obtain ⟨l1, l2, l3, -, l5⟩ := led_at hM.1 hS.1 x1 hy c4
                      have e1 : ((byPA c D p u m).2.1 u).2.1 = m + fN c (D.2.1 u).1 (ledM c (D.2.1 u).1 (sY c u)) := by simp [byPA, goA, ldA, fu]
                      rw [e1] at huf
                      have h0 : fN c (D.2.1 u).1 (ledM c (D.2.1 u).1 (sY c u)) = 0 := by omega
                      have e0 := (hM.1.1.2.1 _ _ x1 l1).2.2.mpr h0
                      have h9 := l5 (x4 he.1)
                      rw [← e0] at h9
                      exact absurd h9 (Nat.lt_irrefl _)
        · refine ⟨as_nw hf, fun z => hf z.2, fun z => hf z.2.1, ?_⟩
          cases hg : asGA c D G u kd m with
          | none => rfl
          | some g => exact absurd (asGA_some hg).2.2.2 hf
      obtain ⟨k1, k2, k3, k4⟩ := key
      rw [k1]
      refine ⟨k2, k3, fun hf h4 g hg hga => ?_⟩
      unfold asGA at k4
      rw [if_neg h4] at k4
      exact gf_none G 0 k4 g (Nat.zero_le _) (by omega) hga hf
    · rw [as_oth e] at hun huf ⊢
      obtain ⟨h1, h2, h3⟩ := h u (by omega) huS hun huf
      refine ⟨h1, h2, fun hf h4 g hg hga => ?_⟩
      rcases as_gui (P := P) (G := G) (kd := kd) (g := g) hz with q | q
      · rw [q]; exact h3 hf h4 g hg hga
      · exact q
  · rename_i he
    intro u hu huS hun huf
    by_cases e : u = s
    · subst e; exact absurd ⟨hun, huf⟩ he
    · exact h u (by omega) huS hun huf
theorem dm_HI {D : DA} {B kd m : Nat} (hM : MC c N P S) (hS : SC c N P S G) (hV : DV c N P S B D) (hm : m ≤ 999) : ∀ k, k ≤ S → HI c S G kd (forG (dsA c P G kd m) D k) m k
  | 0, _ => fun s h => absurd h (Nat.not_lt_zero _)
  | k + 1, hk => ds_HI hM hS (dmA_DV hV hM hS hm k (by omega)) (by omega) hm (dm_HI hM hS hV hm k (by omega))
/-- what is said of the next minute -/
def NM (c : sMem) (P S G : Nat) (D : DA) (m R : Nat) : Prop := (∀ s, s < S → (D.2.1 s).2.2.1 = none → m < (D.2.1 s).2.1 → R ≤ (D.2.1 s).2.1) ∧
  ((∃ s, s < S ∧ (D.2.1 s).2.2.1 = none ∧ (D.2.1 s).2.1 ≤ m) → (∀ p, p < P → ouP c p = true → ∀ k, k ≤ pl c (pQ c p) (D.1 p).1 → m < (pth c (pQ c p) k (D.1 p)).2 → R ≤ (pth c (pQ c p) k (D.1 p)).2) ∧ ∀ g, g < G → m < D.2.2.1 g → R ≤ D.2.2.1 g)
/-- a quiet minute: each who waits waits on -/
theorem quiet {D : DA} {B kd m R k s : Nat} (hM : MC c N P S) (hS : SC c N P S G) (hV : DV c N P S B D) (hH : HI c S G kd D m S) (hR : NM c P S G D m R) (h1 : m < k) (h2 : k < R) (hs : s < S) (hn : (D.2.1 s).2.2.1 = none) (hf : (D.2.1 s).2.1 ≤ k) : asA c P G kd s k D = waA D := by
  have hfm : (D.2.1 s).2.1 ≤ m := by
    rcases Nat.lt_or_ge m (D.2.1 s).2.1 with g | g
    · have := hR.1 s hs hn g; omega
    · exact g
  obtain ⟨n1, n2⟩ := hR.2 ⟨s, hs, hn, hfm⟩
  obtain ⟨g1, g2, g3⟩ := hH s hs hs hn hfm
  by_cases hway : fN c (D.2.1 s).1 (sY c s) < 1000000
  · have hc : ∀ p, p < P → caA c D p s k = false := fun p hp => by
      cases hh : caA c D p s k with
      | false => rfl
      | true =>
        exfalso
        obtain ⟨c1, c2, -⟩ := caA_of hh
        obtain ⟨b1, b2, -⟩ := hV.1 p hp c1
        obtain ⟨k', k1, k2, -⟩ := atP_at hM.1 (hM.2.2.2.2.1 p hp).2.1.2 b1 b2 c2
        have h5 := n1 p hp c1 k' k1 (by rw [k2]; exact h1)
        rw [k2] at h5
        dsimp only at h5
        omega
    have hp : asPA c D P s kd k = none := by
      cases hh : asPA c D P s kd k with
      | none => rfl
      | some p =>
        obtain ⟨p1, p2⟩ := asPA_some hs hS hh
        rw [hc p p1] at p2; cases p2
    have hg : asGA c D G s kd k = none := by
      cases hh : asGA c D G s kd k with
      | none => rfl
      | some g =>
        exfalso
        obtain ⟨q1, q2, q3, q4⟩ := asGA_some hh
        have h4 : kd ≠ 4 := fun e => by
          unfold asGA at hh
          rw [if_pos e] at hh
          cases hh
        have := n2 g q1 (g3 hway h4 g q1 q2)
        omega
    unfold asA
    dsimp only
    rw [if_neg g1, if_neg g2, hg, hp]
    rfl
  · exact as_nw hway
theorem CR.shift {σ : sMem} {v kd m : Nat} {mv : Bool} {D : DA} (h : CR σ c v kd N P S G D m S mv) : CR σ c v kd N P S G D (m + 1) 0 false := by
  obtain ⟨hO, hA, hC, w, h1, h2⟩ := h
  refine ⟨hO, fun p hp => ⟨fun ho => ?_, (hA p hp).2⟩, hC, w, h1, by rw [← pe_j S (Nat.le_refl _)]; exact h2⟩
  obtain ⟨k, k1, k2, -, k4⟩ := (hA p hp).1 ho
  exact ⟨k, k1, fun j hj => Nat.lt_succ_of_lt (k2 j hj), fun h => (by cases h), k4⟩
/-- what doesn't speak of the minutes waited -/
theorem waA_DV {B : Nat} {D : DA} (h : DV c N P S B D) : DV c N P S (B + 1) (waA D) := by
  refine ⟨h.1, h.2.1, h.2.2.1, ?_, ?_, ?_⟩
  · have := h.2.2.2.1; show D.2.2.2.1 ≤ _; omega
  · have := h.2.2.2.2.1; show D.2.2.2.2.1 ≤ _; omega
  · have := h.2.2.2.2.2; show D.2.2.2.2.2 + 1 ≤ _; omega
/-- quiet minutes up to R: the class's memory stands -/
theorem quiet_m {σ : sMem} {v kd m R k B : Nat} {D : DA} (hM : MC c N P S) (hS : SC c N P S G) (hV : DV c N P S B D) (hH : HI c S G kd D m S) (hR : NM c P S G D m R) (h1 : m < k) (h2 : k < R) (hC : CR σ c v kd N P S G D k 0 false) : ∀ j, j ≤ S → ∃ E : DA, forG (dsA c P G kd k) D j = E ∧ CR σ c v kd N P S G E k j false ∧ DV c N P S (B + j) E ∧ HI c S G kd E m S ∧ NM c P S G E m R
  | 0, _ => ⟨D, rfl, hC, hV, hH, hR⟩
  | j + 1, hj => by
    obtain ⟨E, e1, e2, e3, e4, e5⟩ := quiet_m hM hS hV hH hR h1 h2 hC j (by omega)
    have e6 : forG (dsA c P G kd k) D (j + 1) = dsA c P G kd k j E := by rw [← e1]; rfl
    by_cases he : (E.2.1 j).2.2.1 = none ∧ (E.2.1 j).2.1 ≤ k
    · refine ⟨waA E, ?_, wait_CR (by omega) e2 he, waA_DV e3, e4, e5⟩
      rw [e6]
      unfold dsA
      rw [if_pos he]
      exact quiet hM hS e3 e4 e5 h1 h2 (by omega) he.1 he.2
    · refine ⟨E, ?_, stay_CR (by omega) e2 he, e3.mono (by omega), e4, e5⟩
      rw [e6]
      unfold dsA
      rw [if_neg he]
theorem quiet_n {σ : sMem} {v kd m R B : Nat} {D : DA} (hM : MC c N P S) (hS : SC c N P S G) (hV : DV c N P S B D) (hH : HI c S G kd D m S) (hR : NM c P S G D m R) (hC : CR σ c v kd N P S G D (m + 1) 0 false) : ∀ j, j = 0 ∨ m + j < R → ∃ E : DA, (∀ x, forG (dmA c P G S kd) x (m + 1) = D → forG (dmA c P G S kd) x (m + 1 + j) = E) ∧ CR σ c v kd N P S G E (m + 1 + j) 0 false ∧ DV c N P S (B + j * S) E ∧ HI c S G kd E m S ∧ NM c P S G E m R
  | 0, _ => ⟨D, fun x hx => hx, hC, by rw [Nat.zero_mul]; exact hV, hH, hR⟩
  | j + 1, hj => by
    obtain ⟨E, e1, e2, e3, e4, e5⟩ := quiet_n hM hS hV hH hR hC j (by omega)
    obtain ⟨F, f1, f2, f3, f4, f5⟩ := quiet_m (k := m + 1 + j) hM hS e3 e4 e5 (by omega) (by omega) e2 S (Nat.le_refl _)
    refine ⟨F, fun x hx => ?_, f2.shift, by rw [Nat.succ_mul, ← Nat.add_assoc]; exact f3, f4, f5⟩
    show dmA c P G S kd (m + 1 + j) (forG (dmA c P G S kd) x (m + 1 + j)) = F
    rw [e1 x hx]
    exact f1
end
