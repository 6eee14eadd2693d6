/-! THE REFERENCE'S DAY is the day by numbers: its begin, and what is read off it -/
/-- the lots before stranger s -/
def ltA (t : sMem) : Nat → Int32
  | 0 => t 0 0 30
  | s + 1 => if t 0 0 31 = 0 ∨ t 8 s 3 = 8 then ltA t s else ltA t s * 1103515245 + 12345
def cmF (t : sMem) (s : Nat) : Bool := decide (t 0 0 31 = 0 ∨ t 8 s 3 = 8) || decide (((ltA t s * 1103515245 + 12345) >>> (16 &&& 31)) &&& 7 < t 8 s 3)
def cnA (f : Nat → Bool) : Nat → Nat
  | 0 => 0
  | s + 1 => cnA f s + if f s then 1 else 0
theorem cnA_le (f : Nat → Bool) : ∀ n, cnA f n ≤ n
  | 0 => Nat.le_refl _
  | n + 1 => by
    have := cnA_le f n
    unfold cnA
    split <;> omega
section
variable {c : sMem} {N P S G : Nat}
theorem ouP_iff {p : Nat} : ouP c p = false ↔ (nI p = c 0 0 28 ∨ ¬ fN c (pP c p) (pQ c p) < 1000000) := by
  unfold ouP
  by_cases h1 : nI p = c 0 0 28
  · simp [h1]
  · by_cases h2 : fN c (pP c p) (pQ c p) < 1000000
    · simp [h1, h2]
    · simp [h1, h2]
theorem bgP_RA {t : sMem} {p : Nat} (hM : MC c N P S) (hT : TW c t G) (hp : p < P) : ((ouP c p = true → PA c (bgP p t) p (pP c p, pT c p)) ∧ (ouP c p = false → bgP p t 20 0 p = 0 ∧ bgP p t 22 0 p = 0 ∧ bgP p t 23 0 p = 0)) ∧ ∀ r, r ≠ p → bgP p t 18 r = t 18 r ∧ bgP p t 19 r = t 19 r ∧ bgP p t 20 0 r = t 20 0 r ∧ bgP p t 21 0 r = t 21 0 r ∧ bgP p t 22 0 r = t 22 0 r ∧ bgP p t 23 0 r = t 23 0 r := by
  obtain ⟨⟨ea, ha⟩, ⟨eb, hb⟩, ⟨et, ht⟩, -⟩ := hM.2.2.2.2.1 p hp
  have h12 := hM.1.1.1
  have e6 := hT.1 6 (by omega)
  have e14 := hT.1 14 (by omega)
  have w1 := hM.1.1.lt ha hb
  have eA : (t 6 p 0).toNatClampNeg = pP c p := by rw [e6]; rfl
  have eB : (t 6 p 1).toNatClampNeg = pQ c p := by rw [e6]; rfl
  unfold bgP
  rw [eA, eB, e14, hT.2.2 28 (by omega), show t 6 p 2 = nI (pT c p) by rw [e6]; exact et]
  cases ho : ouP c p with
  | false =>
    have h1 := ouP_iff.mp ho
    rw [if_pos (h1.imp id (fun z q => z (w1.mp q)))]
    refine ⟨⟨fun h => (by cases h), fun _ => ⟨?_, ?_, ?_⟩⟩, fun r hr => ⟨?_, ?_, ?_, ?_, ?_, ?_⟩⟩
    · rw [sUp_off (by decide), sUp_off (by decide), sUp_off (by decide), sUp_at]
    · rw [sUp_at]
    · rw [sUp_off (by decide), sUp_at]
    · rw [sUp_off (by decide), sUp_off (by decide), sUp_off (by decide), sUp_off (by decide)]
    · rw [sUp_off (by decide), sUp_off (by decide), sUp_off (by decide), sUp_off (by decide)]
    · rw [sUp_off (by decide), sUp_off (by decide), sUp_off (by decide), sUp_k hr]
    · rw [sUp_off (by decide), sUp_off (by decide), sUp_k hr, sUp_off (by decide)]
    · rw [sUp_k hr, sUp_off (by decide), sUp_off (by decide), sUp_off (by decide)]
    · rw [sUp_off (by decide), sUp_k hr, sUp_off (by decide), sUp_off (by decide)]
  | true =>
    have h1 : ¬ (nI p = c 0 0 28 ∨ ¬ c 14 (pP c p) (pQ c p) < 1000000) := fun z => by
      have : ouP c p = false := ouP_iff.mpr (z.imp id (fun z q => z (w1.mpr q)))
      rw [ho] at this; cases this
    rw [if_neg h1]
    have hf : fN c (pP c p) (pQ c p) < 1000000 := by
      unfold ouP at ho
      simp only [Bool.and_eq_true, decide_eq_true_eq] at ho
      exact ho.2
    generalize hu : sUp (sUp (sUp (sUp t 20 0 p 0) 21 0 p 0) 23 0 p 0) 22 0 p 0 = u
    have hu6 : ∀ a, a < 20 ∨ 24 ≤ a → u a = t a := fun a h => by rw [← hu, sUp_off (by omega), sUp_off (by omega), sUp_off (by omega), sUp_off (by omega)]
    have hu21 : u 21 0 p = 0 := by rw [← hu, sUp_off (by decide), sUp_off (by decide), sUp_at]
    obtain ⟨s1, s2, s3, s4⟩ := stM_at (t := u) (p := p) (w := pT c p) hM.1 ⟨by rw [hu6 6 (by omega)]; exact e6, by rw [hu6 13 (by omega)]; exact hT.1 13 (by omega), by rw [hu6 15 (by omega)]; exact hT.1 15 (by omega)⟩ hb ha hf
    refine ⟨⟨fun _ => ⟨?_, fun k hk => ?_, ?_, ?_, 0, ?_, Nat.zero_le _⟩, fun h => (by cases h)⟩, fun r hr => ?_⟩
    · rw [sUp_off (by decide)]; exact s1
    · rw [sUp_off (by decide), sUp_off (by decide)]; exact s2 k hk
    · rw [sUp_off (by decide)]; exact s3
    · rw [sUp_at]; exact s3
    · rw [sUp_off (by decide), stM_off (by decide)]; exact hu21
    · obtain ⟨v1, v2, v3, v4⟩ := s4 r hr
      refine ⟨?_, ?_, ?_, ?_, ?_, ?_⟩
      · rw [sUp_off (by decide), v1, hu6 18 (by omega)]
      · rw [sUp_off (by decide), v2, hu6 19 (by omega)]
      · rw [sUp_off (by decide), v3, ← hu, sUp_off (by decide), sUp_off (by decide), sUp_off (by decide), sUp_k hr]
      · rw [sUp_off (by decide), stM_off (by decide), ← hu, sUp_off (by decide), sUp_off (by decide), sUp_k hr, sUp_off (by decide)]
      · rw [sUp_k hr, stM_off (by decide), ← hu, sUp_k hr, sUp_off (by decide), sUp_off (by decide), sUp_off (by decide)]
      · rw [sUp_off (by decide), v4, ← hu, sUp_off (by decide), sUp_k hr, sUp_off (by decide), sUp_off (by decide)]
theorem bgPs_RA {t : sMem} (hM : MC c N P S) (hT : TW c t G) : ∀ k, k ≤ P → TW c (forM bgP t k) G ∧ (∀ a, a < 18 ∨ 24 ≤ a → forM bgP t k a = t a) ∧ ∀ p, p < k → (ouP c p = true → PA c (forM bgP t k) p (pP c p, pT c p)) ∧ (ouP c p = false → forM bgP t k 20 0 p = 0 ∧ forM bgP t k 22 0 p = 0 ∧ forM bgP t k 23 0 p = 0)
  | 0, _ => ⟨hT, fun _ _ => rfl, fun p hp => absurd hp (Nat.not_lt_zero _)⟩
  | k + 1, hk => by
    obtain ⟨i1, i2, i3⟩ := bgPs_RA hM hT k (by omega)
    obtain ⟨j1, j2⟩ := bgP_RA hM i1 (show k < P by omega)
    show TW c (bgP k (forM bgP t k)) G ∧ (∀ a, a < 18 ∨ 24 ≤ a → bgP k (forM bgP t k) a = t a) ∧ ∀ p, p < k + 1 → (ouP c p = true → PA c (bgP k (forM bgP t k)) p (pP c p, pT c p)) ∧ (ouP c p = false → bgP k (forM bgP t k) 20 0 p = 0 ∧ bgP k (forM bgP t k) 22 0 p = 0 ∧ bgP k (forM bgP t k) 23 0 p = 0)
    generalize forM bgP t k = u at *
    refine ⟨i1.cg (fun a h0 h => bgP_off (by omega)) (fun k' hk' => by rw [bgP_off (by omega)]), fun a ha => by rw [bgP_off ha]; exact i2 a ha, fun p hp => ?_⟩
    by_cases e : p = k
    · subst e
      exact j1
    · obtain ⟨v1, v2, v3, v4, v5, v6⟩ := j2 p e
      obtain ⟨w1, w2⟩ := i3 p (by omega)
      unfold PA at w1 ⊢
      rw [v1, v2, v3, v4, v5, v6]
      exact ⟨w1, w2⟩
theorem bgS_at' (s : Nat) (t : sMem) : bgS s t 25 0 s = t 8 s 0 ∧ bgS s t 26 0 s = (if icC t s then t 8 s 2 else 1000000) ∧ bgS s t 27 0 s = -1 ∧ bgS s t 28 0 s = 0 ∧ bgS s t 0 0 30 = (if t 0 0 31 = 0 ∨ t 8 s 3 = 8 then t 0 0 30 else t 0 0 30 * 1103515245 + 12345) ∧ bgS s t 0 0 47 = t 0 0 47 + (if (if icC t s then t 8 s 2 else 1000000) < 1000000 then 1 else 0) ∧
    (∀ u, u ≠ s → bgS s t 25 0 u = t 25 0 u ∧ bgS s t 26 0 u = t 26 0 u ∧ bgS s t 27 0 u = t 27 0 u ∧ bgS s t 28 0 u = t 28 0 u) ∧ ∀ k, k ≠ 30 → k ≠ 47 → bgS s t 0 0 k = t 0 0 k := by
  have i25 : icS (sUp t 25 0 s (t 8 s 0)) s 25 = sUp t 25 0 s (t 8 s 0) 25 := icS_off (by decide)
  have i26 : icS (sUp t 25 0 s (t 8 s 0)) s 26 = t 26 := by rw [icS_off (by decide), sUp_off (by decide)]
  have i27 : icS (sUp t 25 0 s (t 8 s 0)) s 27 = t 27 := by rw [icS_off (by decide), sUp_off (by decide)]
  have i28 : icS (sUp t 25 0 s (t 8 s 0)) s 28 = t 28 := by rw [icS_off (by decide), sUp_off (by decide)]
  have i30 : icS (sUp t 25 0 s (t 8 s 0)) s 0 0 30 = (if t 0 0 31 = 0 ∨ t 8 s 3 = 8 then t 0 0 30 else t 0 0 30 * 1103515245 + 12345) := by
    unfold icS
    rw [sUp_off (by decide), sUp_off (by decide)]
    split
    · rw [sUp_off (by decide)]
    · rw [sUp_at]
  have i0 : ∀ k, k ≠ 30 → icS (sUp t 25 0 s (t 8 s 0)) s 0 0 k = t 0 0 k := fun k hk => by rw [icS_0 hk, sUp_off (by decide)]
  unfold bgS
  try dsimp only
  generalize icS (sUp t 25 0 s (t 8 s 0)) s = w at *
  refine ⟨?_, ?_, ?_, ?_, ?_, ?_, fun u hu => ⟨?_, ?_, ?_, ?_⟩, fun k h1 h2 => ?_⟩
  · rw [sUp_off (by decide), sUp_off (by decide), sUp_off (by decide), sUp_off (by decide), i25, sUp_at]
  · rw [sUp_off (by decide), sUp_off (by decide), sUp_off (by decide), sUp_at]
  · rw [sUp_off (by decide), sUp_at]
  · rw [sUp_at]
  · rw [sUp_off (by decide), sUp_off (by decide), sUp_k (by decide), sUp_off (by decide), i30]
  · rw [sUp_off (by decide), sUp_off (by decide), sUp_at, sUp_at]
  · rw [sUp_off (by decide), sUp_off (by decide), sUp_off (by decide), sUp_off (by decide), i25, sUp_k hu]
  · rw [sUp_off (by decide), sUp_off (by decide), sUp_off (by decide), sUp_k hu, i26]
  · rw [sUp_off (by decide), sUp_k hu, sUp_off (by decide), sUp_off (by decide), i27]
  · rw [sUp_k hu, sUp_off (by decide), sUp_off (by decide), sUp_off (by decide), i28]
  · rw [sUp_off (by decide), sUp_off (by decide), sUp_k h2, sUp_off (by decide), i0 k h1]
theorem be_RA {t : sMem} (hM : MC c N P S) (hT : TW c t G) : RA c (beM t P G S) P S G (beA c (cmF t)) ∧ beM t P G S 0 0 47 = nI (cnA (cmF t) S) := by
  unfold beM
  generalize hz : sUp (sUp (sUp (sUp t 0 0 44 0) 0 0 45 0) 0 0 46 0) 0 0 47 0 = z
  have z0 : ∀ k, k < 44 → z 0 0 k = t 0 0 k := fun k hk => by rw [← hz, sUp_k (by omega), sUp_k (by omega), sUp_k (by omega), sUp_k (by omega)]
  have za : ∀ a, a ≠ 0 → z a = t a := fun a ha => by rw [← hz, sUp_off ha, sUp_off ha, sUp_off ha, sUp_off ha]
  have z44 : z 0 0 44 = 0 := by rw [← hz, sUp_k (by decide), sUp_k (by decide), sUp_k (by decide), sUp_at]
  have z45 : z 0 0 45 = 0 := by rw [← hz, sUp_k (by decide), sUp_k (by decide), sUp_at]
  have z46 : z 0 0 46 = 0 := by rw [← hz, sUp_k (by decide), sUp_at]
  have z47 : z 0 0 47 = 0 := by rw [← hz, sUp_at]
  have hTz : TW c z G := hT.cg (fun a h _ => za a h) (fun k hk => z0 k (by omega))
  obtain ⟨i1, i2, i3⟩ := bgPs_RA hM hTz P (Nat.le_refl _)
  generalize forM bgP z P = u at *
  have hF : ∀ k, (∀ a, a ≠ 24 → forM bgF u k a = u a) ∧ ∀ g, g < k → forM bgF u k 24 0 g = 0 := by
    intro k
    induction k with
    | zero => exact ⟨fun _ _ => rfl, fun g hg => absurd hg (Nat.not_lt_zero _)⟩
    | succ k ih =>
      refine ⟨fun a ha => (sUp_off ha).trans (ih.1 a ha), fun g hg => ?_⟩
      show sUp (forM bgF u k) 24 0 k 0 24 0 g = 0
      by_cases e : g = k
      · subst e; rw [sUp_at]
      · rw [sUp_k e]; exact ih.2 g (by omega)
  obtain ⟨f1, f2⟩ := hF G
  generalize forM bgF u G = w at *
  have w0 : w 0 = z 0 := (f1 0 (by decide)).trans (i2 0 (by omega))
  have w8 : w 8 = t 8 := (f1 8 (by decide)).trans ((i2 8 (by omega)).trans (za 8 (by decide)))
  have e8 := hT.1 8 (by omega)
  -- the strangers
  have hI : ∀ k, k ≤ S → (∀ a, a ≠ 0 ∧ a ≠ 25 ∧ a ≠ 26 ∧ a ≠ 27 ∧ a ≠ 28 → forM bgS w k a = w a) ∧ (∀ j, j ≠ 30 → j ≠ 47 → forM bgS w k 0 0 j = z 0 0 j) ∧ forM bgS w k 0 0 30 = ltA t k ∧ forM bgS w k 0 0 47 = nI (cnA (cmF t) k) ∧
      ∀ s, s < k → forM bgS w k 25 0 s = nI (sX c s) ∧ forM bgS w k 26 0 s = nI (if cmF t s then sT c s else 1000000) ∧ forM bgS w k 27 0 s = -1 ∧ forM bgS w k 28 0 s = 0 := by
    intro k
    induction k with
    | zero =>
      intro _
      refine ⟨fun _ _ => rfl, fun j _ _ => congrFun (congrFun w0 0) j, ?_, ?_, fun s hs => absurd hs (Nat.not_lt_zero _)⟩
      · show w 0 0 30 = t 0 0 30
        rw [w0]; exact z0 30 (by decide)
      · show w 0 0 47 = nI 0
        rw [w0]; exact z47
    | succ k ih =>
      intro hk
      obtain ⟨a1, a2, a3, a4, a5⟩ := ih (by omega)
      show (∀ a, a ≠ 0 ∧ a ≠ 25 ∧ a ≠ 26 ∧ a ≠ 27 ∧ a ≠ 28 → bgS k (forM bgS w k) a = w a) ∧ (∀ j, j ≠ 30 → j ≠ 47 → bgS k (forM bgS w k) 0 0 j = z 0 0 j) ∧ bgS k (forM bgS w k) 0 0 30 = ltA t (k + 1) ∧ bgS k (forM bgS w k) 0 0 47 = nI (cnA (cmF t) (k + 1)) ∧ ∀ s, s < k + 1 → bgS k (forM bgS w k) 25 0 s = nI (sX c s) ∧ bgS k (forM bgS w k) 26 0 s = nI (if cmF t s then sT c s else 1000000) ∧ bgS k (forM bgS w k) 27 0 s = -1 ∧ bgS k (forM bgS w k) 28 0 s = 0
      generalize forM bgS w k = v at *
      obtain ⟨b1, b2, b3, b4, b5, b6, b7, b8⟩ := bgS_at' k v
      have v8 : v 8 = t 8 := (a1 8 (by decide)).trans w8
      have v31 : v 0 0 31 = t 0 0 31 := (a2 31 (by decide) (by decide)).trans (z0 31 (by decide))
      obtain ⟨⟨ex, -⟩, -, ⟨et, ht⟩, -⟩ := hM.2.2.2.2.2 k (by omega)
      have eic : icC v k = cmF t k := by
        unfold icC cmF
        rw [v31, v8, a3]
      have e26 : (if icC v k = true then v 8 k 2 else 1000000) = nI (if cmF t k = true then sT c k else 1000000) := by
        rw [eic, v8, e8, et]
        split <;> rfl
      refine ⟨fun a ha => by rw [bgS_off ha]; exact a1 a ha, fun j h1 h2 => by rw [b8 j h1 h2]; exact a2 j h1 h2, ?_, ?_, fun s hs => ?_⟩
      · rw [b5, v31, v8, a3]; rfl
      · rw [b6, e26, a4]
        show _ = nI (cnA (cmF t) k + if cmF t k = true then 1 else 0)
        cases cmF t k with
        | true =>
          have : nI (sT c k) < 1000000 := (nI_ltI (b := 1000000) (by omega) (by decide)).mpr (by omega)
          simp only [if_true]
          rw [if_pos this]
          exact nIs _
        | false =>
          simp only [Bool.false_eq_true, if_false]
          rw [if_neg (by decide)]
          exact Int32.add_zero _
      · by_cases e : s = k
        · subst e
          refine ⟨?_, b2.trans e26, b3, b4⟩
          rw [b1, v8, e8]; exact ex
        · obtain ⟨q1, q2, q3, q4⟩ := b7 s e
          rw [q1, q2, q3, q4]
          exact a5 s (by omega)
  obtain ⟨a1, a2, a3, a4, a5⟩ := hI S (Nat.le_refl _)
  refine ⟨⟨?_, ?_, fun s hs => ?_, fun g hg => ?_, ?_, ?_, ?_⟩, a4⟩
  · refine hTz.cg (fun a h0 h => ?_) (fun k hk => a2 k (by omega) (by omega))
    rw [a1 a (by omega), f1 a (by omega), i2 a (by omega)]
  · refine RA.per (t := w) ?_ (fun a h1 h2 => a1 a (by omega))
    exact RA.per (t := u) i3 (fun a h1 h2 => f1 a (by omega))
  · obtain ⟨q1, q2, q3, q4⟩ := a5 s hs
    exact ⟨q1, q2, q3, q4, fun i x hi => (by cases hi)⟩
  · rw [a1 24 (by decide)]; exact f2 g hg
  · rw [a2 44 (by decide) (by decide)]; exact z44
  · rw [a2 46 (by decide) (by decide)]; exact z46
  · rw [a2 45 (by decide) (by decide)]; exact z45
end
