/-! THE REFERENCE: a day -/
theorem forM_I {I : Nat → sMem → Prop} {f : Nat → sMem → sMem} {σ : sMem} (h0 : I 0 σ) : ∀ n : Nat, (∀ k s, k < n → I k s → I (k + 1) (f k s)) → I n (forM f σ n)
  | 0, _ => h0
  | n + 1, h => h n _ (by omega) (forM_I h0 n (fun k s hk hs => h k s (by omega) hs))
/-- the town, as it stands between the calls -/
def MJ (σ : sMem) (N P S G : Nat) : Prop := TD σ N P S ∧ TR σ N ∧ NX σ N ∧ TF σ P S ∧ σ 3 0 3 = nI G ∧ G ≤ 4
theorem MJ.cg {σ σ' : sMem} {N P S G : Nat} (h : MJ σ N P S G) (hh : ∀ a, a = 3 ∨ a = 6 ∨ a = 8 ∨ a = 13 ∨ a = 14 ∨ a = 15 ∨ a = 16 → σ' a = σ a) : MJ σ' N P S G := by
  refine ⟨h.1.cg (fun a ha => hh a (by rcases ha with h | h | h | h | h | h <;> simp [h])), h.2.1.congr (hh 14 (by simp)), ?_, ?_, ?_, h.2.2.2.2.2⟩
  · unfold NX; rw [hh 15 (by simp)]; exact h.2.2.1
  · unfold TF; rw [hh 16 (by simp)]; exact h.2.2.2.1
  · rw [hh 3 (by simp)]; exact h.2.2.2.2.1
theorem MJ.z0 {t : sMem} {N P S G : Nat} (h : MJ t N P S G) (k : Nat) (v : Int32) : MJ (sUp t 0 0 k v) N P S G := h.cg (fun _ ha => sUp_off (by omega))
theorem DJ.cg {σ σ' : sMem} {N P S G B G0 : Nat} (h : DJ σ N P S G B) (h3 : MJ σ N P S G0) : MJ σ N P S G0 := h3
theorem bgS_at (s : Nat) (t : sMem) (x : Nat) : bgS s t 25 0 x = (if x = s then t 8 s 0 else t 25 0 x) ∧ bgS s t 28 0 x = (if x = s then 0 else t 28 0 x) ∧ (∀ k, k ≠ 30 → k ≠ 47 → bgS s t 0 0 k = t 0 0 k) := by
  unfold bgS
  try dsimp only
  refine ⟨?_, ?_, fun k h1 h2 => ?_⟩
  · rw [sUp_off (by decide), sUp_off (by decide), sUp_off (by decide), sUp_off (by decide), icS_off (by decide)]
    simp [sUp]
  · by_cases e : x = s
    · subst e; rw [sUp_at, if_pos rfl]
    · rw [sUp_k e, sUp_off (by decide), sUp_off (by decide), sUp_off (by decide), icS_off (by decide), sUp_off (by decide), if_neg e]
  · rw [sUp_off (by decide), sUp_off (by decide), sUp_k h2, sUp_off (by decide), icS_0 h1, sUp_off (by decide)]
theorem beM_0 (σ : sMem) (P G S k : Nat) (h : k < 44) (h3 : k ≠ 30) : beM σ P G S 0 0 k = σ 0 0 k := by
  unfold beM
  refine forM_P (P := fun t => t 0 0 k = σ 0 0 k) ?_ S (fun s t _ ht => by rw [(bgS_at s t 0).2.2 k h3 (by omega)]; exact ht)
  rw [forM_off (fun k t => bgF_off (by decide)), forM_off (fun k t => bgP_off (by omega)), sUp_k (by omega), sUp_k (by omega), sUp_k (by omega), sUp_k (by omega)]
theorem beM_off (σ : sMem) (P G S a : Nat) (h : a ≠ 0 ∧ (a < 18 ∨ 29 ≤ a)) : beM σ P G S a = σ a := by
  unfold beM
  rw [forM_off (fun k t => bgS_off (by omega)), forM_off (fun k t => bgF_off (by omega)), forM_off (fun k t => bgP_off (by omega)), sUp_off h.1, sUp_off h.1, sUp_off h.1, sUp_off h.1]
theorem beM_DJ {σ : sMem} {N P S G G0 : Nat} (h : MJ σ N P S G0) (eG : σ 0 0 26 = nI G) (hG : G ≤ 6) : DJ (beM σ P G S) N P S G 0 := by
  have h' : MJ (beM σ P G S) N P S G0 := h.cg (fun a ha => beM_off _ _ _ _ _ (by omega))
  refine ⟨h'.1, h'.2.1, ⟨?_, ?_⟩, h'.2.2.1, h'.2.2.2.1, ⟨by rw [beM_0 _ _ _ _ _ (by decide) (by decide)]; exact eG, hG⟩, ?_⟩
  · unfold beM
    have h8 : ∀ s, s < S → ∃ x : Nat, (forM bgF (forM bgP (sUp (sUp (sUp (sUp σ 0 0 44 0) 0 0 45 0) 0 0 46 0) 0 0 47 0) P) G) 8 s 0 = nI x ∧ x < N := by
      intro s hs
      rw [forM_off (fun k t => bgF_off (by decide)), forM_off (fun k t => bgP_off (by omega)), sUp_off (by decide), sUp_off (by decide), sUp_off (by decide), sUp_off (by decide)]
      obtain ⟨a, -, -, -, ha, -⟩ := h.1.2.2.2.2.2.2 s hs
      exact ⟨a, ha⟩
    generalize forM bgF (forM bgP (sUp (sUp (sUp (sUp σ 0 0 44 0) 0 0 45 0) 0 0 46 0) 0 0 47 0) P) G = b at h8
    have key := forM_I (I := fun k t => (∀ s, s < S → ∃ x : Nat, t 8 s 0 = nI x ∧ x < N) ∧ ∀ s, s < k → ∃ x : Nat, t 25 0 s = nI x ∧ x < N) (f := bgS) (σ := b) ⟨h8, fun s hs => by omega⟩ S
      (fun k t hk ht => ⟨by rw [bgS_off (by decide)]; exact ht.1, fun s hs => by
        rw [(bgS_at k t s).1]
        by_cases e : s = k
        · subst e; rw [if_pos rfl]; exact ht.1 s hk
        · rw [if_neg e]; exact ht.2 s (by omega)⟩)
    exact key.2
  · unfold beM
    rw [forM_off (fun k t => bgS_off (by decide)), forM_off (fun k t => bgF_off (by decide))]
    exact forM_I (I := fun k t => ∀ q, q < k → ∃ g : Nat, t 20 0 q = nI g ∧ g ≤ 13) (f := bgP) (fun q hq => by omega) P (fun k t hk ht q hq => by
      obtain ⟨⟨n', h1, h2⟩, h3⟩ := bgP_20 k t
      by_cases e : q = k
      · subst e; exact ⟨n', h2, h1⟩
      · rw [h3 q e]; exact ht q (by omega))
  · unfold beM
    exact forM_I (I := fun k t => ∀ s, s < k → ∃ x : Nat, t 28 0 s = nI x ∧ x ≤ 0) (f := bgS) (fun q hq => by omega) S (fun k t hk ht q hq => by
      rw [(bgS_at k t q).2.1]
      by_cases e : q = k
      · rw [if_pos e]; exact ⟨0, rfl, by omega⟩
      · rw [if_neg e]; exact ht q (by omega))
def dyS (kd : Int32) (P G m s : Nat) (t : sMem) : sMem := if t 27 0 s = -1 ∧ t 26 0 s ≤ nI m then asM t P G s kd (nI m) else t
def dyM (kd : Int32) (P G S m : Nat) (t : sMem) : sMem := forM (dyS kd P G m) t S
def daM (σ : sMem) (kd : Int32) (P G S : Nat) : sMem := forM (dyM kd P G S) (beM σ P G S) 1000
theorem dyS_DJ {t : sMem} {N P S G B : Nat} (h : DJ t N P S G B) (kd : Int32) (m s : Nat) (hs : s < S) : DJ (dyS kd P G m s t) N P S G (B + 1) := by
  unfold dyS
  split
  · exact asM_DJ h s kd _ hs
  · exact h.mono (by omega)
theorem dyM_DJ {t : sMem} {N P S G B : Nat} (h : DJ t N P S G B) (kd : Int32) (m : Nat) : ∀ k, k ≤ S → DJ (forM (dyS kd P G m) t k) N P S G (B + k) := fun k hk =>
  forM_I (I := fun k t => DJ t N P S G (B + k)) h k (fun j u hj hu => dyS_DJ hu kd m j (by omega))
theorem daM_DJ {t : sMem} {N P S G : Nat} (h : DJ t N P S G 0) (kd : Int32) (k : Nat) : DJ (forM (dyM kd P G S) t k) N P S G (k * S) :=
  forM_I (I := fun k t => DJ t N P S G (k * S)) (h.mono (by omega)) k (fun j u hj hu => by
    have := dyM_DJ hu kd j S (Nat.le_refl _)
    rw [Nat.succ_mul]
    exact this)
def goM (σ : sMem) (kd : Int32) (P S : Nat) : sMem := daM (sUp (sUp σ 0 0 26 (σ 3 0 3)) 0 0 27 (σ 3 0 4)) kd P (σ 3 0 3).toNatClampNeg S
def csM (t : sMem) : Nat → Int32
  | 0 => t 0 0 44
  | p + 1 => csM t p + t 6 p 3 * (t 23 0 p - t 22 0 p)
def lfN (t : sMem) : Nat → Int32
  | 0 => 0
  | s + 1 => lfN t s + if t 27 0 s = -1 ∧ t 26 0 s < 1000000 then 1 else 0
section
variable {l : Launch} {D : va_G} {b0 : Nat} {ty : Nat → ClassId}
set_option maxHeartbeats 4000000 in
theorem c9_day0 (d : Nat) (σ : sMem) (N P S G G0 : Nat) (kd : Int32) (hJ : MJ σ N P S G0) (eG : σ 0 0 26 = nI G) (hG6 : G ≤ 6) : sMet l D b0 ty lay (d + 4) mX9_day0 [aR 0, aI (kd)] σ (fun r σ' => r = [] ∧ σ' = daM σ kd P G S) := by
  refine sMet_intro lay_nd kX9_day0 xX9_ok (by decide +kernel) rfl ?_
  intro K hK
  have hS := hJ.1.2.2.2.2.1.2
  have hD0 := beM_DJ hJ eG hG6
  generalize hZ : daM σ kd P G S = Z at hK
  unfold daM at hZ
  iterate 2 refine hK _ _ _ _ ?_
  refine calD (c9_begins (d + 2) σ N P S G hJ.1 eG hG6) ?_
  rintro r σ' ⟨rfl, rfl⟩
  generalize beM σ P G S = b at hZ hD0 ⊢
  iterate 2 refine hK _ _ _ _ ?_
  have L6 : ∀ m, m ≤ 1000 → ∀ e3, K 6 [some (aR 0), some (aI (kd)), some (aI (nI m)), e3] [] (forM (dyM kd P G S) b m) := by
    refine kDown (P := fun m => ∀ e3, K 6 [some (aR 0), some (aI (kd)), some (aI (nI m)), e3] [] (forM (dyM kd P G S) b m)) ?_ ?_
    · intro e3
      rw [hZ]
      iterate 3 refine hK _ _ _ _ ?_
      refine And.intro (fun _ => ?_) (fun h => absurd (show (Int16.ofInt 999).toInt32 < nI 1000 by decide) h)
      refine hK _ _ _ _ ?_
      exact ⟨rfl, rfl⟩
    · intro m hm ih
      have ih' : ∀ e3, K 6 [some (aR 0), some (aI (kd)), some (aI (nI (m + 1))), e3] [] ((dyM kd P G S) m (forM (dyM kd P G S) b m)) := ih
      clear ih
      have hI : DJ (forM (dyM kd P G S) b m) N P S G (m * S) := daM_DJ hD0 kd m
      generalize forM (dyM kd P G S) b m = t at ih' hI ⊢
      intro e3
      iterate 3 refine hK _ _ _ _ ?_
      refine And.intro (fun h => absurd ((nI_ltI (a := 999) (by decide) (by omega)).mp h) (by omega)) (fun _ => ?_)
      iterate 2 refine hK _ _ _ _ ?_
      have L15 : ∀ s, s ≤ S → K 15 [some (aR 0), some (aI (kd)), some (aI (nI m)), some (aI (nI s))] [] (forM (dyS kd P G m) t s) := by
        refine kDown (P := fun s => K 15 [some (aR 0), some (aI (kd)), some (aI (nI m)), some (aI (nI s))] [] (forM (dyS kd P G m) t s)) ?_ ?_
        · have hI2 := dyM_DJ hI kd m S (Nat.le_refl _)
          have e3 := hI2.1.2.2.2.2.1.1
          iterate 5 refine hK _ _ _ _ ?_
          refine And.intro (vp_in_nI (n := 2) (by decide) (by decide)) ?_
          rw [show (Int32.ofInt 2).toNatClampNeg = 2 from rfl]
          rw [show (forM (dyS kd P G m) t S) 3 0 2 = nI S from e3]
          refine hK _ _ _ _ ?_
          refine And.intro (fun _ => ?_) (fun h => absurd (Int32.le_refl _) h)
          refine hK _ _ _ _ ?_
          show K _ _ _ _
          rw [show nI m + Int32.ofInt 1 = nI (m + 1) from nIs _]
          refine hK _ _ _ _ ?_
          exact ih' _
        · intro s hs ih
          have ih' : K 15 [some (aR 0), some (aI (kd)), some (aI (nI m)), some (aI (nI (s + 1)))] [] ((dyS kd P G m) s (forM (dyS kd P G m) t s)) := ih
          clear ih
          have hI : DJ (forM (dyS kd P G m) t s) N P S G (m * S + s) := dyM_DJ hI kd m s (by omega)
          generalize forM (dyS kd P G m) t s = u at ih' hI ⊢
          have l52 : K 52 [some (aR 0), some (aI (kd)), some (aI (nI m)), some (aI (nI s))] [] (dyS kd P G m s u) := by
            refine hK _ _ _ _ ?_
            show K _ _ _ _
            rw [show nI s + Int32.ofInt 1 = nI (s + 1) from nIs _]
            refine hK _ _ _ _ ?_
            exact ih'
          unfold dyS at l52
          iterate 5 refine hK _ _ _ _ ?_
          refine And.intro (vp_in_nI (n := 2) (by decide) (by decide)) ?_
          rw [show (Int32.ofInt 2).toNatClampNeg = 2 from rfl]
          rw [show u 3 0 2 = nI S from hI.1.2.2.2.2.1.1]
          refine hK _ _ _ _ ?_
          refine And.intro (fun h => absurd h (nI_ge hs (by omega))) (fun _ => ?_)
          iterate 4 refine hK _ _ _ _ ?_
          refine And.intro (vp_in_nI (n := s) (by omega) (by decide)) ?_
          rw [nI_clamp (show s < 2 ^ 31 by omega)]
          iterate 2 refine hK _ _ _ _ ?_
          have ih'' := ih'
          refine And.intro (fun h => ?_) (fun h => ?_)
          · rw [if_neg (fun q => h q.1)] at l52
            exact l52
          · iterate 4 refine hK _ _ _ _ ?_
            refine And.intro (vp_in_nI (n := s) (by omega) (by decide)) ?_
            rw [nI_clamp (show s < 2 ^ 31 by omega)]
            iterate 2 refine hK _ _ _ _ ?_
            refine And.intro (fun h2 => ?_) (fun h2 => ?_)
            · rw [if_neg (fun q => Int32.not_le.mpr h2 q.2)] at l52
              exact l52
            · rw [if_pos ⟨h, Int32.not_lt.mp h2⟩] at l52
              iterate 5 refine hK _ _ _ _ ?_
              refine calD (c9_asks d u N P S G (m * S + s) hI s kd (nI m) hs (by have : m * S ≤ 1000 * 8 := Nat.mul_le_mul (by omega) hS; omega)) ?_
              rintro r σ' ⟨rfl, rfl⟩
              exact l52
      exact L15 0 (Nat.zero_le _)
  exact L6 0 (Nat.zero_le _) _
theorem c9_goes (d : Nat) (σ : sMem) (N P S G : Nat) (kd : Int32) (hJ : MJ σ N P S G) : sMet l D b0 ty lay (d + 5) mX9_goes [aR 0, aI (kd)] σ (fun r σ' => r = [] ∧ σ' = goM σ kd P S) := by
  refine sMet_intro lay_nd kX9_goes xX9_ok (by decide +kernel) rfl ?_
  intro K hK
  have e3 := hJ.2.2.2.2.1
  have hG := hJ.2.2.2.2.2
  generalize hZ : goM σ kd P S = Z at hK
  unfold goM at hZ
  rw [e3, nI_clamp (show G < 2 ^ 31 by omega)] at hZ
  iterate 5 refine hK _ _ _ _ ?_
  refine And.intro (vp_in_nI (n := 3) (by decide) (by decide)) ?_
  rw [show (Int32.ofInt 3).toNatClampNeg = 3 from rfl]
  rw [show σ 3 0 3 = nI G from e3]
  iterate 6 refine hK _ _ _ _ ?_
  refine And.intro (vp_in_nI (n := 4) (by decide) (by decide)) ?_
  rw [show (Int32.ofInt 4).toNatClampNeg = 4 from rfl]
  rw [sUp_off (by decide)]
  iterate 4 refine hK _ _ _ _ ?_
  refine calD (c9_day0 d _ N P S G G kd ((hJ.z0 26 _).z0 27 _) (by rw [sUp_k (by decide), sUp_at]) (by omega)) ?_
  rintro r σ' ⟨rfl, rfl⟩
  refine hK _ _ _ _ ?_
  exact ⟨rfl, hZ⟩
theorem c9_costNow (d : Nat) (σ : sMem) (P : Nat) (e1 : σ 3 0 1 = nI P) (hP : P ≤ 10) : sMet l D b0 ty lay (d + 1) mX9_costNow [aR 0] σ (fun r σ' => r = [aI (csM σ P)] ∧ σ' = σ) := by
  refine sMet_intro lay_nd kX9_costNow xX9_ok (by decide +kernel) rfl ?_
  intro K hK
  iterate 2 refine hK _ _ _ _ ?_
  iterate 3 refine hK _ _ _ _ ?_
  have key : ∀ p, p ≤ P → K 7 [some (aR 0), some (aI (csM σ p)), some (aI (nI p))] [] σ := by
    refine kDown (P := fun p => K 7 [some (aR 0), some (aI (csM σ p)), some (aI (nI p))] [] σ) ?_ ?_
    · iterate 5 refine hK _ _ _ _ ?_
      refine And.intro (vp_in_nI (n := 1) (by decide) (by decide)) ?_
      rw [show (Int32.ofInt 1).toNatClampNeg = 1 from rfl]
      rw [show σ 3 0 1 = nI P from e1]
      refine hK _ _ _ _ ?_
      refine And.intro (fun _ => ?_) (fun h => absurd (Int32.le_refl _) h)
      iterate 2 refine hK _ _ _ _ ?_
      exact ⟨rfl, rfl⟩
    · intro p hp ih
      iterate 5 refine hK _ _ _ _ ?_
      refine And.intro (vp_in_nI (n := 1) (by decide) (by decide)) ?_
      rw [show (Int32.ofInt 1).toNatClampNeg = 1 from rfl]
      rw [show σ 3 0 1 = nI P from e1]
      refine hK _ _ _ _ ?_
      refine And.intro (fun h => absurd h (nI_ge hp (by omega))) (fun _ => ?_)
      iterate 4 refine hK _ _ _ _ ?_
      refine calD (c9_lostBy d σ p (by omega)) ?_
      rintro r σ' ⟨rfl, hσ⟩
      subst σ'
      iterate 3 refine hK _ _ _ _ ?_
      show K _ _ _ _
      rw [show nI p + Int32.ofInt 1 = nI (p + 1) from nIs _]
      refine hK _ _ _ _ ?_
      exact ih
  exact key 0 (Nat.zero_le _)
theorem c9_leftNow (d : Nat) (σ : sMem) (S : Nat) (e1 : σ 3 0 2 = nI S) (hS : S ≤ 8) : sMet l D b0 ty lay d mX9_leftNow [aR 0] σ (fun r σ' => r = [aI (lfN σ S)] ∧ σ' = σ) := by
  refine sMet_intro lay_nd kX9_leftNow xX9_ok (by decide +kernel) rfl ?_
  intro K hK
  iterate 4 refine hK _ _ _ _ ?_
  have key : ∀ s, s ≤ S → K 4 [some (aR 0), some (aI (lfN σ s)), some (aI (nI s))] [] σ := by
    refine kDown (P := fun s => K 4 [some (aR 0), some (aI (lfN σ s)), some (aI (nI s))] [] σ) ?_ ?_
    · iterate 5 refine hK _ _ _ _ ?_
      refine And.intro (vp_in_nI (n := 2) (by decide) (by decide)) ?_
      rw [show (Int32.ofInt 2).toNatClampNeg = 2 from rfl]
      rw [show σ 3 0 2 = nI S from e1]
      refine hK _ _ _ _ ?_
      refine And.intro (fun _ => ?_) (fun h => absurd (Int32.le_refl _) h)
      iterate 2 refine hK _ _ _ _ ?_
      exact ⟨rfl, rfl⟩
    · intro s hs ih
      unfold lfN at ih
      have l41 : ∀ (c : Int32), (if σ 27 0 s = -1 ∧ σ 26 0 s < 1000000 then 1 else 0) = c → K 41 [some (aR 0), some (aI (lfN σ s)), some (aI (nI s))] [aI (c), aI (lfN σ s)] σ := by
        intro c hc
        rw [hc] at ih
        iterate 3 refine hK _ _ _ _ ?_
        show K _ _ _ _
        rw [show nI s + Int32.ofInt 1 = nI (s + 1) from nIs _]
        refine hK _ _ _ _ ?_
        exact ih
      iterate 5 refine hK _ _ _ _ ?_
      refine And.intro (vp_in_nI (n := 2) (by decide) (by decide)) ?_
      rw [show (Int32.ofInt 2).toNatClampNeg = 2 from rfl]
      rw [show σ 3 0 2 = nI S from e1]
      refine hK _ _ _ _ ?_
      refine And.intro (fun h => absurd h (nI_ge hs (by omega))) (fun _ => ?_)
      iterate 5 refine hK _ _ _ _ ?_
      refine And.intro (vp_in_nI (n := s) (by omega) (by decide)) ?_
      rw [nI_clamp (show s < 2 ^ 31 by omega)]
      iterate 2 refine hK _ _ _ _ ?_
      refine And.intro (fun h => ?_) (fun h => ?_)
      · refine hK _ _ _ _ ?_
        exact l41 _ (if_neg (fun q => h q.1))
      · iterate 4 refine hK _ _ _ _ ?_
        refine And.intro (vp_in_nI (n := s) (by omega) (by decide)) ?_
        rw [nI_clamp (show s < 2 ^ 31 by omega)]
        iterate 2 refine hK _ _ _ _ ?_
        refine And.intro (fun h2 => ?_) (fun h2 => ?_)
        · refine hK _ _ _ _ ?_
          exact l41 _ (if_neg (fun q => Int32.not_lt.mpr h2 q.2))
        · iterate 2 refine hK _ _ _ _ ?_
          exact l41 _ (if_pos ⟨h, Int32.not_le.mp h2⟩)
  exact key 0 (Nat.zero_le _)
end
