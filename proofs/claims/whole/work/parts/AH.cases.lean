/-! THE LAW: its calls, one by one -/
theorem lg_self (x : Int64) : lg_cmp x x = 0 := by
  unfold lg_cmp
  simp
theorem cd1_of {E e : String} {k : Int32} (h : cd1 E e = some k) : e = E := by
  unfold cd1 at h
  split at h
  · assumption
  · cases h
theorem cd2_of {e : String} {k : Int32} (h : cd2 e = some k) : e = yNSE ∨ e = yIAE := by
  unfold cd2 at h
  split at h
  · exact Or.inl (by assumption)
  · split at h
    · exact Or.inr (by assumption)
    · cases h
theorem in_s1 {i L : Nat} (h : i + 1 < L) (hL : L ≤ 3072) : vp_in (nI i + Int32.ofInt 1) L ∧ (nI i + Int32.ofInt 1).toNatClampNeg = i + 1 := by
  have e : nI i + Int32.ofInt 1 = nI (i + 1) := nIa i 1
  rw [e]
  exact ⟨vp_in_nI h (by omega), nI_clamp (by omega)⟩
theorem in_s2 {i L : Nat} (h : i + 2 < L) (hL : L ≤ 3072) : vp_in (nI i + Int32.ofInt 2) L ∧ (nI i + Int32.ofInt 2).toNatClampNeg = i + 2 := by
  have e : nI i + Int32.ofInt 2 = nI (i + 2) := nIa i 2
  rw [e]
  exact ⟨vp_in_nI h (by omega), nI_clamp (by omega)⟩
theorem in_s3 {i L : Nat} (h : i + 3 < L) (hL : L ≤ 3072) : vp_in (nI i + Int32.ofInt 3) L ∧ (nI i + Int32.ofInt 3).toNatClampNeg = i + 3 := by
  have e : nI i + Int32.ofInt 3 = nI (i + 3) := nIa i 3
  rw [e]
  exact ⟨vp_in_nI h (by omega), nI_clamp (by omega)⟩
theorem in_s4 {i L : Nat} (h : i + 4 < L) (hL : L ≤ 3072) : vp_in (nI i + Int32.ofInt 4) L ∧ (nI i + Int32.ofInt 4).toNatClampNeg = i + 4 := by
  have e : nI i + Int32.ofInt 4 = nI (i + 4) := nIa i 4
  rw [e]
  exact ⟨vp_in_nI h (by omega), nI_clamp (by omega)⟩
theorem in_s5 {i L : Nat} (h : i + 5 < L) (hL : L ≤ 3072) : vp_in (nI i + Int32.ofInt 5) L ∧ (nI i + Int32.ofInt 5).toNatClampNeg = i + 5 := by
  have e : nI i + Int32.ofInt 5 = nI (i + 5) := nIa i 5
  rw [e]
  exact ⟨vp_in_nI h (by omega), nI_clamp (by omega)⟩
section
variable {l : Launch} {D : va_G} {b0 : Nat} {ty : Nat → ClassId} {ad av : Nat → Nat} {b L : Nat} {xs : Nat → Int32} {K : Nat → Nat → List (Option AV) → List AV → sMem → Prop}
def lwE (b i : Nat) (e5 e6 : Option AV) : List (Option AV) := [some (.inl (.retAddr b)), some (aR 34), some (aR 0), some (aR 100), some (aI (nI i)), e5, e6]
def tC0 : xCode := [(192, .aload_n 1, 1, 193, []), (193, .aload_n 0, 1, 194, []), (194, .iload 4, 2, 196, []), (196, .iconst 1, 1, 197, []), (197, .iadd, 1, 198, []), (198, .iaload, 1, 199, []), (199, .aload_n 0, 1, 200, []), (200, .iload 4, 2, 202, []), (202, .iconst 2, 1, 203, []), (203, .iadd, 1, 204, []), (204, .iaload, 1, 205, []), (205, .aload_n 0, 1, 206, []), (206, .iload 4, 2, 208, []), (208, .iconst 3, 1, 209, []), (209, .iadd, 1, 210, []), (210, .iaload, 1, 211, []), (211, .aload_n 0, 1, 212, []), (212, .iload 4, 2, 214, []), (214, .iconst 4, 1, 215, []), (215, .iadd, 1, 216, []), (216, .iaload, 1, 217, []), (217, .aload_n 0, 1, 218, []), (218, .iload 4, 2, 220, []), (220, .iconst 5, 1, 221, []), (221, .iadd, 1, 222, []), (222, .iaload, 1, 223, []), (223, .invokevirtual 97, 3, 226, []), (226, .aload_n 2, 1, 227, []), (227, .aload_n 0, 1, 228, []), (228, .iload 4, 2, 230, []), (230, .iconst 1, 1, 231, []), (231, .iadd, 1, 232, []), (232, .iaload, 1, 233, []), (233, .aload_n 0, 1, 234, []), (234, .iload 4, 2, 236, []), (236, .iconst 2, 1, 237, []), (237, .iadd, 1, 238, []), (238, .iaload, 1, 239, []), (239, .aload_n 0, 1, 240, []), (240, .iload 4, 2, 242, []), (242, .iconst 3, 1, 243, []), (243, .iadd, 1, 244, []), (244, .iaload, 1, 245, []), (245, .aload_n 0, 1, 246, []), (246, .iload 4, 2, 248, []), (248, .iconst 4, 1, 249, []), (249, .iadd, 1, 250, []), (250, .iaload, 1, 251, []), (251, .aload_n 0, 1, 252, []), (252, .iload 4, 2, 254, []), (254, .iconst 5, 1, 255, []), (255, .iadd, 1, 256, []), (256, .iaload, 1, 257, []), (257, .invokevirtual 101, 3, 260, []), (260, .if_icmp .eq 1737, 3, 263, [1997]), (263, .iconst 0, 1, 264, []), (264, .ireturn, 1, 265, [])]
theorem kC0 : xOK code tC0 = true := by decide +kernel
theorem lawc_feed (hK : LLR l D b0 ty ad av b L xs K) (hW : LLW l D b0 ty ad av K) {σ : sMem} (hJ : JR σ) {i c : Nat} (hi : i + 6 ≤ L) (hL : L ≤ 3072) (e5 e6 : Option AV) (hn : ∀ c' e5 e6 σ', c ≤ c' → JR σ' → K c' 1997 (lwE b i e5 e6) [] σ') : K (c + 2) 192 (lwE b i e5 e6) [] σ := by
  refine hK tC0 kC0 _ _ _ _ _ ?_
  iterate 5 refine hK tC0 kC0 _ _ _ _ _ ?_
  refine ⟨rfl, (in_s1 (by omega) hL).1, ?_⟩
  rw [(in_s1 (show i + 1 < L by omega) hL).2]
  iterate 5 refine hK tC0 kC0 _ _ _ _ _ ?_
  refine ⟨rfl, (in_s2 (by omega) hL).1, ?_⟩
  rw [(in_s2 (show i + 2 < L by omega) hL).2]
  iterate 5 refine hK tC0 kC0 _ _ _ _ _ ?_
  refine ⟨rfl, (in_s3 (by omega) hL).1, ?_⟩
  rw [(in_s3 (show i + 3 < L by omega) hL).2]
  iterate 5 refine hK tC0 kC0 _ _ _ _ _ ?_
  refine ⟨rfl, (in_s4 (by omega) hL).1, ?_⟩
  rw [(in_s4 (show i + 4 < L by omega) hL).2]
  iterate 5 refine hK tC0 kC0 _ _ _ _ _ ?_
  refine ⟨rfl, (in_s5 (by omega) hL).1, ?_⟩
  rw [(in_s5 (show i + 5 < L by omega) hL).2]
  obtain ⟨P, h8, hr⟩ := jd_feed (l := l) (D := D) (b0 := b0) (ty := ty) (ad := ad) (av := av) σ hJ (xs (i + 1)) (xs (i + 2)) (xs (i + 3)) (xs (i + 4)) (xs (i + 5))
  refine hK tC0 kC0 _ _ _ _ _ ?_
  refine Or.inr (Or.inl (yD0 h8 ?_))
  intro r σ1 hp
  obtain ⟨v, rfl, n9, hn9, h9⟩ := hr r σ1 hp
  refine hK tC0 kC0 _ _ _ _ _ ?_
  iterate 5 refine hK tC0 kC0 _ _ _ _ _ ?_
  refine ⟨rfl, (in_s1 (by omega) hL).1, ?_⟩
  rw [(in_s1 (show i + 1 < L by omega) hL).2]
  iterate 5 refine hK tC0 kC0 _ _ _ _ _ ?_
  refine ⟨rfl, (in_s2 (by omega) hL).1, ?_⟩
  rw [(in_s2 (show i + 2 < L by omega) hL).2]
  iterate 5 refine hK tC0 kC0 _ _ _ _ _ ?_
  refine ⟨rfl, (in_s3 (by omega) hL).1, ?_⟩
  rw [(in_s3 (show i + 3 < L by omega) hL).2]
  iterate 5 refine hK tC0 kC0 _ _ _ _ _ ?_
  refine ⟨rfl, (in_s4 (by omega) hL).1, ?_⟩
  rw [(in_s4 (show i + 4 < L by omega) hL).2]
  iterate 5 refine hK tC0 kC0 _ _ _ _ _ ?_
  refine ⟨rfl, (in_s5 (by omega) hL).1, ?_⟩
  rw [(in_s5 (show i + 5 < L by omega) hL).2]
  refine hK tC0 kC0 _ _ _ _ _ ?_
  refine Or.inr (Or.inr ⟨c + 2 - n9, n9, by omega, yDX h9 ?_ (fun _ _ h => h.elim)⟩)
  rintro r σ3 ⟨rfl, hJ3⟩
  refine hK tC0 kC0 _ _ _ _ _ ?_
  refine ⟨fun _ => ?_, fun h => absurd rfl h⟩
  exact hn (c + 2 - n9) _ _ _ (by omega) hJ3
def tC1 : xCode := [(265, .aload_n 1, 1, 266, []), (266, .aload_n 0, 1, 267, []), (267, .iload 4, 2, 269, []), (269, .iconst 1, 1, 270, []), (270, .iadd, 1, 271, []), (271, .iaload, 1, 272, []), (272, .aload_n 3, 1, 273, []), (273, .invokestatic 102, 3, 276, []), (276, .istore 5, 2, 278, []), (278, .aload_n 2, 1, 279, []), (279, .aload_n 0, 1, 280, []), (280, .iload 4, 2, 282, []), (282, .iconst 1, 1, 283, []), (283, .iadd, 1, 284, []), (284, .iaload, 1, 285, []), (285, .invokevirtual 107, 3, 288, []), (288, .istore 6, 2, 290, []), (290, .aload_n 2, 1, 291, []), (291, .invokevirtual 108, 3, 294, []), (294, .iload 5, 2, 296, []), (296, .if_icmp .eq 5, 3, 299, [301]), (299, .iconst 0, 1, 300, []), (300, .ireturn, 1, 301, []), (301, .iload 5, 2, 303, []), (303, .ifCond .ne 15, 3, 306, [318]), (306, .aload_n 3, 1, 307, []), (307, .iconst 0, 1, 308, []), (308, .laload, 1, 309, []), (309, .iload 6, 2, 311, []), (311, .i2l, 1, 312, []), (312, .lcmp, 1, 313, []), (313, .ifCond .eq 5, 3, 316, [318]), (316, .iconst 0, 1, 317, []), (317, .ireturn, 1, 318, []), (318, .goto 1679, 3, 321, [1997])]
theorem kC1 : xOK code tC1 = true := by decide +kernel
theorem wk_town : wOK 102 wL_town 3 := ⟨(wq 764 (by decide +kernel) (by decide +kernel)), (wq 765 (by decide +kernel) (by decide +kernel)), wL_town_w, rfl, by decide +kernel, by decide⟩
theorem lawc_town (hK : LLR l D b0 ty ad av b L xs K) (hW : LLW l D b0 ty ad av K) {σ : sMem} (hJ : JR σ) {i c : Nat} (hi : i + 6 ≤ L) (hL : L ≤ 3072) (e5 e6 : Option AV) (hn : ∀ c' e5 e6 σ', c ≤ c' → JR σ' → K c' 1997 (lwE b i e5 e6) [] σ') : K (c + 2) 265 (lwE b i e5 e6) [] σ := by
  refine hK tC1 kC1 _ _ _ _ _ ?_
  iterate 5 refine hK tC1 kC1 _ _ _ _ _ ?_
  refine ⟨rfl, (in_s1 (by omega) hL).1, ?_⟩
  rw [(in_s1 (show i + 1 < L by omega) hL).2]
  refine hK tC1 kC1 _ _ _ _ _ ?_
  obtain ⟨n0, P, XP, hn0, h8, hP, hX, hok, hex⟩ := jw_town (l := l) (D := D) (b0 := b0) (ty := ty) (ad := ad) (av := av) σ hJ (xs (i + 1))
  refine hW wL_town 102 3 (c + 1) 273 _ [aR 34, aI (xs (i + 1)), aR 100] [] σ _ wk_town (by decide +kernel) rfl (by decide) (l_town 200 n0 hn0 σ (xs (i + 1)) P XP h8 hP (fun e σ' h => (hX e σ' h).elim fun k hk => cd1_of hk)) ?_
  intro r σ1 h
  rcases h with ⟨v, σ2, hp, rfl, rfl⟩ | ⟨e, k, hx, hc, rfl⟩
  · obtain ⟨n9, hn9, h9⟩ := hok v σ2 hp
    iterate 2 refine hK tC1 kC1 _ _ _ _ _ ?_
    iterate 5 refine hK tC1 kC1 _ _ _ _ _ ?_
    refine ⟨rfl, (in_s1 (by omega) hL).1, ?_⟩
    rw [(in_s1 (show i + 1 < L by omega) hL).2]
    refine hK tC1 kC1 _ _ _ _ _ ?_
    refine Or.inr (Or.inr ⟨c + 1 - n9, n9, by omega, yDX h9 ?_ (fun _ _ h => h.elim)⟩)
    rintro r σ3 ⟨rfl, t0, t100, hJ3⟩
    iterate 2 refine hK tC1 kC1 _ _ _ _ _ ?_
    refine hK tC1 kC1 _ _ _ _ _ ?_
    refine Or.inl (calD (c9_thrown _ σ3) ?_)
    rintro r σ4 ⟨rfl, h4⟩
    subst h4
    iterate 2 refine hK tC1 kC1 _ _ _ _ _ ?_
    refine ⟨fun _ => ?_, fun h => absurd t0 h⟩
    iterate 2 refine hK tC1 kC1 _ _ _ _ _ ?_
    refine ⟨fun h => absurd rfl h, fun _ => ?_⟩
    iterate 3 refine hK tC1 kC1 _ _ _ _ _ ?_
    refine ⟨vp_in_nI (n := 0) (by decide) (by decide), ?_⟩
    rw [show (Int32.ofInt 0).toNatClampNeg = 0 from rfl, t100]
    iterate 4 refine hK tC1 kC1 _ _ _ _ _ ?_
    refine ⟨fun _ => ?_, fun h => absurd (lg_self _) h⟩
    refine hK tC1 kC1 _ _ _ _ _ ?_
    exact hn (c + 1 - n9) _ _ _ (by omega) hJ3
  · obtain ⟨hk0, n9, hn9, h9⟩ := hex e σ1 k hx hc
    iterate 2 refine hK tC1 kC1 _ _ _ _ _ ?_
    iterate 5 refine hK tC1 kC1 _ _ _ _ _ ?_
    refine ⟨rfl, (in_s1 (by omega) hL).1, ?_⟩
    rw [(in_s1 (show i + 1 < L by omega) hL).2]
    refine hK tC1 kC1 _ _ _ _ _ ?_
    refine Or.inr (Or.inr ⟨c + 1 - n9, n9, by omega, yDX h9 ?_ (fun _ _ h => h.elim)⟩)
    rintro r σ3 ⟨⟨w, rfl⟩, t0, hJ3⟩
    iterate 2 refine hK tC1 kC1 _ _ _ _ _ ?_
    refine hK tC1 kC1 _ _ _ _ _ ?_
    refine Or.inl (calD (c9_thrown _ σ3) ?_)
    rintro r σ4 ⟨rfl, h4⟩
    subst h4
    iterate 2 refine hK tC1 kC1 _ _ _ _ _ ?_
    refine ⟨fun _ => ?_, fun h => absurd t0 h⟩
    iterate 2 refine hK tC1 kC1 _ _ _ _ _ ?_
    refine ⟨fun _ => ?_, fun h => absurd h hk0⟩
    refine hK tC1 kC1 _ _ _ _ _ ?_
    exact hn (c + 1 - n9) _ _ _ (by omega) hJ3
def tC2 : xCode := [(321, .aload_n 1, 1, 322, []), (322, .invokevirtual 112, 3, 325, []), (325, .aload_n 2, 1, 326, []), (326, .invokevirtual 115, 3, 329, []), (329, .if_icmp .eq 1668, 3, 332, [1997]), (332, .iconst 0, 1, 333, []), (333, .ireturn, 1, 334, [])]
theorem kC2 : xOK code tC2 = true := by decide +kernel
theorem lawc_fault (hK : LLR l D b0 ty ad av b L xs K) (hW : LLW l D b0 ty ad av K) {σ : sMem} (hJ : JR σ) {i c : Nat} (hi : i + 6 ≤ L) (hL : L ≤ 3072) (e5 e6 : Option AV) (hn : ∀ c' e5 e6 σ', c ≤ c' → JR σ' → K c' 1997 (lwE b i e5 e6) [] σ') : K (c + 2) 321 (lwE b i e5 e6) [] σ := by
  refine hK tC2 kC2 _ _ _ _ _ ?_
  obtain ⟨P, h8, hr⟩ := jd_fault (l := l) (D := D) (b0 := b0) (ty := ty) (ad := ad) (av := av) σ hJ 
  refine hK tC2 kC2 _ _ _ _ _ ?_
  refine Or.inr (Or.inl (yD0 h8 ?_))
  intro r σ1 hp
  obtain ⟨v, rfl, n9, hn9, h9⟩ := hr r σ1 hp
  refine hK tC2 kC2 _ _ _ _ _ ?_
  refine hK tC2 kC2 _ _ _ _ _ ?_
  refine Or.inr (Or.inr ⟨c + 2 - n9, n9, by omega, yDX h9 ?_ (fun _ _ h => h.elim)⟩)
  rintro r σ3 ⟨rfl, hJ3⟩
  refine hK tC2 kC2 _ _ _ _ _ ?_
  refine ⟨fun _ => ?_, fun h => absurd rfl h⟩
  exact hn (c + 2 - n9) _ _ _ (by omega) hJ3
def tC3 : xCode := [(334, .aload_n 1, 1, 335, []), (335, .aload_n 0, 1, 336, []), (336, .iload 4, 2, 338, []), (338, .iconst 1, 1, 339, []), (339, .iadd, 1, 340, []), (340, .iaload, 1, 341, []), (341, .aload_n 3, 1, 342, []), (342, .invokestatic 116, 3, 345, []), (345, .istore 5, 2, 347, []), (347, .aload_n 2, 1, 348, []), (348, .aload_n 0, 1, 349, []), (349, .iload 4, 2, 351, []), (351, .iconst 1, 1, 352, []), (352, .iadd, 1, 353, []), (353, .iaload, 1, 354, []), (354, .invokevirtual 118, 3, 357, []), (357, .istore 6, 2, 359, []), (359, .aload_n 2, 1, 360, []), (360, .invokevirtual 108, 3, 363, []), (363, .iload 5, 2, 365, []), (365, .if_icmp .eq 5, 3, 368, [370]), (368, .iconst 0, 1, 369, []), (369, .ireturn, 1, 370, []), (370, .iload 5, 2, 372, []), (372, .ifCond .ne 15, 3, 375, [387]), (375, .aload_n 3, 1, 376, []), (376, .iconst 0, 1, 377, []), (377, .laload, 1, 378, []), (378, .iload 6, 2, 380, []), (380, .i2l, 1, 381, []), (381, .lcmp, 1, 382, []), (382, .ifCond .eq 5, 3, 385, [387]), (385, .iconst 0, 1, 386, []), (386, .ireturn, 1, 387, []), (387, .goto 1610, 3, 390, [1997])]
theorem kC3 : xOK code tC3 = true := by decide +kernel
theorem wk_told : wOK 116 wL_told 3 := ⟨(wq 1002 (by decide +kernel) (by decide +kernel)), (wq 1003 (by decide +kernel) (by decide +kernel)), wL_told_w, rfl, by decide +kernel, by decide⟩
theorem lawc_told (hK : LLR l D b0 ty ad av b L xs K) (hW : LLW l D b0 ty ad av K) {σ : sMem} (hJ : JR σ) {i c : Nat} (hi : i + 6 ≤ L) (hL : L ≤ 3072) (e5 e6 : Option AV) (hn : ∀ c' e5 e6 σ', c ≤ c' → JR σ' → K c' 1997 (lwE b i e5 e6) [] σ') : K (c + 2) 334 (lwE b i e5 e6) [] σ := by
  refine hK tC3 kC3 _ _ _ _ _ ?_
  iterate 5 refine hK tC3 kC3 _ _ _ _ _ ?_
  refine ⟨rfl, (in_s1 (by omega) hL).1, ?_⟩
  rw [(in_s1 (show i + 1 < L by omega) hL).2]
  refine hK tC3 kC3 _ _ _ _ _ ?_
  obtain ⟨n0, P, XP, hn0, h8, hP, hX, hok, hex⟩ := jw_told (l := l) (D := D) (b0 := b0) (ty := ty) (ad := ad) (av := av) σ hJ (xs (i + 1))
  refine hW wL_told 116 3 (c + 1) 342 _ [aR 34, aI (xs (i + 1)), aR 100] [] σ _ wk_told (by decide +kernel) rfl (by decide) (l_told 200 n0 hn0 σ (xs (i + 1)) P XP h8 hP (fun e σ' h => (hX e σ' h).elim fun k hk => cd1_of hk)) ?_
  intro r σ1 h
  rcases h with ⟨v, σ2, hp, rfl, rfl⟩ | ⟨e, k, hx, hc, rfl⟩
  · obtain ⟨n9, hn9, h9⟩ := hok v σ2 hp
    iterate 2 refine hK tC3 kC3 _ _ _ _ _ ?_
    iterate 5 refine hK tC3 kC3 _ _ _ _ _ ?_
    refine ⟨rfl, (in_s1 (by omega) hL).1, ?_⟩
    rw [(in_s1 (show i + 1 < L by omega) hL).2]
    refine hK tC3 kC3 _ _ _ _ _ ?_
    refine Or.inr (Or.inr ⟨c + 1 - n9, n9, by omega, yDX h9 ?_ (fun _ _ h => h.elim)⟩)
    rintro r σ3 ⟨rfl, t0, t100, hJ3⟩
    iterate 2 refine hK tC3 kC3 _ _ _ _ _ ?_
    refine hK tC3 kC3 _ _ _ _ _ ?_
    refine Or.inl (calD (c9_thrown _ σ3) ?_)
    rintro r σ4 ⟨rfl, h4⟩
    subst h4
    iterate 2 refine hK tC3 kC3 _ _ _ _ _ ?_
    refine ⟨fun _ => ?_, fun h => absurd t0 h⟩
    iterate 2 refine hK tC3 kC3 _ _ _ _ _ ?_
    refine ⟨fun h => absurd rfl h, fun _ => ?_⟩
    iterate 3 refine hK tC3 kC3 _ _ _ _ _ ?_
    refine ⟨vp_in_nI (n := 0) (by decide) (by decide), ?_⟩
    rw [show (Int32.ofInt 0).toNatClampNeg = 0 from rfl, t100]
    iterate 4 refine hK tC3 kC3 _ _ _ _ _ ?_
    refine ⟨fun _ => ?_, fun h => absurd (lg_self _) h⟩
    refine hK tC3 kC3 _ _ _ _ _ ?_
    exact hn (c + 1 - n9) _ _ _ (by omega) hJ3
  · obtain ⟨hk0, n9, hn9, h9⟩ := hex e σ1 k hx hc
    iterate 2 refine hK tC3 kC3 _ _ _ _ _ ?_
    iterate 5 refine hK tC3 kC3 _ _ _ _ _ ?_
    refine ⟨rfl, (in_s1 (by omega) hL).1, ?_⟩
    rw [(in_s1 (show i + 1 < L by omega) hL).2]
    refine hK tC3 kC3 _ _ _ _ _ ?_
    refine Or.inr (Or.inr ⟨c + 1 - n9, n9, by omega, yDX h9 ?_ (fun _ _ h => h.elim)⟩)
    rintro r σ3 ⟨⟨w, rfl⟩, t0, hJ3⟩
    iterate 2 refine hK tC3 kC3 _ _ _ _ _ ?_
    refine hK tC3 kC3 _ _ _ _ _ ?_
    refine Or.inl (calD (c9_thrown _ σ3) ?_)
    rintro r σ4 ⟨rfl, h4⟩
    subst h4
    iterate 2 refine hK tC3 kC3 _ _ _ _ _ ?_
    refine ⟨fun _ => ?_, fun h => absurd t0 h⟩
    iterate 2 refine hK tC3 kC3 _ _ _ _ _ ?_
    refine ⟨fun _ => ?_, fun h => absurd h hk0⟩
    refine hK tC3 kC3 _ _ _ _ _ ?_
    exact hn (c + 1 - n9) _ _ _ (by omega) hJ3
def tC4 : xCode := [(390, .aload_n 1, 1, 391, []), (391, .aload_n 0, 1, 392, []), (392, .iload 4, 2, 394, []), (394, .iconst 1, 1, 395, []), (395, .iadd, 1, 396, []), (396, .iaload, 1, 397, []), (397, .aload_n 0, 1, 398, []), (398, .iload 4, 2, 400, []), (400, .iconst 2, 1, 401, []), (401, .iadd, 1, 402, []), (402, .iaload, 1, 403, []), (403, .aload_n 3, 1, 404, []), (404, .invokestatic 119, 3, 407, []), (407, .istore 5, 2, 409, []), (409, .aload_n 2, 1, 410, []), (410, .aload_n 0, 1, 411, []), (411, .iload 4, 2, 413, []), (413, .iconst 1, 1, 414, []), (414, .iadd, 1, 415, []), (415, .iaload, 1, 416, []), (416, .aload_n 0, 1, 417, []), (417, .iload 4, 2, 419, []), (419, .iconst 2, 1, 420, []), (420, .iadd, 1, 421, []), (421, .iaload, 1, 422, []), (422, .invokevirtual 122, 3, 425, []), (425, .istore 6, 2, 427, []), (427, .aload_n 2, 1, 428, []), (428, .invokevirtual 108, 3, 431, []), (431, .iload 5, 2, 433, []), (433, .if_icmp .eq 5, 3, 436, [438]), (436, .iconst 0, 1, 437, []), (437, .ireturn, 1, 438, []), (438, .iload 5, 2, 440, []), (440, .ifCond .ne 15, 3, 443, [455]), (443, .aload_n 3, 1, 444, []), (444, .iconst 0, 1, 445, []), (445, .laload, 1, 446, []), (446, .iload 6, 2, 448, []), (448, .i2l, 1, 449, []), (449, .lcmp, 1, 450, []), (450, .ifCond .eq 5, 3, 453, [455]), (453, .iconst 0, 1, 454, []), (454, .ireturn, 1, 455, []), (455, .goto 1542, 3, 458, [1997])]
theorem kC4 : xOK code tC4 = true := by decide +kernel
theorem wk_far : wOK 119 wL_far 4 := ⟨(wq 1010 (by decide +kernel) (by decide +kernel)), (wq 1011 (by decide +kernel) (by decide +kernel)), wL_far_w, rfl, by decide +kernel, by decide⟩
theorem lawc_far (hK : LLR l D b0 ty ad av b L xs K) (hW : LLW l D b0 ty ad av K) {σ : sMem} (hJ : JR σ) {i c : Nat} (hi : i + 6 ≤ L) (hL : L ≤ 3072) (e5 e6 : Option AV) (hn : ∀ c' e5 e6 σ', c ≤ c' → JR σ' → K c' 1997 (lwE b i e5 e6) [] σ') : K (c + 2) 390 (lwE b i e5 e6) [] σ := by
  refine hK tC4 kC4 _ _ _ _ _ ?_
  iterate 5 refine hK tC4 kC4 _ _ _ _ _ ?_
  refine ⟨rfl, (in_s1 (by omega) hL).1, ?_⟩
  rw [(in_s1 (show i + 1 < L by omega) hL).2]
  iterate 5 refine hK tC4 kC4 _ _ _ _ _ ?_
  refine ⟨rfl, (in_s2 (by omega) hL).1, ?_⟩
  rw [(in_s2 (show i + 2 < L by omega) hL).2]
  refine hK tC4 kC4 _ _ _ _ _ ?_
  obtain ⟨n0, P, XP, hn0, h8, hP, hX, hok, hex⟩ := jw_far (l := l) (D := D) (b0 := b0) (ty := ty) (ad := ad) (av := av) σ hJ (xs (i + 1)) (xs (i + 2))
  refine hW wL_far 119 4 (c + 1) 404 _ [aR 34, aI (xs (i + 1)), aI (xs (i + 2)), aR 100] [] σ _ wk_far (by decide +kernel) rfl (by decide) (l_far 200 n0 hn0 σ (xs (i + 1)) (xs (i + 2)) P XP h8 hP (fun e σ' h => (hX e σ' h).elim fun k hk => cd1_of hk)) ?_
  intro r σ1 h
  rcases h with ⟨v, σ2, hp, rfl, rfl⟩ | ⟨e, k, hx, hc, rfl⟩
  · obtain ⟨n9, hn9, h9⟩ := hok v σ2 hp
    iterate 2 refine hK tC4 kC4 _ _ _ _ _ ?_
    iterate 5 refine hK tC4 kC4 _ _ _ _ _ ?_
    refine ⟨rfl, (in_s1 (by omega) hL).1, ?_⟩
    rw [(in_s1 (show i + 1 < L by omega) hL).2]
    iterate 5 refine hK tC4 kC4 _ _ _ _ _ ?_
    refine ⟨rfl, (in_s2 (by omega) hL).1, ?_⟩
    rw [(in_s2 (show i + 2 < L by omega) hL).2]
    refine hK tC4 kC4 _ _ _ _ _ ?_
    refine Or.inr (Or.inr ⟨c + 1 - n9, n9, by omega, yDX h9 ?_ (fun _ _ h => h.elim)⟩)
    rintro r σ3 ⟨rfl, t0, t100, hJ3⟩
    iterate 2 refine hK tC4 kC4 _ _ _ _ _ ?_
    refine hK tC4 kC4 _ _ _ _ _ ?_
    refine Or.inl (calD (c9_thrown _ σ3) ?_)
    rintro r σ4 ⟨rfl, h4⟩
    subst h4
    iterate 2 refine hK tC4 kC4 _ _ _ _ _ ?_
    refine ⟨fun _ => ?_, fun h => absurd t0 h⟩
    iterate 2 refine hK tC4 kC4 _ _ _ _ _ ?_
    refine ⟨fun h => absurd rfl h, fun _ => ?_⟩
    iterate 3 refine hK tC4 kC4 _ _ _ _ _ ?_
    refine ⟨vp_in_nI (n := 0) (by decide) (by decide), ?_⟩
    rw [show (Int32.ofInt 0).toNatClampNeg = 0 from rfl, t100]
    iterate 4 refine hK tC4 kC4 _ _ _ _ _ ?_
    refine ⟨fun _ => ?_, fun h => absurd (lg_self _) h⟩
    refine hK tC4 kC4 _ _ _ _ _ ?_
    exact hn (c + 1 - n9) _ _ _ (by omega) hJ3
  · obtain ⟨hk0, n9, hn9, h9⟩ := hex e σ1 k hx hc
    iterate 2 refine hK tC4 kC4 _ _ _ _ _ ?_
    iterate 5 refine hK tC4 kC4 _ _ _ _ _ ?_
    refine ⟨rfl, (in_s1 (by omega) hL).1, ?_⟩
    rw [(in_s1 (show i + 1 < L by omega) hL).2]
    iterate 5 refine hK tC4 kC4 _ _ _ _ _ ?_
    refine ⟨rfl, (in_s2 (by omega) hL).1, ?_⟩
    rw [(in_s2 (show i + 2 < L by omega) hL).2]
    refine hK tC4 kC4 _ _ _ _ _ ?_
    refine Or.inr (Or.inr ⟨c + 1 - n9, n9, by omega, yDX h9 ?_ (fun _ _ h => h.elim)⟩)
    rintro r σ3 ⟨⟨w, rfl⟩, t0, hJ3⟩
    iterate 2 refine hK tC4 kC4 _ _ _ _ _ ?_
    refine hK tC4 kC4 _ _ _ _ _ ?_
    refine Or.inl (calD (c9_thrown _ σ3) ?_)
    rintro r σ4 ⟨rfl, h4⟩
    subst h4
    iterate 2 refine hK tC4 kC4 _ _ _ _ _ ?_
    refine ⟨fun _ => ?_, fun h => absurd t0 h⟩
    iterate 2 refine hK tC4 kC4 _ _ _ _ _ ?_
    refine ⟨fun _ => ?_, fun h => absurd h hk0⟩
    refine hK tC4 kC4 _ _ _ _ _ ?_
    exact hn (c + 1 - n9) _ _ _ (by omega) hJ3
def tC5 : xCode := [(458, .aload_n 1, 1, 459, []), (459, .aload_n 0, 1, 460, []), (460, .iload 4, 2, 462, []), (462, .iconst 1, 1, 463, []), (463, .iadd, 1, 464, []), (464, .iaload, 1, 465, []), (465, .aload_n 0, 1, 466, []), (466, .iload 4, 2, 468, []), (468, .iconst 2, 1, 469, []), (469, .iadd, 1, 470, []), (470, .iaload, 1, 471, []), (471, .aload_n 0, 1, 472, []), (472, .iload 4, 2, 474, []), (474, .iconst 3, 1, 475, []), (475, .iadd, 1, 476, []), (476, .iaload, 1, 477, []), (477, .aload_n 3, 1, 478, []), (478, .invokestatic 123, 3, 481, []), (481, .istore 5, 2, 483, []), (483, .aload_n 2, 1, 484, []), (484, .aload_n 0, 1, 485, []), (485, .iload 4, 2, 487, []), (487, .iconst 1, 1, 488, []), (488, .iadd, 1, 489, []), (489, .iaload, 1, 490, []), (490, .aload_n 0, 1, 491, []), (491, .iload 4, 2, 493, []), (493, .iconst 2, 1, 494, []), (494, .iadd, 1, 495, []), (495, .iaload, 1, 496, []), (496, .aload_n 0, 1, 497, []), (497, .iload 4, 2, 499, []), (499, .iconst 3, 1, 500, []), (500, .iadd, 1, 501, []), (501, .iaload, 1, 502, []), (502, .invokevirtual 126, 3, 505, []), (505, .istore 6, 2, 507, []), (507, .aload_n 2, 1, 508, []), (508, .invokevirtual 108, 3, 511, []), (511, .iload 5, 2, 513, []), (513, .if_icmp .eq 5, 3, 516, [518]), (516, .iconst 0, 1, 517, []), (517, .ireturn, 1, 518, []), (518, .iload 5, 2, 520, []), (520, .ifCond .ne 15, 3, 523, [535]), (523, .aload_n 3, 1, 524, []), (524, .iconst 0, 1, 525, []), (525, .laload, 1, 526, []), (526, .iload 6, 2, 528, []), (528, .i2l, 1, 529, []), (529, .lcmp, 1, 530, []), (530, .ifCond .eq 5, 3, 533, [535]), (533, .iconst 0, 1, 534, []), (534, .ireturn, 1, 535, []), (535, .goto 1462, 3, 538, [1997])]
theorem kC5 : xOK code tC5 = true := by decide +kernel
theorem wk_way : wOK 123 wL_way 5 := ⟨(wq 1039 (by decide +kernel) (by decide +kernel)), (wq 1040 (by decide +kernel) (by decide +kernel)), wL_way_w, rfl, by decide +kernel, by decide⟩
theorem lawc_way (hK : LLR l D b0 ty ad av b L xs K) (hW : LLW l D b0 ty ad av K) {σ : sMem} (hJ : JR σ) {i c : Nat} (hi : i + 6 ≤ L) (hL : L ≤ 3072) (e5 e6 : Option AV) (hn : ∀ c' e5 e6 σ', c ≤ c' → JR σ' → K c' 1997 (lwE b i e5 e6) [] σ') : K (c + 2) 458 (lwE b i e5 e6) [] σ := by
  refine hK tC5 kC5 _ _ _ _ _ ?_
  iterate 5 refine hK tC5 kC5 _ _ _ _ _ ?_
  refine ⟨rfl, (in_s1 (by omega) hL).1, ?_⟩
  rw [(in_s1 (show i + 1 < L by omega) hL).2]
  iterate 5 refine hK tC5 kC5 _ _ _ _ _ ?_
  refine ⟨rfl, (in_s2 (by omega) hL).1, ?_⟩
  rw [(in_s2 (show i + 2 < L by omega) hL).2]
  iterate 5 refine hK tC5 kC5 _ _ _ _ _ ?_
  refine ⟨rfl, (in_s3 (by omega) hL).1, ?_⟩
  rw [(in_s3 (show i + 3 < L by omega) hL).2]
  refine hK tC5 kC5 _ _ _ _ _ ?_
  obtain ⟨n0, P, XP, hn0, h8, hP, hX, hok, hex⟩ := jw_way (l := l) (D := D) (b0 := b0) (ty := ty) (ad := ad) (av := av) σ hJ (xs (i + 1)) (xs (i + 2)) (xs (i + 3))
  refine hW wL_way 123 5 (c + 1) 478 _ [aR 34, aI (xs (i + 1)), aI (xs (i + 2)), aI (xs (i + 3)), aR 100] [] σ _ wk_way (by decide +kernel) rfl (by decide) (l_way 200 n0 hn0 σ (xs (i + 1)) (xs (i + 2)) (xs (i + 3)) P XP h8 hP (fun e σ' h => (hX e σ' h).elim fun k hk => cd1_of hk)) ?_
  intro r σ1 h
  rcases h with ⟨v, σ2, hp, rfl, rfl⟩ | ⟨e, k, hx, hc, rfl⟩
  · obtain ⟨n9, hn9, h9⟩ := hok v σ2 hp
    iterate 2 refine hK tC5 kC5 _ _ _ _ _ ?_
    iterate 5 refine hK tC5 kC5 _ _ _ _ _ ?_
    refine ⟨rfl, (in_s1 (by omega) hL).1, ?_⟩
    rw [(in_s1 (show i + 1 < L by omega) hL).2]
    iterate 5 refine hK tC5 kC5 _ _ _ _ _ ?_
    refine ⟨rfl, (in_s2 (by omega) hL).1, ?_⟩
    rw [(in_s2 (show i + 2 < L by omega) hL).2]
    iterate 5 refine hK tC5 kC5 _ _ _ _ _ ?_
    refine ⟨rfl, (in_s3 (by omega) hL).1, ?_⟩
    rw [(in_s3 (show i + 3 < L by omega) hL).2]
    refine hK tC5 kC5 _ _ _ _ _ ?_
    refine Or.inr (Or.inr ⟨c + 1 - n9, n9, by omega, yDX h9 ?_ (fun _ _ h => h.elim)⟩)
    rintro r σ3 ⟨rfl, t0, t100, hJ3⟩
    iterate 2 refine hK tC5 kC5 _ _ _ _ _ ?_
    refine hK tC5 kC5 _ _ _ _ _ ?_
    refine Or.inl (calD (c9_thrown _ σ3) ?_)
    rintro r σ4 ⟨rfl, h4⟩
    subst h4
    iterate 2 refine hK tC5 kC5 _ _ _ _ _ ?_
    refine ⟨fun _ => ?_, fun h => absurd t0 h⟩
    iterate 2 refine hK tC5 kC5 _ _ _ _ _ ?_
    refine ⟨fun h => absurd rfl h, fun _ => ?_⟩
    iterate 3 refine hK tC5 kC5 _ _ _ _ _ ?_
    refine ⟨vp_in_nI (n := 0) (by decide) (by decide), ?_⟩
    rw [show (Int32.ofInt 0).toNatClampNeg = 0 from rfl, t100]
    iterate 4 refine hK tC5 kC5 _ _ _ _ _ ?_
    refine ⟨fun _ => ?_, fun h => absurd (lg_self _) h⟩
    refine hK tC5 kC5 _ _ _ _ _ ?_
    exact hn (c + 1 - n9) _ _ _ (by omega) hJ3
  · obtain ⟨hk0, n9, hn9, h9⟩ := hex e σ1 k hx hc
    iterate 2 refine hK tC5 kC5 _ _ _ _ _ ?_
    iterate 5 refine hK tC5 kC5 _ _ _ _ _ ?_
    refine ⟨rfl, (in_s1 (by omega) hL).1, ?_⟩
    rw [(in_s1 (show i + 1 < L by omega) hL).2]
    iterate 5 refine hK tC5 kC5 _ _ _ _ _ ?_
    refine ⟨rfl, (in_s2 (by omega) hL).1, ?_⟩
    rw [(in_s2 (show i + 2 < L by omega) hL).2]
    iterate 5 refine hK tC5 kC5 _ _ _ _ _ ?_
    refine ⟨rfl, (in_s3 (by omega) hL).1, ?_⟩
    rw [(in_s3 (show i + 3 < L by omega) hL).2]
    refine hK tC5 kC5 _ _ _ _ _ ?_
    refine Or.inr (Or.inr ⟨c + 1 - n9, n9, by omega, yDX h9 ?_ (fun _ _ h => h.elim)⟩)
    rintro r σ3 ⟨⟨w, rfl⟩, t0, hJ3⟩
    iterate 2 refine hK tC5 kC5 _ _ _ _ _ ?_
    refine hK tC5 kC5 _ _ _ _ _ ?_
    refine Or.inl (calD (c9_thrown _ σ3) ?_)
    rintro r σ4 ⟨rfl, h4⟩
    subst h4
    iterate 2 refine hK tC5 kC5 _ _ _ _ _ ?_
    refine ⟨fun _ => ?_, fun h => absurd t0 h⟩
    iterate 2 refine hK tC5 kC5 _ _ _ _ _ ?_
    refine ⟨fun _ => ?_, fun h => absurd h hk0⟩
    refine hK tC5 kC5 _ _ _ _ _ ?_
    exact hn (c + 1 - n9) _ _ _ (by omega) hJ3
def tC6 : xCode := [(538, .aload_n 1, 1, 539, []), (539, .aload_n 0, 1, 540, []), (540, .iload 4, 2, 542, []), (542, .iconst 1, 1, 543, []), (543, .iadd, 1, 544, []), (544, .iaload, 1, 545, []), (545, .aload_n 0, 1, 546, []), (546, .iload 4, 2, 548, []), (548, .iconst 2, 1, 549, []), (549, .iadd, 1, 550, []), (550, .iaload, 1, 551, []), (551, .aload_n 3, 1, 552, []), (552, .invokestatic 127, 3, 555, []), (555, .istore 5, 2, 557, []), (557, .aload_n 2, 1, 558, []), (558, .aload_n 0, 1, 559, []), (559, .iload 4, 2, 561, []), (561, .iconst 1, 1, 562, []), (562, .iadd, 1, 563, []), (563, .iaload, 1, 564, []), (564, .aload_n 0, 1, 565, []), (565, .iload 4, 2, 567, []), (567, .iconst 2, 1, 568, []), (568, .iadd, 1, 569, []), (569, .iaload, 1, 570, []), (570, .invokevirtual 129, 3, 573, []), (573, .istore 6, 2, 575, []), (575, .aload_n 2, 1, 576, []), (576, .invokevirtual 108, 3, 579, []), (579, .iload 5, 2, 581, []), (581, .if_icmp .eq 5, 3, 584, [586]), (584, .iconst 0, 1, 585, []), (585, .ireturn, 1, 586, []), (586, .iload 5, 2, 588, []), (588, .ifCond .ne 15, 3, 591, [603]), (591, .aload_n 3, 1, 592, []), (592, .iconst 0, 1, 593, []), (593, .laload, 1, 594, []), (594, .iload 6, 2, 596, []), (596, .i2l, 1, 597, []), (597, .lcmp, 1, 598, []), (598, .ifCond .eq 5, 3, 601, [603]), (601, .iconst 0, 1, 602, []), (602, .ireturn, 1, 603, []), (603, .goto 1394, 3, 606, [1997])]
theorem kC6 : xOK code tC6 = true := by decide +kernel
theorem wk_person : wOK 127 wL_person 4 := ⟨(wq 1046 (by decide +kernel) (by decide +kernel)), (wq 1047 (by decide +kernel) (by decide +kernel)), wL_person_w, rfl, by decide +kernel, by decide⟩
theorem lawc_person (hK : LLR l D b0 ty ad av b L xs K) (hW : LLW l D b0 ty ad av K) {σ : sMem} (hJ : JR σ) {i c : Nat} (hi : i + 6 ≤ L) (hL : L ≤ 3072) (e5 e6 : Option AV) (hn : ∀ c' e5 e6 σ', c ≤ c' → JR σ' → K c' 1997 (lwE b i e5 e6) [] σ') : K (c + 2) 538 (lwE b i e5 e6) [] σ := by
  refine hK tC6 kC6 _ _ _ _ _ ?_
  iterate 5 refine hK tC6 kC6 _ _ _ _ _ ?_
  refine ⟨rfl, (in_s1 (by omega) hL).1, ?_⟩
  rw [(in_s1 (show i + 1 < L by omega) hL).2]
  iterate 5 refine hK tC6 kC6 _ _ _ _ _ ?_
  refine ⟨rfl, (in_s2 (by omega) hL).1, ?_⟩
  rw [(in_s2 (show i + 2 < L by omega) hL).2]
  refine hK tC6 kC6 _ _ _ _ _ ?_
  obtain ⟨n0, P, XP, hn0, h8, hP, hX, hok, hex⟩ := jw_person (l := l) (D := D) (b0 := b0) (ty := ty) (ad := ad) (av := av) σ hJ (xs (i + 1)) (xs (i + 2))
  refine hW wL_person 127 4 (c + 1) 552 _ [aR 34, aI (xs (i + 1)), aI (xs (i + 2)), aR 100] [] σ _ wk_person (by decide +kernel) rfl (by decide) (l_person 200 n0 hn0 σ (xs (i + 1)) (xs (i + 2)) P XP h8 hP (fun e σ' h => (hX e σ' h).elim fun k hk => cd2_of hk)) ?_
  intro r σ1 h
  rcases h with ⟨v, σ2, hp, rfl, rfl⟩ | ⟨e, k, hx, hc, rfl⟩
  · obtain ⟨n9, hn9, h9⟩ := hok v σ2 hp
    iterate 2 refine hK tC6 kC6 _ _ _ _ _ ?_
    iterate 5 refine hK tC6 kC6 _ _ _ _ _ ?_
    refine ⟨rfl, (in_s1 (by omega) hL).1, ?_⟩
    rw [(in_s1 (show i + 1 < L by omega) hL).2]
    iterate 5 refine hK tC6 kC6 _ _ _ _ _ ?_
    refine ⟨rfl, (in_s2 (by omega) hL).1, ?_⟩
    rw [(in_s2 (show i + 2 < L by omega) hL).2]
    refine hK tC6 kC6 _ _ _ _ _ ?_
    refine Or.inr (Or.inr ⟨c + 1 - n9, n9, by omega, yDX h9 ?_ (fun _ _ h => h.elim)⟩)
    rintro r σ3 ⟨rfl, t0, t100, hJ3⟩
    iterate 2 refine hK tC6 kC6 _ _ _ _ _ ?_
    refine hK tC6 kC6 _ _ _ _ _ ?_
    refine Or.inl (calD (c9_thrown _ σ3) ?_)
    rintro r σ4 ⟨rfl, h4⟩
    subst h4
    iterate 2 refine hK tC6 kC6 _ _ _ _ _ ?_
    refine ⟨fun _ => ?_, fun h => absurd t0 h⟩
    iterate 2 refine hK tC6 kC6 _ _ _ _ _ ?_
    refine ⟨fun h => absurd rfl h, fun _ => ?_⟩
    iterate 3 refine hK tC6 kC6 _ _ _ _ _ ?_
    refine ⟨vp_in_nI (n := 0) (by decide) (by decide), ?_⟩
    rw [show (Int32.ofInt 0).toNatClampNeg = 0 from rfl, t100]
    iterate 4 refine hK tC6 kC6 _ _ _ _ _ ?_
    refine ⟨fun _ => ?_, fun h => absurd (lg_self _) h⟩
    refine hK tC6 kC6 _ _ _ _ _ ?_
    exact hn (c + 1 - n9) _ _ _ (by omega) hJ3
  · obtain ⟨hk0, n9, hn9, h9⟩ := hex e σ1 k hx hc
    iterate 2 refine hK tC6 kC6 _ _ _ _ _ ?_
    iterate 5 refine hK tC6 kC6 _ _ _ _ _ ?_
    refine ⟨rfl, (in_s1 (by omega) hL).1, ?_⟩
    rw [(in_s1 (show i + 1 < L by omega) hL).2]
    iterate 5 refine hK tC6 kC6 _ _ _ _ _ ?_
    refine ⟨rfl, (in_s2 (by omega) hL).1, ?_⟩
    rw [(in_s2 (show i + 2 < L by omega) hL).2]
    refine hK tC6 kC6 _ _ _ _ _ ?_
    refine Or.inr (Or.inr ⟨c + 1 - n9, n9, by omega, yDX h9 ?_ (fun _ _ h => h.elim)⟩)
    rintro r σ3 ⟨⟨w, rfl⟩, t0, hJ3⟩
    iterate 2 refine hK tC6 kC6 _ _ _ _ _ ?_
    refine hK tC6 kC6 _ _ _ _ _ ?_
    refine Or.inl (calD (c9_thrown _ σ3) ?_)
    rintro r σ4 ⟨rfl, h4⟩
    subst h4
    iterate 2 refine hK tC6 kC6 _ _ _ _ _ ?_
    refine ⟨fun _ => ?_, fun h => absurd t0 h⟩
    iterate 2 refine hK tC6 kC6 _ _ _ _ _ ?_
    refine ⟨fun _ => ?_, fun h => absurd h hk0⟩
    refine hK tC6 kC6 _ _ _ _ _ ?_
    exact hn (c + 1 - n9) _ _ _ (by omega) hJ3
def tC7 : xCode := [(606, .aload_n 1, 1, 607, []), (607, .aload_n 0, 1, 608, []), (608, .iload 4, 2, 610, []), (610, .iconst 1, 1, 611, []), (611, .iadd, 1, 612, []), (612, .iaload, 1, 613, []), (613, .aload_n 0, 1, 614, []), (614, .iload 4, 2, 616, []), (616, .iconst 2, 1, 617, []), (617, .iadd, 1, 618, []), (618, .iaload, 1, 619, []), (619, .aload_n 3, 1, 620, []), (620, .invokestatic 130, 3, 623, []), (623, .istore 5, 2, 625, []), (625, .aload_n 2, 1, 626, []), (626, .aload_n 0, 1, 627, []), (627, .iload 4, 2, 629, []), (629, .iconst 1, 1, 630, []), (630, .iadd, 1, 631, []), (631, .iaload, 1, 632, []), (632, .aload_n 0, 1, 633, []), (633, .iload 4, 2, 635, []), (635, .iconst 2, 1, 636, []), (636, .iadd, 1, 637, []), (637, .iaload, 1, 638, []), (638, .invokevirtual 132, 3, 641, []), (641, .istore 6, 2, 643, []), (643, .aload_n 2, 1, 644, []), (644, .invokevirtual 108, 3, 647, []), (647, .iload 5, 2, 649, []), (649, .if_icmp .eq 5, 3, 652, [654]), (652, .iconst 0, 1, 653, []), (653, .ireturn, 1, 654, []), (654, .iload 5, 2, 656, []), (656, .ifCond .ne 15, 3, 659, [671]), (659, .aload_n 3, 1, 660, []), (660, .iconst 0, 1, 661, []), (661, .laload, 1, 662, []), (662, .iload 6, 2, 664, []), (664, .i2l, 1, 665, []), (665, .lcmp, 1, 666, []), (666, .ifCond .eq 5, 3, 669, [671]), (669, .iconst 0, 1, 670, []), (670, .ireturn, 1, 671, []), (671, .goto 1326, 3, 674, [1997])]
theorem kC7 : xOK code tC7 = true := by decide +kernel
theorem wk_stranger : wOK 130 wL_stranger 4 := ⟨(wq 1076 (by decide +kernel) (by decide +kernel)), (wq 1077 (by decide +kernel) (by decide +kernel)), wL_stranger_w, rfl, by decide +kernel, by decide⟩
theorem lawc_stranger (hK : LLR l D b0 ty ad av b L xs K) (hW : LLW l D b0 ty ad av K) {σ : sMem} (hJ : JR σ) {i c : Nat} (hi : i + 6 ≤ L) (hL : L ≤ 3072) (e5 e6 : Option AV) (hn : ∀ c' e5 e6 σ', c ≤ c' → JR σ' → K c' 1997 (lwE b i e5 e6) [] σ') : K (c + 2) 606 (lwE b i e5 e6) [] σ := by
  refine hK tC7 kC7 _ _ _ _ _ ?_
  iterate 5 refine hK tC7 kC7 _ _ _ _ _ ?_
  refine ⟨rfl, (in_s1 (by omega) hL).1, ?_⟩
  rw [(in_s1 (show i + 1 < L by omega) hL).2]
  iterate 5 refine hK tC7 kC7 _ _ _ _ _ ?_
  refine ⟨rfl, (in_s2 (by omega) hL).1, ?_⟩
  rw [(in_s2 (show i + 2 < L by omega) hL).2]
  refine hK tC7 kC7 _ _ _ _ _ ?_
  obtain ⟨n0, P, XP, hn0, h8, hP, hX, hok, hex⟩ := jw_stranger (l := l) (D := D) (b0 := b0) (ty := ty) (ad := ad) (av := av) σ hJ (xs (i + 1)) (xs (i + 2))
  refine hW wL_stranger 130 4 (c + 1) 620 _ [aR 34, aI (xs (i + 1)), aI (xs (i + 2)), aR 100] [] σ _ wk_stranger (by decide +kernel) rfl (by decide) (l_stranger 200 n0 hn0 σ (xs (i + 1)) (xs (i + 2)) P XP h8 hP (fun e σ' h => (hX e σ' h).elim fun k hk => cd2_of hk)) ?_
  intro r σ1 h
  rcases h with ⟨v, σ2, hp, rfl, rfl⟩ | ⟨e, k, hx, hc, rfl⟩
  · obtain ⟨n9, hn9, h9⟩ := hok v σ2 hp
    iterate 2 refine hK tC7 kC7 _ _ _ _ _ ?_
    iterate 5 refine hK tC7 kC7 _ _ _ _ _ ?_
    refine ⟨rfl, (in_s1 (by omega) hL).1, ?_⟩
    rw [(in_s1 (show i + 1 < L by omega) hL).2]
    iterate 5 refine hK tC7 kC7 _ _ _ _ _ ?_
    refine ⟨rfl, (in_s2 (by omega) hL).1, ?_⟩
    rw [(in_s2 (show i + 2 < L by omega) hL).2]
    refine hK tC7 kC7 _ _ _ _ _ ?_
    refine Or.inr (Or.inr ⟨c + 1 - n9, n9, by omega, yDX h9 ?_ (fun _ _ h => h.elim)⟩)
    rintro r σ3 ⟨rfl, t0, t100, hJ3⟩
    iterate 2 refine hK tC7 kC7 _ _ _ _ _ ?_
    refine hK tC7 kC7 _ _ _ _ _ ?_
    refine Or.inl (calD (c9_thrown _ σ3) ?_)
    rintro r σ4 ⟨rfl, h4⟩
    subst h4
    iterate 2 refine hK tC7 kC7 _ _ _ _ _ ?_
    refine ⟨fun _ => ?_, fun h => absurd t0 h⟩
    iterate 2 refine hK tC7 kC7 _ _ _ _ _ ?_
    refine ⟨fun h => absurd rfl h, fun _ => ?_⟩
    iterate 3 refine hK tC7 kC7 _ _ _ _ _ ?_
    refine ⟨vp_in_nI (n := 0) (by decide) (by decide), ?_⟩
    rw [show (Int32.ofInt 0).toNatClampNeg = 0 from rfl, t100]
    iterate 4 refine hK tC7 kC7 _ _ _ _ _ ?_
    refine ⟨fun _ => ?_, fun h => absurd (lg_self _) h⟩
    refine hK tC7 kC7 _ _ _ _ _ ?_
    exact hn (c + 1 - n9) _ _ _ (by omega) hJ3
  · obtain ⟨hk0, n9, hn9, h9⟩ := hex e σ1 k hx hc
    iterate 2 refine hK tC7 kC7 _ _ _ _ _ ?_
    iterate 5 refine hK tC7 kC7 _ _ _ _ _ ?_
    refine ⟨rfl, (in_s1 (by omega) hL).1, ?_⟩
    rw [(in_s1 (show i + 1 < L by omega) hL).2]
    iterate 5 refine hK tC7 kC7 _ _ _ _ _ ?_
    refine ⟨rfl, (in_s2 (by omega) hL).1, ?_⟩
    rw [(in_s2 (show i + 2 < L by omega) hL).2]
    refine hK tC7 kC7 _ _ _ _ _ ?_
    refine Or.inr (Or.inr ⟨c + 1 - n9, n9, by omega, yDX h9 ?_ (fun _ _ h => h.elim)⟩)
    rintro r σ3 ⟨⟨w, rfl⟩, t0, hJ3⟩
    iterate 2 refine hK tC7 kC7 _ _ _ _ _ ?_
    refine hK tC7 kC7 _ _ _ _ _ ?_
    refine Or.inl (calD (c9_thrown _ σ3) ?_)
    rintro r σ4 ⟨rfl, h4⟩
    subst h4
    iterate 2 refine hK tC7 kC7 _ _ _ _ _ ?_
    refine ⟨fun _ => ?_, fun h => absurd t0 h⟩
    iterate 2 refine hK tC7 kC7 _ _ _ _ _ ?_
    refine ⟨fun _ => ?_, fun h => absurd h hk0⟩
    refine hK tC7 kC7 _ _ _ _ _ ?_
    exact hn (c + 1 - n9) _ _ _ (by omega) hJ3
def tC8 : xCode := [(674, .aload_n 1, 1, 675, []), (675, .aload_n 0, 1, 676, []), (676, .iload 4, 2, 678, []), (678, .iconst 1, 1, 679, []), (679, .iadd, 1, 680, []), (680, .iaload, 1, 681, []), (681, .aload_n 0, 1, 682, []), (682, .iload 4, 2, 684, []), (684, .iconst 2, 1, 685, []), (685, .iadd, 1, 686, []), (686, .iaload, 1, 687, []), (687, .aload_n 3, 1, 688, []), (688, .invokestatic 133, 3, 691, []), (691, .istore 5, 2, 693, []), (693, .aload_n 2, 1, 694, []), (694, .aload_n 0, 1, 695, []), (695, .iload 4, 2, 697, []), (697, .iconst 1, 1, 698, []), (698, .iadd, 1, 699, []), (699, .iaload, 1, 700, []), (700, .aload_n 0, 1, 701, []), (701, .iload 4, 2, 703, []), (703, .iconst 2, 1, 704, []), (704, .iadd, 1, 705, []), (705, .iaload, 1, 706, []), (706, .invokevirtual 135, 3, 709, []), (709, .istore 6, 2, 711, []), (711, .aload_n 2, 1, 712, []), (712, .invokevirtual 108, 3, 715, []), (715, .iload 5, 2, 717, []), (717, .if_icmp .eq 5, 3, 720, [722]), (720, .iconst 0, 1, 721, []), (721, .ireturn, 1, 722, []), (722, .iload 5, 2, 724, []), (724, .ifCond .ne 15, 3, 727, [739]), (727, .aload_n 3, 1, 728, []), (728, .iconst 0, 1, 729, []), (729, .laload, 1, 730, []), (730, .iload 6, 2, 732, []), (732, .i2l, 1, 733, []), (733, .lcmp, 1, 734, []), (734, .ifCond .eq 5, 3, 737, [739]), (737, .iconst 0, 1, 738, []), (738, .ireturn, 1, 739, []), (739, .goto 1258, 3, 742, [1997])]
theorem kC8 : xOK code tC8 = true := by decide +kernel
theorem wk_tell : wOK 133 wL_tell 4 := ⟨(wq 1088 (by decide +kernel) (by decide +kernel)), (wq 1089 (by decide +kernel) (by decide +kernel)), wL_tell_w, rfl, by decide +kernel, by decide⟩
theorem lawc_tell (hK : LLR l D b0 ty ad av b L xs K) (hW : LLW l D b0 ty ad av K) {σ : sMem} (hJ : JR σ) {i c : Nat} (hi : i + 6 ≤ L) (hL : L ≤ 3072) (e5 e6 : Option AV) (hn : ∀ c' e5 e6 σ', c ≤ c' → JR σ' → K c' 1997 (lwE b i e5 e6) [] σ') : K (c + 2) 674 (lwE b i e5 e6) [] σ := by
  refine hK tC8 kC8 _ _ _ _ _ ?_
  iterate 5 refine hK tC8 kC8 _ _ _ _ _ ?_
  refine ⟨rfl, (in_s1 (by omega) hL).1, ?_⟩
  rw [(in_s1 (show i + 1 < L by omega) hL).2]
  iterate 5 refine hK tC8 kC8 _ _ _ _ _ ?_
  refine ⟨rfl, (in_s2 (by omega) hL).1, ?_⟩
  rw [(in_s2 (show i + 2 < L by omega) hL).2]
  refine hK tC8 kC8 _ _ _ _ _ ?_
  obtain ⟨n0, P, XP, hn0, h8, hP, hX, hok, hex⟩ := jw_tell (l := l) (D := D) (b0 := b0) (ty := ty) (ad := ad) (av := av) σ hJ (xs (i + 1)) (xs (i + 2))
  refine hW wL_tell 133 4 (c + 1) 688 _ [aR 34, aI (xs (i + 1)), aI (xs (i + 2)), aR 100] [] σ _ wk_tell (by decide +kernel) rfl (by decide) (l_tell 200 n0 hn0 σ (xs (i + 1)) (xs (i + 2)) P XP h8 hP (fun e σ' h => (hX e σ' h).elim fun k hk => cd2_of hk)) ?_
  intro r σ1 h
  rcases h with ⟨v, σ2, hp, rfl, rfl⟩ | ⟨e, k, hx, hc, rfl⟩
  · obtain ⟨n9, hn9, h9⟩ := hok v σ2 hp
    iterate 2 refine hK tC8 kC8 _ _ _ _ _ ?_
    iterate 5 refine hK tC8 kC8 _ _ _ _ _ ?_
    refine ⟨rfl, (in_s1 (by omega) hL).1, ?_⟩
    rw [(in_s1 (show i + 1 < L by omega) hL).2]
    iterate 5 refine hK tC8 kC8 _ _ _ _ _ ?_
    refine ⟨rfl, (in_s2 (by omega) hL).1, ?_⟩
    rw [(in_s2 (show i + 2 < L by omega) hL).2]
    refine hK tC8 kC8 _ _ _ _ _ ?_
    refine Or.inr (Or.inr ⟨c + 1 - n9, n9, by omega, yDX h9 ?_ (fun _ _ h => h.elim)⟩)
    rintro r σ3 ⟨rfl, t0, t100, hJ3⟩
    iterate 2 refine hK tC8 kC8 _ _ _ _ _ ?_
    refine hK tC8 kC8 _ _ _ _ _ ?_
    refine Or.inl (calD (c9_thrown _ σ3) ?_)
    rintro r σ4 ⟨rfl, h4⟩
    subst h4
    iterate 2 refine hK tC8 kC8 _ _ _ _ _ ?_
    refine ⟨fun _ => ?_, fun h => absurd t0 h⟩
    iterate 2 refine hK tC8 kC8 _ _ _ _ _ ?_
    refine ⟨fun h => absurd rfl h, fun _ => ?_⟩
    iterate 3 refine hK tC8 kC8 _ _ _ _ _ ?_
    refine ⟨vp_in_nI (n := 0) (by decide) (by decide), ?_⟩
    rw [show (Int32.ofInt 0).toNatClampNeg = 0 from rfl, t100]
    iterate 4 refine hK tC8 kC8 _ _ _ _ _ ?_
    refine ⟨fun _ => ?_, fun h => absurd (lg_self _) h⟩
    refine hK tC8 kC8 _ _ _ _ _ ?_
    exact hn (c + 1 - n9) _ _ _ (by omega) hJ3
  · obtain ⟨hk0, n9, hn9, h9⟩ := hex e σ1 k hx hc
    iterate 2 refine hK tC8 kC8 _ _ _ _ _ ?_
    iterate 5 refine hK tC8 kC8 _ _ _ _ _ ?_
    refine ⟨rfl, (in_s1 (by omega) hL).1, ?_⟩
    rw [(in_s1 (show i + 1 < L by omega) hL).2]
    iterate 5 refine hK tC8 kC8 _ _ _ _ _ ?_
    refine ⟨rfl, (in_s2 (by omega) hL).1, ?_⟩
    rw [(in_s2 (show i + 2 < L by omega) hL).2]
    refine hK tC8 kC8 _ _ _ _ _ ?_
    refine Or.inr (Or.inr ⟨c + 1 - n9, n9, by omega, yDX h9 ?_ (fun _ _ h => h.elim)⟩)
    rintro r σ3 ⟨⟨w, rfl⟩, t0, hJ3⟩
    iterate 2 refine hK tC8 kC8 _ _ _ _ _ ?_
    refine hK tC8 kC8 _ _ _ _ _ ?_
    refine Or.inl (calD (c9_thrown _ σ3) ?_)
    rintro r σ4 ⟨rfl, h4⟩
    subst h4
    iterate 2 refine hK tC8 kC8 _ _ _ _ _ ?_
    refine ⟨fun _ => ?_, fun h => absurd t0 h⟩
    iterate 2 refine hK tC8 kC8 _ _ _ _ _ ?_
    refine ⟨fun _ => ?_, fun h => absurd h hk0⟩
    refine hK tC8 kC8 _ _ _ _ _ ?_
    exact hn (c + 1 - n9) _ _ _ (by omega) hJ3
def tC9 : xCode := [(742, .aload_n 1, 1, 743, []), (743, .aload_n 0, 1, 744, []), (744, .iload 4, 2, 746, []), (746, .iconst 1, 1, 747, []), (747, .iadd, 1, 748, []), (748, .iaload, 1, 749, []), (749, .aload_n 0, 1, 750, []), (750, .iload 4, 2, 752, []), (752, .iconst 2, 1, 753, []), (753, .iadd, 1, 754, []), (754, .iaload, 1, 755, []), (755, .aload_n 3, 1, 756, []), (756, .invokestatic 136, 3, 759, []), (759, .istore 5, 2, 761, []), (761, .aload_n 2, 1, 762, []), (762, .aload_n 0, 1, 763, []), (763, .iload 4, 2, 765, []), (765, .iconst 1, 1, 766, []), (766, .iadd, 1, 767, []), (767, .iaload, 1, 768, []), (768, .aload_n 0, 1, 769, []), (769, .iload 4, 2, 771, []), (771, .iconst 2, 1, 772, []), (772, .iadd, 1, 773, []), (773, .iaload, 1, 774, []), (774, .invokevirtual 138, 3, 777, []), (777, .istore 6, 2, 779, []), (779, .aload_n 2, 1, 780, []), (780, .invokevirtual 108, 3, 783, []), (783, .iload 5, 2, 785, []), (785, .if_icmp .eq 5, 3, 788, [790]), (788, .iconst 0, 1, 789, []), (789, .ireturn, 1, 790, []), (790, .iload 5, 2, 792, []), (792, .ifCond .ne 15, 3, 795, [807]), (795, .aload_n 3, 1, 796, []), (796, .iconst 0, 1, 797, []), (797, .laload, 1, 798, []), (798, .iload 6, 2, 800, []), (800, .i2l, 1, 801, []), (801, .lcmp, 1, 802, []), (802, .ifCond .eq 5, 3, 805, [807]), (805, .iconst 0, 1, 806, []), (806, .ireturn, 1, 807, []), (807, .goto 1190, 3, 810, [1997])]
theorem kC9 : xOK code tC9 = true := by decide +kernel
theorem wk_day : wOK 136 wL_day 4 := ⟨(wq 1095 (by decide +kernel) (by decide +kernel)), (wq 1096 (by decide +kernel) (by decide +kernel)), wL_day_w, rfl, by decide +kernel, by decide⟩
theorem lawc_day (hK : LLR l D b0 ty ad av b L xs K) (hW : LLW l D b0 ty ad av K) {σ : sMem} (hJ : JR σ) {i c : Nat} (hi : i + 6 ≤ L) (hL : L ≤ 3072) (e5 e6 : Option AV) (hn : ∀ c' e5 e6 σ', c ≤ c' → JR σ' → K c' 1997 (lwE b i e5 e6) [] σ') : K (c + 2) 742 (lwE b i e5 e6) [] σ := by
  refine hK tC9 kC9 _ _ _ _ _ ?_
  iterate 5 refine hK tC9 kC9 _ _ _ _ _ ?_
  refine ⟨rfl, (in_s1 (by omega) hL).1, ?_⟩
  rw [(in_s1 (show i + 1 < L by omega) hL).2]
  iterate 5 refine hK tC9 kC9 _ _ _ _ _ ?_
  refine ⟨rfl, (in_s2 (by omega) hL).1, ?_⟩
  rw [(in_s2 (show i + 2 < L by omega) hL).2]
  refine hK tC9 kC9 _ _ _ _ _ ?_
  obtain ⟨n0, P, XP, hn0, h8, hP, hX, hok, hex⟩ := jw_day (l := l) (D := D) (b0 := b0) (ty := ty) (ad := ad) (av := av) σ hJ (xs (i + 1)) (xs (i + 2))
  refine hW wL_day 136 4 (c + 1) 756 _ [aR 34, aI (xs (i + 1)), aI (xs (i + 2)), aR 100] [] σ _ wk_day (by decide +kernel) rfl (by decide) (l_day 200 n0 hn0 σ (xs (i + 1)) (xs (i + 2)) P XP h8 hP (fun e σ' h => (hX e σ' h).elim fun k hk => cd1_of hk)) ?_
  intro r σ1 h
  rcases h with ⟨v, σ2, hp, rfl, rfl⟩ | ⟨e, k, hx, hc, rfl⟩
  · obtain ⟨n9, hn9, h9⟩ := hok v σ2 hp
    iterate 2 refine hK tC9 kC9 _ _ _ _ _ ?_
    iterate 5 refine hK tC9 kC9 _ _ _ _ _ ?_
    refine ⟨rfl, (in_s1 (by omega) hL).1, ?_⟩
    rw [(in_s1 (show i + 1 < L by omega) hL).2]
    iterate 5 refine hK tC9 kC9 _ _ _ _ _ ?_
    refine ⟨rfl, (in_s2 (by omega) hL).1, ?_⟩
    rw [(in_s2 (show i + 2 < L by omega) hL).2]
    refine hK tC9 kC9 _ _ _ _ _ ?_
    refine Or.inr (Or.inr ⟨c + 1 - n9, n9, by omega, yDX h9 ?_ (fun _ _ h => h.elim)⟩)
    rintro r σ3 ⟨rfl, t0, t100, hJ3⟩
    iterate 2 refine hK tC9 kC9 _ _ _ _ _ ?_
    refine hK tC9 kC9 _ _ _ _ _ ?_
    refine Or.inl (calD (c9_thrown _ σ3) ?_)
    rintro r σ4 ⟨rfl, h4⟩
    subst h4
    iterate 2 refine hK tC9 kC9 _ _ _ _ _ ?_
    refine ⟨fun _ => ?_, fun h => absurd t0 h⟩
    iterate 2 refine hK tC9 kC9 _ _ _ _ _ ?_
    refine ⟨fun h => absurd rfl h, fun _ => ?_⟩
    iterate 3 refine hK tC9 kC9 _ _ _ _ _ ?_
    refine ⟨vp_in_nI (n := 0) (by decide) (by decide), ?_⟩
    rw [show (Int32.ofInt 0).toNatClampNeg = 0 from rfl, t100]
    iterate 4 refine hK tC9 kC9 _ _ _ _ _ ?_
    refine ⟨fun _ => ?_, fun h => absurd (lg_self _) h⟩
    refine hK tC9 kC9 _ _ _ _ _ ?_
    exact hn (c + 1 - n9) _ _ _ (by omega) hJ3
  · obtain ⟨hk0, n9, hn9, h9⟩ := hex e σ1 k hx hc
    iterate 2 refine hK tC9 kC9 _ _ _ _ _ ?_
    iterate 5 refine hK tC9 kC9 _ _ _ _ _ ?_
    refine ⟨rfl, (in_s1 (by omega) hL).1, ?_⟩
    rw [(in_s1 (show i + 1 < L by omega) hL).2]
    iterate 5 refine hK tC9 kC9 _ _ _ _ _ ?_
    refine ⟨rfl, (in_s2 (by omega) hL).1, ?_⟩
    rw [(in_s2 (show i + 2 < L by omega) hL).2]
    refine hK tC9 kC9 _ _ _ _ _ ?_
    refine Or.inr (Or.inr ⟨c + 1 - n9, n9, by omega, yDX h9 ?_ (fun _ _ h => h.elim)⟩)
    rintro r σ3 ⟨⟨w, rfl⟩, t0, hJ3⟩
    iterate 2 refine hK tC9 kC9 _ _ _ _ _ ?_
    refine hK tC9 kC9 _ _ _ _ _ ?_
    refine Or.inl (calD (c9_thrown _ σ3) ?_)
    rintro r σ4 ⟨rfl, h4⟩
    subst h4
    iterate 2 refine hK tC9 kC9 _ _ _ _ _ ?_
    refine ⟨fun _ => ?_, fun h => absurd t0 h⟩
    iterate 2 refine hK tC9 kC9 _ _ _ _ _ ?_
    refine ⟨fun _ => ?_, fun h => absurd h hk0⟩
    refine hK tC9 kC9 _ _ _ _ _ ?_
    exact hn (c + 1 - n9) _ _ _ (by omega) hJ3
def tC10 : xCode := [(810, .aload_n 1, 1, 811, []), (811, .aload_n 0, 1, 812, []), (812, .iload 4, 2, 814, []), (814, .iconst 1, 1, 815, []), (815, .iadd, 1, 816, []), (816, .iaload, 1, 817, []), (817, .aload_n 0, 1, 818, []), (818, .iload 4, 2, 820, []), (820, .iconst 2, 1, 821, []), (821, .iadd, 1, 822, []), (822, .iaload, 1, 823, []), (823, .aload_n 0, 1, 824, []), (824, .iload 4, 2, 826, []), (826, .iconst 3, 1, 827, []), (827, .iadd, 1, 828, []), (828, .iaload, 1, 829, []), (829, .aload_n 3, 1, 830, []), (830, .invokestatic 139, 3, 833, []), (833, .istore 5, 2, 835, []), (835, .aload_n 2, 1, 836, []), (836, .aload_n 0, 1, 837, []), (837, .iload 4, 2, 839, []), (839, .iconst 1, 1, 840, []), (840, .iadd, 1, 841, []), (841, .iaload, 1, 842, []), (842, .aload_n 0, 1, 843, []), (843, .iload 4, 2, 845, []), (845, .iconst 2, 1, 846, []), (846, .iadd, 1, 847, []), (847, .iaload, 1, 848, []), (848, .aload_n 0, 1, 849, []), (849, .iload 4, 2, 851, []), (851, .iconst 3, 1, 852, []), (852, .iadd, 1, 853, []), (853, .iaload, 1, 854, []), (854, .invokevirtual 141, 3, 857, []), (857, .istore 6, 2, 859, []), (859, .aload_n 2, 1, 860, []), (860, .invokevirtual 108, 3, 863, []), (863, .iload 5, 2, 865, []), (865, .if_icmp .eq 5, 3, 868, [870]), (868, .iconst 0, 1, 869, []), (869, .ireturn, 1, 870, []), (870, .iload 5, 2, 872, []), (872, .ifCond .ne 15, 3, 875, [887]), (875, .aload_n 3, 1, 876, []), (876, .iconst 0, 1, 877, []), (877, .laload, 1, 878, []), (878, .iload 6, 2, 880, []), (880, .i2l, 1, 881, []), (881, .lcmp, 1, 882, []), (882, .ifCond .eq 5, 3, 885, [887]), (885, .iconst 0, 1, 886, []), (886, .ireturn, 1, 887, []), (887, .goto 1110, 3, 890, [1997])]
theorem kC10 : xOK code tC10 = true := by decide +kernel
theorem wk_leads : wOK 139 wL_leads 5 := ⟨(wq 1125 (by decide +kernel) (by decide +kernel)), (wq 1126 (by decide +kernel) (by decide +kernel)), wL_leads_w, rfl, by decide +kernel, by decide⟩
theorem lawc_leads (hK : LLR l D b0 ty ad av b L xs K) (hW : LLW l D b0 ty ad av K) {σ : sMem} (hJ : JR σ) {i c : Nat} (hi : i + 6 ≤ L) (hL : L ≤ 3072) (e5 e6 : Option AV) (hn : ∀ c' e5 e6 σ', c ≤ c' → JR σ' → K c' 1997 (lwE b i e5 e6) [] σ') : K (c + 2) 810 (lwE b i e5 e6) [] σ := by
  refine hK tC10 kC10 _ _ _ _ _ ?_
  iterate 5 refine hK tC10 kC10 _ _ _ _ _ ?_
  refine ⟨rfl, (in_s1 (by omega) hL).1, ?_⟩
  rw [(in_s1 (show i + 1 < L by omega) hL).2]
  iterate 5 refine hK tC10 kC10 _ _ _ _ _ ?_
  refine ⟨rfl, (in_s2 (by omega) hL).1, ?_⟩
  rw [(in_s2 (show i + 2 < L by omega) hL).2]
  iterate 5 refine hK tC10 kC10 _ _ _ _ _ ?_
  refine ⟨rfl, (in_s3 (by omega) hL).1, ?_⟩
  rw [(in_s3 (show i + 3 < L by omega) hL).2]
  refine hK tC10 kC10 _ _ _ _ _ ?_
  obtain ⟨n0, P, XP, hn0, h8, hP, hX, hok, hex⟩ := jw_leads (l := l) (D := D) (b0 := b0) (ty := ty) (ad := ad) (av := av) σ hJ (xs (i + 1)) (xs (i + 2)) (xs (i + 3))
  refine hW wL_leads 139 5 (c + 1) 830 _ [aR 34, aI (xs (i + 1)), aI (xs (i + 2)), aI (xs (i + 3)), aR 100] [] σ _ wk_leads (by decide +kernel) rfl (by decide) (l_leads 200 n0 hn0 σ (xs (i + 1)) (xs (i + 2)) (xs (i + 3)) P XP h8 hP (fun e σ' h => (hX e σ' h).elim fun k hk => cd2_of hk)) ?_
  intro r σ1 h
  rcases h with ⟨v, σ2, hp, rfl, rfl⟩ | ⟨e, k, hx, hc, rfl⟩
  · obtain ⟨n9, hn9, h9⟩ := hok v σ2 hp
    iterate 2 refine hK tC10 kC10 _ _ _ _ _ ?_
    iterate 5 refine hK tC10 kC10 _ _ _ _ _ ?_
    refine ⟨rfl, (in_s1 (by omega) hL).1, ?_⟩
    rw [(in_s1 (show i + 1 < L by omega) hL).2]
    iterate 5 refine hK tC10 kC10 _ _ _ _ _ ?_
    refine ⟨rfl, (in_s2 (by omega) hL).1, ?_⟩
    rw [(in_s2 (show i + 2 < L by omega) hL).2]
    iterate 5 refine hK tC10 kC10 _ _ _ _ _ ?_
    refine ⟨rfl, (in_s3 (by omega) hL).1, ?_⟩
    rw [(in_s3 (show i + 3 < L by omega) hL).2]
    refine hK tC10 kC10 _ _ _ _ _ ?_
    refine Or.inr (Or.inr ⟨c + 1 - n9, n9, by omega, yDX h9 ?_ (fun _ _ h => h.elim)⟩)
    rintro r σ3 ⟨rfl, t0, t100, hJ3⟩
    iterate 2 refine hK tC10 kC10 _ _ _ _ _ ?_
    refine hK tC10 kC10 _ _ _ _ _ ?_
    refine Or.inl (calD (c9_thrown _ σ3) ?_)
    rintro r σ4 ⟨rfl, h4⟩
    subst h4
    iterate 2 refine hK tC10 kC10 _ _ _ _ _ ?_
    refine ⟨fun _ => ?_, fun h => absurd t0 h⟩
    iterate 2 refine hK tC10 kC10 _ _ _ _ _ ?_
    refine ⟨fun h => absurd rfl h, fun _ => ?_⟩
    iterate 3 refine hK tC10 kC10 _ _ _ _ _ ?_
    refine ⟨vp_in_nI (n := 0) (by decide) (by decide), ?_⟩
    rw [show (Int32.ofInt 0).toNatClampNeg = 0 from rfl, t100]
    iterate 4 refine hK tC10 kC10 _ _ _ _ _ ?_
    refine ⟨fun _ => ?_, fun h => absurd (lg_self _) h⟩
    refine hK tC10 kC10 _ _ _ _ _ ?_
    exact hn (c + 1 - n9) _ _ _ (by omega) hJ3
  · obtain ⟨hk0, n9, hn9, h9⟩ := hex e σ1 k hx hc
    iterate 2 refine hK tC10 kC10 _ _ _ _ _ ?_
    iterate 5 refine hK tC10 kC10 _ _ _ _ _ ?_
    refine ⟨rfl, (in_s1 (by omega) hL).1, ?_⟩
    rw [(in_s1 (show i + 1 < L by omega) hL).2]
    iterate 5 refine hK tC10 kC10 _ _ _ _ _ ?_
    refine ⟨rfl, (in_s2 (by omega) hL).1, ?_⟩
    rw [(in_s2 (show i + 2 < L by omega) hL).2]
    iterate 5 refine hK tC10 kC10 _ _ _ _ _ ?_
    refine ⟨rfl, (in_s3 (by omega) hL).1, ?_⟩
    rw [(in_s3 (show i + 3 < L by omega) hL).2]
    refine hK tC10 kC10 _ _ _ _ _ ?_
    refine Or.inr (Or.inr ⟨c + 1 - n9, n9, by omega, yDX h9 ?_ (fun _ _ h => h.elim)⟩)
    rintro r σ3 ⟨⟨w, rfl⟩, t0, hJ3⟩
    iterate 2 refine hK tC10 kC10 _ _ _ _ _ ?_
    refine hK tC10 kC10 _ _ _ _ _ ?_
    refine Or.inl (calD (c9_thrown _ σ3) ?_)
    rintro r σ4 ⟨rfl, h4⟩
    subst h4
    iterate 2 refine hK tC10 kC10 _ _ _ _ _ ?_
    refine ⟨fun _ => ?_, fun h => absurd t0 h⟩
    iterate 2 refine hK tC10 kC10 _ _ _ _ _ ?_
    refine ⟨fun _ => ?_, fun h => absurd h hk0⟩
    refine hK tC10 kC10 _ _ _ _ _ ?_
    exact hn (c + 1 - n9) _ _ _ (by omega) hJ3
def tC11 : xCode := [(890, .aload_n 1, 1, 891, []), (891, .aload_n 0, 1, 892, []), (892, .iload 4, 2, 894, []), (894, .iconst 1, 1, 895, []), (895, .iadd, 1, 896, []), (896, .iaload, 1, 897, []), (897, .aload_n 0, 1, 898, []), (898, .iload 4, 2, 900, []), (900, .iconst 2, 1, 901, []), (901, .iadd, 1, 902, []), (902, .iaload, 1, 903, []), (903, .aload_n 3, 1, 904, []), (904, .invokestatic 142, 3, 907, []), (907, .istore 5, 2, 909, []), (909, .aload_n 2, 1, 910, []), (910, .aload_n 0, 1, 911, []), (911, .iload 4, 2, 913, []), (913, .iconst 1, 1, 914, []), (914, .iadd, 1, 915, []), (915, .iaload, 1, 916, []), (916, .aload_n 0, 1, 917, []), (917, .iload 4, 2, 919, []), (919, .iconst 2, 1, 920, []), (920, .iadd, 1, 921, []), (921, .iaload, 1, 922, []), (922, .invokevirtual 144, 3, 925, []), (925, .istore 6, 2, 927, []), (927, .aload_n 2, 1, 928, []), (928, .invokevirtual 108, 3, 931, []), (931, .iload 5, 2, 933, []), (933, .if_icmp .eq 5, 3, 936, [938]), (936, .iconst 0, 1, 937, []), (937, .ireturn, 1, 938, []), (938, .iload 5, 2, 940, []), (940, .ifCond .ne 15, 3, 943, [955]), (943, .aload_n 3, 1, 944, []), (944, .iconst 0, 1, 945, []), (945, .laload, 1, 946, []), (946, .iload 6, 2, 948, []), (948, .i2l, 1, 949, []), (949, .lcmp, 1, 950, []), (950, .ifCond .eq 5, 3, 953, [955]), (953, .iconst 0, 1, 954, []), (954, .ireturn, 1, 955, []), (955, .goto 1042, 3, 958, [1997])]
theorem kC11 : xOK code tC11 = true := by decide +kernel
theorem wk_there : wOK 142 wL_there 4 := ⟨(wq 1132 (by decide +kernel) (by decide +kernel)), (wq 1133 (by decide +kernel) (by decide +kernel)), wL_there_w, rfl, by decide +kernel, by decide⟩
theorem lawc_there (hK : LLR l D b0 ty ad av b L xs K) (hW : LLW l D b0 ty ad av K) {σ : sMem} (hJ : JR σ) {i c : Nat} (hi : i + 6 ≤ L) (hL : L ≤ 3072) (e5 e6 : Option AV) (hn : ∀ c' e5 e6 σ', c ≤ c' → JR σ' → K c' 1997 (lwE b i e5 e6) [] σ') : K (c + 2) 890 (lwE b i e5 e6) [] σ := by
  refine hK tC11 kC11 _ _ _ _ _ ?_
  iterate 5 refine hK tC11 kC11 _ _ _ _ _ ?_
  refine ⟨rfl, (in_s1 (by omega) hL).1, ?_⟩
  rw [(in_s1 (show i + 1 < L by omega) hL).2]
  iterate 5 refine hK tC11 kC11 _ _ _ _ _ ?_
  refine ⟨rfl, (in_s2 (by omega) hL).1, ?_⟩
  rw [(in_s2 (show i + 2 < L by omega) hL).2]
  refine hK tC11 kC11 _ _ _ _ _ ?_
  obtain ⟨n0, P, XP, hn0, h8, hP, hX, hok, hex⟩ := jw_there (l := l) (D := D) (b0 := b0) (ty := ty) (ad := ad) (av := av) σ hJ (xs (i + 1)) (xs (i + 2))
  refine hW wL_there 142 4 (c + 1) 904 _ [aR 34, aI (xs (i + 1)), aI (xs (i + 2)), aR 100] [] σ _ wk_there (by decide +kernel) rfl (by decide) (l_there 200 n0 hn0 σ (xs (i + 1)) (xs (i + 2)) P XP h8 hP (fun e σ' h => (hX e σ' h).elim fun k hk => cd2_of hk)) ?_
  intro r σ1 h
  rcases h with ⟨v, σ2, hp, rfl, rfl⟩ | ⟨e, k, hx, hc, rfl⟩
  · obtain ⟨n9, hn9, h9⟩ := hok v σ2 hp
    iterate 2 refine hK tC11 kC11 _ _ _ _ _ ?_
    iterate 5 refine hK tC11 kC11 _ _ _ _ _ ?_
    refine ⟨rfl, (in_s1 (by omega) hL).1, ?_⟩
    rw [(in_s1 (show i + 1 < L by omega) hL).2]
    iterate 5 refine hK tC11 kC11 _ _ _ _ _ ?_
    refine ⟨rfl, (in_s2 (by omega) hL).1, ?_⟩
    rw [(in_s2 (show i + 2 < L by omega) hL).2]
    refine hK tC11 kC11 _ _ _ _ _ ?_
    refine Or.inr (Or.inr ⟨c + 1 - n9, n9, by omega, yDX h9 ?_ (fun _ _ h => h.elim)⟩)
    rintro r σ3 ⟨rfl, t0, t100, hJ3⟩
    iterate 2 refine hK tC11 kC11 _ _ _ _ _ ?_
    refine hK tC11 kC11 _ _ _ _ _ ?_
    refine Or.inl (calD (c9_thrown _ σ3) ?_)
    rintro r σ4 ⟨rfl, h4⟩
    subst h4
    iterate 2 refine hK tC11 kC11 _ _ _ _ _ ?_
    refine ⟨fun _ => ?_, fun h => absurd t0 h⟩
    iterate 2 refine hK tC11 kC11 _ _ _ _ _ ?_
    refine ⟨fun h => absurd rfl h, fun _ => ?_⟩
    iterate 3 refine hK tC11 kC11 _ _ _ _ _ ?_
    refine ⟨vp_in_nI (n := 0) (by decide) (by decide), ?_⟩
    rw [show (Int32.ofInt 0).toNatClampNeg = 0 from rfl, t100]
    iterate 4 refine hK tC11 kC11 _ _ _ _ _ ?_
    refine ⟨fun _ => ?_, fun h => absurd (lg_self _) h⟩
    refine hK tC11 kC11 _ _ _ _ _ ?_
    exact hn (c + 1 - n9) _ _ _ (by omega) hJ3
  · obtain ⟨hk0, n9, hn9, h9⟩ := hex e σ1 k hx hc
    iterate 2 refine hK tC11 kC11 _ _ _ _ _ ?_
    iterate 5 refine hK tC11 kC11 _ _ _ _ _ ?_
    refine ⟨rfl, (in_s1 (by omega) hL).1, ?_⟩
    rw [(in_s1 (show i + 1 < L by omega) hL).2]
    iterate 5 refine hK tC11 kC11 _ _ _ _ _ ?_
    refine ⟨rfl, (in_s2 (by omega) hL).1, ?_⟩
    rw [(in_s2 (show i + 2 < L by omega) hL).2]
    refine hK tC11 kC11 _ _ _ _ _ ?_
    refine Or.inr (Or.inr ⟨c + 1 - n9, n9, by omega, yDX h9 ?_ (fun _ _ h => h.elim)⟩)
    rintro r σ3 ⟨⟨w, rfl⟩, t0, hJ3⟩
    iterate 2 refine hK tC11 kC11 _ _ _ _ _ ?_
    refine hK tC11 kC11 _ _ _ _ _ ?_
    refine Or.inl (calD (c9_thrown _ σ3) ?_)
    rintro r σ4 ⟨rfl, h4⟩
    subst h4
    iterate 2 refine hK tC11 kC11 _ _ _ _ _ ?_
    refine ⟨fun _ => ?_, fun h => absurd t0 h⟩
    iterate 2 refine hK tC11 kC11 _ _ _ _ _ ?_
    refine ⟨fun _ => ?_, fun h => absurd h hk0⟩
    refine hK tC11 kC11 _ _ _ _ _ ?_
    exact hn (c + 1 - n9) _ _ _ (by omega) hJ3
def tC12 : xCode := [(958, .aload_n 1, 1, 959, []), (959, .aload_n 0, 1, 960, []), (960, .iload 4, 2, 962, []), (962, .iconst 1, 1, 963, []), (963, .iadd, 1, 964, []), (964, .iaload, 1, 965, []), (965, .aload_n 0, 1, 966, []), (966, .iload 4, 2, 968, []), (968, .iconst 2, 1, 969, []), (969, .iadd, 1, 970, []), (970, .iaload, 1, 971, []), (971, .aload_n 3, 1, 972, []), (972, .invokestatic 145, 3, 975, []), (975, .istore 5, 2, 977, []), (977, .aload_n 2, 1, 978, []), (978, .aload_n 0, 1, 979, []), (979, .iload 4, 2, 981, []), (981, .iconst 1, 1, 982, []), (982, .iadd, 1, 983, []), (983, .iaload, 1, 984, []), (984, .aload_n 0, 1, 985, []), (985, .iload 4, 2, 987, []), (987, .iconst 2, 1, 988, []), (988, .iadd, 1, 989, []), (989, .iaload, 1, 990, []), (990, .invokevirtual 147, 3, 993, []), (993, .istore 6, 2, 995, []), (995, .aload_n 2, 1, 996, []), (996, .invokevirtual 108, 3, 999, []), (999, .iload 5, 2, 1001, []), (1001, .if_icmp .eq 5, 3, 1004, [1006]), (1004, .iconst 0, 1, 1005, []), (1005, .ireturn, 1, 1006, []), (1006, .iload 5, 2, 1008, []), (1008, .ifCond .ne 15, 3, 1011, [1023]), (1011, .aload_n 3, 1, 1012, []), (1012, .iconst 0, 1, 1013, []), (1013, .laload, 1, 1014, []), (1014, .iload 6, 2, 1016, []), (1016, .i2l, 1, 1017, []), (1017, .lcmp, 1, 1018, []), (1018, .ifCond .eq 5, 3, 1021, [1023]), (1021, .iconst 0, 1, 1022, []), (1022, .ireturn, 1, 1023, []), (1023, .goto 974, 3, 1026, [1997])]
theorem kC12 : xOK code tC12 = true := by decide +kernel
theorem wk_lost : wOK 145 wL_lost 4 := ⟨(wq 1139 (by decide +kernel) (by decide +kernel)), (wq 1140 (by decide +kernel) (by decide +kernel)), wL_lost_w, rfl, by decide +kernel, by decide⟩
theorem lawc_lost (hK : LLR l D b0 ty ad av b L xs K) (hW : LLW l D b0 ty ad av K) {σ : sMem} (hJ : JR σ) {i c : Nat} (hi : i + 6 ≤ L) (hL : L ≤ 3072) (e5 e6 : Option AV) (hn : ∀ c' e5 e6 σ', c ≤ c' → JR σ' → K c' 1997 (lwE b i e5 e6) [] σ') : K (c + 2) 958 (lwE b i e5 e6) [] σ := by
  refine hK tC12 kC12 _ _ _ _ _ ?_
  iterate 5 refine hK tC12 kC12 _ _ _ _ _ ?_
  refine ⟨rfl, (in_s1 (by omega) hL).1, ?_⟩
  rw [(in_s1 (show i + 1 < L by omega) hL).2]
  iterate 5 refine hK tC12 kC12 _ _ _ _ _ ?_
  refine ⟨rfl, (in_s2 (by omega) hL).1, ?_⟩
  rw [(in_s2 (show i + 2 < L by omega) hL).2]
  refine hK tC12 kC12 _ _ _ _ _ ?_
  obtain ⟨n0, P, XP, hn0, h8, hP, hX, hok, hex⟩ := jw_lost (l := l) (D := D) (b0 := b0) (ty := ty) (ad := ad) (av := av) σ hJ (xs (i + 1)) (xs (i + 2))
  refine hW wL_lost 145 4 (c + 1) 972 _ [aR 34, aI (xs (i + 1)), aI (xs (i + 2)), aR 100] [] σ _ wk_lost (by decide +kernel) rfl (by decide) (l_lost 200 n0 hn0 σ (xs (i + 1)) (xs (i + 2)) P XP h8 hP (fun e σ' h => (hX e σ' h).elim fun k hk => cd2_of hk)) ?_
  intro r σ1 h
  rcases h with ⟨v, σ2, hp, rfl, rfl⟩ | ⟨e, k, hx, hc, rfl⟩
  · obtain ⟨n9, hn9, h9⟩ := hok v σ2 hp
    iterate 2 refine hK tC12 kC12 _ _ _ _ _ ?_
    iterate 5 refine hK tC12 kC12 _ _ _ _ _ ?_
    refine ⟨rfl, (in_s1 (by omega) hL).1, ?_⟩
    rw [(in_s1 (show i + 1 < L by omega) hL).2]
    iterate 5 refine hK tC12 kC12 _ _ _ _ _ ?_
    refine ⟨rfl, (in_s2 (by omega) hL).1, ?_⟩
    rw [(in_s2 (show i + 2 < L by omega) hL).2]
    refine hK tC12 kC12 _ _ _ _ _ ?_
    refine Or.inr (Or.inr ⟨c + 1 - n9, n9, by omega, yDX h9 ?_ (fun _ _ h => h.elim)⟩)
    rintro r σ3 ⟨rfl, t0, t100, hJ3⟩
    iterate 2 refine hK tC12 kC12 _ _ _ _ _ ?_
    refine hK tC12 kC12 _ _ _ _ _ ?_
    refine Or.inl (calD (c9_thrown _ σ3) ?_)
    rintro r σ4 ⟨rfl, h4⟩
    subst h4
    iterate 2 refine hK tC12 kC12 _ _ _ _ _ ?_
    refine ⟨fun _ => ?_, fun h => absurd t0 h⟩
    iterate 2 refine hK tC12 kC12 _ _ _ _ _ ?_
    refine ⟨fun h => absurd rfl h, fun _ => ?_⟩
    iterate 3 refine hK tC12 kC12 _ _ _ _ _ ?_
    refine ⟨vp_in_nI (n := 0) (by decide) (by decide), ?_⟩
    rw [show (Int32.ofInt 0).toNatClampNeg = 0 from rfl, t100]
    iterate 4 refine hK tC12 kC12 _ _ _ _ _ ?_
    refine ⟨fun _ => ?_, fun h => absurd (lg_self _) h⟩
    refine hK tC12 kC12 _ _ _ _ _ ?_
    exact hn (c + 1 - n9) _ _ _ (by omega) hJ3
  · obtain ⟨hk0, n9, hn9, h9⟩ := hex e σ1 k hx hc
    iterate 2 refine hK tC12 kC12 _ _ _ _ _ ?_
    iterate 5 refine hK tC12 kC12 _ _ _ _ _ ?_
    refine ⟨rfl, (in_s1 (by omega) hL).1, ?_⟩
    rw [(in_s1 (show i + 1 < L by omega) hL).2]
    iterate 5 refine hK tC12 kC12 _ _ _ _ _ ?_
    refine ⟨rfl, (in_s2 (by omega) hL).1, ?_⟩
    rw [(in_s2 (show i + 2 < L by omega) hL).2]
    refine hK tC12 kC12 _ _ _ _ _ ?_
    refine Or.inr (Or.inr ⟨c + 1 - n9, n9, by omega, yDX h9 ?_ (fun _ _ h => h.elim)⟩)
    rintro r σ3 ⟨⟨w, rfl⟩, t0, hJ3⟩
    iterate 2 refine hK tC12 kC12 _ _ _ _ _ ?_
    refine hK tC12 kC12 _ _ _ _ _ ?_
    refine Or.inl (calD (c9_thrown _ σ3) ?_)
    rintro r σ4 ⟨rfl, h4⟩
    subst h4
    iterate 2 refine hK tC12 kC12 _ _ _ _ _ ?_
    refine ⟨fun _ => ?_, fun h => absurd t0 h⟩
    iterate 2 refine hK tC12 kC12 _ _ _ _ _ ?_
    refine ⟨fun _ => ?_, fun h => absurd h hk0⟩
    refine hK tC12 kC12 _ _ _ _ _ ?_
    exact hn (c + 1 - n9) _ _ _ (by omega) hJ3
def tC13 : xCode := [(1026, .aload_n 1, 1, 1027, []), (1027, .aload_n 0, 1, 1028, []), (1028, .iload 4, 2, 1030, []), (1030, .iconst 1, 1, 1031, []), (1031, .iadd, 1, 1032, []), (1032, .iaload, 1, 1033, []), (1033, .aload_n 3, 1, 1034, []), (1034, .invokestatic 148, 3, 1037, []), (1037, .istore 5, 2, 1039, []), (1039, .aload_n 2, 1, 1040, []), (1040, .aload_n 0, 1, 1041, []), (1041, .iload 4, 2, 1043, []), (1043, .iconst 1, 1, 1044, []), (1044, .iadd, 1, 1045, []), (1045, .iaload, 1, 1046, []), (1046, .invokevirtual 150, 3, 1049, []), (1049, .istore 6, 2, 1051, []), (1051, .aload_n 2, 1, 1052, []), (1052, .invokevirtual 108, 3, 1055, []), (1055, .iload 5, 2, 1057, []), (1057, .if_icmp .eq 5, 3, 1060, [1062]), (1060, .iconst 0, 1, 1061, []), (1061, .ireturn, 1, 1062, []), (1062, .iload 5, 2, 1064, []), (1064, .ifCond .ne 15, 3, 1067, [1079]), (1067, .aload_n 3, 1, 1068, []), (1068, .iconst 0, 1, 1069, []), (1069, .laload, 1, 1070, []), (1070, .iload 6, 2, 1072, []), (1072, .i2l, 1, 1073, []), (1073, .lcmp, 1, 1074, []), (1074, .ifCond .eq 5, 3, 1077, [1079]), (1077, .iconst 0, 1, 1078, []), (1078, .ireturn, 1, 1079, []), (1079, .goto 918, 3, 1082, [1997])]
theorem kC13 : xOK code tC13 = true := by decide +kernel
theorem wk_fees : wOK 148 wL_fees 3 := ⟨(wq 1147 (by decide +kernel) (by decide +kernel)), (wq 1148 (by decide +kernel) (by decide +kernel)), wL_fees_w, rfl, by decide +kernel, by decide⟩
theorem lawc_fees (hK : LLR l D b0 ty ad av b L xs K) (hW : LLW l D b0 ty ad av K) {σ : sMem} (hJ : JR σ) {i c : Nat} (hi : i + 6 ≤ L) (hL : L ≤ 3072) (e5 e6 : Option AV) (hn : ∀ c' e5 e6 σ', c ≤ c' → JR σ' → K c' 1997 (lwE b i e5 e6) [] σ') : K (c + 2) 1026 (lwE b i e5 e6) [] σ := by
  refine hK tC13 kC13 _ _ _ _ _ ?_
  iterate 5 refine hK tC13 kC13 _ _ _ _ _ ?_
  refine ⟨rfl, (in_s1 (by omega) hL).1, ?_⟩
  rw [(in_s1 (show i + 1 < L by omega) hL).2]
  refine hK tC13 kC13 _ _ _ _ _ ?_
  obtain ⟨n0, P, XP, hn0, h8, hP, hX, hok, hex⟩ := jw_fees (l := l) (D := D) (b0 := b0) (ty := ty) (ad := ad) (av := av) σ hJ (xs (i + 1))
  refine hW wL_fees 148 3 (c + 1) 1034 _ [aR 34, aI (xs (i + 1)), aR 100] [] σ _ wk_fees (by decide +kernel) rfl (by decide) (l_fees 200 n0 hn0 σ (xs (i + 1)) P XP h8 hP (fun e σ' h => (hX e σ' h).elim fun k hk => cd1_of hk)) ?_
  intro r σ1 h
  rcases h with ⟨v, σ2, hp, rfl, rfl⟩ | ⟨e, k, hx, hc, rfl⟩
  · obtain ⟨n9, hn9, h9⟩ := hok v σ2 hp
    iterate 2 refine hK tC13 kC13 _ _ _ _ _ ?_
    iterate 5 refine hK tC13 kC13 _ _ _ _ _ ?_
    refine ⟨rfl, (in_s1 (by omega) hL).1, ?_⟩
    rw [(in_s1 (show i + 1 < L by omega) hL).2]
    refine hK tC13 kC13 _ _ _ _ _ ?_
    refine Or.inr (Or.inr ⟨c + 1 - n9, n9, by omega, yDX h9 ?_ (fun _ _ h => h.elim)⟩)
    rintro r σ3 ⟨rfl, t0, t100, hJ3⟩
    iterate 2 refine hK tC13 kC13 _ _ _ _ _ ?_
    refine hK tC13 kC13 _ _ _ _ _ ?_
    refine Or.inl (calD (c9_thrown _ σ3) ?_)
    rintro r σ4 ⟨rfl, h4⟩
    subst h4
    iterate 2 refine hK tC13 kC13 _ _ _ _ _ ?_
    refine ⟨fun _ => ?_, fun h => absurd t0 h⟩
    iterate 2 refine hK tC13 kC13 _ _ _ _ _ ?_
    refine ⟨fun h => absurd rfl h, fun _ => ?_⟩
    iterate 3 refine hK tC13 kC13 _ _ _ _ _ ?_
    refine ⟨vp_in_nI (n := 0) (by decide) (by decide), ?_⟩
    rw [show (Int32.ofInt 0).toNatClampNeg = 0 from rfl, t100]
    iterate 4 refine hK tC13 kC13 _ _ _ _ _ ?_
    refine ⟨fun _ => ?_, fun h => absurd (lg_self _) h⟩
    refine hK tC13 kC13 _ _ _ _ _ ?_
    exact hn (c + 1 - n9) _ _ _ (by omega) hJ3
  · obtain ⟨hk0, n9, hn9, h9⟩ := hex e σ1 k hx hc
    iterate 2 refine hK tC13 kC13 _ _ _ _ _ ?_
    iterate 5 refine hK tC13 kC13 _ _ _ _ _ ?_
    refine ⟨rfl, (in_s1 (by omega) hL).1, ?_⟩
    rw [(in_s1 (show i + 1 < L by omega) hL).2]
    refine hK tC13 kC13 _ _ _ _ _ ?_
    refine Or.inr (Or.inr ⟨c + 1 - n9, n9, by omega, yDX h9 ?_ (fun _ _ h => h.elim)⟩)
    rintro r σ3 ⟨⟨w, rfl⟩, t0, hJ3⟩
    iterate 2 refine hK tC13 kC13 _ _ _ _ _ ?_
    refine hK tC13 kC13 _ _ _ _ _ ?_
    refine Or.inl (calD (c9_thrown _ σ3) ?_)
    rintro r σ4 ⟨rfl, h4⟩
    subst h4
    iterate 2 refine hK tC13 kC13 _ _ _ _ _ ?_
    refine ⟨fun _ => ?_, fun h => absurd t0 h⟩
    iterate 2 refine hK tC13 kC13 _ _ _ _ _ ?_
    refine ⟨fun _ => ?_, fun h => absurd h hk0⟩
    refine hK tC13 kC13 _ _ _ _ _ ?_
    exact hn (c + 1 - n9) _ _ _ (by omega) hJ3
def tC14 : xCode := [(1082, .aload_n 1, 1, 1083, []), (1083, .aload_n 0, 1, 1084, []), (1084, .iload 4, 2, 1086, []), (1086, .iconst 1, 1, 1087, []), (1087, .iadd, 1, 1088, []), (1088, .iaload, 1, 1089, []), (1089, .aload_n 3, 1, 1090, []), (1090, .invokestatic 151, 3, 1093, []), (1093, .istore 5, 2, 1095, []), (1095, .aload_n 2, 1, 1096, []), (1096, .aload_n 0, 1, 1097, []), (1097, .iload 4, 2, 1099, []), (1099, .iconst 1, 1, 1100, []), (1100, .iadd, 1, 1101, []), (1101, .iaload, 1, 1102, []), (1102, .invokevirtual 153, 3, 1105, []), (1105, .istore 6, 2, 1107, []), (1107, .aload_n 2, 1, 1108, []), (1108, .invokevirtual 108, 3, 1111, []), (1111, .iload 5, 2, 1113, []), (1113, .if_icmp .eq 5, 3, 1116, [1118]), (1116, .iconst 0, 1, 1117, []), (1117, .ireturn, 1, 1118, []), (1118, .iload 5, 2, 1120, []), (1120, .ifCond .ne 15, 3, 1123, [1135]), (1123, .aload_n 3, 1, 1124, []), (1124, .iconst 0, 1, 1125, []), (1125, .laload, 1, 1126, []), (1126, .iload 6, 2, 1128, []), (1128, .i2l, 1, 1129, []), (1129, .lcmp, 1, 1130, []), (1130, .ifCond .eq 5, 3, 1133, [1135]), (1133, .iconst 0, 1, 1134, []), (1134, .ireturn, 1, 1135, []), (1135, .goto 862, 3, 1138, [1997])]
theorem kC14 : xOK code tC14 = true := by decide +kernel
theorem wk_judge : wOK 151 wL_judge 3 := ⟨(wq 1154 (by decide +kernel) (by decide +kernel)), (wq 1155 (by decide +kernel) (by decide +kernel)), wL_judge_w, rfl, by decide +kernel, by decide⟩
theorem lawc_judge (hK : LLR l D b0 ty ad av b L xs K) (hW : LLW l D b0 ty ad av K) {σ : sMem} (hJ : JR σ) {i c : Nat} (hi : i + 6 ≤ L) (hL : L ≤ 3072) (e5 e6 : Option AV) (hn : ∀ c' e5 e6 σ', c ≤ c' → JR σ' → K c' 1997 (lwE b i e5 e6) [] σ') : K (c + 2) 1082 (lwE b i e5 e6) [] σ := by
  refine hK tC14 kC14 _ _ _ _ _ ?_
  iterate 5 refine hK tC14 kC14 _ _ _ _ _ ?_
  refine ⟨rfl, (in_s1 (by omega) hL).1, ?_⟩
  rw [(in_s1 (show i + 1 < L by omega) hL).2]
  refine hK tC14 kC14 _ _ _ _ _ ?_
  obtain ⟨n0, P, XP, hn0, h8, hP, hX, hok, hex⟩ := jw_judge (l := l) (D := D) (b0 := b0) (ty := ty) (ad := ad) (av := av) σ hJ (xs (i + 1))
  refine hW wL_judge 151 3 (c + 1) 1090 _ [aR 34, aI (xs (i + 1)), aR 100] [] σ _ wk_judge (by decide +kernel) rfl (by decide) (l_judge 200 n0 hn0 σ (xs (i + 1)) P XP h8 hP (fun e σ' h => (hX e σ' h).elim fun k hk => cd1_of hk)) ?_
  intro r σ1 h
  rcases h with ⟨v, σ2, hp, rfl, rfl⟩ | ⟨e, k, hx, hc, rfl⟩
  · obtain ⟨n9, hn9, h9⟩ := hok v σ2 hp
    iterate 2 refine hK tC14 kC14 _ _ _ _ _ ?_
    iterate 5 refine hK tC14 kC14 _ _ _ _ _ ?_
    refine ⟨rfl, (in_s1 (by omega) hL).1, ?_⟩
    rw [(in_s1 (show i + 1 < L by omega) hL).2]
    refine hK tC14 kC14 _ _ _ _ _ ?_
    refine Or.inr (Or.inr ⟨c + 1 - n9, n9, by omega, yDX h9 ?_ (fun _ _ h => h.elim)⟩)
    rintro r σ3 ⟨rfl, t0, t100, hJ3⟩
    iterate 2 refine hK tC14 kC14 _ _ _ _ _ ?_
    refine hK tC14 kC14 _ _ _ _ _ ?_
    refine Or.inl (calD (c9_thrown _ σ3) ?_)
    rintro r σ4 ⟨rfl, h4⟩
    subst h4
    iterate 2 refine hK tC14 kC14 _ _ _ _ _ ?_
    refine ⟨fun _ => ?_, fun h => absurd t0 h⟩
    iterate 2 refine hK tC14 kC14 _ _ _ _ _ ?_
    refine ⟨fun h => absurd rfl h, fun _ => ?_⟩
    iterate 3 refine hK tC14 kC14 _ _ _ _ _ ?_
    refine ⟨vp_in_nI (n := 0) (by decide) (by decide), ?_⟩
    rw [show (Int32.ofInt 0).toNatClampNeg = 0 from rfl, t100]
    iterate 4 refine hK tC14 kC14 _ _ _ _ _ ?_
    refine ⟨fun _ => ?_, fun h => absurd (lg_self _) h⟩
    refine hK tC14 kC14 _ _ _ _ _ ?_
    exact hn (c + 1 - n9) _ _ _ (by omega) hJ3
  · obtain ⟨hk0, n9, hn9, h9⟩ := hex e σ1 k hx hc
    iterate 2 refine hK tC14 kC14 _ _ _ _ _ ?_
    iterate 5 refine hK tC14 kC14 _ _ _ _ _ ?_
    refine ⟨rfl, (in_s1 (by omega) hL).1, ?_⟩
    rw [(in_s1 (show i + 1 < L by omega) hL).2]
    refine hK tC14 kC14 _ _ _ _ _ ?_
    refine Or.inr (Or.inr ⟨c + 1 - n9, n9, by omega, yDX h9 ?_ (fun _ _ h => h.elim)⟩)
    rintro r σ3 ⟨⟨w, rfl⟩, t0, hJ3⟩
    iterate 2 refine hK tC14 kC14 _ _ _ _ _ ?_
    refine hK tC14 kC14 _ _ _ _ _ ?_
    refine Or.inl (calD (c9_thrown _ σ3) ?_)
    rintro r σ4 ⟨rfl, h4⟩
    subst h4
    iterate 2 refine hK tC14 kC14 _ _ _ _ _ ?_
    refine ⟨fun _ => ?_, fun h => absurd t0 h⟩
    iterate 2 refine hK tC14 kC14 _ _ _ _ _ ?_
    refine ⟨fun _ => ?_, fun h => absurd h hk0⟩
    refine hK tC14 kC14 _ _ _ _ _ ?_
    exact hn (c + 1 - n9) _ _ _ (by omega) hJ3
def tC15 : xCode := [(1138, .aload_n 1, 1, 1139, []), (1139, .aload_n 0, 1, 1140, []), (1140, .iload 4, 2, 1142, []), (1142, .iconst 1, 1, 1143, []), (1143, .iadd, 1, 1144, []), (1144, .iaload, 1, 1145, []), (1145, .aload_n 3, 1, 1146, []), (1146, .invokestatic 154, 3, 1149, []), (1149, .istore 5, 2, 1151, []), (1151, .aload_n 2, 1, 1152, []), (1152, .aload_n 0, 1, 1153, []), (1153, .iload 4, 2, 1155, []), (1155, .iconst 1, 1, 1156, []), (1156, .iadd, 1, 1157, []), (1157, .iaload, 1, 1158, []), (1158, .invokevirtual 156, 3, 1161, []), (1161, .istore 6, 2, 1163, []), (1163, .aload_n 2, 1, 1164, []), (1164, .invokevirtual 108, 3, 1167, []), (1167, .iload 5, 2, 1169, []), (1169, .if_icmp .eq 5, 3, 1172, [1174]), (1172, .iconst 0, 1, 1173, []), (1173, .ireturn, 1, 1174, []), (1174, .iload 5, 2, 1176, []), (1176, .ifCond .ne 15, 3, 1179, [1191]), (1179, .aload_n 3, 1, 1180, []), (1180, .iconst 0, 1, 1181, []), (1181, .laload, 1, 1182, []), (1182, .iload 6, 2, 1184, []), (1184, .i2l, 1, 1185, []), (1185, .lcmp, 1, 1186, []), (1186, .ifCond .eq 5, 3, 1189, [1191]), (1189, .iconst 0, 1, 1190, []), (1190, .ireturn, 1, 1191, []), (1191, .goto 806, 3, 1194, [1997])]
theorem kC15 : xOK code tC15 = true := by decide +kernel
theorem wk_match : wOK 154 wL_match 3 := ⟨(wq 1166 (by decide +kernel) (by decide +kernel)), (wq 1167 (by decide +kernel) (by decide +kernel)), wL_match_w, rfl, by decide +kernel, by decide⟩
theorem lawc_match (hK : LLR l D b0 ty ad av b L xs K) (hW : LLW l D b0 ty ad av K) {σ : sMem} (hJ : JR σ) {i c : Nat} (hi : i + 6 ≤ L) (hL : L ≤ 3072) (e5 e6 : Option AV) (hn : ∀ c' e5 e6 σ', c ≤ c' → JR σ' → K c' 1997 (lwE b i e5 e6) [] σ') : K (c + 2) 1138 (lwE b i e5 e6) [] σ := by
  refine hK tC15 kC15 _ _ _ _ _ ?_
  iterate 5 refine hK tC15 kC15 _ _ _ _ _ ?_
  refine ⟨rfl, (in_s1 (by omega) hL).1, ?_⟩
  rw [(in_s1 (show i + 1 < L by omega) hL).2]
  refine hK tC15 kC15 _ _ _ _ _ ?_
  obtain ⟨n0, P, XP, hn0, h8, hP, hX, hok, hex⟩ := jw_match (l := l) (D := D) (b0 := b0) (ty := ty) (ad := ad) (av := av) σ hJ (xs (i + 1))
  refine hW wL_match 154 3 (c + 1) 1146 _ [aR 34, aI (xs (i + 1)), aR 100] [] σ _ wk_match (by decide +kernel) rfl (by decide) (l_match 200 n0 hn0 σ (xs (i + 1)) P XP h8 hP (fun e σ' h => (hX e σ' h).elim fun k hk => cd1_of hk)) ?_
  intro r σ1 h
  rcases h with ⟨v, σ2, hp, rfl, rfl⟩ | ⟨e, k, hx, hc, rfl⟩
  · obtain ⟨n9, hn9, h9⟩ := hok v σ2 hp
    iterate 2 refine hK tC15 kC15 _ _ _ _ _ ?_
    iterate 5 refine hK tC15 kC15 _ _ _ _ _ ?_
    refine ⟨rfl, (in_s1 (by omega) hL).1, ?_⟩
    rw [(in_s1 (show i + 1 < L by omega) hL).2]
    refine hK tC15 kC15 _ _ _ _ _ ?_
    refine Or.inr (Or.inr ⟨c + 1 - n9, n9, by omega, yDX h9 ?_ (fun _ _ h => h.elim)⟩)
    rintro r σ3 ⟨rfl, t0, t100, hJ3⟩
    iterate 2 refine hK tC15 kC15 _ _ _ _ _ ?_
    refine hK tC15 kC15 _ _ _ _ _ ?_
    refine Or.inl (calD (c9_thrown _ σ3) ?_)
    rintro r σ4 ⟨rfl, h4⟩
    subst h4
    iterate 2 refine hK tC15 kC15 _ _ _ _ _ ?_
    refine ⟨fun _ => ?_, fun h => absurd t0 h⟩
    iterate 2 refine hK tC15 kC15 _ _ _ _ _ ?_
    refine ⟨fun h => absurd rfl h, fun _ => ?_⟩
    iterate 3 refine hK tC15 kC15 _ _ _ _ _ ?_
    refine ⟨vp_in_nI (n := 0) (by decide) (by decide), ?_⟩
    rw [show (Int32.ofInt 0).toNatClampNeg = 0 from rfl, t100]
    iterate 4 refine hK tC15 kC15 _ _ _ _ _ ?_
    refine ⟨fun _ => ?_, fun h => absurd (lg_self _) h⟩
    refine hK tC15 kC15 _ _ _ _ _ ?_
    exact hn (c + 1 - n9) _ _ _ (by omega) hJ3
  · obtain ⟨hk0, n9, hn9, h9⟩ := hex e σ1 k hx hc
    iterate 2 refine hK tC15 kC15 _ _ _ _ _ ?_
    iterate 5 refine hK tC15 kC15 _ _ _ _ _ ?_
    refine ⟨rfl, (in_s1 (by omega) hL).1, ?_⟩
    rw [(in_s1 (show i + 1 < L by omega) hL).2]
    refine hK tC15 kC15 _ _ _ _ _ ?_
    refine Or.inr (Or.inr ⟨c + 1 - n9, n9, by omega, yDX h9 ?_ (fun _ _ h => h.elim)⟩)
    rintro r σ3 ⟨⟨w, rfl⟩, t0, hJ3⟩
    iterate 2 refine hK tC15 kC15 _ _ _ _ _ ?_
    refine hK tC15 kC15 _ _ _ _ _ ?_
    refine Or.inl (calD (c9_thrown _ σ3) ?_)
    rintro r σ4 ⟨rfl, h4⟩
    subst h4
    iterate 2 refine hK tC15 kC15 _ _ _ _ _ ?_
    refine ⟨fun _ => ?_, fun h => absurd t0 h⟩
    iterate 2 refine hK tC15 kC15 _ _ _ _ _ ?_
    refine ⟨fun _ => ?_, fun h => absurd h hk0⟩
    refine hK tC15 kC15 _ _ _ _ _ ?_
    exact hn (c + 1 - n9) _ _ _ (by omega) hJ3
def tC16 : xCode := [(1194, .aload_n 1, 1, 1195, []), (1195, .aload_n 0, 1, 1196, []), (1196, .iload 4, 2, 1198, []), (1198, .iconst 1, 1, 1199, []), (1199, .iadd, 1, 1200, []), (1200, .iaload, 1, 1201, []), (1201, .aload_n 3, 1, 1202, []), (1202, .invokestatic 157, 3, 1205, []), (1205, .istore 5, 2, 1207, []), (1207, .aload_n 2, 1, 1208, []), (1208, .aload_n 0, 1, 1209, []), (1209, .iload 4, 2, 1211, []), (1211, .iconst 1, 1, 1212, []), (1212, .iadd, 1, 1213, []), (1213, .iaload, 1, 1214, []), (1214, .invokevirtual 159, 3, 1217, []), (1217, .istore 6, 2, 1219, []), (1219, .aload_n 2, 1, 1220, []), (1220, .invokevirtual 108, 3, 1223, []), (1223, .iload 5, 2, 1225, []), (1225, .if_icmp .eq 5, 3, 1228, [1230]), (1228, .iconst 0, 1, 1229, []), (1229, .ireturn, 1, 1230, []), (1230, .iload 5, 2, 1232, []), (1232, .ifCond .ne 15, 3, 1235, [1247]), (1235, .aload_n 3, 1, 1236, []), (1236, .iconst 0, 1, 1237, []), (1237, .laload, 1, 1238, []), (1238, .iload 6, 2, 1240, []), (1240, .i2l, 1, 1241, []), (1241, .lcmp, 1, 1242, []), (1242, .ifCond .eq 5, 3, 1245, [1247]), (1245, .iconst 0, 1, 1246, []), (1246, .ireturn, 1, 1247, []), (1247, .goto 750, 3, 1250, [1997])]
theorem kC16 : xOK code tC16 = true := by decide +kernel
theorem wk_matched : wOK 157 wL_matched 3 := ⟨(wq 1203 (by decide +kernel) (by decide +kernel)), (wq 1204 (by decide +kernel) (by decide +kernel)), wL_matched_w, rfl, by decide +kernel, by decide⟩
theorem lawc_matched (hK : LLR l D b0 ty ad av b L xs K) (hW : LLW l D b0 ty ad av K) {σ : sMem} (hJ : JR σ) {i c : Nat} (hi : i + 6 ≤ L) (hL : L ≤ 3072) (e5 e6 : Option AV) (hn : ∀ c' e5 e6 σ', c ≤ c' → JR σ' → K c' 1997 (lwE b i e5 e6) [] σ') : K (c + 2) 1194 (lwE b i e5 e6) [] σ := by
  refine hK tC16 kC16 _ _ _ _ _ ?_
  iterate 5 refine hK tC16 kC16 _ _ _ _ _ ?_
  refine ⟨rfl, (in_s1 (by omega) hL).1, ?_⟩
  rw [(in_s1 (show i + 1 < L by omega) hL).2]
  refine hK tC16 kC16 _ _ _ _ _ ?_
  obtain ⟨n0, P, XP, hn0, h8, hP, hX, hok, hex⟩ := jw_matched (l := l) (D := D) (b0 := b0) (ty := ty) (ad := ad) (av := av) σ hJ (xs (i + 1))
  refine hW wL_matched 157 3 (c + 1) 1202 _ [aR 34, aI (xs (i + 1)), aR 100] [] σ _ wk_matched (by decide +kernel) rfl (by decide) (l_matched 200 n0 hn0 σ (xs (i + 1)) P XP h8 hP (fun e σ' h => (hX e σ' h).elim fun k hk => cd1_of hk)) ?_
  intro r σ1 h
  rcases h with ⟨v, σ2, hp, rfl, rfl⟩ | ⟨e, k, hx, hc, rfl⟩
  · obtain ⟨n9, hn9, h9⟩ := hok v σ2 hp
    iterate 2 refine hK tC16 kC16 _ _ _ _ _ ?_
    iterate 5 refine hK tC16 kC16 _ _ _ _ _ ?_
    refine ⟨rfl, (in_s1 (by omega) hL).1, ?_⟩
    rw [(in_s1 (show i + 1 < L by omega) hL).2]
    refine hK tC16 kC16 _ _ _ _ _ ?_
    refine Or.inr (Or.inr ⟨c + 1 - n9, n9, by omega, yDX h9 ?_ (fun _ _ h => h.elim)⟩)
    rintro r σ3 ⟨rfl, t0, t100, hJ3⟩
    iterate 2 refine hK tC16 kC16 _ _ _ _ _ ?_
    refine hK tC16 kC16 _ _ _ _ _ ?_
    refine Or.inl (calD (c9_thrown _ σ3) ?_)
    rintro r σ4 ⟨rfl, h4⟩
    subst h4
    iterate 2 refine hK tC16 kC16 _ _ _ _ _ ?_
    refine ⟨fun _ => ?_, fun h => absurd t0 h⟩
    iterate 2 refine hK tC16 kC16 _ _ _ _ _ ?_
    refine ⟨fun h => absurd rfl h, fun _ => ?_⟩
    iterate 3 refine hK tC16 kC16 _ _ _ _ _ ?_
    refine ⟨vp_in_nI (n := 0) (by decide) (by decide), ?_⟩
    rw [show (Int32.ofInt 0).toNatClampNeg = 0 from rfl, t100]
    iterate 4 refine hK tC16 kC16 _ _ _ _ _ ?_
    refine ⟨fun _ => ?_, fun h => absurd (lg_self _) h⟩
    refine hK tC16 kC16 _ _ _ _ _ ?_
    exact hn (c + 1 - n9) _ _ _ (by omega) hJ3
  · obtain ⟨hk0, n9, hn9, h9⟩ := hex e σ1 k hx hc
    iterate 2 refine hK tC16 kC16 _ _ _ _ _ ?_
    iterate 5 refine hK tC16 kC16 _ _ _ _ _ ?_
    refine ⟨rfl, (in_s1 (by omega) hL).1, ?_⟩
    rw [(in_s1 (show i + 1 < L by omega) hL).2]
    refine hK tC16 kC16 _ _ _ _ _ ?_
    refine Or.inr (Or.inr ⟨c + 1 - n9, n9, by omega, yDX h9 ?_ (fun _ _ h => h.elim)⟩)
    rintro r σ3 ⟨⟨w, rfl⟩, t0, hJ3⟩
    iterate 2 refine hK tC16 kC16 _ _ _ _ _ ?_
    refine hK tC16 kC16 _ _ _ _ _ ?_
    refine Or.inl (calD (c9_thrown _ σ3) ?_)
    rintro r σ4 ⟨rfl, h4⟩
    subst h4
    iterate 2 refine hK tC16 kC16 _ _ _ _ _ ?_
    refine ⟨fun _ => ?_, fun h => absurd t0 h⟩
    iterate 2 refine hK tC16 kC16 _ _ _ _ _ ?_
    refine ⟨fun _ => ?_, fun h => absurd h hk0⟩
    refine hK tC16 kC16 _ _ _ _ _ ?_
    exact hn (c + 1 - n9) _ _ _ (by omega) hJ3
def tC17 : xCode := [(1250, .aload_n 1, 1, 1251, []), (1251, .invokevirtual 160, 3, 1254, []), (1254, .aload_n 2, 1, 1255, []), (1255, .invokevirtual 163, 3, 1258, []), (1258, .if_icmp .eq 739, 3, 1261, [1997]), (1261, .iconst 0, 1, 1262, []), (1262, .ireturn, 1, 1263, [])]
theorem kC17 : xOK code tC17 = true := by decide +kernel
theorem lawc_bound (hK : LLR l D b0 ty ad av b L xs K) (hW : LLW l D b0 ty ad av K) {σ : sMem} (hJ : JR σ) {i c : Nat} (hi : i + 6 ≤ L) (hL : L ≤ 3072) (e5 e6 : Option AV) (hn : ∀ c' e5 e6 σ', c ≤ c' → JR σ' → K c' 1997 (lwE b i e5 e6) [] σ') : K (c + 2) 1250 (lwE b i e5 e6) [] σ := by
  refine hK tC17 kC17 _ _ _ _ _ ?_
  obtain ⟨P, h8, hr⟩ := jd_bound (l := l) (D := D) (b0 := b0) (ty := ty) (ad := ad) (av := av) σ hJ 
  refine hK tC17 kC17 _ _ _ _ _ ?_
  refine Or.inr (Or.inl (yD0 h8 ?_))
  intro r σ1 hp
  obtain ⟨v, rfl, n9, hn9, h9⟩ := hr r σ1 hp
  refine hK tC17 kC17 _ _ _ _ _ ?_
  refine hK tC17 kC17 _ _ _ _ _ ?_
  refine Or.inr (Or.inr ⟨c + 2 - n9, n9, by omega, yDX h9 ?_ (fun _ _ h => h.elim)⟩)
  rintro r σ3 ⟨rfl, hJ3⟩
  refine hK tC17 kC17 _ _ _ _ _ ?_
  refine ⟨fun _ => ?_, fun h => absurd rfl h⟩
  exact hn (c + 2 - n9) _ _ _ (by omega) hJ3
def tC18 : xCode := [(1263, .aload_n 1, 1, 1264, []), (1264, .aload_n 0, 1, 1265, []), (1265, .iload 4, 2, 1267, []), (1267, .iconst 1, 1, 1268, []), (1268, .iadd, 1, 1269, []), (1269, .iaload, 1, 1270, []), (1270, .aload_n 0, 1, 1271, []), (1271, .iload 4, 2, 1273, []), (1273, .iconst 2, 1, 1274, []), (1274, .iadd, 1, 1275, []), (1275, .iaload, 1, 1276, []), (1276, .aload_n 0, 1, 1277, []), (1277, .iload 4, 2, 1279, []), (1279, .iconst 3, 1, 1280, []), (1280, .iadd, 1, 1281, []), (1281, .iaload, 1, 1282, []), (1282, .aload_n 3, 1, 1283, []), (1283, .invokestatic 164, 3, 1286, []), (1286, .istore 5, 2, 1288, []), (1288, .aload_n 2, 1, 1289, []), (1289, .aload_n 0, 1, 1290, []), (1290, .iload 4, 2, 1292, []), (1292, .iconst 1, 1, 1293, []), (1293, .iadd, 1, 1294, []), (1294, .iaload, 1, 1295, []), (1295, .aload_n 0, 1, 1296, []), (1296, .iload 4, 2, 1298, []), (1298, .iconst 2, 1, 1299, []), (1299, .iadd, 1, 1300, []), (1300, .iaload, 1, 1301, []), (1301, .aload_n 0, 1, 1302, []), (1302, .iload 4, 2, 1304, []), (1304, .iconst 3, 1, 1305, []), (1305, .iadd, 1, 1306, []), (1306, .iaload, 1, 1307, []), (1307, .invokevirtual 166, 3, 1310, []), (1310, .istore 6, 2, 1312, []), (1312, .aload_n 2, 1, 1313, []), (1313, .invokevirtual 108, 3, 1316, []), (1316, .iload 5, 2, 1318, []), (1318, .if_icmp .eq 5, 3, 1321, [1323]), (1321, .iconst 0, 1, 1322, []), (1322, .ireturn, 1, 1323, []), (1323, .iload 5, 2, 1325, []), (1325, .ifCond .ne 15, 3, 1328, [1340]), (1328, .aload_n 3, 1, 1329, []), (1329, .iconst 0, 1, 1330, []), (1330, .laload, 1, 1331, []), (1331, .iload 6, 2, 1333, []), (1333, .i2l, 1, 1334, []), (1334, .lcmp, 1, 1335, []), (1335, .ifCond .eq 5, 3, 1338, [1340]), (1338, .iconst 0, 1, 1339, []), (1339, .ireturn, 1, 1340, []), (1340, .goto 657, 3, 1343, [1997])]
theorem kC18 : xOK code tC18 = true := by decide +kernel
theorem wk_hand : wOK 164 wL_hand 5 := ⟨(wq 1210 (by decide +kernel) (by decide +kernel)), (wq 1211 (by decide +kernel) (by decide +kernel)), wL_hand_w, rfl, by decide +kernel, by decide⟩
theorem lawc_hand (hK : LLR l D b0 ty ad av b L xs K) (hW : LLW l D b0 ty ad av K) {σ : sMem} (hJ : JR σ) {i c : Nat} (hi : i + 6 ≤ L) (hL : L ≤ 3072) (e5 e6 : Option AV) (hn : ∀ c' e5 e6 σ', c ≤ c' → JR σ' → K c' 1997 (lwE b i e5 e6) [] σ') : K (c + 2) 1263 (lwE b i e5 e6) [] σ := by
  refine hK tC18 kC18 _ _ _ _ _ ?_
  iterate 5 refine hK tC18 kC18 _ _ _ _ _ ?_
  refine ⟨rfl, (in_s1 (by omega) hL).1, ?_⟩
  rw [(in_s1 (show i + 1 < L by omega) hL).2]
  iterate 5 refine hK tC18 kC18 _ _ _ _ _ ?_
  refine ⟨rfl, (in_s2 (by omega) hL).1, ?_⟩
  rw [(in_s2 (show i + 2 < L by omega) hL).2]
  iterate 5 refine hK tC18 kC18 _ _ _ _ _ ?_
  refine ⟨rfl, (in_s3 (by omega) hL).1, ?_⟩
  rw [(in_s3 (show i + 3 < L by omega) hL).2]
  refine hK tC18 kC18 _ _ _ _ _ ?_
  obtain ⟨n0, P, XP, hn0, h8, hP, hX, hok, hex⟩ := jw_hand (l := l) (D := D) (b0 := b0) (ty := ty) (ad := ad) (av := av) σ hJ (xs (i + 1)) (xs (i + 2)) (xs (i + 3))
  refine hW wL_hand 164 5 (c + 1) 1283 _ [aR 34, aI (xs (i + 1)), aI (xs (i + 2)), aI (xs (i + 3)), aR 100] [] σ _ wk_hand (by decide +kernel) rfl (by decide) (l_hand 200 n0 hn0 σ (xs (i + 1)) (xs (i + 2)) (xs (i + 3)) P XP h8 hP (fun e σ' h => (hX e σ' h).elim fun k hk => cd2_of hk)) ?_
  intro r σ1 h
  rcases h with ⟨v, σ2, hp, rfl, rfl⟩ | ⟨e, k, hx, hc, rfl⟩
  · obtain ⟨n9, hn9, h9⟩ := hok v σ2 hp
    iterate 2 refine hK tC18 kC18 _ _ _ _ _ ?_
    iterate 5 refine hK tC18 kC18 _ _ _ _ _ ?_
    refine ⟨rfl, (in_s1 (by omega) hL).1, ?_⟩
    rw [(in_s1 (show i + 1 < L by omega) hL).2]
    iterate 5 refine hK tC18 kC18 _ _ _ _ _ ?_
    refine ⟨rfl, (in_s2 (by omega) hL).1, ?_⟩
    rw [(in_s2 (show i + 2 < L by omega) hL).2]
    iterate 5 refine hK tC18 kC18 _ _ _ _ _ ?_
    refine ⟨rfl, (in_s3 (by omega) hL).1, ?_⟩
    rw [(in_s3 (show i + 3 < L by omega) hL).2]
    refine hK tC18 kC18 _ _ _ _ _ ?_
    refine Or.inr (Or.inr ⟨c + 1 - n9, n9, by omega, yDX h9 ?_ (fun _ _ h => h.elim)⟩)
    rintro r σ3 ⟨rfl, t0, t100, hJ3⟩
    iterate 2 refine hK tC18 kC18 _ _ _ _ _ ?_
    refine hK tC18 kC18 _ _ _ _ _ ?_
    refine Or.inl (calD (c9_thrown _ σ3) ?_)
    rintro r σ4 ⟨rfl, h4⟩
    subst h4
    iterate 2 refine hK tC18 kC18 _ _ _ _ _ ?_
    refine ⟨fun _ => ?_, fun h => absurd t0 h⟩
    iterate 2 refine hK tC18 kC18 _ _ _ _ _ ?_
    refine ⟨fun h => absurd rfl h, fun _ => ?_⟩
    iterate 3 refine hK tC18 kC18 _ _ _ _ _ ?_
    refine ⟨vp_in_nI (n := 0) (by decide) (by decide), ?_⟩
    rw [show (Int32.ofInt 0).toNatClampNeg = 0 from rfl, t100]
    iterate 4 refine hK tC18 kC18 _ _ _ _ _ ?_
    refine ⟨fun _ => ?_, fun h => absurd (lg_self _) h⟩
    refine hK tC18 kC18 _ _ _ _ _ ?_
    exact hn (c + 1 - n9) _ _ _ (by omega) hJ3
  · obtain ⟨hk0, n9, hn9, h9⟩ := hex e σ1 k hx hc
    iterate 2 refine hK tC18 kC18 _ _ _ _ _ ?_
    iterate 5 refine hK tC18 kC18 _ _ _ _ _ ?_
    refine ⟨rfl, (in_s1 (by omega) hL).1, ?_⟩
    rw [(in_s1 (show i + 1 < L by omega) hL).2]
    iterate 5 refine hK tC18 kC18 _ _ _ _ _ ?_
    refine ⟨rfl, (in_s2 (by omega) hL).1, ?_⟩
    rw [(in_s2 (show i + 2 < L by omega) hL).2]
    iterate 5 refine hK tC18 kC18 _ _ _ _ _ ?_
    refine ⟨rfl, (in_s3 (by omega) hL).1, ?_⟩
    rw [(in_s3 (show i + 3 < L by omega) hL).2]
    refine hK tC18 kC18 _ _ _ _ _ ?_
    refine Or.inr (Or.inr ⟨c + 1 - n9, n9, by omega, yDX h9 ?_ (fun _ _ h => h.elim)⟩)
    rintro r σ3 ⟨⟨w, rfl⟩, t0, hJ3⟩
    iterate 2 refine hK tC18 kC18 _ _ _ _ _ ?_
    refine hK tC18 kC18 _ _ _ _ _ ?_
    refine Or.inl (calD (c9_thrown _ σ3) ?_)
    rintro r σ4 ⟨rfl, h4⟩
    subst h4
    iterate 2 refine hK tC18 kC18 _ _ _ _ _ ?_
    refine ⟨fun _ => ?_, fun h => absurd t0 h⟩
    iterate 2 refine hK tC18 kC18 _ _ _ _ _ ?_
    refine ⟨fun _ => ?_, fun h => absurd h hk0⟩
    refine hK tC18 kC18 _ _ _ _ _ ?_
    exact hn (c + 1 - n9) _ _ _ (by omega) hJ3
def tC19 : xCode := [(1343, .aload_n 1, 1, 1344, []), (1344, .aload_n 0, 1, 1345, []), (1345, .iload 4, 2, 1347, []), (1347, .iconst 1, 1, 1348, []), (1348, .iadd, 1, 1349, []), (1349, .iaload, 1, 1350, []), (1350, .aload_n 3, 1, 1351, []), (1351, .invokestatic 167, 3, 1354, []), (1354, .istore 5, 2, 1356, []), (1356, .aload_n 2, 1, 1357, []), (1357, .aload_n 0, 1, 1358, []), (1358, .iload 4, 2, 1360, []), (1360, .iconst 1, 1, 1361, []), (1361, .iadd, 1, 1362, []), (1362, .iaload, 1, 1363, []), (1363, .invokevirtual 169, 3, 1366, []), (1366, .istore 6, 2, 1368, []), (1368, .aload_n 2, 1, 1369, []), (1369, .invokevirtual 108, 3, 1372, []), (1372, .iload 5, 2, 1374, []), (1374, .if_icmp .eq 5, 3, 1377, [1379]), (1377, .iconst 0, 1, 1378, []), (1378, .ireturn, 1, 1379, []), (1379, .iload 5, 2, 1381, []), (1381, .ifCond .ne 15, 3, 1384, [1396]), (1384, .aload_n 3, 1, 1385, []), (1385, .iconst 0, 1, 1386, []), (1386, .laload, 1, 1387, []), (1387, .iload 6, 2, 1389, []), (1389, .i2l, 1, 1390, []), (1390, .lcmp, 1, 1391, []), (1391, .ifCond .eq 5, 3, 1394, [1396]), (1394, .iconst 0, 1, 1395, []), (1395, .ireturn, 1, 1396, []), (1396, .goto 601, 3, 1399, [1997])]
theorem kC19 : xOK code tC19 = true := by decide +kernel
theorem wk_saves : wOK 167 wL_saves 3 := ⟨(wq 1239 (by decide +kernel) (by decide +kernel)), (wq 1240 (by decide +kernel) (by decide +kernel)), wL_saves_w, rfl, by decide +kernel, by decide⟩
theorem lawc_saves (hK : LLR l D b0 ty ad av b L xs K) (hW : LLW l D b0 ty ad av K) {σ : sMem} (hJ : JR σ) {i c : Nat} (hi : i + 6 ≤ L) (hL : L ≤ 3072) (e5 e6 : Option AV) (hn : ∀ c' e5 e6 σ', c ≤ c' → JR σ' → K c' 1997 (lwE b i e5 e6) [] σ') : K (c + 2) 1343 (lwE b i e5 e6) [] σ := by
  refine hK tC19 kC19 _ _ _ _ _ ?_
  iterate 5 refine hK tC19 kC19 _ _ _ _ _ ?_
  refine ⟨rfl, (in_s1 (by omega) hL).1, ?_⟩
  rw [(in_s1 (show i + 1 < L by omega) hL).2]
  refine hK tC19 kC19 _ _ _ _ _ ?_
  obtain ⟨n0, P, XP, hn0, h8, hP, hX, hok, hex⟩ := jw_saves (l := l) (D := D) (b0 := b0) (ty := ty) (ad := ad) (av := av) σ hJ (xs (i + 1))
  refine hW wL_saves 167 3 (c + 1) 1351 _ [aR 34, aI (xs (i + 1)), aR 100] [] σ _ wk_saves (by decide +kernel) rfl (by decide) (l_saves 200 n0 hn0 σ (xs (i + 1)) P XP h8 hP (fun e σ' h => (hX e σ' h).elim fun k hk => cd1_of hk)) ?_
  intro r σ1 h
  rcases h with ⟨v, σ2, hp, rfl, rfl⟩ | ⟨e, k, hx, hc, rfl⟩
  · obtain ⟨n9, hn9, h9⟩ := hok v σ2 hp
    iterate 2 refine hK tC19 kC19 _ _ _ _ _ ?_
    iterate 5 refine hK tC19 kC19 _ _ _ _ _ ?_
    refine ⟨rfl, (in_s1 (by omega) hL).1, ?_⟩
    rw [(in_s1 (show i + 1 < L by omega) hL).2]
    refine hK tC19 kC19 _ _ _ _ _ ?_
    refine Or.inr (Or.inr ⟨c + 1 - n9, n9, by omega, yDX h9 ?_ (fun _ _ h => h.elim)⟩)
    rintro r σ3 ⟨rfl, t0, t100, hJ3⟩
    iterate 2 refine hK tC19 kC19 _ _ _ _ _ ?_
    refine hK tC19 kC19 _ _ _ _ _ ?_
    refine Or.inl (calD (c9_thrown _ σ3) ?_)
    rintro r σ4 ⟨rfl, h4⟩
    subst h4
    iterate 2 refine hK tC19 kC19 _ _ _ _ _ ?_
    refine ⟨fun _ => ?_, fun h => absurd t0 h⟩
    iterate 2 refine hK tC19 kC19 _ _ _ _ _ ?_
    refine ⟨fun h => absurd rfl h, fun _ => ?_⟩
    iterate 3 refine hK tC19 kC19 _ _ _ _ _ ?_
    refine ⟨vp_in_nI (n := 0) (by decide) (by decide), ?_⟩
    rw [show (Int32.ofInt 0).toNatClampNeg = 0 from rfl, t100]
    iterate 4 refine hK tC19 kC19 _ _ _ _ _ ?_
    refine ⟨fun _ => ?_, fun h => absurd (lg_self _) h⟩
    refine hK tC19 kC19 _ _ _ _ _ ?_
    exact hn (c + 1 - n9) _ _ _ (by omega) hJ3
  · obtain ⟨hk0, n9, hn9, h9⟩ := hex e σ1 k hx hc
    iterate 2 refine hK tC19 kC19 _ _ _ _ _ ?_
    iterate 5 refine hK tC19 kC19 _ _ _ _ _ ?_
    refine ⟨rfl, (in_s1 (by omega) hL).1, ?_⟩
    rw [(in_s1 (show i + 1 < L by omega) hL).2]
    refine hK tC19 kC19 _ _ _ _ _ ?_
    refine Or.inr (Or.inr ⟨c + 1 - n9, n9, by omega, yDX h9 ?_ (fun _ _ h => h.elim)⟩)
    rintro r σ3 ⟨⟨w, rfl⟩, t0, hJ3⟩
    iterate 2 refine hK tC19 kC19 _ _ _ _ _ ?_
    refine hK tC19 kC19 _ _ _ _ _ ?_
    refine Or.inl (calD (c9_thrown _ σ3) ?_)
    rintro r σ4 ⟨rfl, h4⟩
    subst h4
    iterate 2 refine hK tC19 kC19 _ _ _ _ _ ?_
    refine ⟨fun _ => ?_, fun h => absurd t0 h⟩
    iterate 2 refine hK tC19 kC19 _ _ _ _ _ ?_
    refine ⟨fun _ => ?_, fun h => absurd h hk0⟩
    refine hK tC19 kC19 _ _ _ _ _ ?_
    exact hn (c + 1 - n9) _ _ _ (by omega) hJ3
def tC20 : xCode := [(1399, .aload_n 1, 1, 1400, []), (1400, .invokevirtual 170, 3, 1403, []), (1403, .aload_n 2, 1, 1404, []), (1404, .invokevirtual 173, 3, 1407, []), (1407, .if_icmp .eq 590, 3, 1410, [1997]), (1410, .iconst 0, 1, 1411, []), (1411, .ireturn, 1, 1412, [])]
theorem kC20 : xOK code tC20 = true := by decide +kernel
theorem lawc_which (hK : LLR l D b0 ty ad av b L xs K) (hW : LLW l D b0 ty ad av K) {σ : sMem} (hJ : JR σ) {i c : Nat} (hi : i + 6 ≤ L) (hL : L ≤ 3072) (e5 e6 : Option AV) (hn : ∀ c' e5 e6 σ', c ≤ c' → JR σ' → K c' 1997 (lwE b i e5 e6) [] σ') : K (c + 2) 1399 (lwE b i e5 e6) [] σ := by
  refine hK tC20 kC20 _ _ _ _ _ ?_
  obtain ⟨P, h8, hr⟩ := jd_which (l := l) (D := D) (b0 := b0) (ty := ty) (ad := ad) (av := av) σ hJ 
  refine hK tC20 kC20 _ _ _ _ _ ?_
  refine Or.inr (Or.inl (yD0 h8 ?_))
  intro r σ1 hp
  obtain ⟨v, rfl, n9, hn9, h9⟩ := hr r σ1 hp
  refine hK tC20 kC20 _ _ _ _ _ ?_
  refine hK tC20 kC20 _ _ _ _ _ ?_
  refine Or.inr (Or.inr ⟨c + 2 - n9, n9, by omega, yDX h9 ?_ (fun _ _ h => h.elim)⟩)
  rintro r σ3 ⟨rfl, hJ3⟩
  refine hK tC20 kC20 _ _ _ _ _ ?_
  refine ⟨fun _ => ?_, fun h => absurd rfl h⟩
  exact hn (c + 2 - n9) _ _ _ (by omega) hJ3
def tC21 : xCode := [(1412, .aload_n 1, 1, 1413, []), (1413, .aload_n 0, 1, 1414, []), (1414, .iload 4, 2, 1416, []), (1416, .iconst 1, 1, 1417, []), (1417, .iadd, 1, 1418, []), (1418, .iaload, 1, 1419, []), (1419, .aload_n 0, 1, 1420, []), (1420, .iload 4, 2, 1422, []), (1422, .iconst 2, 1, 1423, []), (1423, .iadd, 1, 1424, []), (1424, .iaload, 1, 1425, []), (1425, .aload_n 3, 1, 1426, []), (1426, .invokestatic 174, 3, 1429, []), (1429, .istore 5, 2, 1431, []), (1431, .aload_n 2, 1, 1432, []), (1432, .aload_n 0, 1, 1433, []), (1433, .iload 4, 2, 1435, []), (1435, .iconst 1, 1, 1436, []), (1436, .iadd, 1, 1437, []), (1437, .iaload, 1, 1438, []), (1438, .aload_n 0, 1, 1439, []), (1439, .iload 4, 2, 1441, []), (1441, .iconst 2, 1, 1442, []), (1442, .iadd, 1, 1443, []), (1443, .iaload, 1, 1444, []), (1444, .invokevirtual 176, 3, 1447, []), (1447, .istore 6, 2, 1449, []), (1449, .aload_n 2, 1, 1450, []), (1450, .invokevirtual 108, 3, 1453, []), (1453, .iload 5, 2, 1455, []), (1455, .if_icmp .eq 5, 3, 1458, [1460]), (1458, .iconst 0, 1, 1459, []), (1459, .ireturn, 1, 1460, []), (1460, .iload 5, 2, 1462, []), (1462, .ifCond .ne 15, 3, 1465, [1477]), (1465, .aload_n 3, 1, 1466, []), (1466, .iconst 0, 1, 1467, []), (1467, .laload, 1, 1468, []), (1468, .iload 6, 2, 1470, []), (1470, .i2l, 1, 1471, []), (1471, .lcmp, 1, 1472, []), (1472, .ifCond .eq 5, 3, 1475, [1477]), (1475, .iconst 0, 1, 1476, []), (1476, .ireturn, 1, 1477, []), (1477, .goto 520, 3, 1480, [1997])]
theorem kC21 : xOK code tC21 = true := by decide +kernel
theorem wk_where : wOK 174 wL_where 4 := ⟨(wq 1250 (by decide +kernel) (by decide +kernel)), (wq 1251 (by decide +kernel) (by decide +kernel)), wL_where_w, rfl, by decide +kernel, by decide⟩
theorem lawc_where (hK : LLR l D b0 ty ad av b L xs K) (hW : LLW l D b0 ty ad av K) {σ : sMem} (hJ : JR σ) {i c : Nat} (hi : i + 6 ≤ L) (hL : L ≤ 3072) (e5 e6 : Option AV) (hn : ∀ c' e5 e6 σ', c ≤ c' → JR σ' → K c' 1997 (lwE b i e5 e6) [] σ') : K (c + 2) 1412 (lwE b i e5 e6) [] σ := by
  refine hK tC21 kC21 _ _ _ _ _ ?_
  iterate 5 refine hK tC21 kC21 _ _ _ _ _ ?_
  refine ⟨rfl, (in_s1 (by omega) hL).1, ?_⟩
  rw [(in_s1 (show i + 1 < L by omega) hL).2]
  iterate 5 refine hK tC21 kC21 _ _ _ _ _ ?_
  refine ⟨rfl, (in_s2 (by omega) hL).1, ?_⟩
  rw [(in_s2 (show i + 2 < L by omega) hL).2]
  refine hK tC21 kC21 _ _ _ _ _ ?_
  obtain ⟨n0, P, XP, hn0, h8, hP, hX, hok, hex⟩ := jw_where (l := l) (D := D) (b0 := b0) (ty := ty) (ad := ad) (av := av) σ hJ (xs (i + 1)) (xs (i + 2))
  refine hW wL_where 174 4 (c + 1) 1426 _ [aR 34, aI (xs (i + 1)), aI (xs (i + 2)), aR 100] [] σ _ wk_where (by decide +kernel) rfl (by decide) (l_where 200 n0 hn0 σ (xs (i + 1)) (xs (i + 2)) P XP h8 hP (fun e σ' h => (hX e σ' h).elim fun k hk => cd1_of hk)) ?_
  intro r σ1 h
  rcases h with ⟨v, σ2, hp, rfl, rfl⟩ | ⟨e, k, hx, hc, rfl⟩
  · obtain ⟨n9, hn9, h9⟩ := hok v σ2 hp
    iterate 2 refine hK tC21 kC21 _ _ _ _ _ ?_
    iterate 5 refine hK tC21 kC21 _ _ _ _ _ ?_
    refine ⟨rfl, (in_s1 (by omega) hL).1, ?_⟩
    rw [(in_s1 (show i + 1 < L by omega) hL).2]
    iterate 5 refine hK tC21 kC21 _ _ _ _ _ ?_
    refine ⟨rfl, (in_s2 (by omega) hL).1, ?_⟩
    rw [(in_s2 (show i + 2 < L by omega) hL).2]
    refine hK tC21 kC21 _ _ _ _ _ ?_
    refine Or.inr (Or.inr ⟨c + 1 - n9, n9, by omega, yDX h9 ?_ (fun _ _ h => h.elim)⟩)
    rintro r σ3 ⟨rfl, t0, t100, hJ3⟩
    iterate 2 refine hK tC21 kC21 _ _ _ _ _ ?_
    refine hK tC21 kC21 _ _ _ _ _ ?_
    refine Or.inl (calD (c9_thrown _ σ3) ?_)
    rintro r σ4 ⟨rfl, h4⟩
    subst h4
    iterate 2 refine hK tC21 kC21 _ _ _ _ _ ?_
    refine ⟨fun _ => ?_, fun h => absurd t0 h⟩
    iterate 2 refine hK tC21 kC21 _ _ _ _ _ ?_
    refine ⟨fun h => absurd rfl h, fun _ => ?_⟩
    iterate 3 refine hK tC21 kC21 _ _ _ _ _ ?_
    refine ⟨vp_in_nI (n := 0) (by decide) (by decide), ?_⟩
    rw [show (Int32.ofInt 0).toNatClampNeg = 0 from rfl, t100]
    iterate 4 refine hK tC21 kC21 _ _ _ _ _ ?_
    refine ⟨fun _ => ?_, fun h => absurd (lg_self _) h⟩
    refine hK tC21 kC21 _ _ _ _ _ ?_
    exact hn (c + 1 - n9) _ _ _ (by omega) hJ3
  · obtain ⟨hk0, n9, hn9, h9⟩ := hex e σ1 k hx hc
    iterate 2 refine hK tC21 kC21 _ _ _ _ _ ?_
    iterate 5 refine hK tC21 kC21 _ _ _ _ _ ?_
    refine ⟨rfl, (in_s1 (by omega) hL).1, ?_⟩
    rw [(in_s1 (show i + 1 < L by omega) hL).2]
    iterate 5 refine hK tC21 kC21 _ _ _ _ _ ?_
    refine ⟨rfl, (in_s2 (by omega) hL).1, ?_⟩
    rw [(in_s2 (show i + 2 < L by omega) hL).2]
    refine hK tC21 kC21 _ _ _ _ _ ?_
    refine Or.inr (Or.inr ⟨c + 1 - n9, n9, by omega, yDX h9 ?_ (fun _ _ h => h.elim)⟩)
    rintro r σ3 ⟨⟨w, rfl⟩, t0, hJ3⟩
    iterate 2 refine hK tC21 kC21 _ _ _ _ _ ?_
    refine hK tC21 kC21 _ _ _ _ _ ?_
    refine Or.inl (calD (c9_thrown _ σ3) ?_)
    rintro r σ4 ⟨rfl, h4⟩
    subst h4
    iterate 2 refine hK tC21 kC21 _ _ _ _ _ ?_
    refine ⟨fun _ => ?_, fun h => absurd t0 h⟩
    iterate 2 refine hK tC21 kC21 _ _ _ _ _ ?_
    refine ⟨fun _ => ?_, fun h => absurd h hk0⟩
    refine hK tC21 kC21 _ _ _ _ _ ?_
    exact hn (c + 1 - n9) _ _ _ (by omega) hJ3
def tC22 : xCode := [(1480, .aload_n 1, 1, 1481, []), (1481, .aload_n 0, 1, 1482, []), (1482, .iload 4, 2, 1484, []), (1484, .iconst 1, 1, 1485, []), (1485, .iadd, 1, 1486, []), (1486, .iaload, 1, 1487, []), (1487, .aload_n 0, 1, 1488, []), (1488, .iload 4, 2, 1490, []), (1490, .iconst 2, 1, 1491, []), (1491, .iadd, 1, 1492, []), (1492, .iaload, 1, 1493, []), (1493, .aload_n 3, 1, 1494, []), (1494, .invokestatic 177, 3, 1497, []), (1497, .istore 5, 2, 1499, []), (1499, .aload_n 2, 1, 1500, []), (1500, .aload_n 0, 1, 1501, []), (1501, .iload 4, 2, 1503, []), (1503, .iconst 1, 1, 1504, []), (1504, .iadd, 1, 1505, []), (1505, .iaload, 1, 1506, []), (1506, .aload_n 0, 1, 1507, []), (1507, .iload 4, 2, 1509, []), (1509, .iconst 2, 1, 1510, []), (1510, .iadd, 1, 1511, []), (1511, .iaload, 1, 1512, []), (1512, .invokevirtual 179, 3, 1515, []), (1515, .istore 6, 2, 1517, []), (1517, .aload_n 2, 1, 1518, []), (1518, .invokevirtual 108, 3, 1521, []), (1521, .iload 5, 2, 1523, []), (1523, .if_icmp .eq 5, 3, 1526, [1528]), (1526, .iconst 0, 1, 1527, []), (1527, .ireturn, 1, 1528, []), (1528, .iload 5, 2, 1530, []), (1530, .ifCond .ne 15, 3, 1533, [1545]), (1533, .aload_n 3, 1, 1534, []), (1534, .iconst 0, 1, 1535, []), (1535, .laload, 1, 1536, []), (1536, .iload 6, 2, 1538, []), (1538, .i2l, 1, 1539, []), (1539, .lcmp, 1, 1540, []), (1540, .ifCond .eq 5, 3, 1543, [1545]), (1543, .iconst 0, 1, 1544, []), (1544, .ireturn, 1, 1545, []), (1545, .goto 452, 3, 1548, [1997])]
theorem kC22 : xOK code tC22 = true := by decide +kernel
theorem wk_many : wOK 177 wL_many 4 := ⟨(wq 1269 (by decide +kernel) (by decide +kernel)), (wq 1270 (by decide +kernel) (by decide +kernel)), wL_many_w, rfl, by decide +kernel, by decide⟩
theorem lawc_many (hK : LLR l D b0 ty ad av b L xs K) (hW : LLW l D b0 ty ad av K) {σ : sMem} (hJ : JR σ) {i c : Nat} (hi : i + 6 ≤ L) (hL : L ≤ 3072) (e5 e6 : Option AV) (hn : ∀ c' e5 e6 σ', c ≤ c' → JR σ' → K c' 1997 (lwE b i e5 e6) [] σ') : K (c + 2) 1480 (lwE b i e5 e6) [] σ := by
  refine hK tC22 kC22 _ _ _ _ _ ?_
  iterate 5 refine hK tC22 kC22 _ _ _ _ _ ?_
  refine ⟨rfl, (in_s1 (by omega) hL).1, ?_⟩
  rw [(in_s1 (show i + 1 < L by omega) hL).2]
  iterate 5 refine hK tC22 kC22 _ _ _ _ _ ?_
  refine ⟨rfl, (in_s2 (by omega) hL).1, ?_⟩
  rw [(in_s2 (show i + 2 < L by omega) hL).2]
  refine hK tC22 kC22 _ _ _ _ _ ?_
  obtain ⟨n0, P, XP, hn0, h8, hP, hX, hok, hex⟩ := jw_many (l := l) (D := D) (b0 := b0) (ty := ty) (ad := ad) (av := av) σ hJ (xs (i + 1)) (xs (i + 2))
  refine hW wL_many 177 4 (c + 1) 1494 _ [aR 34, aI (xs (i + 1)), aI (xs (i + 2)), aR 100] [] σ _ wk_many (by decide +kernel) rfl (by decide) (l_many 200 n0 hn0 σ (xs (i + 1)) (xs (i + 2)) P XP h8 hP (fun e σ' h => (hX e σ' h).elim fun k hk => cd1_of hk)) ?_
  intro r σ1 h
  rcases h with ⟨v, σ2, hp, rfl, rfl⟩ | ⟨e, k, hx, hc, rfl⟩
  · obtain ⟨n9, hn9, h9⟩ := hok v σ2 hp
    iterate 2 refine hK tC22 kC22 _ _ _ _ _ ?_
    iterate 5 refine hK tC22 kC22 _ _ _ _ _ ?_
    refine ⟨rfl, (in_s1 (by omega) hL).1, ?_⟩
    rw [(in_s1 (show i + 1 < L by omega) hL).2]
    iterate 5 refine hK tC22 kC22 _ _ _ _ _ ?_
    refine ⟨rfl, (in_s2 (by omega) hL).1, ?_⟩
    rw [(in_s2 (show i + 2 < L by omega) hL).2]
    refine hK tC22 kC22 _ _ _ _ _ ?_
    refine Or.inr (Or.inr ⟨c + 1 - n9, n9, by omega, yDX h9 ?_ (fun _ _ h => h.elim)⟩)
    rintro r σ3 ⟨rfl, t0, t100, hJ3⟩
    iterate 2 refine hK tC22 kC22 _ _ _ _ _ ?_
    refine hK tC22 kC22 _ _ _ _ _ ?_
    refine Or.inl (calD (c9_thrown _ σ3) ?_)
    rintro r σ4 ⟨rfl, h4⟩
    subst h4
    iterate 2 refine hK tC22 kC22 _ _ _ _ _ ?_
    refine ⟨fun _ => ?_, fun h => absurd t0 h⟩
    iterate 2 refine hK tC22 kC22 _ _ _ _ _ ?_
    refine ⟨fun h => absurd rfl h, fun _ => ?_⟩
    iterate 3 refine hK tC22 kC22 _ _ _ _ _ ?_
    refine ⟨vp_in_nI (n := 0) (by decide) (by decide), ?_⟩
    rw [show (Int32.ofInt 0).toNatClampNeg = 0 from rfl, t100]
    iterate 4 refine hK tC22 kC22 _ _ _ _ _ ?_
    refine ⟨fun _ => ?_, fun h => absurd (lg_self _) h⟩
    refine hK tC22 kC22 _ _ _ _ _ ?_
    exact hn (c + 1 - n9) _ _ _ (by omega) hJ3
  · obtain ⟨hk0, n9, hn9, h9⟩ := hex e σ1 k hx hc
    iterate 2 refine hK tC22 kC22 _ _ _ _ _ ?_
    iterate 5 refine hK tC22 kC22 _ _ _ _ _ ?_
    refine ⟨rfl, (in_s1 (by omega) hL).1, ?_⟩
    rw [(in_s1 (show i + 1 < L by omega) hL).2]
    iterate 5 refine hK tC22 kC22 _ _ _ _ _ ?_
    refine ⟨rfl, (in_s2 (by omega) hL).1, ?_⟩
    rw [(in_s2 (show i + 2 < L by omega) hL).2]
    refine hK tC22 kC22 _ _ _ _ _ ?_
    refine Or.inr (Or.inr ⟨c + 1 - n9, n9, by omega, yDX h9 ?_ (fun _ _ h => h.elim)⟩)
    rintro r σ3 ⟨⟨w, rfl⟩, t0, hJ3⟩
    iterate 2 refine hK tC22 kC22 _ _ _ _ _ ?_
    refine hK tC22 kC22 _ _ _ _ _ ?_
    refine Or.inl (calD (c9_thrown _ σ3) ?_)
    rintro r σ4 ⟨rfl, h4⟩
    subst h4
    iterate 2 refine hK tC22 kC22 _ _ _ _ _ ?_
    refine ⟨fun _ => ?_, fun h => absurd t0 h⟩
    iterate 2 refine hK tC22 kC22 _ _ _ _ _ ?_
    refine ⟨fun _ => ?_, fun h => absurd h hk0⟩
    refine hK tC22 kC22 _ _ _ _ _ ?_
    exact hn (c + 1 - n9) _ _ _ (by omega) hJ3
def tC23 : xCode := [(1548, .aload_n 1, 1, 1549, []), (1549, .aload_n 0, 1, 1550, []), (1550, .iload 4, 2, 1552, []), (1552, .iconst 1, 1, 1553, []), (1553, .iadd, 1, 1554, []), (1554, .iaload, 1, 1555, []), (1555, .aload_n 3, 1, 1556, []), (1556, .invokestatic 180, 3, 1559, []), (1559, .istore 5, 2, 1561, []), (1561, .aload_n 2, 1, 1562, []), (1562, .aload_n 0, 1, 1563, []), (1563, .iload 4, 2, 1565, []), (1565, .iconst 1, 1, 1566, []), (1566, .iadd, 1, 1567, []), (1567, .iaload, 1, 1568, []), (1568, .invokevirtual 182, 3, 1571, []), (1571, .istore 6, 2, 1573, []), (1573, .aload_n 2, 1, 1574, []), (1574, .invokevirtual 108, 3, 1577, []), (1577, .iload 5, 2, 1579, []), (1579, .if_icmp .eq 5, 3, 1582, [1584]), (1582, .iconst 0, 1, 1583, []), (1583, .ireturn, 1, 1584, []), (1584, .iload 5, 2, 1586, []), (1586, .ifCond .ne 15, 3, 1589, [1601]), (1589, .aload_n 3, 1, 1590, []), (1590, .iconst 0, 1, 1591, []), (1591, .laload, 1, 1592, []), (1592, .iload 6, 2, 1594, []), (1594, .i2l, 1, 1595, []), (1595, .lcmp, 1, 1596, []), (1596, .ifCond .eq 5, 3, 1599, [1601]), (1599, .iconst 0, 1, 1600, []), (1600, .ireturn, 1, 1601, []), (1601, .goto 396, 3, 1604, [1997])]
theorem kC23 : xOK code tC23 = true := by decide +kernel
theorem wk_corner : wOK 180 wL_corner 3 := ⟨(wq 1282 (by decide +kernel) (by decide +kernel)), (wq 1283 (by decide +kernel) (by decide +kernel)), wL_corner_w, rfl, by decide +kernel, by decide⟩
theorem lawc_corner (hK : LLR l D b0 ty ad av b L xs K) (hW : LLW l D b0 ty ad av K) {σ : sMem} (hJ : JR σ) {i c : Nat} (hi : i + 6 ≤ L) (hL : L ≤ 3072) (e5 e6 : Option AV) (hn : ∀ c' e5 e6 σ', c ≤ c' → JR σ' → K c' 1997 (lwE b i e5 e6) [] σ') : K (c + 2) 1548 (lwE b i e5 e6) [] σ := by
  refine hK tC23 kC23 _ _ _ _ _ ?_
  iterate 5 refine hK tC23 kC23 _ _ _ _ _ ?_
  refine ⟨rfl, (in_s1 (by omega) hL).1, ?_⟩
  rw [(in_s1 (show i + 1 < L by omega) hL).2]
  refine hK tC23 kC23 _ _ _ _ _ ?_
  obtain ⟨n0, P, XP, hn0, h8, hP, hX, hok, hex⟩ := jw_corner (l := l) (D := D) (b0 := b0) (ty := ty) (ad := ad) (av := av) σ hJ (xs (i + 1))
  refine hW wL_corner 180 3 (c + 1) 1556 _ [aR 34, aI (xs (i + 1)), aR 100] [] σ _ wk_corner (by decide +kernel) rfl (by decide) (l_corner 200 n0 hn0 σ (xs (i + 1)) P XP h8 hP (fun e σ' h => (hX e σ' h).elim fun k hk => cd1_of hk)) ?_
  intro r σ1 h
  rcases h with ⟨v, σ2, hp, rfl, rfl⟩ | ⟨e, k, hx, hc, rfl⟩
  · obtain ⟨n9, hn9, h9⟩ := hok v σ2 hp
    iterate 2 refine hK tC23 kC23 _ _ _ _ _ ?_
    iterate 5 refine hK tC23 kC23 _ _ _ _ _ ?_
    refine ⟨rfl, (in_s1 (by omega) hL).1, ?_⟩
    rw [(in_s1 (show i + 1 < L by omega) hL).2]
    refine hK tC23 kC23 _ _ _ _ _ ?_
    refine Or.inr (Or.inr ⟨c + 1 - n9, n9, by omega, yDX h9 ?_ (fun _ _ h => h.elim)⟩)
    rintro r σ3 ⟨rfl, t0, t100, hJ3⟩
    iterate 2 refine hK tC23 kC23 _ _ _ _ _ ?_
    refine hK tC23 kC23 _ _ _ _ _ ?_
    refine Or.inl (calD (c9_thrown _ σ3) ?_)
    rintro r σ4 ⟨rfl, h4⟩
    subst h4
    iterate 2 refine hK tC23 kC23 _ _ _ _ _ ?_
    refine ⟨fun _ => ?_, fun h => absurd t0 h⟩
    iterate 2 refine hK tC23 kC23 _ _ _ _ _ ?_
    refine ⟨fun h => absurd rfl h, fun _ => ?_⟩
    iterate 3 refine hK tC23 kC23 _ _ _ _ _ ?_
    refine ⟨vp_in_nI (n := 0) (by decide) (by decide), ?_⟩
    rw [show (Int32.ofInt 0).toNatClampNeg = 0 from rfl, t100]
    iterate 4 refine hK tC23 kC23 _ _ _ _ _ ?_
    refine ⟨fun _ => ?_, fun h => absurd (lg_self _) h⟩
    refine hK tC23 kC23 _ _ _ _ _ ?_
    exact hn (c + 1 - n9) _ _ _ (by omega) hJ3
  · obtain ⟨hk0, n9, hn9, h9⟩ := hex e σ1 k hx hc
    iterate 2 refine hK tC23 kC23 _ _ _ _ _ ?_
    iterate 5 refine hK tC23 kC23 _ _ _ _ _ ?_
    refine ⟨rfl, (in_s1 (by omega) hL).1, ?_⟩
    rw [(in_s1 (show i + 1 < L by omega) hL).2]
    refine hK tC23 kC23 _ _ _ _ _ ?_
    refine Or.inr (Or.inr ⟨c + 1 - n9, n9, by omega, yDX h9 ?_ (fun _ _ h => h.elim)⟩)
    rintro r σ3 ⟨⟨w, rfl⟩, t0, hJ3⟩
    iterate 2 refine hK tC23 kC23 _ _ _ _ _ ?_
    refine hK tC23 kC23 _ _ _ _ _ ?_
    refine Or.inl (calD (c9_thrown _ σ3) ?_)
    rintro r σ4 ⟨rfl, h4⟩
    subst h4
    iterate 2 refine hK tC23 kC23 _ _ _ _ _ ?_
    refine ⟨fun _ => ?_, fun h => absurd t0 h⟩
    iterate 2 refine hK tC23 kC23 _ _ _ _ _ ?_
    refine ⟨fun _ => ?_, fun h => absurd h hk0⟩
    refine hK tC23 kC23 _ _ _ _ _ ?_
    exact hn (c + 1 - n9) _ _ _ (by omega) hJ3
def tC24 : xCode := [(1604, .aload_n 1, 1, 1605, []), (1605, .invokevirtual 183, 3, 1608, []), (1608, .aload_n 2, 1, 1609, []), (1609, .invokevirtual 186, 3, 1612, []), (1612, .if_icmp .eq 385, 3, 1615, [1997]), (1615, .iconst 0, 1, 1616, []), (1616, .ireturn, 1, 1617, [])]
theorem kC24 : xOK code tC24 = true := by decide +kernel
theorem lawc_other (hK : LLR l D b0 ty ad av b L xs K) (hW : LLW l D b0 ty ad av K) {σ : sMem} (hJ : JR σ) {i c : Nat} (hi : i + 6 ≤ L) (hL : L ≤ 3072) (e5 e6 : Option AV) (hn : ∀ c' e5 e6 σ', c ≤ c' → JR σ' → K c' 1997 (lwE b i e5 e6) [] σ') : K (c + 2) 1604 (lwE b i e5 e6) [] σ := by
  refine hK tC24 kC24 _ _ _ _ _ ?_
  obtain ⟨P, h8, hr⟩ := jd_other (l := l) (D := D) (b0 := b0) (ty := ty) (ad := ad) (av := av) σ hJ 
  refine hK tC24 kC24 _ _ _ _ _ ?_
  refine Or.inr (Or.inl (yD0 h8 ?_))
  intro r σ1 hp
  obtain ⟨v, rfl, n9, hn9, h9⟩ := hr r σ1 hp
  refine hK tC24 kC24 _ _ _ _ _ ?_
  refine hK tC24 kC24 _ _ _ _ _ ?_
  refine Or.inr (Or.inr ⟨c + 2 - n9, n9, by omega, yDX h9 ?_ (fun _ _ h => h.elim)⟩)
  rintro r σ3 ⟨rfl, hJ3⟩
  refine hK tC24 kC24 _ _ _ _ _ ?_
  refine ⟨fun _ => ?_, fun h => absurd rfl h⟩
  exact hn (c + 2 - n9) _ _ _ (by omega) hJ3
def tC25 : xCode := [(1617, .aload_n 1, 1, 1618, []), (1618, .aload_n 0, 1, 1619, []), (1619, .iload 4, 2, 1621, []), (1621, .iconst 1, 1, 1622, []), (1622, .iadd, 1, 1623, []), (1623, .iaload, 1, 1624, []), (1624, .aload_n 3, 1, 1625, []), (1625, .invokestatic 187, 3, 1628, []), (1628, .istore 5, 2, 1630, []), (1630, .aload_n 2, 1, 1631, []), (1631, .aload_n 0, 1, 1632, []), (1632, .iload 4, 2, 1634, []), (1634, .iconst 1, 1, 1635, []), (1635, .iadd, 1, 1636, []), (1636, .iaload, 1, 1637, []), (1637, .invokevirtual 189, 3, 1640, []), (1640, .istore 6, 2, 1642, []), (1642, .aload_n 2, 1, 1643, []), (1643, .invokevirtual 108, 3, 1646, []), (1646, .iload 5, 2, 1648, []), (1648, .if_icmp .eq 5, 3, 1651, [1653]), (1651, .iconst 0, 1, 1652, []), (1652, .ireturn, 1, 1653, []), (1653, .iload 5, 2, 1655, []), (1655, .ifCond .ne 15, 3, 1658, [1670]), (1658, .aload_n 3, 1, 1659, []), (1659, .iconst 0, 1, 1660, []), (1660, .laload, 1, 1661, []), (1661, .iload 6, 2, 1663, []), (1663, .i2l, 1, 1664, []), (1664, .lcmp, 1, 1665, []), (1665, .ifCond .eq 5, 3, 1668, [1670]), (1668, .iconst 0, 1, 1669, []), (1669, .ireturn, 1, 1670, []), (1670, .goto 327, 3, 1673, [1997])]
theorem kC25 : xOK code tC25 = true := by decide +kernel
theorem wk_rest : wOK 187 wL_rest 3 := ⟨(wq 1290 (by decide +kernel) (by decide +kernel)), (wq 1291 (by decide +kernel) (by decide +kernel)), wL_rest_w, rfl, by decide +kernel, by decide⟩
theorem lawc_rest (hK : LLR l D b0 ty ad av b L xs K) (hW : LLW l D b0 ty ad av K) {σ : sMem} (hJ : JR σ) {i c : Nat} (hi : i + 6 ≤ L) (hL : L ≤ 3072) (e5 e6 : Option AV) (hn : ∀ c' e5 e6 σ', c ≤ c' → JR σ' → K c' 1997 (lwE b i e5 e6) [] σ') : K (c + 2) 1617 (lwE b i e5 e6) [] σ := by
  refine hK tC25 kC25 _ _ _ _ _ ?_
  iterate 5 refine hK tC25 kC25 _ _ _ _ _ ?_
  refine ⟨rfl, (in_s1 (by omega) hL).1, ?_⟩
  rw [(in_s1 (show i + 1 < L by omega) hL).2]
  refine hK tC25 kC25 _ _ _ _ _ ?_
  obtain ⟨n0, P, XP, hn0, h8, hP, hX, hok, hex⟩ := jw_rest (l := l) (D := D) (b0 := b0) (ty := ty) (ad := ad) (av := av) σ hJ (xs (i + 1))
  refine hW wL_rest 187 3 (c + 1) 1625 _ [aR 34, aI (xs (i + 1)), aR 100] [] σ _ wk_rest (by decide +kernel) rfl (by decide) (l_rest 200 n0 hn0 σ (xs (i + 1)) P XP h8 hP (fun e σ' h => (hX e σ' h).elim fun k hk => cd1_of hk)) ?_
  intro r σ1 h
  rcases h with ⟨v, σ2, hp, rfl, rfl⟩ | ⟨e, k, hx, hc, rfl⟩
  · obtain ⟨n9, hn9, h9⟩ := hok v σ2 hp
    iterate 2 refine hK tC25 kC25 _ _ _ _ _ ?_
    iterate 5 refine hK tC25 kC25 _ _ _ _ _ ?_
    refine ⟨rfl, (in_s1 (by omega) hL).1, ?_⟩
    rw [(in_s1 (show i + 1 < L by omega) hL).2]
    refine hK tC25 kC25 _ _ _ _ _ ?_
    refine Or.inr (Or.inr ⟨c + 1 - n9, n9, by omega, yDX h9 ?_ (fun _ _ h => h.elim)⟩)
    rintro r σ3 ⟨rfl, t0, t100, hJ3⟩
    iterate 2 refine hK tC25 kC25 _ _ _ _ _ ?_
    refine hK tC25 kC25 _ _ _ _ _ ?_
    refine Or.inl (calD (c9_thrown _ σ3) ?_)
    rintro r σ4 ⟨rfl, h4⟩
    subst h4
    iterate 2 refine hK tC25 kC25 _ _ _ _ _ ?_
    refine ⟨fun _ => ?_, fun h => absurd t0 h⟩
    iterate 2 refine hK tC25 kC25 _ _ _ _ _ ?_
    refine ⟨fun h => absurd rfl h, fun _ => ?_⟩
    iterate 3 refine hK tC25 kC25 _ _ _ _ _ ?_
    refine ⟨vp_in_nI (n := 0) (by decide) (by decide), ?_⟩
    rw [show (Int32.ofInt 0).toNatClampNeg = 0 from rfl, t100]
    iterate 4 refine hK tC25 kC25 _ _ _ _ _ ?_
    refine ⟨fun _ => ?_, fun h => absurd (lg_self _) h⟩
    refine hK tC25 kC25 _ _ _ _ _ ?_
    exact hn (c + 1 - n9) _ _ _ (by omega) hJ3
  · obtain ⟨hk0, n9, hn9, h9⟩ := hex e σ1 k hx hc
    iterate 2 refine hK tC25 kC25 _ _ _ _ _ ?_
    iterate 5 refine hK tC25 kC25 _ _ _ _ _ ?_
    refine ⟨rfl, (in_s1 (by omega) hL).1, ?_⟩
    rw [(in_s1 (show i + 1 < L by omega) hL).2]
    refine hK tC25 kC25 _ _ _ _ _ ?_
    refine Or.inr (Or.inr ⟨c + 1 - n9, n9, by omega, yDX h9 ?_ (fun _ _ h => h.elim)⟩)
    rintro r σ3 ⟨⟨w, rfl⟩, t0, hJ3⟩
    iterate 2 refine hK tC25 kC25 _ _ _ _ _ ?_
    refine hK tC25 kC25 _ _ _ _ _ ?_
    refine Or.inl (calD (c9_thrown _ σ3) ?_)
    rintro r σ4 ⟨rfl, h4⟩
    subst h4
    iterate 2 refine hK tC25 kC25 _ _ _ _ _ ?_
    refine ⟨fun _ => ?_, fun h => absurd t0 h⟩
    iterate 2 refine hK tC25 kC25 _ _ _ _ _ ?_
    refine ⟨fun _ => ?_, fun h => absurd h hk0⟩
    refine hK tC25 kC25 _ _ _ _ _ ?_
    exact hn (c + 1 - n9) _ _ _ (by omega) hJ3
def tC26 : xCode := [(1673, .aload_n 1, 1, 1674, []), (1674, .aload_n 0, 1, 1675, []), (1675, .iload 4, 2, 1677, []), (1677, .iconst 1, 1, 1678, []), (1678, .iadd, 1, 1679, []), (1679, .iaload, 1, 1680, []), (1680, .aload_n 3, 1, 1681, []), (1681, .invokestatic 190, 3, 1684, []), (1684, .istore 5, 2, 1686, []), (1686, .aload_n 2, 1, 1687, []), (1687, .aload_n 0, 1, 1688, []), (1688, .iload 4, 2, 1690, []), (1690, .iconst 1, 1, 1691, []), (1691, .iadd, 1, 1692, []), (1692, .iaload, 1, 1693, []), (1693, .invokevirtual 192, 3, 1696, []), (1696, .istore 6, 2, 1698, []), (1698, .aload_n 2, 1, 1699, []), (1699, .invokevirtual 108, 3, 1702, []), (1702, .iload 5, 2, 1704, []), (1704, .if_icmp .eq 5, 3, 1707, [1709]), (1707, .iconst 0, 1, 1708, []), (1708, .ireturn, 1, 1709, []), (1709, .iload 5, 2, 1711, []), (1711, .ifCond .ne 15, 3, 1714, [1726]), (1714, .aload_n 3, 1, 1715, []), (1715, .iconst 0, 1, 1716, []), (1716, .laload, 1, 1717, []), (1717, .iload 6, 2, 1719, []), (1719, .i2l, 1, 1720, []), (1720, .lcmp, 1, 1721, []), (1721, .ifCond .eq 5, 3, 1724, [1726]), (1724, .iconst 0, 1, 1725, []), (1725, .ireturn, 1, 1726, []), (1726, .goto 271, 3, 1729, [1997])]
theorem kC26 : xOK code tC26 = true := by decide +kernel
theorem wk_avoid : wOK 190 wL_avoid 3 := ⟨(wq 1297 (by decide +kernel) (by decide +kernel)), (wq 1298 (by decide +kernel) (by decide +kernel)), wL_avoid_w, rfl, by decide +kernel, by decide⟩
theorem lawc_avoid (hK : LLR l D b0 ty ad av b L xs K) (hW : LLW l D b0 ty ad av K) {σ : sMem} (hJ : JR σ) {i c : Nat} (hi : i + 6 ≤ L) (hL : L ≤ 3072) (e5 e6 : Option AV) (hn : ∀ c' e5 e6 σ', c ≤ c' → JR σ' → K c' 1997 (lwE b i e5 e6) [] σ') : K (c + 2) 1673 (lwE b i e5 e6) [] σ := by
  refine hK tC26 kC26 _ _ _ _ _ ?_
  iterate 5 refine hK tC26 kC26 _ _ _ _ _ ?_
  refine ⟨rfl, (in_s1 (by omega) hL).1, ?_⟩
  rw [(in_s1 (show i + 1 < L by omega) hL).2]
  refine hK tC26 kC26 _ _ _ _ _ ?_
  obtain ⟨n0, P, XP, hn0, h8, hP, hX, hok, hex⟩ := jw_avoid (l := l) (D := D) (b0 := b0) (ty := ty) (ad := ad) (av := av) σ hJ (xs (i + 1))
  refine hW wL_avoid 190 3 (c + 1) 1681 _ [aR 34, aI (xs (i + 1)), aR 100] [] σ _ wk_avoid (by decide +kernel) rfl (by decide) (l_avoid 200 n0 hn0 σ (xs (i + 1)) P XP h8 hP (fun e σ' h => (hX e σ' h).elim fun k hk => cd1_of hk)) ?_
  intro r σ1 h
  rcases h with ⟨v, σ2, hp, rfl, rfl⟩ | ⟨e, k, hx, hc, rfl⟩
  · obtain ⟨n9, hn9, h9⟩ := hok v σ2 hp
    iterate 2 refine hK tC26 kC26 _ _ _ _ _ ?_
    iterate 5 refine hK tC26 kC26 _ _ _ _ _ ?_
    refine ⟨rfl, (in_s1 (by omega) hL).1, ?_⟩
    rw [(in_s1 (show i + 1 < L by omega) hL).2]
    refine hK tC26 kC26 _ _ _ _ _ ?_
    refine Or.inr (Or.inr ⟨c + 1 - n9, n9, by omega, yDX h9 ?_ (fun _ _ h => h.elim)⟩)
    rintro r σ3 ⟨rfl, t0, t100, hJ3⟩
    iterate 2 refine hK tC26 kC26 _ _ _ _ _ ?_
    refine hK tC26 kC26 _ _ _ _ _ ?_
    refine Or.inl (calD (c9_thrown _ σ3) ?_)
    rintro r σ4 ⟨rfl, h4⟩
    subst h4
    iterate 2 refine hK tC26 kC26 _ _ _ _ _ ?_
    refine ⟨fun _ => ?_, fun h => absurd t0 h⟩
    iterate 2 refine hK tC26 kC26 _ _ _ _ _ ?_
    refine ⟨fun h => absurd rfl h, fun _ => ?_⟩
    iterate 3 refine hK tC26 kC26 _ _ _ _ _ ?_
    refine ⟨vp_in_nI (n := 0) (by decide) (by decide), ?_⟩
    rw [show (Int32.ofInt 0).toNatClampNeg = 0 from rfl, t100]
    iterate 4 refine hK tC26 kC26 _ _ _ _ _ ?_
    refine ⟨fun _ => ?_, fun h => absurd (lg_self _) h⟩
    refine hK tC26 kC26 _ _ _ _ _ ?_
    exact hn (c + 1 - n9) _ _ _ (by omega) hJ3
  · obtain ⟨hk0, n9, hn9, h9⟩ := hex e σ1 k hx hc
    iterate 2 refine hK tC26 kC26 _ _ _ _ _ ?_
    iterate 5 refine hK tC26 kC26 _ _ _ _ _ ?_
    refine ⟨rfl, (in_s1 (by omega) hL).1, ?_⟩
    rw [(in_s1 (show i + 1 < L by omega) hL).2]
    refine hK tC26 kC26 _ _ _ _ _ ?_
    refine Or.inr (Or.inr ⟨c + 1 - n9, n9, by omega, yDX h9 ?_ (fun _ _ h => h.elim)⟩)
    rintro r σ3 ⟨⟨w, rfl⟩, t0, hJ3⟩
    iterate 2 refine hK tC26 kC26 _ _ _ _ _ ?_
    refine hK tC26 kC26 _ _ _ _ _ ?_
    refine Or.inl (calD (c9_thrown _ σ3) ?_)
    rintro r σ4 ⟨rfl, h4⟩
    subst h4
    iterate 2 refine hK tC26 kC26 _ _ _ _ _ ?_
    refine ⟨fun _ => ?_, fun h => absurd t0 h⟩
    iterate 2 refine hK tC26 kC26 _ _ _ _ _ ?_
    refine ⟨fun _ => ?_, fun h => absurd h hk0⟩
    refine hK tC26 kC26 _ _ _ _ _ ?_
    exact hn (c + 1 - n9) _ _ _ (by omega) hJ3
def tC27 : xCode := [(1729, .aload_n 1, 1, 1730, []), (1730, .aload_n 0, 1, 1731, []), (1731, .iload 4, 2, 1733, []), (1733, .iconst 1, 1, 1734, []), (1734, .iadd, 1, 1735, []), (1735, .iaload, 1, 1736, []), (1736, .aload_n 3, 1, 1737, []), (1737, .invokestatic 193, 3, 1740, []), (1740, .istore 5, 2, 1742, []), (1742, .aload_n 2, 1, 1743, []), (1743, .aload_n 0, 1, 1744, []), (1744, .iload 4, 2, 1746, []), (1746, .iconst 1, 1, 1747, []), (1747, .iadd, 1, 1748, []), (1748, .iaload, 1, 1749, []), (1749, .invokevirtual 195, 3, 1752, []), (1752, .istore 6, 2, 1754, []), (1754, .aload_n 2, 1, 1755, []), (1755, .invokevirtual 108, 3, 1758, []), (1758, .iload 5, 2, 1760, []), (1760, .if_icmp .eq 5, 3, 1763, [1765]), (1763, .iconst 0, 1, 1764, []), (1764, .ireturn, 1, 1765, []), (1765, .iload 5, 2, 1767, []), (1767, .ifCond .ne 15, 3, 1770, [1782]), (1770, .aload_n 3, 1, 1771, []), (1771, .iconst 0, 1, 1772, []), (1772, .laload, 1, 1773, []), (1773, .iload 6, 2, 1775, []), (1775, .i2l, 1, 1776, []), (1776, .lcmp, 1, 1777, []), (1777, .ifCond .eq 5, 3, 1780, [1782]), (1780, .iconst 0, 1, 1781, []), (1781, .ireturn, 1, 1782, []), (1782, .goto 215, 3, 1785, [1997])]
theorem kC27 : xOK code tC27 = true := by decide +kernel
theorem wk_learn : wOK 193 wL_learn 3 := ⟨(wq 1309 (by decide +kernel) (by decide +kernel)), (wq 1310 (by decide +kernel) (by decide +kernel)), wL_learn_w, rfl, by decide +kernel, by decide⟩
theorem lawc_learn (hK : LLR l D b0 ty ad av b L xs K) (hW : LLW l D b0 ty ad av K) {σ : sMem} (hJ : JR σ) {i c : Nat} (hi : i + 6 ≤ L) (hL : L ≤ 3072) (e5 e6 : Option AV) (hn : ∀ c' e5 e6 σ', c ≤ c' → JR σ' → K c' 1997 (lwE b i e5 e6) [] σ') : K (c + 2) 1729 (lwE b i e5 e6) [] σ := by
  refine hK tC27 kC27 _ _ _ _ _ ?_
  iterate 5 refine hK tC27 kC27 _ _ _ _ _ ?_
  refine ⟨rfl, (in_s1 (by omega) hL).1, ?_⟩
  rw [(in_s1 (show i + 1 < L by omega) hL).2]
  refine hK tC27 kC27 _ _ _ _ _ ?_
  obtain ⟨n0, P, XP, hn0, h8, hP, hX, hok, hex⟩ := jw_learn (l := l) (D := D) (b0 := b0) (ty := ty) (ad := ad) (av := av) σ hJ (xs (i + 1))
  refine hW wL_learn 193 3 (c + 1) 1737 _ [aR 34, aI (xs (i + 1)), aR 100] [] σ _ wk_learn (by decide +kernel) rfl (by decide) (l_learn 200 n0 hn0 σ (xs (i + 1)) P XP h8 hP (fun e σ' h => (hX e σ' h).elim fun k hk => cd1_of hk)) ?_
  intro r σ1 h
  rcases h with ⟨v, σ2, hp, rfl, rfl⟩ | ⟨e, k, hx, hc, rfl⟩
  · obtain ⟨n9, hn9, h9⟩ := hok v σ2 hp
    iterate 2 refine hK tC27 kC27 _ _ _ _ _ ?_
    iterate 5 refine hK tC27 kC27 _ _ _ _ _ ?_
    refine ⟨rfl, (in_s1 (by omega) hL).1, ?_⟩
    rw [(in_s1 (show i + 1 < L by omega) hL).2]
    refine hK tC27 kC27 _ _ _ _ _ ?_
    refine Or.inr (Or.inr ⟨c + 1 - n9, n9, by omega, yDX h9 ?_ (fun _ _ h => h.elim)⟩)
    rintro r σ3 ⟨rfl, t0, t100, hJ3⟩
    iterate 2 refine hK tC27 kC27 _ _ _ _ _ ?_
    refine hK tC27 kC27 _ _ _ _ _ ?_
    refine Or.inl (calD (c9_thrown _ σ3) ?_)
    rintro r σ4 ⟨rfl, h4⟩
    subst h4
    iterate 2 refine hK tC27 kC27 _ _ _ _ _ ?_
    refine ⟨fun _ => ?_, fun h => absurd t0 h⟩
    iterate 2 refine hK tC27 kC27 _ _ _ _ _ ?_
    refine ⟨fun h => absurd rfl h, fun _ => ?_⟩
    iterate 3 refine hK tC27 kC27 _ _ _ _ _ ?_
    refine ⟨vp_in_nI (n := 0) (by decide) (by decide), ?_⟩
    rw [show (Int32.ofInt 0).toNatClampNeg = 0 from rfl, t100]
    iterate 4 refine hK tC27 kC27 _ _ _ _ _ ?_
    refine ⟨fun _ => ?_, fun h => absurd (lg_self _) h⟩
    refine hK tC27 kC27 _ _ _ _ _ ?_
    exact hn (c + 1 - n9) _ _ _ (by omega) hJ3
  · obtain ⟨hk0, n9, hn9, h9⟩ := hex e σ1 k hx hc
    iterate 2 refine hK tC27 kC27 _ _ _ _ _ ?_
    iterate 5 refine hK tC27 kC27 _ _ _ _ _ ?_
    refine ⟨rfl, (in_s1 (by omega) hL).1, ?_⟩
    rw [(in_s1 (show i + 1 < L by omega) hL).2]
    refine hK tC27 kC27 _ _ _ _ _ ?_
    refine Or.inr (Or.inr ⟨c + 1 - n9, n9, by omega, yDX h9 ?_ (fun _ _ h => h.elim)⟩)
    rintro r σ3 ⟨⟨w, rfl⟩, t0, hJ3⟩
    iterate 2 refine hK tC27 kC27 _ _ _ _ _ ?_
    refine hK tC27 kC27 _ _ _ _ _ ?_
    refine Or.inl (calD (c9_thrown _ σ3) ?_)
    rintro r σ4 ⟨rfl, h4⟩
    subst h4
    iterate 2 refine hK tC27 kC27 _ _ _ _ _ ?_
    refine ⟨fun _ => ?_, fun h => absurd t0 h⟩
    iterate 2 refine hK tC27 kC27 _ _ _ _ _ ?_
    refine ⟨fun _ => ?_, fun h => absurd h hk0⟩
    refine hK tC27 kC27 _ _ _ _ _ ?_
    exact hn (c + 1 - n9) _ _ _ (by omega) hJ3
def tC28 : xCode := [(1785, .aload_n 1, 1, 1786, []), (1786, .invokevirtual 196, 3, 1789, []), (1789, .aload_n 2, 1, 1790, []), (1790, .invokevirtual 199, 3, 1793, []), (1793, .if_icmp .eq 204, 3, 1796, [1997]), (1796, .iconst 0, 1, 1797, []), (1797, .ireturn, 1, 1798, [])]
theorem kC28 : xOK code tC28 = true := by decide +kernel
theorem lawc_soon (hK : LLR l D b0 ty ad av b L xs K) (hW : LLW l D b0 ty ad av K) {σ : sMem} (hJ : JR σ) {i c : Nat} (hi : i + 6 ≤ L) (hL : L ≤ 3072) (e5 e6 : Option AV) (hn : ∀ c' e5 e6 σ', c ≤ c' → JR σ' → K c' 1997 (lwE b i e5 e6) [] σ') : K (c + 2) 1785 (lwE b i e5 e6) [] σ := by
  refine hK tC28 kC28 _ _ _ _ _ ?_
  obtain ⟨P, h8, hr⟩ := jd_soon (l := l) (D := D) (b0 := b0) (ty := ty) (ad := ad) (av := av) σ hJ 
  refine hK tC28 kC28 _ _ _ _ _ ?_
  refine Or.inr (Or.inl (yD0 h8 ?_))
  intro r σ1 hp
  obtain ⟨v, rfl, n9, hn9, h9⟩ := hr r σ1 hp
  refine hK tC28 kC28 _ _ _ _ _ ?_
  refine hK tC28 kC28 _ _ _ _ _ ?_
  refine Or.inr (Or.inr ⟨c + 2 - n9, n9, by omega, yDX h9 ?_ (fun _ _ h => h.elim)⟩)
  rintro r σ3 ⟨rfl, hJ3⟩
  refine hK tC28 kC28 _ _ _ _ _ ?_
  refine ⟨fun _ => ?_, fun h => absurd rfl h⟩
  exact hn (c + 2 - n9) _ _ _ (by omega) hJ3
def tC29 : xCode := [(1798, .aload_n 1, 1, 1799, []), (1799, .aload_n 0, 1, 1800, []), (1800, .iload 4, 2, 1802, []), (1802, .iconst 1, 1, 1803, []), (1803, .iadd, 1, 1804, []), (1804, .iaload, 1, 1805, []), (1805, .aload_n 0, 1, 1806, []), (1806, .iload 4, 2, 1808, []), (1808, .iconst 2, 1, 1809, []), (1809, .iadd, 1, 1810, []), (1810, .iaload, 1, 1811, []), (1811, .aload_n 0, 1, 1812, []), (1812, .iload 4, 2, 1814, []), (1814, .iconst 3, 1, 1815, []), (1815, .iadd, 1, 1816, []), (1816, .iaload, 1, 1817, []), (1817, .aload_n 3, 1, 1818, []), (1818, .invokestatic 200, 3, 1821, []), (1821, .istore 5, 2, 1823, []), (1823, .aload_n 2, 1, 1824, []), (1824, .aload_n 0, 1, 1825, []), (1825, .iload 4, 2, 1827, []), (1827, .iconst 1, 1, 1828, []), (1828, .iadd, 1, 1829, []), (1829, .iaload, 1, 1830, []), (1830, .aload_n 0, 1, 1831, []), (1831, .iload 4, 2, 1833, []), (1833, .iconst 2, 1, 1834, []), (1834, .iadd, 1, 1835, []), (1835, .iaload, 1, 1836, []), (1836, .aload_n 0, 1, 1837, []), (1837, .iload 4, 2, 1839, []), (1839, .iconst 3, 1, 1840, []), (1840, .iadd, 1, 1841, []), (1841, .iaload, 1, 1842, []), (1842, .invokevirtual 202, 3, 1845, []), (1845, .istore 6, 2, 1847, []), (1847, .aload_n 2, 1, 1848, []), (1848, .invokevirtual 108, 3, 1851, []), (1851, .iload 5, 2, 1853, []), (1853, .if_icmp .eq 5, 3, 1856, [1858]), (1856, .iconst 0, 1, 1857, []), (1857, .ireturn, 1, 1858, []), (1858, .iload 5, 2, 1860, []), (1860, .ifCond .ne 15, 3, 1863, [1875]), (1863, .aload_n 3, 1, 1864, []), (1864, .iconst 0, 1, 1865, []), (1865, .laload, 1, 1866, []), (1866, .iload 6, 2, 1868, []), (1868, .i2l, 1, 1869, []), (1869, .lcmp, 1, 1870, []), (1870, .ifCond .eq 5, 3, 1873, [1875]), (1873, .iconst 0, 1, 1874, []), (1874, .ireturn, 1, 1875, []), (1875, .goto 122, 3, 1878, [1997])]
theorem kC29 : xOK code tC29 = true := by decide +kernel
theorem wk_seed : wOK 200 wL_seed 5 := ⟨(wq 1322 (by decide +kernel) (by decide +kernel)), (wq 1323 (by decide +kernel) (by decide +kernel)), wL_seed_w, rfl, by decide +kernel, by decide⟩
theorem lawc_seed (hK : LLR l D b0 ty ad av b L xs K) (hW : LLW l D b0 ty ad av K) {σ : sMem} (hJ : JR σ) {i c : Nat} (hi : i + 6 ≤ L) (hL : L ≤ 3072) (e5 e6 : Option AV) (hn : ∀ c' e5 e6 σ', c ≤ c' → JR σ' → K c' 1997 (lwE b i e5 e6) [] σ') : K (c + 2) 1798 (lwE b i e5 e6) [] σ := by
  refine hK tC29 kC29 _ _ _ _ _ ?_
  iterate 5 refine hK tC29 kC29 _ _ _ _ _ ?_
  refine ⟨rfl, (in_s1 (by omega) hL).1, ?_⟩
  rw [(in_s1 (show i + 1 < L by omega) hL).2]
  iterate 5 refine hK tC29 kC29 _ _ _ _ _ ?_
  refine ⟨rfl, (in_s2 (by omega) hL).1, ?_⟩
  rw [(in_s2 (show i + 2 < L by omega) hL).2]
  iterate 5 refine hK tC29 kC29 _ _ _ _ _ ?_
  refine ⟨rfl, (in_s3 (by omega) hL).1, ?_⟩
  rw [(in_s3 (show i + 3 < L by omega) hL).2]
  refine hK tC29 kC29 _ _ _ _ _ ?_
  obtain ⟨n0, P, XP, hn0, h8, hP, hX, hok, hex⟩ := jw_seed (l := l) (D := D) (b0 := b0) (ty := ty) (ad := ad) (av := av) σ hJ (xs (i + 1)) (xs (i + 2)) (xs (i + 3))
  refine hW wL_seed 200 5 (c + 1) 1818 _ [aR 34, aI (xs (i + 1)), aI (xs (i + 2)), aI (xs (i + 3)), aR 100] [] σ _ wk_seed (by decide +kernel) rfl (by decide) (l_seed 200 n0 hn0 σ (xs (i + 1)) (xs (i + 2)) (xs (i + 3)) P XP h8 hP (fun e σ' h => (hX e σ' h).elim fun k hk => cd1_of hk)) ?_
  intro r σ1 h
  rcases h with ⟨v, σ2, hp, rfl, rfl⟩ | ⟨e, k, hx, hc, rfl⟩
  · obtain ⟨n9, hn9, h9⟩ := hok v σ2 hp
    iterate 2 refine hK tC29 kC29 _ _ _ _ _ ?_
    iterate 5 refine hK tC29 kC29 _ _ _ _ _ ?_
    refine ⟨rfl, (in_s1 (by omega) hL).1, ?_⟩
    rw [(in_s1 (show i + 1 < L by omega) hL).2]
    iterate 5 refine hK tC29 kC29 _ _ _ _ _ ?_
    refine ⟨rfl, (in_s2 (by omega) hL).1, ?_⟩
    rw [(in_s2 (show i + 2 < L by omega) hL).2]
    iterate 5 refine hK tC29 kC29 _ _ _ _ _ ?_
    refine ⟨rfl, (in_s3 (by omega) hL).1, ?_⟩
    rw [(in_s3 (show i + 3 < L by omega) hL).2]
    refine hK tC29 kC29 _ _ _ _ _ ?_
    refine Or.inr (Or.inr ⟨c + 1 - n9, n9, by omega, yDX h9 ?_ (fun _ _ h => h.elim)⟩)
    rintro r σ3 ⟨rfl, t0, t100, hJ3⟩
    iterate 2 refine hK tC29 kC29 _ _ _ _ _ ?_
    refine hK tC29 kC29 _ _ _ _ _ ?_
    refine Or.inl (calD (c9_thrown _ σ3) ?_)
    rintro r σ4 ⟨rfl, h4⟩
    subst h4
    iterate 2 refine hK tC29 kC29 _ _ _ _ _ ?_
    refine ⟨fun _ => ?_, fun h => absurd t0 h⟩
    iterate 2 refine hK tC29 kC29 _ _ _ _ _ ?_
    refine ⟨fun h => absurd rfl h, fun _ => ?_⟩
    iterate 3 refine hK tC29 kC29 _ _ _ _ _ ?_
    refine ⟨vp_in_nI (n := 0) (by decide) (by decide), ?_⟩
    rw [show (Int32.ofInt 0).toNatClampNeg = 0 from rfl, t100]
    iterate 4 refine hK tC29 kC29 _ _ _ _ _ ?_
    refine ⟨fun _ => ?_, fun h => absurd (lg_self _) h⟩
    refine hK tC29 kC29 _ _ _ _ _ ?_
    exact hn (c + 1 - n9) _ _ _ (by omega) hJ3
  · obtain ⟨hk0, n9, hn9, h9⟩ := hex e σ1 k hx hc
    iterate 2 refine hK tC29 kC29 _ _ _ _ _ ?_
    iterate 5 refine hK tC29 kC29 _ _ _ _ _ ?_
    refine ⟨rfl, (in_s1 (by omega) hL).1, ?_⟩
    rw [(in_s1 (show i + 1 < L by omega) hL).2]
    iterate 5 refine hK tC29 kC29 _ _ _ _ _ ?_
    refine ⟨rfl, (in_s2 (by omega) hL).1, ?_⟩
    rw [(in_s2 (show i + 2 < L by omega) hL).2]
    iterate 5 refine hK tC29 kC29 _ _ _ _ _ ?_
    refine ⟨rfl, (in_s3 (by omega) hL).1, ?_⟩
    rw [(in_s3 (show i + 3 < L by omega) hL).2]
    refine hK tC29 kC29 _ _ _ _ _ ?_
    refine Or.inr (Or.inr ⟨c + 1 - n9, n9, by omega, yDX h9 ?_ (fun _ _ h => h.elim)⟩)
    rintro r σ3 ⟨⟨w, rfl⟩, t0, hJ3⟩
    iterate 2 refine hK tC29 kC29 _ _ _ _ _ ?_
    refine hK tC29 kC29 _ _ _ _ _ ?_
    refine Or.inl (calD (c9_thrown _ σ3) ?_)
    rintro r σ4 ⟨rfl, h4⟩
    subst h4
    iterate 2 refine hK tC29 kC29 _ _ _ _ _ ?_
    refine ⟨fun _ => ?_, fun h => absurd t0 h⟩
    iterate 2 refine hK tC29 kC29 _ _ _ _ _ ?_
    refine ⟨fun _ => ?_, fun h => absurd h hk0⟩
    refine hK tC29 kC29 _ _ _ _ _ ?_
    exact hn (c + 1 - n9) _ _ _ (by omega) hJ3
def tC30 : xCode := [(1878, .aload_n 1, 1, 1879, []), (1879, .aload_n 0, 1, 1880, []), (1880, .iload 4, 2, 1882, []), (1882, .iconst 1, 1, 1883, []), (1883, .iadd, 1, 1884, []), (1884, .iaload, 1, 1885, []), (1885, .aload_n 0, 1, 1886, []), (1886, .iload 4, 2, 1888, []), (1888, .iconst 2, 1, 1889, []), (1889, .iadd, 1, 1890, []), (1890, .iaload, 1, 1891, []), (1891, .aload_n 3, 1, 1892, []), (1892, .invokestatic 203, 3, 1895, []), (1895, .istore 5, 2, 1897, []), (1897, .aload_n 2, 1, 1898, []), (1898, .aload_n 0, 1, 1899, []), (1899, .iload 4, 2, 1901, []), (1901, .iconst 1, 1, 1902, []), (1902, .iadd, 1, 1903, []), (1903, .iaload, 1, 1904, []), (1904, .aload_n 0, 1, 1905, []), (1905, .iload 4, 2, 1907, []), (1907, .iconst 2, 1, 1908, []), (1908, .iadd, 1, 1909, []), (1909, .iaload, 1, 1910, []), (1910, .invokevirtual 205, 3, 1913, []), (1913, .istore 6, 2, 1915, []), (1915, .aload_n 2, 1, 1916, []), (1916, .invokevirtual 108, 3, 1919, []), (1919, .iload 5, 2, 1921, []), (1921, .if_icmp .eq 5, 3, 1924, [1926]), (1924, .iconst 0, 1, 1925, []), (1925, .ireturn, 1, 1926, []), (1926, .iload 5, 2, 1928, []), (1928, .ifCond .ne 15, 3, 1931, [1943]), (1931, .aload_n 3, 1, 1932, []), (1932, .iconst 0, 1, 1933, []), (1933, .laload, 1, 1934, []), (1934, .iload 6, 2, 1936, []), (1936, .i2l, 1, 1937, []), (1937, .lcmp, 1, 1938, []), (1938, .ifCond .eq 5, 3, 1941, [1943]), (1941, .iconst 0, 1, 1942, []), (1942, .ireturn, 1, 1943, []), (1943, .goto 54, 3, 1946, [1997])]
theorem kC30 : xOK code tC30 = true := by decide +kernel
theorem wk_mean : wOK 203 wL_mean 4 := ⟨(wq 1339 (by decide +kernel) (by decide +kernel)), (wq 1340 (by decide +kernel) (by decide +kernel)), wL_mean_w, rfl, by decide +kernel, by decide⟩
theorem lawc_mean (hK : LLR l D b0 ty ad av b L xs K) (hW : LLW l D b0 ty ad av K) {σ : sMem} (hJ : JR σ) {i c : Nat} (hi : i + 6 ≤ L) (hL : L ≤ 3072) (e5 e6 : Option AV) (hn : ∀ c' e5 e6 σ', c ≤ c' → JR σ' → K c' 1997 (lwE b i e5 e6) [] σ') : K (c + 2) 1878 (lwE b i e5 e6) [] σ := by
  refine hK tC30 kC30 _ _ _ _ _ ?_
  iterate 5 refine hK tC30 kC30 _ _ _ _ _ ?_
  refine ⟨rfl, (in_s1 (by omega) hL).1, ?_⟩
  rw [(in_s1 (show i + 1 < L by omega) hL).2]
  iterate 5 refine hK tC30 kC30 _ _ _ _ _ ?_
  refine ⟨rfl, (in_s2 (by omega) hL).1, ?_⟩
  rw [(in_s2 (show i + 2 < L by omega) hL).2]
  refine hK tC30 kC30 _ _ _ _ _ ?_
  obtain ⟨n0, P, XP, hn0, h8, hP, hX, hok, hex⟩ := jw_mean (l := l) (D := D) (b0 := b0) (ty := ty) (ad := ad) (av := av) σ hJ (xs (i + 1)) (xs (i + 2))
  refine hW wL_mean 203 4 (c + 1) 1892 _ [aR 34, aI (xs (i + 1)), aI (xs (i + 2)), aR 100] [] σ _ wk_mean (by decide +kernel) rfl (by decide) (l_mean 200 n0 hn0 σ (xs (i + 1)) (xs (i + 2)) P XP h8 hP (fun e σ' h => (hX e σ' h).elim fun k hk => cd1_of hk)) ?_
  intro r σ1 h
  rcases h with ⟨v, σ2, hp, rfl, rfl⟩ | ⟨e, k, hx, hc, rfl⟩
  · obtain ⟨n9, hn9, h9⟩ := hok v σ2 hp
    iterate 2 refine hK tC30 kC30 _ _ _ _ _ ?_
    iterate 5 refine hK tC30 kC30 _ _ _ _ _ ?_
    refine ⟨rfl, (in_s1 (by omega) hL).1, ?_⟩
    rw [(in_s1 (show i + 1 < L by omega) hL).2]
    iterate 5 refine hK tC30 kC30 _ _ _ _ _ ?_
    refine ⟨rfl, (in_s2 (by omega) hL).1, ?_⟩
    rw [(in_s2 (show i + 2 < L by omega) hL).2]
    refine hK tC30 kC30 _ _ _ _ _ ?_
    refine Or.inr (Or.inr ⟨c + 1 - n9, n9, by omega, yDX h9 ?_ (fun _ _ h => h.elim)⟩)
    rintro r σ3 ⟨rfl, t0, t100, hJ3⟩
    iterate 2 refine hK tC30 kC30 _ _ _ _ _ ?_
    refine hK tC30 kC30 _ _ _ _ _ ?_
    refine Or.inl (calD (c9_thrown _ σ3) ?_)
    rintro r σ4 ⟨rfl, h4⟩
    subst h4
    iterate 2 refine hK tC30 kC30 _ _ _ _ _ ?_
    refine ⟨fun _ => ?_, fun h => absurd t0 h⟩
    iterate 2 refine hK tC30 kC30 _ _ _ _ _ ?_
    refine ⟨fun h => absurd rfl h, fun _ => ?_⟩
    iterate 3 refine hK tC30 kC30 _ _ _ _ _ ?_
    refine ⟨vp_in_nI (n := 0) (by decide) (by decide), ?_⟩
    rw [show (Int32.ofInt 0).toNatClampNeg = 0 from rfl, t100]
    iterate 4 refine hK tC30 kC30 _ _ _ _ _ ?_
    refine ⟨fun _ => ?_, fun h => absurd (lg_self _) h⟩
    refine hK tC30 kC30 _ _ _ _ _ ?_
    exact hn (c + 1 - n9) _ _ _ (by omega) hJ3
  · obtain ⟨hk0, n9, hn9, h9⟩ := hex e σ1 k hx hc
    iterate 2 refine hK tC30 kC30 _ _ _ _ _ ?_
    iterate 5 refine hK tC30 kC30 _ _ _ _ _ ?_
    refine ⟨rfl, (in_s1 (by omega) hL).1, ?_⟩
    rw [(in_s1 (show i + 1 < L by omega) hL).2]
    iterate 5 refine hK tC30 kC30 _ _ _ _ _ ?_
    refine ⟨rfl, (in_s2 (by omega) hL).1, ?_⟩
    rw [(in_s2 (show i + 2 < L by omega) hL).2]
    refine hK tC30 kC30 _ _ _ _ _ ?_
    refine Or.inr (Or.inr ⟨c + 1 - n9, n9, by omega, yDX h9 ?_ (fun _ _ h => h.elim)⟩)
    rintro r σ3 ⟨⟨w, rfl⟩, t0, hJ3⟩
    iterate 2 refine hK tC30 kC30 _ _ _ _ _ ?_
    refine hK tC30 kC30 _ _ _ _ _ ?_
    refine Or.inl (calD (c9_thrown _ σ3) ?_)
    rintro r σ4 ⟨rfl, h4⟩
    subst h4
    iterate 2 refine hK tC30 kC30 _ _ _ _ _ ?_
    refine ⟨fun _ => ?_, fun h => absurd t0 h⟩
    iterate 2 refine hK tC30 kC30 _ _ _ _ _ ?_
    refine ⟨fun _ => ?_, fun h => absurd h hk0⟩
    refine hK tC30 kC30 _ _ _ _ _ ?_
    exact hn (c + 1 - n9) _ _ _ (by omega) hJ3
def tC31 : xCode := [(1946, .aload_n 1, 1, 1947, []), (1947, .invokevirtual 206, 3, 1950, []), (1950, .aload_n 2, 1, 1951, []), (1951, .invokevirtual 209, 3, 1954, []), (1954, .if_icmp .eq 43, 3, 1957, [1997]), (1957, .iconst 0, 1, 1958, []), (1958, .ireturn, 1, 1959, [])]
theorem kC31 : xOK code tC31 = true := by decide +kernel
theorem lawc_image (hK : LLR l D b0 ty ad av b L xs K) (hW : LLW l D b0 ty ad av K) {σ : sMem} (hJ : JR σ) {i c : Nat} (hi : i + 6 ≤ L) (hL : L ≤ 3072) (e5 e6 : Option AV) (hn : ∀ c' e5 e6 σ', c ≤ c' → JR σ' → K c' 1997 (lwE b i e5 e6) [] σ') : K (c + 2) 1946 (lwE b i e5 e6) [] σ := by
  refine hK tC31 kC31 _ _ _ _ _ ?_
  obtain ⟨P, h8, hr⟩ := jd_image (l := l) (D := D) (b0 := b0) (ty := ty) (ad := ad) (av := av) σ hJ 
  refine hK tC31 kC31 _ _ _ _ _ ?_
  refine Or.inr (Or.inl (yD0 h8 ?_))
  intro r σ1 hp
  obtain ⟨v, rfl, n9, hn9, h9⟩ := hr r σ1 hp
  refine hK tC31 kC31 _ _ _ _ _ ?_
  refine hK tC31 kC31 _ _ _ _ _ ?_
  refine Or.inr (Or.inr ⟨c + 2 - n9, n9, by omega, yDX h9 ?_ (fun _ _ h => h.elim)⟩)
  rintro r σ3 ⟨rfl, hJ3⟩
  refine hK tC31 kC31 _ _ _ _ _ ?_
  refine ⟨fun _ => ?_, fun h => absurd rfl h⟩
  exact hn (c + 2 - n9) _ _ _ (by omega) hJ3
def tC32 : xCode := [(1959, .aload_n 1, 1, 1960, []), (1960, .invokevirtual 210, 3, 1963, []), (1963, .aload_n 2, 1, 1964, []), (1964, .invokevirtual 213, 3, 1967, []), (1967, .if_icmp .eq 30, 3, 1970, [1997]), (1970, .iconst 0, 1, 1971, []), (1971, .ireturn, 1, 1972, [])]
theorem kC32 : xOK code tC32 = true := by decide +kernel
theorem lawc_restore (hK : LLR l D b0 ty ad av b L xs K) (hW : LLW l D b0 ty ad av K) {σ : sMem} (hJ : JR σ) {i c : Nat} (hi : i + 6 ≤ L) (hL : L ≤ 3072) (e5 e6 : Option AV) (hn : ∀ c' e5 e6 σ', c ≤ c' → JR σ' → K c' 1997 (lwE b i e5 e6) [] σ') : K (c + 2) 1959 (lwE b i e5 e6) [] σ := by
  refine hK tC32 kC32 _ _ _ _ _ ?_
  obtain ⟨P, h8, hr⟩ := jd_restore (l := l) (D := D) (b0 := b0) (ty := ty) (ad := ad) (av := av) σ hJ 
  refine hK tC32 kC32 _ _ _ _ _ ?_
  refine Or.inr (Or.inl (yD0 h8 ?_))
  intro r σ1 hp
  obtain ⟨v, rfl, n9, hn9, h9⟩ := hr r σ1 hp
  refine hK tC32 kC32 _ _ _ _ _ ?_
  refine hK tC32 kC32 _ _ _ _ _ ?_
  refine Or.inr (Or.inr ⟨c + 2 - n9, n9, by omega, yDX h9 ?_ (fun _ _ h => h.elim)⟩)
  rintro r σ3 ⟨rfl, hJ3⟩
  refine hK tC32 kC32 _ _ _ _ _ ?_
  refine ⟨fun _ => ?_, fun h => absurd rfl h⟩
  exact hn (c + 2 - n9) _ _ _ (by omega) hJ3
def tC33 : xCode := [(1972, .aload_n 1, 1, 1973, []), (1973, .aload_n 0, 1, 1974, []), (1974, .iload 4, 2, 1976, []), (1976, .iconst 1, 1, 1977, []), (1977, .iadd, 1, 1978, []), (1978, .iaload, 1, 1979, []), (1979, .invokevirtual 214, 3, 1982, []), (1982, .aload_n 2, 1, 1983, []), (1983, .aload_n 0, 1, 1984, []), (1984, .iload 4, 2, 1986, []), (1986, .iconst 1, 1, 1987, []), (1987, .iadd, 1, 1988, []), (1988, .iaload, 1, 1989, []), (1989, .invokevirtual 217, 3, 1992, []), (1992, .if_icmp .eq 5, 3, 1995, [1997]), (1995, .iconst 0, 1, 1996, []), (1996, .ireturn, 1, 1997, [])]
theorem kC33 : xOK code tC33 = true := by decide +kernel
theorem lawc_count (hK : LLR l D b0 ty ad av b L xs K) (hW : LLW l D b0 ty ad av K) {σ : sMem} (hJ : JR σ) {i c : Nat} (hi : i + 6 ≤ L) (hL : L ≤ 3072) (e5 e6 : Option AV) (hn : ∀ c' e5 e6 σ', c ≤ c' → JR σ' → K c' 1997 (lwE b i e5 e6) [] σ') : K (c + 2) 1972 (lwE b i e5 e6) [] σ := by
  refine hK tC33 kC33 _ _ _ _ _ ?_
  iterate 5 refine hK tC33 kC33 _ _ _ _ _ ?_
  refine ⟨rfl, (in_s1 (by omega) hL).1, ?_⟩
  rw [(in_s1 (show i + 1 < L by omega) hL).2]
  obtain ⟨P, h8, hr⟩ := jd_count (l := l) (D := D) (b0 := b0) (ty := ty) (ad := ad) (av := av) σ hJ (xs (i + 1))
  refine hK tC33 kC33 _ _ _ _ _ ?_
  refine Or.inr (Or.inl (yD0 h8 ?_))
  intro r σ1 hp
  obtain ⟨v, rfl, n9, hn9, h9⟩ := hr r σ1 hp
  refine hK tC33 kC33 _ _ _ _ _ ?_
  iterate 5 refine hK tC33 kC33 _ _ _ _ _ ?_
  refine ⟨rfl, (in_s1 (by omega) hL).1, ?_⟩
  rw [(in_s1 (show i + 1 < L by omega) hL).2]
  refine hK tC33 kC33 _ _ _ _ _ ?_
  refine Or.inr (Or.inr ⟨c + 2 - n9, n9, by omega, yDX h9 ?_ (fun _ _ h => h.elim)⟩)
  rintro r σ3 ⟨rfl, hJ3⟩
  refine hK tC33 kC33 _ _ _ _ _ ?_
  refine ⟨fun _ => ?_, fun h => absurd rfl h⟩
  exact hn (c + 2 - n9) _ _ _ (by omega) hJ3
end
