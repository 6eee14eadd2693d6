/-! THE LAW: its links, and its methods that catch -/
def xML : List (Nat × xMe) := [(7, mX8_town), (15, mX8_told), (18, mX8_far), (24, mX8_way), (28, mX8_person), (33, mX8_stranger), (36, mX8_tell), (39, mX8_day), (42, mX8_leads), (45, mX8_there), (48, mX8_lost), (51, mX8_fees), (54, mX8_judge), (57, mX8_match), (60, mX8_matched), (63, mX8_hand), (66, mX8_saves), (69, mX8_where), (72, mX8_many), (75, mX8_corner), (78, mX8_rest), (81, mX8_avoid), (84, mX8_learn), (87, mX8_seed), (90, mX8_mean), (97, mX8_feed), (101, mX9_feed), (107, mX9_town), (108, mX9_thrown), (112, mX8_fault), (115, mX9_fault), (118, mX9_told), (122, mX9_far), (126, mX9_way), (129, mX9_person), (132, mX9_stranger), (135, mX9_tell), (138, mX9_day), (141, mX9_leads), (144, mX9_there), (147, mX9_lost), (150, mX9_fees), (153, mX9_judge), (156, mX9_match), (159, mX9_matched), (160, mX8_bound), (163, mX9_bound), (166, mX9_hand), (169, mX9_saves), (170, mX8_which), (173, mX9_which), (176, mX9_where), (179, mX9_many), (182, mX9_corner), (183, mX8_other), (186, mX9_other), (189, mX9_rest), (192, mX9_avoid), (195, mX9_learn), (196, mX8_soon), (199, mX9_soon), (202, mX9_seed), (205, mX9_mean), (206, mX8_image), (209, mX9_image), (210, mX8_restore), (213, mX9_restore), (214, mX8_count), (217, mX9_count)]
def xXL : xTb := ([], [], [], xML)
set_option maxRecDepth 100000 in
theorem xXL_m : ∀ q ∈ xML, Cond.methodLink RL q.1 q.2.2.2.1 ∈ sTB ∧ meOK q.2 := List.forall_mem_cons.mpr ⟨⟨(wq 768 (by decide +kernel) (by decide +kernel)), eX8_town⟩, List.forall_mem_cons.mpr ⟨⟨(wq 1005 (by decide +kernel) (by decide +kernel)), eX8_told⟩, List.forall_mem_cons.mpr ⟨⟨(wq 1014 (by decide +kernel) (by decide +kernel)), eX8_far⟩, List.forall_mem_cons.mpr ⟨⟨(wq 1042 (by decide +kernel) (by decide +kernel)), eX8_way⟩, List.forall_mem_cons.mpr ⟨⟨(wq 1050 (by decide +kernel) (by decide +kernel)), eX8_person⟩, List.forall_mem_cons.mpr ⟨⟨(wq 1079 (by decide +kernel) (by decide +kernel)), eX8_stranger⟩, List.forall_mem_cons.mpr ⟨⟨(wq 1091 (by decide +kernel) (by decide +kernel)), eX8_tell⟩, List.forall_mem_cons.mpr ⟨⟨(wq 1098 (by decide +kernel) (by decide +kernel)), eX8_day⟩, List.forall_mem_cons.mpr ⟨⟨(wq 1128 (by decide +kernel) (by decide +kernel)), eX8_leads⟩, List.forall_mem_cons.mpr ⟨⟨(wq 1135 (by decide +kernel) (by decide +kernel)), eX8_there⟩, List.forall_mem_cons.mpr ⟨⟨(wq 1142 (by decide +kernel) (by decide +kernel)), eX8_lost⟩, List.forall_mem_cons.mpr ⟨⟨(wq 1150 (by decide +kernel) (by decide +kernel)), eX8_fees⟩, List.forall_mem_cons.mpr ⟨⟨(wq 1157 (by decide +kernel) (by decide +kernel)), eX8_judge⟩, List.forall_mem_cons.mpr ⟨⟨(wq 1169 (by decide +kernel) (by decide +kernel)), eX8_match⟩, List.forall_mem_cons.mpr ⟨⟨(wq 1206 (by decide +kernel) (by decide +kernel)), eX8_matched⟩, List.forall_mem_cons.mpr ⟨⟨(wq 1213 (by decide +kernel) (by decide +kernel)), eX8_hand⟩, List.forall_mem_cons.mpr ⟨⟨(wq 1242 (by decide +kernel) (by decide +kernel)), eX8_saves⟩, List.forall_mem_cons.mpr ⟨⟨(wq 1253 (by decide +kernel) (by decide +kernel)), eX8_where⟩, List.forall_mem_cons.mpr ⟨⟨(wq 1272 (by decide +kernel) (by decide +kernel)), eX8_many⟩, List.forall_mem_cons.mpr ⟨⟨(wq 1285 (by decide +kernel) (by decide +kernel)), eX8_corner⟩, List.forall_mem_cons.mpr ⟨⟨(wq 1293 (by decide +kernel) (by decide +kernel)), eX8_rest⟩, List.forall_mem_cons.mpr ⟨⟨(wq 1300 (by decide +kernel) (by decide +kernel)), eX8_avoid⟩, List.forall_mem_cons.mpr ⟨⟨(wq 1312 (by decide +kernel) (by decide +kernel)), eX8_learn⟩, List.forall_mem_cons.mpr ⟨⟨(wq 1325 (by decide +kernel) (by decide +kernel)), eX8_seed⟩, List.forall_mem_cons.mpr ⟨⟨(wq 1342 (by decide +kernel) (by decide +kernel)), eX8_mean⟩, List.forall_mem_cons.mpr ⟨⟨(wq 574 (by decide +kernel) (by decide +kernel)), eX8_feed⟩, List.forall_mem_cons.mpr ⟨⟨(wq 1526 (by decide +kernel) (by decide +kernel)), eX9_feed⟩, List.forall_mem_cons.mpr ⟨⟨(wq 1530 (by decide +kernel) (by decide +kernel)), eX9_town⟩, List.forall_mem_cons.mpr ⟨⟨(wq 1522 (by decide +kernel) (by decide +kernel)), eX9_thrown⟩, List.forall_mem_cons.mpr ⟨⟨(wq 582 (by decide +kernel) (by decide +kernel)), eX8_fault⟩, List.forall_mem_cons.mpr ⟨⟨(wq 1604 (by decide +kernel) (by decide +kernel)), eX9_fault⟩, List.forall_mem_cons.mpr ⟨⟨(wq 1608 (by decide +kernel) (by decide +kernel)), eX9_told⟩, List.forall_mem_cons.mpr ⟨⟨(wq 1612 (by decide +kernel) (by decide +kernel)), eX9_far⟩, List.forall_mem_cons.mpr ⟨⟨(wq 1624 (by decide +kernel) (by decide +kernel)), eX9_way⟩, List.forall_mem_cons.mpr ⟨⟨(wq 1628 (by decide +kernel) (by decide +kernel)), eX9_person⟩, List.forall_mem_cons.mpr ⟨⟨(wq 1636 (by decide +kernel) (by decide +kernel)), eX9_stranger⟩, List.forall_mem_cons.mpr ⟨⟨(wq 1644 (by decide +kernel) (by decide +kernel)), eX9_tell⟩, List.forall_mem_cons.mpr ⟨⟨(wq 1648 (by decide +kernel) (by decide +kernel)), eX9_day⟩, List.forall_mem_cons.mpr ⟨⟨(wq 1736 (by decide +kernel) (by decide +kernel)), eX9_leads⟩, List.forall_mem_cons.mpr ⟨⟨(wq 1740 (by decide +kernel) (by decide +kernel)), eX9_there⟩, List.forall_mem_cons.mpr ⟨⟨(wq 1744 (by decide +kernel) (by decide +kernel)), eX9_lost⟩, List.forall_mem_cons.mpr ⟨⟨(wq 1748 (by decide +kernel) (by decide +kernel)), eX9_fees⟩, List.forall_mem_cons.mpr ⟨⟨(wq 1752 (by decide +kernel) (by decide +kernel)), eX9_judge⟩, List.forall_mem_cons.mpr ⟨⟨(wq 1760 (by decide +kernel) (by decide +kernel)), eX9_match⟩, List.forall_mem_cons.mpr ⟨⟨(wq 1772 (by decide +kernel) (by decide +kernel)), eX9_matched⟩, List.forall_mem_cons.mpr ⟨⟨(wq 586 (by decide +kernel) (by decide +kernel)), eX8_bound⟩, List.forall_mem_cons.mpr ⟨⟨(wq 1776 (by decide +kernel) (by decide +kernel)), eX9_bound⟩, List.forall_mem_cons.mpr ⟨⟨(wq 1780 (by decide +kernel) (by decide +kernel)), eX9_hand⟩, List.forall_mem_cons.mpr ⟨⟨(wq 1788 (by decide +kernel) (by decide +kernel)), eX9_saves⟩, List.forall_mem_cons.mpr ⟨⟨(wq 614 (by decide +kernel) (by decide +kernel)), eX8_which⟩, List.forall_mem_cons.mpr ⟨⟨(wq 1800 (by decide +kernel) (by decide +kernel)), eX9_which⟩, List.forall_mem_cons.mpr ⟨⟨(wq 1804 (by decide +kernel) (by decide +kernel)), eX9_where⟩, List.forall_mem_cons.mpr ⟨⟨(wq 1816 (by decide +kernel) (by decide +kernel)), eX9_many⟩, List.forall_mem_cons.mpr ⟨⟨(wq 1820 (by decide +kernel) (by decide +kernel)), eX9_corner⟩, List.forall_mem_cons.mpr ⟨⟨(wq 720 (by decide +kernel) (by decide +kernel)), eX8_other⟩, List.forall_mem_cons.mpr ⟨⟨(wq 1828 (by decide +kernel) (by decide +kernel)), eX9_other⟩, List.forall_mem_cons.mpr ⟨⟨(wq 1832 (by decide +kernel) (by decide +kernel)), eX9_rest⟩, List.forall_mem_cons.mpr ⟨⟨(wq 1836 (by decide +kernel) (by decide +kernel)), eX9_avoid⟩, List.forall_mem_cons.mpr ⟨⟨(wq 1840 (by decide +kernel) (by decide +kernel)), eX9_learn⟩, List.forall_mem_cons.mpr ⟨⟨(wq 728 (by decide +kernel) (by decide +kernel)), eX8_soon⟩, List.forall_mem_cons.mpr ⟨⟨(wq 1856 (by decide +kernel) (by decide +kernel)), eX9_soon⟩, List.forall_mem_cons.mpr ⟨⟨(wq 1864 (by decide +kernel) (by decide +kernel)), eX9_seed⟩, List.forall_mem_cons.mpr ⟨⟨(wq 1868 (by decide +kernel) (by decide +kernel)), eX9_mean⟩, List.forall_mem_cons.mpr ⟨⟨(wq 751 (by decide +kernel) (by decide +kernel)), eX8_image⟩, List.forall_mem_cons.mpr ⟨⟨(wq 1872 (by decide +kernel) (by decide +kernel)), eX9_image⟩, List.forall_mem_cons.mpr ⟨⟨(wq 756 (by decide +kernel) (by decide +kernel)), eX8_restore⟩, List.forall_mem_cons.mpr ⟨⟨(wq 1876 (by decide +kernel) (by decide +kernel)), eX9_restore⟩, List.forall_mem_cons.mpr ⟨⟨(wq 760 (by decide +kernel) (by decide +kernel)), eX8_count⟩, List.forall_mem_cons.mpr ⟨⟨(wq 1880 (by decide +kernel) (by decide +kernel)), eX9_count⟩, fun _ h => absurd h List.not_mem_nil⟩⟩⟩⟩⟩⟩⟩⟩⟩⟩⟩⟩⟩⟩⟩⟩⟩⟩⟩⟩⟩⟩⟩⟩⟩⟩⟩⟩⟩⟩⟩⟩⟩⟩⟩⟩⟩⟩⟩⟩⟩⟩⟩⟩⟩⟩⟩⟩⟩⟩⟩⟩⟩⟩⟩⟩⟩⟩⟩⟩⟩⟩⟩⟩⟩⟩⟩⟩⟩
theorem xXL_ok : xOKX RL xXL := ⟨fun _ h => absurd h List.not_mem_nil, fun _ h => absurd h List.not_mem_nil, fun _ h => absurd h List.not_mem_nil, xXL_m⟩
def cd1 (E e : String) : Option Int32 := if e = E then some 1 else none
def cd2 (e : String) : Option Int32 := if e = yNSE then some 1 else if e = yIAE then some 2 else none
theorem lkC13 : Cond.classLink RL 13 yIAE ∈ sTB := (wq 767 (by decide +kernel) (by decide +kernel))
theorem lkC22 : Cond.classLink RL 22 yIOE ∈ sTB := (wq 1013 (by decide +kernel) (by decide +kernel))
theorem lkC31 : Cond.classLink RL 31 yNSE ∈ sTB := (wq 1049 (by decide +kernel) (by decide +kernel))
section
variable {l : Launch} {D : va_G} {b0 : Nat} {ty : Nat → ClassId} {ad av : Nat → Nat}
def tL_town : xCode := [(0, .aload_n 2, 1, 1, []), (1, .iconst 0, 1, 2, []), (2, .aload_n 0, 1, 3, []), (3, .iload_n 1, 1, 4, []), (4, .invokevirtual 7, 3, 7, []), (7, .i2l, 1, 8, []), (8, .lastore, 1, 9, []), (9, .goto 6, 3, 12, [15]), (12, .astore_n 3, 1, 13, []), (13, .iconst 1, 1, 14, []), (14, .ireturn, 1, 15, []), (15, .iconst 0, 1, 16, []), (16, .ireturn, 1, 17, [])]
theorem kL_town : xOK cL_town tL_town = true := by decide +kernel
def wL_town : wM := (yL_town, cL_town, 4, [(0, 9, 12, 13)])
theorem wL_town_w : Cond.codeWith wL_town.1 wL_town.2.1 wL_town.2.2.1 (some .int) wL_town.2.2.2 ∈ sTB := (wq 766 (by decide +kernel) (by decide +kernel))
theorem qL_town : wCat [(0, 9, 12, 13)] 4 (fun e => if e = yIAE then some 12 else none) := by
  intro e h hq
  dsimp only at hq
  split at hq
  · rename_i he
    cases hq
    subst he
    exact ⟨[], ⟨0, 9, 12, 13⟩, [], yIAE, rfl, rfl, rfl, by decide, lkC13, by decide +kernel, fun _ h => absurd h List.not_mem_nil⟩
  · cases hq
theorem l_town (d n0 : Nat) (h0 : n0 ≤ 1) (σ : sMem) (x0 : Int32) (P : List AV → sMem → Prop) (XP : String → sMem → Prop) (h : yMet l D b0 ty ad av lay d n0 mX8_town [aR 34, aI x0] σ P XP) (hP : ∀ r σ', P r σ' → ∃ v, r = [aI v]) (hX : ∀ e σ', XP e σ' → e = yIAE) : wMet l D b0 ty ad av (d + 1) wL_town [aR 34, aI x0, aR 100] σ (wPo P XP (cd1 yIAE)) := by
  refine wMet_intro (cp := 4) rfl kL_town xXL_ok qL_town rfl ?_
  intro K hK
  iterate 4 refine hK _ _ _ _ _ ?_
  refine hK _ _ _ _ _ ?_
  refine Or.inr (Or.inr ⟨1 - n0, n0, by omega, yDX h ?_ ?_⟩)
  · intro r σ1 hp
    obtain ⟨v, rfl⟩ := hP r σ1 hp
    refine hK _ _ _ _ _ ?_
    refine hK _ _ _ _ _ ?_
    refine ⟨vp_in_nI (n := 0) (by decide) (by decide), v, rfl, ?_⟩
    iterate 3 refine hK _ _ _ _ _ ?_
    exact Or.inl ⟨v, σ1, hp, rfl, rfl⟩
  · intro e σ1 hp
    have he := hX e σ1 hp
    subst he
    refine ⟨rfl, 12, if_pos rfl, fun a => ?_⟩
    iterate 3 refine hK _ _ _ _ _ ?_
    exact Or.inr ⟨_, 1, hp, by decide +kernel, rfl⟩
def tL_told : xCode := [(0, .aload_n 2, 1, 1, []), (1, .iconst 0, 1, 2, []), (2, .aload_n 0, 1, 3, []), (3, .iload_n 1, 1, 4, []), (4, .invokevirtual 15, 3, 7, []), (7, .i2l, 1, 8, []), (8, .lastore, 1, 9, []), (9, .goto 6, 3, 12, [15]), (12, .astore_n 3, 1, 13, []), (13, .iconst 1, 1, 14, []), (14, .ireturn, 1, 15, []), (15, .iconst 0, 1, 16, []), (16, .ireturn, 1, 17, [])]
theorem kL_told : xOK cL_told tL_told = true := by decide +kernel
def wL_told : wM := (yL_told, cL_told, 4, [(0, 9, 12, 13)])
theorem wL_told_w : Cond.codeWith wL_told.1 wL_told.2.1 wL_told.2.2.1 (some .int) wL_told.2.2.2 ∈ sTB := (wq 1004 (by decide +kernel) (by decide +kernel))
theorem qL_told : wCat [(0, 9, 12, 13)] 4 (fun e => if e = yIAE then some 12 else none) := by
  intro e h hq
  dsimp only at hq
  split at hq
  · rename_i he
    cases hq
    subst he
    exact ⟨[], ⟨0, 9, 12, 13⟩, [], yIAE, rfl, rfl, rfl, by decide, lkC13, by decide +kernel, fun _ h => absurd h List.not_mem_nil⟩
  · cases hq
theorem l_told (d n0 : Nat) (h0 : n0 ≤ 1) (σ : sMem) (x0 : Int32) (P : List AV → sMem → Prop) (XP : String → sMem → Prop) (h : yMet l D b0 ty ad av lay d n0 mX8_told [aR 34, aI x0] σ P XP) (hP : ∀ r σ', P r σ' → ∃ v, r = [aI v]) (hX : ∀ e σ', XP e σ' → e = yIAE) : wMet l D b0 ty ad av (d + 1) wL_told [aR 34, aI x0, aR 100] σ (wPo P XP (cd1 yIAE)) := by
  refine wMet_intro (cp := 4) rfl kL_told xXL_ok qL_told rfl ?_
  intro K hK
  iterate 4 refine hK _ _ _ _ _ ?_
  refine hK _ _ _ _ _ ?_
  refine Or.inr (Or.inr ⟨1 - n0, n0, by omega, yDX h ?_ ?_⟩)
  · intro r σ1 hp
    obtain ⟨v, rfl⟩ := hP r σ1 hp
    refine hK _ _ _ _ _ ?_
    refine hK _ _ _ _ _ ?_
    refine ⟨vp_in_nI (n := 0) (by decide) (by decide), v, rfl, ?_⟩
    iterate 3 refine hK _ _ _ _ _ ?_
    exact Or.inl ⟨v, σ1, hp, rfl, rfl⟩
  · intro e σ1 hp
    have he := hX e σ1 hp
    subst he
    refine ⟨rfl, 12, if_pos rfl, fun a => ?_⟩
    iterate 3 refine hK _ _ _ _ _ ?_
    exact Or.inr ⟨_, 1, hp, by decide +kernel, rfl⟩
def tL_far : xCode := [(0, .aload_n 3, 1, 1, []), (1, .iconst 0, 1, 2, []), (2, .aload_n 0, 1, 3, []), (3, .iload_n 1, 1, 4, []), (4, .iload_n 2, 1, 5, []), (5, .invokevirtual 18, 3, 8, []), (8, .i2l, 1, 9, []), (9, .lastore, 1, 10, []), (10, .goto 7, 3, 13, [17]), (13, .astore 4, 2, 15, []), (15, .iconst 1, 1, 16, []), (16, .ireturn, 1, 17, []), (17, .iconst 0, 1, 18, []), (18, .ireturn, 1, 19, [])]
theorem kL_far : xOK cL_far tL_far = true := by decide +kernel
def wL_far : wM := (yL_far, cL_far, 5, [(0, 10, 13, 22)])
theorem wL_far_w : Cond.codeWith wL_far.1 wL_far.2.1 wL_far.2.2.1 (some .int) wL_far.2.2.2 ∈ sTB := (wq 1012 (by decide +kernel) (by decide +kernel))
theorem qL_far : wCat [(0, 10, 13, 22)] 5 (fun e => if e = yIOE then some 13 else none) := by
  intro e h hq
  dsimp only at hq
  split at hq
  · rename_i he
    cases hq
    subst he
    exact ⟨[], ⟨0, 10, 13, 22⟩, [], yIOE, rfl, rfl, rfl, by decide, lkC22, by decide +kernel, fun _ h => absurd h List.not_mem_nil⟩
  · cases hq
theorem l_far (d n0 : Nat) (h0 : n0 ≤ 1) (σ : sMem) (x0 x1 : Int32) (P : List AV → sMem → Prop) (XP : String → sMem → Prop) (h : yMet l D b0 ty ad av lay d n0 mX8_far [aR 34, aI x0, aI x1] σ P XP) (hP : ∀ r σ', P r σ' → ∃ v, r = [aI v]) (hX : ∀ e σ', XP e σ' → e = yIOE) : wMet l D b0 ty ad av (d + 1) wL_far [aR 34, aI x0, aI x1, aR 100] σ (wPo P XP (cd1 yIOE)) := by
  refine wMet_intro (cp := 5) rfl kL_far xXL_ok qL_far rfl ?_
  intro K hK
  iterate 5 refine hK _ _ _ _ _ ?_
  refine hK _ _ _ _ _ ?_
  refine Or.inr (Or.inr ⟨1 - n0, n0, by omega, yDX h ?_ ?_⟩)
  · intro r σ1 hp
    obtain ⟨v, rfl⟩ := hP r σ1 hp
    refine hK _ _ _ _ _ ?_
    refine hK _ _ _ _ _ ?_
    refine ⟨vp_in_nI (n := 0) (by decide) (by decide), v, rfl, ?_⟩
    iterate 3 refine hK _ _ _ _ _ ?_
    exact Or.inl ⟨v, σ1, hp, rfl, rfl⟩
  · intro e σ1 hp
    have he := hX e σ1 hp
    subst he
    refine ⟨rfl, 13, if_pos rfl, fun a => ?_⟩
    iterate 3 refine hK _ _ _ _ _ ?_
    exact Or.inr ⟨_, 1, hp, by decide +kernel, rfl⟩
def tL_way : xCode := [(0, .aload 4, 2, 2, []), (2, .iconst 0, 1, 3, []), (3, .aload_n 0, 1, 4, []), (4, .iload_n 1, 1, 5, []), (5, .iload_n 2, 1, 6, []), (6, .iload_n 3, 1, 7, []), (7, .invokevirtual 24, 3, 10, []), (10, .i2l, 1, 11, []), (11, .lastore, 1, 12, []), (12, .goto 7, 3, 15, [19]), (15, .astore 5, 2, 17, []), (17, .iconst 1, 1, 18, []), (18, .ireturn, 1, 19, []), (19, .iconst 0, 1, 20, []), (20, .ireturn, 1, 21, [])]
theorem kL_way : xOK cL_way tL_way = true := by decide +kernel
def wL_way : wM := (yL_way, cL_way, 6, [(0, 12, 15, 22)])
theorem wL_way_w : Cond.codeWith wL_way.1 wL_way.2.1 wL_way.2.2.1 (some .int) wL_way.2.2.2 ∈ sTB := (wq 1041 (by decide +kernel) (by decide +kernel))
theorem qL_way : wCat [(0, 12, 15, 22)] 7 (fun e => if e = yIOE then some 15 else none) := by
  intro e h hq
  dsimp only at hq
  split at hq
  · rename_i he
    cases hq
    subst he
    exact ⟨[], ⟨0, 12, 15, 22⟩, [], yIOE, rfl, rfl, rfl, by decide, lkC22, by decide +kernel, fun _ h => absurd h List.not_mem_nil⟩
  · cases hq
theorem l_way (d n0 : Nat) (h0 : n0 ≤ 1) (σ : sMem) (x0 x1 x2 : Int32) (P : List AV → sMem → Prop) (XP : String → sMem → Prop) (h : yMet l D b0 ty ad av lay d n0 mX8_way [aR 34, aI x0, aI x1, aI x2] σ P XP) (hP : ∀ r σ', P r σ' → ∃ v, r = [aI v]) (hX : ∀ e σ', XP e σ' → e = yIOE) : wMet l D b0 ty ad av (d + 1) wL_way [aR 34, aI x0, aI x1, aI x2, aR 100] σ (wPo P XP (cd1 yIOE)) := by
  refine wMet_intro (cp := 7) rfl kL_way xXL_ok qL_way rfl ?_
  intro K hK
  iterate 6 refine hK _ _ _ _ _ ?_
  refine hK _ _ _ _ _ ?_
  refine Or.inr (Or.inr ⟨1 - n0, n0, by omega, yDX h ?_ ?_⟩)
  · intro r σ1 hp
    obtain ⟨v, rfl⟩ := hP r σ1 hp
    refine hK _ _ _ _ _ ?_
    refine hK _ _ _ _ _ ?_
    refine ⟨vp_in_nI (n := 0) (by decide) (by decide), v, rfl, ?_⟩
    iterate 3 refine hK _ _ _ _ _ ?_
    exact Or.inl ⟨v, σ1, hp, rfl, rfl⟩
  · intro e σ1 hp
    have he := hX e σ1 hp
    subst he
    refine ⟨rfl, 15, if_pos rfl, fun a => ?_⟩
    iterate 3 refine hK _ _ _ _ _ ?_
    exact Or.inr ⟨_, 1, hp, by decide +kernel, rfl⟩
def tL_person : xCode := [(0, .aload_n 3, 1, 1, []), (1, .iconst 0, 1, 2, []), (2, .aload_n 0, 1, 3, []), (3, .iload_n 1, 1, 4, []), (4, .iload_n 2, 1, 5, []), (5, .invokevirtual 28, 3, 8, []), (8, .i2l, 1, 9, []), (9, .lastore, 1, 10, []), (10, .goto 11, 3, 13, [21]), (13, .astore 4, 2, 15, []), (15, .iconst 1, 1, 16, []), (16, .ireturn, 1, 17, []), (17, .astore 4, 2, 19, []), (19, .iconst 2, 1, 20, []), (20, .ireturn, 1, 21, []), (21, .iconst 0, 1, 22, []), (22, .ireturn, 1, 23, [])]
theorem kL_person : xOK cL_person tL_person = true := by decide +kernel
def wL_person : wM := (yL_person, cL_person, 5, [(0, 10, 13, 31), (0, 10, 17, 13)])
theorem wL_person_w : Cond.codeWith wL_person.1 wL_person.2.1 wL_person.2.2.1 (some .int) wL_person.2.2.2 ∈ sTB := (wq 1048 (by decide +kernel) (by decide +kernel))
theorem qL_person : wCat [(0, 10, 13, 31), (0, 10, 17, 13)] 5 (fun e => if e = yNSE then some 13 else if e = yIAE then some 17 else none) := by
  intro e h hq
  dsimp only at hq
  split at hq
  · rename_i he
    cases hq
    subst he
    exact ⟨[], ⟨0, 10, 13, 31⟩, [⟨0, 10, 17, 13⟩], yNSE, rfl, rfl, rfl, by decide, lkC31, by decide +kernel, fun _ h => absurd h List.not_mem_nil⟩
  · split at hq
    · rename_i he
      cases hq
      subst he
      exact ⟨[⟨0, 10, 13, 31⟩], ⟨0, 10, 17, 13⟩, [], yIAE, rfl, rfl, rfl, by decide, lkC13, by decide +kernel, fun z hz => by rw [List.mem_singleton.mp hz]; exact ⟨by decide, lkC31, rfl⟩⟩
    · cases hq
theorem l_person (d n0 : Nat) (h0 : n0 ≤ 1) (σ : sMem) (x0 x1 : Int32) (P : List AV → sMem → Prop) (XP : String → sMem → Prop) (h : yMet l D b0 ty ad av lay d n0 mX8_person [aR 34, aI x0, aI x1] σ P XP) (hP : ∀ r σ', P r σ' → ∃ v, r = [aI v]) (hX : ∀ e σ', XP e σ' → e = yNSE ∨ e = yIAE) : wMet l D b0 ty ad av (d + 1) wL_person [aR 34, aI x0, aI x1, aR 100] σ (wPo P XP cd2) := by
  refine wMet_intro (cp := 5) rfl kL_person xXL_ok qL_person rfl ?_
  intro K hK
  iterate 5 refine hK _ _ _ _ _ ?_
  refine hK _ _ _ _ _ ?_
  refine Or.inr (Or.inr ⟨1 - n0, n0, by omega, yDX h ?_ ?_⟩)
  · intro r σ1 hp
    obtain ⟨v, rfl⟩ := hP r σ1 hp
    refine hK _ _ _ _ _ ?_
    refine hK _ _ _ _ _ ?_
    refine ⟨vp_in_nI (n := 0) (by decide) (by decide), v, rfl, ?_⟩
    iterate 3 refine hK _ _ _ _ _ ?_
    exact Or.inl ⟨v, σ1, hp, rfl, rfl⟩
  · intro e σ1 hp
    rcases hX e σ1 hp with he | he
    · subst he
      refine ⟨rfl, 13, if_pos rfl, fun a => ?_⟩
      iterate 3 refine hK _ _ _ _ _ ?_
      exact Or.inr ⟨_, 1, hp, by decide +kernel, rfl⟩
    · subst he
      refine ⟨rfl, 17, by decide +kernel, fun a => ?_⟩
      iterate 3 refine hK _ _ _ _ _ ?_
      exact Or.inr ⟨_, 2, hp, by decide +kernel, rfl⟩
def tL_stranger : xCode := [(0, .aload_n 3, 1, 1, []), (1, .iconst 0, 1, 2, []), (2, .aload_n 0, 1, 3, []), (3, .iload_n 1, 1, 4, []), (4, .iload_n 2, 1, 5, []), (5, .invokevirtual 33, 3, 8, []), (8, .i2l, 1, 9, []), (9, .lastore, 1, 10, []), (10, .goto 11, 3, 13, [21]), (13, .astore 4, 2, 15, []), (15, .iconst 1, 1, 16, []), (16, .ireturn, 1, 17, []), (17, .astore 4, 2, 19, []), (19, .iconst 2, 1, 20, []), (20, .ireturn, 1, 21, []), (21, .iconst 0, 1, 22, []), (22, .ireturn, 1, 23, [])]
theorem kL_stranger : xOK cL_stranger tL_stranger = true := by decide +kernel
def wL_stranger : wM := (yL_stranger, cL_stranger, 5, [(0, 10, 13, 31), (0, 10, 17, 13)])
theorem wL_stranger_w : Cond.codeWith wL_stranger.1 wL_stranger.2.1 wL_stranger.2.2.1 (some .int) wL_stranger.2.2.2 ∈ sTB := (wq 1078 (by decide +kernel) (by decide +kernel))
theorem qL_stranger : wCat [(0, 10, 13, 31), (0, 10, 17, 13)] 5 (fun e => if e = yNSE then some 13 else if e = yIAE then some 17 else none) := by
  intro e h hq
  dsimp only at hq
  split at hq
  · rename_i he
    cases hq
    subst he
    exact ⟨[], ⟨0, 10, 13, 31⟩, [⟨0, 10, 17, 13⟩], yNSE, rfl, rfl, rfl, by decide, lkC31, by decide +kernel, fun _ h => absurd h List.not_mem_nil⟩
  · split at hq
    · rename_i he
      cases hq
      subst he
      exact ⟨[⟨0, 10, 13, 31⟩], ⟨0, 10, 17, 13⟩, [], yIAE, rfl, rfl, rfl, by decide, lkC13, by decide +kernel, fun z hz => by rw [List.mem_singleton.mp hz]; exact ⟨by decide, lkC31, rfl⟩⟩
    · cases hq
theorem l_stranger (d n0 : Nat) (h0 : n0 ≤ 1) (σ : sMem) (x0 x1 : Int32) (P : List AV → sMem → Prop) (XP : String → sMem → Prop) (h : yMet l D b0 ty ad av lay d n0 mX8_stranger [aR 34, aI x0, aI x1] σ P XP) (hP : ∀ r σ', P r σ' → ∃ v, r = [aI v]) (hX : ∀ e σ', XP e σ' → e = yNSE ∨ e = yIAE) : wMet l D b0 ty ad av (d + 1) wL_stranger [aR 34, aI x0, aI x1, aR 100] σ (wPo P XP cd2) := by
  refine wMet_intro (cp := 5) rfl kL_stranger xXL_ok qL_stranger rfl ?_
  intro K hK
  iterate 5 refine hK _ _ _ _ _ ?_
  refine hK _ _ _ _ _ ?_
  refine Or.inr (Or.inr ⟨1 - n0, n0, by omega, yDX h ?_ ?_⟩)
  · intro r σ1 hp
    obtain ⟨v, rfl⟩ := hP r σ1 hp
    refine hK _ _ _ _ _ ?_
    refine hK _ _ _ _ _ ?_
    refine ⟨vp_in_nI (n := 0) (by decide) (by decide), v, rfl, ?_⟩
    iterate 3 refine hK _ _ _ _ _ ?_
    exact Or.inl ⟨v, σ1, hp, rfl, rfl⟩
  · intro e σ1 hp
    rcases hX e σ1 hp with he | he
    · subst he
      refine ⟨rfl, 13, if_pos rfl, fun a => ?_⟩
      iterate 3 refine hK _ _ _ _ _ ?_
      exact Or.inr ⟨_, 1, hp, by decide +kernel, rfl⟩
    · subst he
      refine ⟨rfl, 17, by decide +kernel, fun a => ?_⟩
      iterate 3 refine hK _ _ _ _ _ ?_
      exact Or.inr ⟨_, 2, hp, by decide +kernel, rfl⟩
def tL_tell : xCode := [(0, .aload_n 3, 1, 1, []), (1, .iconst 0, 1, 2, []), (2, .aload_n 0, 1, 3, []), (3, .iload_n 1, 1, 4, []), (4, .iload_n 2, 1, 5, []), (5, .invokevirtual 36, 3, 8, []), (8, .i2l, 1, 9, []), (9, .lastore, 1, 10, []), (10, .goto 11, 3, 13, [21]), (13, .astore 4, 2, 15, []), (15, .iconst 1, 1, 16, []), (16, .ireturn, 1, 17, []), (17, .astore 4, 2, 19, []), (19, .iconst 2, 1, 20, []), (20, .ireturn, 1, 21, []), (21, .iconst 0, 1, 22, []), (22, .ireturn, 1, 23, [])]
theorem kL_tell : xOK cL_tell tL_tell = true := by decide +kernel
def wL_tell : wM := (yL_tell, cL_tell, 5, [(0, 10, 13, 31), (0, 10, 17, 13)])
theorem wL_tell_w : Cond.codeWith wL_tell.1 wL_tell.2.1 wL_tell.2.2.1 (some .int) wL_tell.2.2.2 ∈ sTB := (wq 1090 (by decide +kernel) (by decide +kernel))
theorem qL_tell : wCat [(0, 10, 13, 31), (0, 10, 17, 13)] 5 (fun e => if e = yNSE then some 13 else if e = yIAE then some 17 else none) := by
  intro e h hq
  dsimp only at hq
  split at hq
  · rename_i he
    cases hq
    subst he
    exact ⟨[], ⟨0, 10, 13, 31⟩, [⟨0, 10, 17, 13⟩], yNSE, rfl, rfl, rfl, by decide, lkC31, by decide +kernel, fun _ h => absurd h List.not_mem_nil⟩
  · split at hq
    · rename_i he
      cases hq
      subst he
      exact ⟨[⟨0, 10, 13, 31⟩], ⟨0, 10, 17, 13⟩, [], yIAE, rfl, rfl, rfl, by decide, lkC13, by decide +kernel, fun z hz => by rw [List.mem_singleton.mp hz]; exact ⟨by decide, lkC31, rfl⟩⟩
    · cases hq
theorem l_tell (d n0 : Nat) (h0 : n0 ≤ 1) (σ : sMem) (x0 x1 : Int32) (P : List AV → sMem → Prop) (XP : String → sMem → Prop) (h : yMet l D b0 ty ad av lay d n0 mX8_tell [aR 34, aI x0, aI x1] σ P XP) (hP : ∀ r σ', P r σ' → ∃ v, r = [aI v]) (hX : ∀ e σ', XP e σ' → e = yNSE ∨ e = yIAE) : wMet l D b0 ty ad av (d + 1) wL_tell [aR 34, aI x0, aI x1, aR 100] σ (wPo P XP cd2) := by
  refine wMet_intro (cp := 5) rfl kL_tell xXL_ok qL_tell rfl ?_
  intro K hK
  iterate 5 refine hK _ _ _ _ _ ?_
  refine hK _ _ _ _ _ ?_
  refine Or.inr (Or.inr ⟨1 - n0, n0, by omega, yDX h ?_ ?_⟩)
  · intro r σ1 hp
    obtain ⟨v, rfl⟩ := hP r σ1 hp
    refine hK _ _ _ _ _ ?_
    refine hK _ _ _ _ _ ?_
    refine ⟨vp_in_nI (n := 0) (by decide) (by decide), v, rfl, ?_⟩
    iterate 3 refine hK _ _ _ _ _ ?_
    exact Or.inl ⟨v, σ1, hp, rfl, rfl⟩
  · intro e σ1 hp
    rcases hX e σ1 hp with he | he
    · subst he
      refine ⟨rfl, 13, if_pos rfl, fun a => ?_⟩
      iterate 3 refine hK _ _ _ _ _ ?_
      exact Or.inr ⟨_, 1, hp, by decide +kernel, rfl⟩
    · subst he
      refine ⟨rfl, 17, by decide +kernel, fun a => ?_⟩
      iterate 3 refine hK _ _ _ _ _ ?_
      exact Or.inr ⟨_, 2, hp, by decide +kernel, rfl⟩
def tL_day : xCode := [(0, .aload_n 3, 1, 1, []), (1, .iconst 0, 1, 2, []), (2, .aload_n 0, 1, 3, []), (3, .iload_n 1, 1, 4, []), (4, .iload_n 2, 1, 5, []), (5, .invokevirtual 39, 3, 8, []), (8, .i2l, 1, 9, []), (9, .lastore, 1, 10, []), (10, .goto 7, 3, 13, [17]), (13, .astore 4, 2, 15, []), (15, .iconst 1, 1, 16, []), (16, .ireturn, 1, 17, []), (17, .iconst 0, 1, 18, []), (18, .ireturn, 1, 19, [])]
theorem kL_day : xOK cL_day tL_day = true := by decide +kernel
def wL_day : wM := (yL_day, cL_day, 5, [(0, 10, 13, 13)])
theorem wL_day_w : Cond.codeWith wL_day.1 wL_day.2.1 wL_day.2.2.1 (some .int) wL_day.2.2.2 ∈ sTB := (wq 1097 (by decide +kernel) (by decide +kernel))
theorem qL_day : wCat [(0, 10, 13, 13)] 5 (fun e => if e = yIAE then some 13 else none) := by
  intro e h hq
  dsimp only at hq
  split at hq
  · rename_i he
    cases hq
    subst he
    exact ⟨[], ⟨0, 10, 13, 13⟩, [], yIAE, rfl, rfl, rfl, by decide, lkC13, by decide +kernel, fun _ h => absurd h List.not_mem_nil⟩
  · cases hq
theorem l_day (d n0 : Nat) (h0 : n0 ≤ 1) (σ : sMem) (x0 x1 : Int32) (P : List AV → sMem → Prop) (XP : String → sMem → Prop) (h : yMet l D b0 ty ad av lay d n0 mX8_day [aR 34, aI x0, aI x1] σ P XP) (hP : ∀ r σ', P r σ' → ∃ v, r = [aI v]) (hX : ∀ e σ', XP e σ' → e = yIAE) : wMet l D b0 ty ad av (d + 1) wL_day [aR 34, aI x0, aI x1, aR 100] σ (wPo P XP (cd1 yIAE)) := by
  refine wMet_intro (cp := 5) rfl kL_day xXL_ok qL_day rfl ?_
  intro K hK
  iterate 5 refine hK _ _ _ _ _ ?_
  refine hK _ _ _ _ _ ?_
  refine Or.inr (Or.inr ⟨1 - n0, n0, by omega, yDX h ?_ ?_⟩)
  · intro r σ1 hp
    obtain ⟨v, rfl⟩ := hP r σ1 hp
    refine hK _ _ _ _ _ ?_
    refine hK _ _ _ _ _ ?_
    refine ⟨vp_in_nI (n := 0) (by decide) (by decide), v, rfl, ?_⟩
    iterate 3 refine hK _ _ _ _ _ ?_
    exact Or.inl ⟨v, σ1, hp, rfl, rfl⟩
  · intro e σ1 hp
    have he := hX e σ1 hp
    subst he
    refine ⟨rfl, 13, if_pos rfl, fun a => ?_⟩
    iterate 3 refine hK _ _ _ _ _ ?_
    exact Or.inr ⟨_, 1, hp, by decide +kernel, rfl⟩
def tL_leads : xCode := [(0, .aload 4, 2, 2, []), (2, .iconst 0, 1, 3, []), (3, .aload_n 0, 1, 4, []), (4, .iload_n 1, 1, 5, []), (5, .iload_n 2, 1, 6, []), (6, .iload_n 3, 1, 7, []), (7, .invokevirtual 42, 3, 10, []), (10, .i2l, 1, 11, []), (11, .lastore, 1, 12, []), (12, .goto 11, 3, 15, [23]), (15, .astore 5, 2, 17, []), (17, .iconst 1, 1, 18, []), (18, .ireturn, 1, 19, []), (19, .astore 5, 2, 21, []), (21, .iconst 2, 1, 22, []), (22, .ireturn, 1, 23, []), (23, .iconst 0, 1, 24, []), (24, .ireturn, 1, 25, [])]
theorem kL_leads : xOK cL_leads tL_leads = true := by decide +kernel
def wL_leads : wM := (yL_leads, cL_leads, 6, [(0, 12, 15, 31), (0, 12, 19, 13)])
theorem wL_leads_w : Cond.codeWith wL_leads.1 wL_leads.2.1 wL_leads.2.2.1 (some .int) wL_leads.2.2.2 ∈ sTB := (wq 1127 (by decide +kernel) (by decide +kernel))
theorem qL_leads : wCat [(0, 12, 15, 31), (0, 12, 19, 13)] 7 (fun e => if e = yNSE then some 15 else if e = yIAE then some 19 else none) := by
  intro e h hq
  dsimp only at hq
  split at hq
  · rename_i he
    cases hq
    subst he
    exact ⟨[], ⟨0, 12, 15, 31⟩, [⟨0, 12, 19, 13⟩], yNSE, rfl, rfl, rfl, by decide, lkC31, by decide +kernel, fun _ h => absurd h List.not_mem_nil⟩
  · split at hq
    · rename_i he
      cases hq
      subst he
      exact ⟨[⟨0, 12, 15, 31⟩], ⟨0, 12, 19, 13⟩, [], yIAE, rfl, rfl, rfl, by decide, lkC13, by decide +kernel, fun z hz => by rw [List.mem_singleton.mp hz]; exact ⟨by decide, lkC31, rfl⟩⟩
    · cases hq
theorem l_leads (d n0 : Nat) (h0 : n0 ≤ 1) (σ : sMem) (x0 x1 x2 : Int32) (P : List AV → sMem → Prop) (XP : String → sMem → Prop) (h : yMet l D b0 ty ad av lay d n0 mX8_leads [aR 34, aI x0, aI x1, aI x2] σ P XP) (hP : ∀ r σ', P r σ' → ∃ v, r = [aI v]) (hX : ∀ e σ', XP e σ' → e = yNSE ∨ e = yIAE) : wMet l D b0 ty ad av (d + 1) wL_leads [aR 34, aI x0, aI x1, aI x2, aR 100] σ (wPo P XP cd2) := by
  refine wMet_intro (cp := 7) rfl kL_leads xXL_ok qL_leads rfl ?_
  intro K hK
  iterate 6 refine hK _ _ _ _ _ ?_
  refine hK _ _ _ _ _ ?_
  refine Or.inr (Or.inr ⟨1 - n0, n0, by omega, yDX h ?_ ?_⟩)
  · intro r σ1 hp
    obtain ⟨v, rfl⟩ := hP r σ1 hp
    refine hK _ _ _ _ _ ?_
    refine hK _ _ _ _ _ ?_
    refine ⟨vp_in_nI (n := 0) (by decide) (by decide), v, rfl, ?_⟩
    iterate 3 refine hK _ _ _ _ _ ?_
    exact Or.inl ⟨v, σ1, hp, rfl, rfl⟩
  · intro e σ1 hp
    rcases hX e σ1 hp with he | he
    · subst he
      refine ⟨rfl, 15, if_pos rfl, fun a => ?_⟩
      iterate 3 refine hK _ _ _ _ _ ?_
      exact Or.inr ⟨_, 1, hp, by decide +kernel, rfl⟩
    · subst he
      refine ⟨rfl, 19, by decide +kernel, fun a => ?_⟩
      iterate 3 refine hK _ _ _ _ _ ?_
      exact Or.inr ⟨_, 2, hp, by decide +kernel, rfl⟩
def tL_there : xCode := [(0, .aload_n 3, 1, 1, []), (1, .iconst 0, 1, 2, []), (2, .aload_n 0, 1, 3, []), (3, .iload_n 1, 1, 4, []), (4, .iload_n 2, 1, 5, []), (5, .invokevirtual 45, 3, 8, []), (8, .i2l, 1, 9, []), (9, .lastore, 1, 10, []), (10, .goto 11, 3, 13, [21]), (13, .astore 4, 2, 15, []), (15, .iconst 1, 1, 16, []), (16, .ireturn, 1, 17, []), (17, .astore 4, 2, 19, []), (19, .iconst 2, 1, 20, []), (20, .ireturn, 1, 21, []), (21, .iconst 0, 1, 22, []), (22, .ireturn, 1, 23, [])]
theorem kL_there : xOK cL_there tL_there = true := by decide +kernel
def wL_there : wM := (yL_there, cL_there, 5, [(0, 10, 13, 31), (0, 10, 17, 13)])
theorem wL_there_w : Cond.codeWith wL_there.1 wL_there.2.1 wL_there.2.2.1 (some .int) wL_there.2.2.2 ∈ sTB := (wq 1134 (by decide +kernel) (by decide +kernel))
theorem qL_there : wCat [(0, 10, 13, 31), (0, 10, 17, 13)] 5 (fun e => if e = yNSE then some 13 else if e = yIAE then some 17 else none) := by
  intro e h hq
  dsimp only at hq
  split at hq
  · rename_i he
    cases hq
    subst he
    exact ⟨[], ⟨0, 10, 13, 31⟩, [⟨0, 10, 17, 13⟩], yNSE, rfl, rfl, rfl, by decide, lkC31, by decide +kernel, fun _ h => absurd h List.not_mem_nil⟩
  · split at hq
    · rename_i he
      cases hq
      subst he
      exact ⟨[⟨0, 10, 13, 31⟩], ⟨0, 10, 17, 13⟩, [], yIAE, rfl, rfl, rfl, by decide, lkC13, by decide +kernel, fun z hz => by rw [List.mem_singleton.mp hz]; exact ⟨by decide, lkC31, rfl⟩⟩
    · cases hq
theorem l_there (d n0 : Nat) (h0 : n0 ≤ 1) (σ : sMem) (x0 x1 : Int32) (P : List AV → sMem → Prop) (XP : String → sMem → Prop) (h : yMet l D b0 ty ad av lay d n0 mX8_there [aR 34, aI x0, aI x1] σ P XP) (hP : ∀ r σ', P r σ' → ∃ v, r = [aI v]) (hX : ∀ e σ', XP e σ' → e = yNSE ∨ e = yIAE) : wMet l D b0 ty ad av (d + 1) wL_there [aR 34, aI x0, aI x1, aR 100] σ (wPo P XP cd2) := by
  refine wMet_intro (cp := 5) rfl kL_there xXL_ok qL_there rfl ?_
  intro K hK
  iterate 5 refine hK _ _ _ _ _ ?_
  refine hK _ _ _ _ _ ?_
  refine Or.inr (Or.inr ⟨1 - n0, n0, by omega, yDX h ?_ ?_⟩)
  · intro r σ1 hp
    obtain ⟨v, rfl⟩ := hP r σ1 hp
    refine hK _ _ _ _ _ ?_
    refine hK _ _ _ _ _ ?_
    refine ⟨vp_in_nI (n := 0) (by decide) (by decide), v, rfl, ?_⟩
    iterate 3 refine hK _ _ _ _ _ ?_
    exact Or.inl ⟨v, σ1, hp, rfl, rfl⟩
  · intro e σ1 hp
    rcases hX e σ1 hp with he | he
    · subst he
      refine ⟨rfl, 13, if_pos rfl, fun a => ?_⟩
      iterate 3 refine hK _ _ _ _ _ ?_
      exact Or.inr ⟨_, 1, hp, by decide +kernel, rfl⟩
    · subst he
      refine ⟨rfl, 17, by decide +kernel, fun a => ?_⟩
      iterate 3 refine hK _ _ _ _ _ ?_
      exact Or.inr ⟨_, 2, hp, by decide +kernel, rfl⟩
def tL_lost : xCode := [(0, .aload_n 3, 1, 1, []), (1, .iconst 0, 1, 2, []), (2, .aload_n 0, 1, 3, []), (3, .iload_n 1, 1, 4, []), (4, .iload_n 2, 1, 5, []), (5, .invokevirtual 48, 3, 8, []), (8, .i2l, 1, 9, []), (9, .lastore, 1, 10, []), (10, .goto 11, 3, 13, [21]), (13, .astore 4, 2, 15, []), (15, .iconst 1, 1, 16, []), (16, .ireturn, 1, 17, []), (17, .astore 4, 2, 19, []), (19, .iconst 2, 1, 20, []), (20, .ireturn, 1, 21, []), (21, .iconst 0, 1, 22, []), (22, .ireturn, 1, 23, [])]
theorem kL_lost : xOK cL_lost tL_lost = true := by decide +kernel
def wL_lost : wM := (yL_lost, cL_lost, 5, [(0, 10, 13, 31), (0, 10, 17, 13)])
theorem wL_lost_w : Cond.codeWith wL_lost.1 wL_lost.2.1 wL_lost.2.2.1 (some .int) wL_lost.2.2.2 ∈ sTB := (wq 1141 (by decide +kernel) (by decide +kernel))
theorem qL_lost : wCat [(0, 10, 13, 31), (0, 10, 17, 13)] 5 (fun e => if e = yNSE then some 13 else if e = yIAE then some 17 else none) := by
  intro e h hq
  dsimp only at hq
  split at hq
  · rename_i he
    cases hq
    subst he
    exact ⟨[], ⟨0, 10, 13, 31⟩, [⟨0, 10, 17, 13⟩], yNSE, rfl, rfl, rfl, by decide, lkC31, by decide +kernel, fun _ h => absurd h List.not_mem_nil⟩
  · split at hq
    · rename_i he
      cases hq
      subst he
      exact ⟨[⟨0, 10, 13, 31⟩], ⟨0, 10, 17, 13⟩, [], yIAE, rfl, rfl, rfl, by decide, lkC13, by decide +kernel, fun z hz => by rw [List.mem_singleton.mp hz]; exact ⟨by decide, lkC31, rfl⟩⟩
    · cases hq
theorem l_lost (d n0 : Nat) (h0 : n0 ≤ 1) (σ : sMem) (x0 x1 : Int32) (P : List AV → sMem → Prop) (XP : String → sMem → Prop) (h : yMet l D b0 ty ad av lay d n0 mX8_lost [aR 34, aI x0, aI x1] σ P XP) (hP : ∀ r σ', P r σ' → ∃ v, r = [aI v]) (hX : ∀ e σ', XP e σ' → e = yNSE ∨ e = yIAE) : wMet l D b0 ty ad av (d + 1) wL_lost [aR 34, aI x0, aI x1, aR 100] σ (wPo P XP cd2) := by
  refine wMet_intro (cp := 5) rfl kL_lost xXL_ok qL_lost rfl ?_
  intro K hK
  iterate 5 refine hK _ _ _ _ _ ?_
  refine hK _ _ _ _ _ ?_
  refine Or.inr (Or.inr ⟨1 - n0, n0, by omega, yDX h ?_ ?_⟩)
  · intro r σ1 hp
    obtain ⟨v, rfl⟩ := hP r σ1 hp
    refine hK _ _ _ _ _ ?_
    refine hK _ _ _ _ _ ?_
    refine ⟨vp_in_nI (n := 0) (by decide) (by decide), v, rfl, ?_⟩
    iterate 3 refine hK _ _ _ _ _ ?_
    exact Or.inl ⟨v, σ1, hp, rfl, rfl⟩
  · intro e σ1 hp
    rcases hX e σ1 hp with he | he
    · subst he
      refine ⟨rfl, 13, if_pos rfl, fun a => ?_⟩
      iterate 3 refine hK _ _ _ _ _ ?_
      exact Or.inr ⟨_, 1, hp, by decide +kernel, rfl⟩
    · subst he
      refine ⟨rfl, 17, by decide +kernel, fun a => ?_⟩
      iterate 3 refine hK _ _ _ _ _ ?_
      exact Or.inr ⟨_, 2, hp, by decide +kernel, rfl⟩
def tL_fees : xCode := [(0, .aload_n 2, 1, 1, []), (1, .iconst 0, 1, 2, []), (2, .aload_n 0, 1, 3, []), (3, .iload_n 1, 1, 4, []), (4, .invokevirtual 51, 3, 7, []), (7, .i2l, 1, 8, []), (8, .lastore, 1, 9, []), (9, .goto 6, 3, 12, [15]), (12, .astore_n 3, 1, 13, []), (13, .iconst 1, 1, 14, []), (14, .ireturn, 1, 15, []), (15, .iconst 0, 1, 16, []), (16, .ireturn, 1, 17, [])]
theorem kL_fees : xOK cL_fees tL_fees = true := by decide +kernel
def wL_fees : wM := (yL_fees, cL_fees, 4, [(0, 9, 12, 13)])
theorem wL_fees_w : Cond.codeWith wL_fees.1 wL_fees.2.1 wL_fees.2.2.1 (some .int) wL_fees.2.2.2 ∈ sTB := (wq 1149 (by decide +kernel) (by decide +kernel))
theorem qL_fees : wCat [(0, 9, 12, 13)] 4 (fun e => if e = yIAE then some 12 else none) := by
  intro e h hq
  dsimp only at hq
  split at hq
  · rename_i he
    cases hq
    subst he
    exact ⟨[], ⟨0, 9, 12, 13⟩, [], yIAE, rfl, rfl, rfl, by decide, lkC13, by decide +kernel, fun _ h => absurd h List.not_mem_nil⟩
  · cases hq
theorem l_fees (d n0 : Nat) (h0 : n0 ≤ 1) (σ : sMem) (x0 : Int32) (P : List AV → sMem → Prop) (XP : String → sMem → Prop) (h : yMet l D b0 ty ad av lay d n0 mX8_fees [aR 34, aI x0] σ P XP) (hP : ∀ r σ', P r σ' → ∃ v, r = [aI v]) (hX : ∀ e σ', XP e σ' → e = yIAE) : wMet l D b0 ty ad av (d + 1) wL_fees [aR 34, aI x0, aR 100] σ (wPo P XP (cd1 yIAE)) := by
  refine wMet_intro (cp := 4) rfl kL_fees xXL_ok qL_fees rfl ?_
  intro K hK
  iterate 4 refine hK _ _ _ _ _ ?_
  refine hK _ _ _ _ _ ?_
  refine Or.inr (Or.inr ⟨1 - n0, n0, by omega, yDX h ?_ ?_⟩)
  · intro r σ1 hp
    obtain ⟨v, rfl⟩ := hP r σ1 hp
    refine hK _ _ _ _ _ ?_
    refine hK _ _ _ _ _ ?_
    refine ⟨vp_in_nI (n := 0) (by decide) (by decide), v, rfl, ?_⟩
    iterate 3 refine hK _ _ _ _ _ ?_
    exact Or.inl ⟨v, σ1, hp, rfl, rfl⟩
  · intro e σ1 hp
    have he := hX e σ1 hp
    subst he
    refine ⟨rfl, 12, if_pos rfl, fun a => ?_⟩
    iterate 3 refine hK _ _ _ _ _ ?_
    exact Or.inr ⟨_, 1, hp, by decide +kernel, rfl⟩
def tL_judge : xCode := [(0, .aload_n 2, 1, 1, []), (1, .iconst 0, 1, 2, []), (2, .aload_n 0, 1, 3, []), (3, .iload_n 1, 1, 4, []), (4, .invokevirtual 54, 3, 7, []), (7, .i2l, 1, 8, []), (8, .lastore, 1, 9, []), (9, .goto 6, 3, 12, [15]), (12, .astore_n 3, 1, 13, []), (13, .iconst 1, 1, 14, []), (14, .ireturn, 1, 15, []), (15, .iconst 0, 1, 16, []), (16, .ireturn, 1, 17, [])]
theorem kL_judge : xOK cL_judge tL_judge = true := by decide +kernel
def wL_judge : wM := (yL_judge, cL_judge, 4, [(0, 9, 12, 13)])
theorem wL_judge_w : Cond.codeWith wL_judge.1 wL_judge.2.1 wL_judge.2.2.1 (some .int) wL_judge.2.2.2 ∈ sTB := (wq 1156 (by decide +kernel) (by decide +kernel))
theorem qL_judge : wCat [(0, 9, 12, 13)] 4 (fun e => if e = yIAE then some 12 else none) := by
  intro e h hq
  dsimp only at hq
  split at hq
  · rename_i he
    cases hq
    subst he
    exact ⟨[], ⟨0, 9, 12, 13⟩, [], yIAE, rfl, rfl, rfl, by decide, lkC13, by decide +kernel, fun _ h => absurd h List.not_mem_nil⟩
  · cases hq
theorem l_judge (d n0 : Nat) (h0 : n0 ≤ 1) (σ : sMem) (x0 : Int32) (P : List AV → sMem → Prop) (XP : String → sMem → Prop) (h : yMet l D b0 ty ad av lay d n0 mX8_judge [aR 34, aI x0] σ P XP) (hP : ∀ r σ', P r σ' → ∃ v, r = [aI v]) (hX : ∀ e σ', XP e σ' → e = yIAE) : wMet l D b0 ty ad av (d + 1) wL_judge [aR 34, aI x0, aR 100] σ (wPo P XP (cd1 yIAE)) := by
  refine wMet_intro (cp := 4) rfl kL_judge xXL_ok qL_judge rfl ?_
  intro K hK
  iterate 4 refine hK _ _ _ _ _ ?_
  refine hK _ _ _ _ _ ?_
  refine Or.inr (Or.inr ⟨1 - n0, n0, by omega, yDX h ?_ ?_⟩)
  · intro r σ1 hp
    obtain ⟨v, rfl⟩ := hP r σ1 hp
    refine hK _ _ _ _ _ ?_
    refine hK _ _ _ _ _ ?_
    refine ⟨vp_in_nI (n := 0) (by decide) (by decide), v, rfl, ?_⟩
    iterate 3 refine hK _ _ _ _ _ ?_
    exact Or.inl ⟨v, σ1, hp, rfl, rfl⟩
  · intro e σ1 hp
    have he := hX e σ1 hp
    subst he
    refine ⟨rfl, 12, if_pos rfl, fun a => ?_⟩
    iterate 3 refine hK _ _ _ _ _ ?_
    exact Or.inr ⟨_, 1, hp, by decide +kernel, rfl⟩
def tL_match : xCode := [(0, .aload_n 2, 1, 1, []), (1, .iconst 0, 1, 2, []), (2, .aload_n 0, 1, 3, []), (3, .iload_n 1, 1, 4, []), (4, .invokevirtual 57, 3, 7, []), (7, .i2l, 1, 8, []), (8, .lastore, 1, 9, []), (9, .goto 6, 3, 12, [15]), (12, .astore_n 3, 1, 13, []), (13, .iconst 1, 1, 14, []), (14, .ireturn, 1, 15, []), (15, .iconst 0, 1, 16, []), (16, .ireturn, 1, 17, [])]
theorem kL_match : xOK cL_match tL_match = true := by decide +kernel
def wL_match : wM := (yL_match, cL_match, 4, [(0, 9, 12, 13)])
theorem wL_match_w : Cond.codeWith wL_match.1 wL_match.2.1 wL_match.2.2.1 (some .int) wL_match.2.2.2 ∈ sTB := (wq 1168 (by decide +kernel) (by decide +kernel))
theorem qL_match : wCat [(0, 9, 12, 13)] 4 (fun e => if e = yIAE then some 12 else none) := by
  intro e h hq
  dsimp only at hq
  split at hq
  · rename_i he
    cases hq
    subst he
    exact ⟨[], ⟨0, 9, 12, 13⟩, [], yIAE, rfl, rfl, rfl, by decide, lkC13, by decide +kernel, fun _ h => absurd h List.not_mem_nil⟩
  · cases hq
theorem l_match (d n0 : Nat) (h0 : n0 ≤ 1) (σ : sMem) (x0 : Int32) (P : List AV → sMem → Prop) (XP : String → sMem → Prop) (h : yMet l D b0 ty ad av lay d n0 mX8_match [aR 34, aI x0] σ P XP) (hP : ∀ r σ', P r σ' → ∃ v, r = [aI v]) (hX : ∀ e σ', XP e σ' → e = yIAE) : wMet l D b0 ty ad av (d + 1) wL_match [aR 34, aI x0, aR 100] σ (wPo P XP (cd1 yIAE)) := by
  refine wMet_intro (cp := 4) rfl kL_match xXL_ok qL_match rfl ?_
  intro K hK
  iterate 4 refine hK _ _ _ _ _ ?_
  refine hK _ _ _ _ _ ?_
  refine Or.inr (Or.inr ⟨1 - n0, n0, by omega, yDX h ?_ ?_⟩)
  · intro r σ1 hp
    obtain ⟨v, rfl⟩ := hP r σ1 hp
    refine hK _ _ _ _ _ ?_
    refine hK _ _ _ _ _ ?_
    refine ⟨vp_in_nI (n := 0) (by decide) (by decide), v, rfl, ?_⟩
    iterate 3 refine hK _ _ _ _ _ ?_
    exact Or.inl ⟨v, σ1, hp, rfl, rfl⟩
  · intro e σ1 hp
    have he := hX e σ1 hp
    subst he
    refine ⟨rfl, 12, if_pos rfl, fun a => ?_⟩
    iterate 3 refine hK _ _ _ _ _ ?_
    exact Or.inr ⟨_, 1, hp, by decide +kernel, rfl⟩
def tL_matched : xCode := [(0, .aload_n 2, 1, 1, []), (1, .iconst 0, 1, 2, []), (2, .aload_n 0, 1, 3, []), (3, .iload_n 1, 1, 4, []), (4, .invokevirtual 60, 3, 7, []), (7, .i2l, 1, 8, []), (8, .lastore, 1, 9, []), (9, .goto 6, 3, 12, [15]), (12, .astore_n 3, 1, 13, []), (13, .iconst 1, 1, 14, []), (14, .ireturn, 1, 15, []), (15, .iconst 0, 1, 16, []), (16, .ireturn, 1, 17, [])]
theorem kL_matched : xOK cL_matched tL_matched = true := by decide +kernel
def wL_matched : wM := (yL_matched, cL_matched, 4, [(0, 9, 12, 31)])
theorem wL_matched_w : Cond.codeWith wL_matched.1 wL_matched.2.1 wL_matched.2.2.1 (some .int) wL_matched.2.2.2 ∈ sTB := (wq 1205 (by decide +kernel) (by decide +kernel))
theorem qL_matched : wCat [(0, 9, 12, 31)] 4 (fun e => if e = yNSE then some 12 else none) := by
  intro e h hq
  dsimp only at hq
  split at hq
  · rename_i he
    cases hq
    subst he
    exact ⟨[], ⟨0, 9, 12, 31⟩, [], yNSE, rfl, rfl, rfl, by decide, lkC31, by decide +kernel, fun _ h => absurd h List.not_mem_nil⟩
  · cases hq
theorem l_matched (d n0 : Nat) (h0 : n0 ≤ 1) (σ : sMem) (x0 : Int32) (P : List AV → sMem → Prop) (XP : String → sMem → Prop) (h : yMet l D b0 ty ad av lay d n0 mX8_matched [aR 34, aI x0] σ P XP) (hP : ∀ r σ', P r σ' → ∃ v, r = [aI v]) (hX : ∀ e σ', XP e σ' → e = yNSE) : wMet l D b0 ty ad av (d + 1) wL_matched [aR 34, aI x0, aR 100] σ (wPo P XP (cd1 yNSE)) := by
  refine wMet_intro (cp := 4) rfl kL_matched xXL_ok qL_matched rfl ?_
  intro K hK
  iterate 4 refine hK _ _ _ _ _ ?_
  refine hK _ _ _ _ _ ?_
  refine Or.inr (Or.inr ⟨1 - n0, n0, by omega, yDX h ?_ ?_⟩)
  · intro r σ1 hp
    obtain ⟨v, rfl⟩ := hP r σ1 hp
    refine hK _ _ _ _ _ ?_
    refine hK _ _ _ _ _ ?_
    refine ⟨vp_in_nI (n := 0) (by decide) (by decide), v, rfl, ?_⟩
    iterate 3 refine hK _ _ _ _ _ ?_
    exact Or.inl ⟨v, σ1, hp, rfl, rfl⟩
  · intro e σ1 hp
    have he := hX e σ1 hp
    subst he
    refine ⟨rfl, 12, if_pos rfl, fun a => ?_⟩
    iterate 3 refine hK _ _ _ _ _ ?_
    exact Or.inr ⟨_, 1, hp, by decide +kernel, rfl⟩
def tL_hand : xCode := [(0, .aload 4, 2, 2, []), (2, .iconst 0, 1, 3, []), (3, .aload_n 0, 1, 4, []), (4, .iload_n 1, 1, 5, []), (5, .iload_n 2, 1, 6, []), (6, .iload_n 3, 1, 7, []), (7, .invokevirtual 63, 3, 10, []), (10, .i2l, 1, 11, []), (11, .lastore, 1, 12, []), (12, .goto 11, 3, 15, [23]), (15, .astore 5, 2, 17, []), (17, .iconst 1, 1, 18, []), (18, .ireturn, 1, 19, []), (19, .astore 5, 2, 21, []), (21, .iconst 2, 1, 22, []), (22, .ireturn, 1, 23, []), (23, .iconst 0, 1, 24, []), (24, .ireturn, 1, 25, [])]
theorem kL_hand : xOK cL_hand tL_hand = true := by decide +kernel
def wL_hand : wM := (yL_hand, cL_hand, 6, [(0, 12, 15, 31), (0, 12, 19, 13)])
theorem wL_hand_w : Cond.codeWith wL_hand.1 wL_hand.2.1 wL_hand.2.2.1 (some .int) wL_hand.2.2.2 ∈ sTB := (wq 1212 (by decide +kernel) (by decide +kernel))
theorem qL_hand : wCat [(0, 12, 15, 31), (0, 12, 19, 13)] 7 (fun e => if e = yNSE then some 15 else if e = yIAE then some 19 else none) := by
  intro e h hq
  dsimp only at hq
  split at hq
  · rename_i he
    cases hq
    subst he
    exact ⟨[], ⟨0, 12, 15, 31⟩, [⟨0, 12, 19, 13⟩], yNSE, rfl, rfl, rfl, by decide, lkC31, by decide +kernel, fun _ h => absurd h List.not_mem_nil⟩
  · split at hq
    · rename_i he
      cases hq
      subst he
      exact ⟨[⟨0, 12, 15, 31⟩], ⟨0, 12, 19, 13⟩, [], yIAE, rfl, rfl, rfl, by decide, lkC13, by decide +kernel, fun z hz => by rw [List.mem_singleton.mp hz]; exact ⟨by decide, lkC31, rfl⟩⟩
    · cases hq
theorem l_hand (d n0 : Nat) (h0 : n0 ≤ 1) (σ : sMem) (x0 x1 x2 : Int32) (P : List AV → sMem → Prop) (XP : String → sMem → Prop) (h : yMet l D b0 ty ad av lay d n0 mX8_hand [aR 34, aI x0, aI x1, aI x2] σ P XP) (hP : ∀ r σ', P r σ' → ∃ v, r = [aI v]) (hX : ∀ e σ', XP e σ' → e = yNSE ∨ e = yIAE) : wMet l D b0 ty ad av (d + 1) wL_hand [aR 34, aI x0, aI x1, aI x2, aR 100] σ (wPo P XP cd2) := by
  refine wMet_intro (cp := 7) rfl kL_hand xXL_ok qL_hand rfl ?_
  intro K hK
  iterate 6 refine hK _ _ _ _ _ ?_
  refine hK _ _ _ _ _ ?_
  refine Or.inr (Or.inr ⟨1 - n0, n0, by omega, yDX h ?_ ?_⟩)
  · intro r σ1 hp
    obtain ⟨v, rfl⟩ := hP r σ1 hp
    refine hK _ _ _ _ _ ?_
    refine hK _ _ _ _ _ ?_
    refine ⟨vp_in_nI (n := 0) (by decide) (by decide), v, rfl, ?_⟩
    iterate 3 refine hK _ _ _ _ _ ?_
    exact Or.inl ⟨v, σ1, hp, rfl, rfl⟩
  · intro e σ1 hp
    rcases hX e σ1 hp with he | he
    · subst he
      refine ⟨rfl, 15, if_pos rfl, fun a => ?_⟩
      iterate 3 refine hK _ _ _ _ _ ?_
      exact Or.inr ⟨_, 1, hp, by decide +kernel, rfl⟩
    · subst he
      refine ⟨rfl, 19, by decide +kernel, fun a => ?_⟩
      iterate 3 refine hK _ _ _ _ _ ?_
      exact Or.inr ⟨_, 2, hp, by decide +kernel, rfl⟩
def tL_saves : xCode := [(0, .aload_n 2, 1, 1, []), (1, .iconst 0, 1, 2, []), (2, .aload_n 0, 1, 3, []), (3, .iload_n 1, 1, 4, []), (4, .invokevirtual 66, 3, 7, []), (7, .i2l, 1, 8, []), (8, .lastore, 1, 9, []), (9, .goto 6, 3, 12, [15]), (12, .astore_n 3, 1, 13, []), (13, .iconst 1, 1, 14, []), (14, .ireturn, 1, 15, []), (15, .iconst 0, 1, 16, []), (16, .ireturn, 1, 17, [])]
theorem kL_saves : xOK cL_saves tL_saves = true := by decide +kernel
def wL_saves : wM := (yL_saves, cL_saves, 4, [(0, 9, 12, 22)])
theorem wL_saves_w : Cond.codeWith wL_saves.1 wL_saves.2.1 wL_saves.2.2.1 (some .int) wL_saves.2.2.2 ∈ sTB := (wq 1241 (by decide +kernel) (by decide +kernel))
theorem qL_saves : wCat [(0, 9, 12, 22)] 4 (fun e => if e = yIOE then some 12 else none) := by
  intro e h hq
  dsimp only at hq
  split at hq
  · rename_i he
    cases hq
    subst he
    exact ⟨[], ⟨0, 9, 12, 22⟩, [], yIOE, rfl, rfl, rfl, by decide, lkC22, by decide +kernel, fun _ h => absurd h List.not_mem_nil⟩
  · cases hq
theorem l_saves (d n0 : Nat) (h0 : n0 ≤ 1) (σ : sMem) (x0 : Int32) (P : List AV → sMem → Prop) (XP : String → sMem → Prop) (h : yMet l D b0 ty ad av lay d n0 mX8_saves [aR 34, aI x0] σ P XP) (hP : ∀ r σ', P r σ' → ∃ v, r = [aI v]) (hX : ∀ e σ', XP e σ' → e = yIOE) : wMet l D b0 ty ad av (d + 1) wL_saves [aR 34, aI x0, aR 100] σ (wPo P XP (cd1 yIOE)) := by
  refine wMet_intro (cp := 4) rfl kL_saves xXL_ok qL_saves rfl ?_
  intro K hK
  iterate 4 refine hK _ _ _ _ _ ?_
  refine hK _ _ _ _ _ ?_
  refine Or.inr (Or.inr ⟨1 - n0, n0, by omega, yDX h ?_ ?_⟩)
  · intro r σ1 hp
    obtain ⟨v, rfl⟩ := hP r σ1 hp
    refine hK _ _ _ _ _ ?_
    refine hK _ _ _ _ _ ?_
    refine ⟨vp_in_nI (n := 0) (by decide) (by decide), v, rfl, ?_⟩
    iterate 3 refine hK _ _ _ _ _ ?_
    exact Or.inl ⟨v, σ1, hp, rfl, rfl⟩
  · intro e σ1 hp
    have he := hX e σ1 hp
    subst he
    refine ⟨rfl, 12, if_pos rfl, fun a => ?_⟩
    iterate 3 refine hK _ _ _ _ _ ?_
    exact Or.inr ⟨_, 1, hp, by decide +kernel, rfl⟩
def tL_where : xCode := [(0, .aload_n 3, 1, 1, []), (1, .iconst 0, 1, 2, []), (2, .aload_n 0, 1, 3, []), (3, .iload_n 1, 1, 4, []), (4, .iload_n 2, 1, 5, []), (5, .invokevirtual 69, 3, 8, []), (8, .i2l, 1, 9, []), (9, .lastore, 1, 10, []), (10, .goto 7, 3, 13, [17]), (13, .astore 4, 2, 15, []), (15, .iconst 1, 1, 16, []), (16, .ireturn, 1, 17, []), (17, .iconst 0, 1, 18, []), (18, .ireturn, 1, 19, [])]
theorem kL_where : xOK cL_where tL_where = true := by decide +kernel
def wL_where : wM := (yL_where, cL_where, 5, [(0, 10, 13, 13)])
theorem wL_where_w : Cond.codeWith wL_where.1 wL_where.2.1 wL_where.2.2.1 (some .int) wL_where.2.2.2 ∈ sTB := (wq 1252 (by decide +kernel) (by decide +kernel))
theorem qL_where : wCat [(0, 10, 13, 13)] 5 (fun e => if e = yIAE then some 13 else none) := by
  intro e h hq
  dsimp only at hq
  split at hq
  · rename_i he
    cases hq
    subst he
    exact ⟨[], ⟨0, 10, 13, 13⟩, [], yIAE, rfl, rfl, rfl, by decide, lkC13, by decide +kernel, fun _ h => absurd h List.not_mem_nil⟩
  · cases hq
theorem l_where (d n0 : Nat) (h0 : n0 ≤ 1) (σ : sMem) (x0 x1 : Int32) (P : List AV → sMem → Prop) (XP : String → sMem → Prop) (h : yMet l D b0 ty ad av lay d n0 mX8_where [aR 34, aI x0, aI x1] σ P XP) (hP : ∀ r σ', P r σ' → ∃ v, r = [aI v]) (hX : ∀ e σ', XP e σ' → e = yIAE) : wMet l D b0 ty ad av (d + 1) wL_where [aR 34, aI x0, aI x1, aR 100] σ (wPo P XP (cd1 yIAE)) := by
  refine wMet_intro (cp := 5) rfl kL_where xXL_ok qL_where rfl ?_
  intro K hK
  iterate 5 refine hK _ _ _ _ _ ?_
  refine hK _ _ _ _ _ ?_
  refine Or.inr (Or.inr ⟨1 - n0, n0, by omega, yDX h ?_ ?_⟩)
  · intro r σ1 hp
    obtain ⟨v, rfl⟩ := hP r σ1 hp
    refine hK _ _ _ _ _ ?_
    refine hK _ _ _ _ _ ?_
    refine ⟨vp_in_nI (n := 0) (by decide) (by decide), v, rfl, ?_⟩
    iterate 3 refine hK _ _ _ _ _ ?_
    exact Or.inl ⟨v, σ1, hp, rfl, rfl⟩
  · intro e σ1 hp
    have he := hX e σ1 hp
    subst he
    refine ⟨rfl, 13, if_pos rfl, fun a => ?_⟩
    iterate 3 refine hK _ _ _ _ _ ?_
    exact Or.inr ⟨_, 1, hp, by decide +kernel, rfl⟩
def tL_many : xCode := [(0, .aload_n 3, 1, 1, []), (1, .iconst 0, 1, 2, []), (2, .aload_n 0, 1, 3, []), (3, .iload_n 1, 1, 4, []), (4, .iload_n 2, 1, 5, []), (5, .invokevirtual 72, 3, 8, []), (8, .i2l, 1, 9, []), (9, .lastore, 1, 10, []), (10, .goto 7, 3, 13, [17]), (13, .astore 4, 2, 15, []), (15, .iconst 1, 1, 16, []), (16, .ireturn, 1, 17, []), (17, .iconst 0, 1, 18, []), (18, .ireturn, 1, 19, [])]
theorem kL_many : xOK cL_many tL_many = true := by decide +kernel
def wL_many : wM := (yL_many, cL_many, 5, [(0, 10, 13, 13)])
theorem wL_many_w : Cond.codeWith wL_many.1 wL_many.2.1 wL_many.2.2.1 (some .int) wL_many.2.2.2 ∈ sTB := (wq 1271 (by decide +kernel) (by decide +kernel))
theorem qL_many : wCat [(0, 10, 13, 13)] 5 (fun e => if e = yIAE then some 13 else none) := by
  intro e h hq
  dsimp only at hq
  split at hq
  · rename_i he
    cases hq
    subst he
    exact ⟨[], ⟨0, 10, 13, 13⟩, [], yIAE, rfl, rfl, rfl, by decide, lkC13, by decide +kernel, fun _ h => absurd h List.not_mem_nil⟩
  · cases hq
theorem l_many (d n0 : Nat) (h0 : n0 ≤ 1) (σ : sMem) (x0 x1 : Int32) (P : List AV → sMem → Prop) (XP : String → sMem → Prop) (h : yMet l D b0 ty ad av lay d n0 mX8_many [aR 34, aI x0, aI x1] σ P XP) (hP : ∀ r σ', P r σ' → ∃ v, r = [aI v]) (hX : ∀ e σ', XP e σ' → e = yIAE) : wMet l D b0 ty ad av (d + 1) wL_many [aR 34, aI x0, aI x1, aR 100] σ (wPo P XP (cd1 yIAE)) := by
  refine wMet_intro (cp := 5) rfl kL_many xXL_ok qL_many rfl ?_
  intro K hK
  iterate 5 refine hK _ _ _ _ _ ?_
  refine hK _ _ _ _ _ ?_
  refine Or.inr (Or.inr ⟨1 - n0, n0, by omega, yDX h ?_ ?_⟩)
  · intro r σ1 hp
    obtain ⟨v, rfl⟩ := hP r σ1 hp
    refine hK _ _ _ _ _ ?_
    refine hK _ _ _ _ _ ?_
    refine ⟨vp_in_nI (n := 0) (by decide) (by decide), v, rfl, ?_⟩
    iterate 3 refine hK _ _ _ _ _ ?_
    exact Or.inl ⟨v, σ1, hp, rfl, rfl⟩
  · intro e σ1 hp
    have he := hX e σ1 hp
    subst he
    refine ⟨rfl, 13, if_pos rfl, fun a => ?_⟩
    iterate 3 refine hK _ _ _ _ _ ?_
    exact Or.inr ⟨_, 1, hp, by decide +kernel, rfl⟩
def tL_corner : xCode := [(0, .aload_n 2, 1, 1, []), (1, .iconst 0, 1, 2, []), (2, .aload_n 0, 1, 3, []), (3, .iload_n 1, 1, 4, []), (4, .invokevirtual 75, 3, 7, []), (7, .i2l, 1, 8, []), (8, .lastore, 1, 9, []), (9, .goto 6, 3, 12, [15]), (12, .astore_n 3, 1, 13, []), (13, .iconst 1, 1, 14, []), (14, .ireturn, 1, 15, []), (15, .iconst 0, 1, 16, []), (16, .ireturn, 1, 17, [])]
theorem kL_corner : xOK cL_corner tL_corner = true := by decide +kernel
def wL_corner : wM := (yL_corner, cL_corner, 4, [(0, 9, 12, 13)])
theorem wL_corner_w : Cond.codeWith wL_corner.1 wL_corner.2.1 wL_corner.2.2.1 (some .int) wL_corner.2.2.2 ∈ sTB := (wq 1284 (by decide +kernel) (by decide +kernel))
theorem qL_corner : wCat [(0, 9, 12, 13)] 4 (fun e => if e = yIAE then some 12 else none) := by
  intro e h hq
  dsimp only at hq
  split at hq
  · rename_i he
    cases hq
    subst he
    exact ⟨[], ⟨0, 9, 12, 13⟩, [], yIAE, rfl, rfl, rfl, by decide, lkC13, by decide +kernel, fun _ h => absurd h List.not_mem_nil⟩
  · cases hq
theorem l_corner (d n0 : Nat) (h0 : n0 ≤ 1) (σ : sMem) (x0 : Int32) (P : List AV → sMem → Prop) (XP : String → sMem → Prop) (h : yMet l D b0 ty ad av lay d n0 mX8_corner [aR 34, aI x0] σ P XP) (hP : ∀ r σ', P r σ' → ∃ v, r = [aI v]) (hX : ∀ e σ', XP e σ' → e = yIAE) : wMet l D b0 ty ad av (d + 1) wL_corner [aR 34, aI x0, aR 100] σ (wPo P XP (cd1 yIAE)) := by
  refine wMet_intro (cp := 4) rfl kL_corner xXL_ok qL_corner rfl ?_
  intro K hK
  iterate 4 refine hK _ _ _ _ _ ?_
  refine hK _ _ _ _ _ ?_
  refine Or.inr (Or.inr ⟨1 - n0, n0, by omega, yDX h ?_ ?_⟩)
  · intro r σ1 hp
    obtain ⟨v, rfl⟩ := hP r σ1 hp
    refine hK _ _ _ _ _ ?_
    refine hK _ _ _ _ _ ?_
    refine ⟨vp_in_nI (n := 0) (by decide) (by decide), v, rfl, ?_⟩
    iterate 3 refine hK _ _ _ _ _ ?_
    exact Or.inl ⟨v, σ1, hp, rfl, rfl⟩
  · intro e σ1 hp
    have he := hX e σ1 hp
    subst he
    refine ⟨rfl, 12, if_pos rfl, fun a => ?_⟩
    iterate 3 refine hK _ _ _ _ _ ?_
    exact Or.inr ⟨_, 1, hp, by decide +kernel, rfl⟩
def tL_rest : xCode := [(0, .aload_n 2, 1, 1, []), (1, .iconst 0, 1, 2, []), (2, .aload_n 0, 1, 3, []), (3, .iload_n 1, 1, 4, []), (4, .invokevirtual 78, 3, 7, []), (7, .i2l, 1, 8, []), (8, .lastore, 1, 9, []), (9, .goto 6, 3, 12, [15]), (12, .astore_n 3, 1, 13, []), (13, .iconst 1, 1, 14, []), (14, .ireturn, 1, 15, []), (15, .iconst 0, 1, 16, []), (16, .ireturn, 1, 17, [])]
theorem kL_rest : xOK cL_rest tL_rest = true := by decide +kernel
def wL_rest : wM := (yL_rest, cL_rest, 4, [(0, 9, 12, 31)])
theorem wL_rest_w : Cond.codeWith wL_rest.1 wL_rest.2.1 wL_rest.2.2.1 (some .int) wL_rest.2.2.2 ∈ sTB := (wq 1292 (by decide +kernel) (by decide +kernel))
theorem qL_rest : wCat [(0, 9, 12, 31)] 4 (fun e => if e = yNSE then some 12 else none) := by
  intro e h hq
  dsimp only at hq
  split at hq
  · rename_i he
    cases hq
    subst he
    exact ⟨[], ⟨0, 9, 12, 31⟩, [], yNSE, rfl, rfl, rfl, by decide, lkC31, by decide +kernel, fun _ h => absurd h List.not_mem_nil⟩
  · cases hq
theorem l_rest (d n0 : Nat) (h0 : n0 ≤ 1) (σ : sMem) (x0 : Int32) (P : List AV → sMem → Prop) (XP : String → sMem → Prop) (h : yMet l D b0 ty ad av lay d n0 mX8_rest [aR 34, aI x0] σ P XP) (hP : ∀ r σ', P r σ' → ∃ v, r = [aI v]) (hX : ∀ e σ', XP e σ' → e = yNSE) : wMet l D b0 ty ad av (d + 1) wL_rest [aR 34, aI x0, aR 100] σ (wPo P XP (cd1 yNSE)) := by
  refine wMet_intro (cp := 4) rfl kL_rest xXL_ok qL_rest rfl ?_
  intro K hK
  iterate 4 refine hK _ _ _ _ _ ?_
  refine hK _ _ _ _ _ ?_
  refine Or.inr (Or.inr ⟨1 - n0, n0, by omega, yDX h ?_ ?_⟩)
  · intro r σ1 hp
    obtain ⟨v, rfl⟩ := hP r σ1 hp
    refine hK _ _ _ _ _ ?_
    refine hK _ _ _ _ _ ?_
    refine ⟨vp_in_nI (n := 0) (by decide) (by decide), v, rfl, ?_⟩
    iterate 3 refine hK _ _ _ _ _ ?_
    exact Or.inl ⟨v, σ1, hp, rfl, rfl⟩
  · intro e σ1 hp
    have he := hX e σ1 hp
    subst he
    refine ⟨rfl, 12, if_pos rfl, fun a => ?_⟩
    iterate 3 refine hK _ _ _ _ _ ?_
    exact Or.inr ⟨_, 1, hp, by decide +kernel, rfl⟩
def tL_avoid : xCode := [(0, .aload_n 2, 1, 1, []), (1, .iconst 0, 1, 2, []), (2, .aload_n 0, 1, 3, []), (3, .iload_n 1, 1, 4, []), (4, .invokevirtual 81, 3, 7, []), (7, .i2l, 1, 8, []), (8, .lastore, 1, 9, []), (9, .goto 6, 3, 12, [15]), (12, .astore_n 3, 1, 13, []), (13, .iconst 1, 1, 14, []), (14, .ireturn, 1, 15, []), (15, .iconst 0, 1, 16, []), (16, .ireturn, 1, 17, [])]
theorem kL_avoid : xOK cL_avoid tL_avoid = true := by decide +kernel
def wL_avoid : wM := (yL_avoid, cL_avoid, 4, [(0, 9, 12, 31)])
theorem wL_avoid_w : Cond.codeWith wL_avoid.1 wL_avoid.2.1 wL_avoid.2.2.1 (some .int) wL_avoid.2.2.2 ∈ sTB := (wq 1299 (by decide +kernel) (by decide +kernel))
theorem qL_avoid : wCat [(0, 9, 12, 31)] 4 (fun e => if e = yNSE then some 12 else none) := by
  intro e h hq
  dsimp only at hq
  split at hq
  · rename_i he
    cases hq
    subst he
    exact ⟨[], ⟨0, 9, 12, 31⟩, [], yNSE, rfl, rfl, rfl, by decide, lkC31, by decide +kernel, fun _ h => absurd h List.not_mem_nil⟩
  · cases hq
theorem l_avoid (d n0 : Nat) (h0 : n0 ≤ 1) (σ : sMem) (x0 : Int32) (P : List AV → sMem → Prop) (XP : String → sMem → Prop) (h : yMet l D b0 ty ad av lay d n0 mX8_avoid [aR 34, aI x0] σ P XP) (hP : ∀ r σ', P r σ' → ∃ v, r = [aI v]) (hX : ∀ e σ', XP e σ' → e = yNSE) : wMet l D b0 ty ad av (d + 1) wL_avoid [aR 34, aI x0, aR 100] σ (wPo P XP (cd1 yNSE)) := by
  refine wMet_intro (cp := 4) rfl kL_avoid xXL_ok qL_avoid rfl ?_
  intro K hK
  iterate 4 refine hK _ _ _ _ _ ?_
  refine hK _ _ _ _ _ ?_
  refine Or.inr (Or.inr ⟨1 - n0, n0, by omega, yDX h ?_ ?_⟩)
  · intro r σ1 hp
    obtain ⟨v, rfl⟩ := hP r σ1 hp
    refine hK _ _ _ _ _ ?_
    refine hK _ _ _ _ _ ?_
    refine ⟨vp_in_nI (n := 0) (by decide) (by decide), v, rfl, ?_⟩
    iterate 3 refine hK _ _ _ _ _ ?_
    exact Or.inl ⟨v, σ1, hp, rfl, rfl⟩
  · intro e σ1 hp
    have he := hX e σ1 hp
    subst he
    refine ⟨rfl, 12, if_pos rfl, fun a => ?_⟩
    iterate 3 refine hK _ _ _ _ _ ?_
    exact Or.inr ⟨_, 1, hp, by decide +kernel, rfl⟩
def tL_learn : xCode := [(0, .aload_n 2, 1, 1, []), (1, .iconst 0, 1, 2, []), (2, .aload_n 0, 1, 3, []), (3, .iload_n 1, 1, 4, []), (4, .invokevirtual 84, 3, 7, []), (7, .i2l, 1, 8, []), (8, .lastore, 1, 9, []), (9, .goto 6, 3, 12, [15]), (12, .astore_n 3, 1, 13, []), (13, .iconst 1, 1, 14, []), (14, .ireturn, 1, 15, []), (15, .iconst 0, 1, 16, []), (16, .ireturn, 1, 17, [])]
theorem kL_learn : xOK cL_learn tL_learn = true := by decide +kernel
def wL_learn : wM := (yL_learn, cL_learn, 4, [(0, 9, 12, 13)])
theorem wL_learn_w : Cond.codeWith wL_learn.1 wL_learn.2.1 wL_learn.2.2.1 (some .int) wL_learn.2.2.2 ∈ sTB := (wq 1311 (by decide +kernel) (by decide +kernel))
theorem qL_learn : wCat [(0, 9, 12, 13)] 4 (fun e => if e = yIAE then some 12 else none) := by
  intro e h hq
  dsimp only at hq
  split at hq
  · rename_i he
    cases hq
    subst he
    exact ⟨[], ⟨0, 9, 12, 13⟩, [], yIAE, rfl, rfl, rfl, by decide, lkC13, by decide +kernel, fun _ h => absurd h List.not_mem_nil⟩
  · cases hq
theorem l_learn (d n0 : Nat) (h0 : n0 ≤ 1) (σ : sMem) (x0 : Int32) (P : List AV → sMem → Prop) (XP : String → sMem → Prop) (h : yMet l D b0 ty ad av lay d n0 mX8_learn [aR 34, aI x0] σ P XP) (hP : ∀ r σ', P r σ' → ∃ v, r = [aI v]) (hX : ∀ e σ', XP e σ' → e = yIAE) : wMet l D b0 ty ad av (d + 1) wL_learn [aR 34, aI x0, aR 100] σ (wPo P XP (cd1 yIAE)) := by
  refine wMet_intro (cp := 4) rfl kL_learn xXL_ok qL_learn rfl ?_
  intro K hK
  iterate 4 refine hK _ _ _ _ _ ?_
  refine hK _ _ _ _ _ ?_
  refine Or.inr (Or.inr ⟨1 - n0, n0, by omega, yDX h ?_ ?_⟩)
  · intro r σ1 hp
    obtain ⟨v, rfl⟩ := hP r σ1 hp
    refine hK _ _ _ _ _ ?_
    refine hK _ _ _ _ _ ?_
    refine ⟨vp_in_nI (n := 0) (by decide) (by decide), v, rfl, ?_⟩
    iterate 3 refine hK _ _ _ _ _ ?_
    exact Or.inl ⟨v, σ1, hp, rfl, rfl⟩
  · intro e σ1 hp
    have he := hX e σ1 hp
    subst he
    refine ⟨rfl, 12, if_pos rfl, fun a => ?_⟩
    iterate 3 refine hK _ _ _ _ _ ?_
    exact Or.inr ⟨_, 1, hp, by decide +kernel, rfl⟩
def tL_seed : xCode := [(0, .aload 4, 2, 2, []), (2, .iconst 0, 1, 3, []), (3, .aload_n 0, 1, 4, []), (4, .iload_n 1, 1, 5, []), (5, .iload_n 2, 1, 6, []), (6, .iload_n 3, 1, 7, []), (7, .invokevirtual 87, 3, 10, []), (10, .i2l, 1, 11, []), (11, .lastore, 1, 12, []), (12, .goto 7, 3, 15, [19]), (15, .astore 5, 2, 17, []), (17, .iconst 1, 1, 18, []), (18, .ireturn, 1, 19, []), (19, .iconst 0, 1, 20, []), (20, .ireturn, 1, 21, [])]
theorem kL_seed : xOK cL_seed tL_seed = true := by decide +kernel
def wL_seed : wM := (yL_seed, cL_seed, 6, [(0, 12, 15, 13)])
theorem wL_seed_w : Cond.codeWith wL_seed.1 wL_seed.2.1 wL_seed.2.2.1 (some .int) wL_seed.2.2.2 ∈ sTB := (wq 1324 (by decide +kernel) (by decide +kernel))
theorem qL_seed : wCat [(0, 12, 15, 13)] 7 (fun e => if e = yIAE then some 15 else none) := by
  intro e h hq
  dsimp only at hq
  split at hq
  · rename_i he
    cases hq
    subst he
    exact ⟨[], ⟨0, 12, 15, 13⟩, [], yIAE, rfl, rfl, rfl, by decide, lkC13, by decide +kernel, fun _ h => absurd h List.not_mem_nil⟩
  · cases hq
theorem l_seed (d n0 : Nat) (h0 : n0 ≤ 1) (σ : sMem) (x0 x1 x2 : Int32) (P : List AV → sMem → Prop) (XP : String → sMem → Prop) (h : yMet l D b0 ty ad av lay d n0 mX8_seed [aR 34, aI x0, aI x1, aI x2] σ P XP) (hP : ∀ r σ', P r σ' → ∃ v, r = [aI v]) (hX : ∀ e σ', XP e σ' → e = yIAE) : wMet l D b0 ty ad av (d + 1) wL_seed [aR 34, aI x0, aI x1, aI x2, aR 100] σ (wPo P XP (cd1 yIAE)) := by
  refine wMet_intro (cp := 7) rfl kL_seed xXL_ok qL_seed rfl ?_
  intro K hK
  iterate 6 refine hK _ _ _ _ _ ?_
  refine hK _ _ _ _ _ ?_
  refine Or.inr (Or.inr ⟨1 - n0, n0, by omega, yDX h ?_ ?_⟩)
  · intro r σ1 hp
    obtain ⟨v, rfl⟩ := hP r σ1 hp
    refine hK _ _ _ _ _ ?_
    refine hK _ _ _ _ _ ?_
    refine ⟨vp_in_nI (n := 0) (by decide) (by decide), v, rfl, ?_⟩
    iterate 3 refine hK _ _ _ _ _ ?_
    exact Or.inl ⟨v, σ1, hp, rfl, rfl⟩
  · intro e σ1 hp
    have he := hX e σ1 hp
    subst he
    refine ⟨rfl, 15, if_pos rfl, fun a => ?_⟩
    iterate 3 refine hK _ _ _ _ _ ?_
    exact Or.inr ⟨_, 1, hp, by decide +kernel, rfl⟩
def tL_mean : xCode := [(0, .aload_n 3, 1, 1, []), (1, .iconst 0, 1, 2, []), (2, .aload_n 0, 1, 3, []), (3, .iload_n 1, 1, 4, []), (4, .iload_n 2, 1, 5, []), (5, .invokevirtual 90, 3, 8, []), (8, .i2l, 1, 9, []), (9, .lastore, 1, 10, []), (10, .goto 7, 3, 13, [17]), (13, .astore 4, 2, 15, []), (15, .iconst 1, 1, 16, []), (16, .ireturn, 1, 17, []), (17, .iconst 0, 1, 18, []), (18, .ireturn, 1, 19, [])]
theorem kL_mean : xOK cL_mean tL_mean = true := by decide +kernel
def wL_mean : wM := (yL_mean, cL_mean, 5, [(0, 10, 13, 13)])
theorem wL_mean_w : Cond.codeWith wL_mean.1 wL_mean.2.1 wL_mean.2.2.1 (some .int) wL_mean.2.2.2 ∈ sTB := (wq 1341 (by decide +kernel) (by decide +kernel))
theorem qL_mean : wCat [(0, 10, 13, 13)] 5 (fun e => if e = yIAE then some 13 else none) := by
  intro e h hq
  dsimp only at hq
  split at hq
  · rename_i he
    cases hq
    subst he
    exact ⟨[], ⟨0, 10, 13, 13⟩, [], yIAE, rfl, rfl, rfl, by decide, lkC13, by decide +kernel, fun _ h => absurd h List.not_mem_nil⟩
  · cases hq
theorem l_mean (d n0 : Nat) (h0 : n0 ≤ 1) (σ : sMem) (x0 x1 : Int32) (P : List AV → sMem → Prop) (XP : String → sMem → Prop) (h : yMet l D b0 ty ad av lay d n0 mX8_mean [aR 34, aI x0, aI x1] σ P XP) (hP : ∀ r σ', P r σ' → ∃ v, r = [aI v]) (hX : ∀ e σ', XP e σ' → e = yIAE) : wMet l D b0 ty ad av (d + 1) wL_mean [aR 34, aI x0, aI x1, aR 100] σ (wPo P XP (cd1 yIAE)) := by
  refine wMet_intro (cp := 5) rfl kL_mean xXL_ok qL_mean rfl ?_
  intro K hK
  iterate 5 refine hK _ _ _ _ _ ?_
  refine hK _ _ _ _ _ ?_
  refine Or.inr (Or.inr ⟨1 - n0, n0, by omega, yDX h ?_ ?_⟩)
  · intro r σ1 hp
    obtain ⟨v, rfl⟩ := hP r σ1 hp
    refine hK _ _ _ _ _ ?_
    refine hK _ _ _ _ _ ?_
    refine ⟨vp_in_nI (n := 0) (by decide) (by decide), v, rfl, ?_⟩
    iterate 3 refine hK _ _ _ _ _ ?_
    exact Or.inl ⟨v, σ1, hp, rfl, rfl⟩
  · intro e σ1 hp
    have he := hX e σ1 hp
    subst he
    refine ⟨rfl, 13, if_pos rfl, fun a => ?_⟩
    iterate 3 refine hK _ _ _ _ _ ?_
    exact Or.inr ⟨_, 1, hp, by decide +kernel, rfl⟩
end
