/-! THE LAW'S LOOP -/
def tHd : xCode := [(23, .iload 4, 2, 25, []), (25, .aload_n 0, 1, 26, []), (26, .arraylength, 1, 27, []), (27, .bipush 6, 2, 29, []), (29, .isub, 1, 30, []), (30, .if_icmp .gt 1973, 3, 33, [2003]), (33, .aload_n 0, 1, 34, []), (34, .iload 4, 2, 36, []), (36, .iaload, 1, 37, []), (37, .bipush 63, 2, 39, []), (39, .iand, 1, 40, []), (40, .tableswitch 1957 0 33 #[152, 225, 281, 294, 350, 418, 498, 566, 634, 702, 770, 850, 918, 986, 1042, 1098, 1154, 1210, 1223, 1303, 1359, 1372, 1440, 1508, 1564, 1577, 1633, 1689, 1745, 1758, 1838, 1906, 1919, 1932], 152, 192, [1997, 192, 265, 321, 334, 390, 458, 538, 606, 674, 742, 810, 890, 958, 1026, 1082, 1138, 1194, 1250, 1263, 1343, 1399, 1412, 1480, 1548, 1604, 1617, 1673, 1729, 1785, 1798, 1878, 1946, 1959, 1972]), (1997, .iinc 4 6, 3, 2000, []), (2000, .goto (-1977), 3, 2003, [23]), (2003, .iconst 1, 1, 2004, []), (2004, .ireturn, 1, 2005, [])]
theorem kHd : xOK code tHd = true := by decide +kernel
theorem scr_le {i L : Nat} (hi : i ≤ 4000) (hL : L ≤ 3072) : ¬ (Int32.ofNat L - (Int8.ofInt 6).toInt32 < nI i) → i + 6 ≤ L := by
  intro h
  have e1 : (nI i).toInt = i := by
    show (Int32.ofNat i).toInt = i
    exact Int32.toInt_ofNat_of_lt (by omega)
  have e2 : (Int32.ofNat L).toInt = L := Int32.toInt_ofNat_of_lt (by omega)
  have e3 : (Int32.ofNat L - (Int8.ofInt 6).toInt32).toInt = (L : Int) - 6 := by
    rw [Int32.toInt_sub, e2, show ((Int8.ofInt 6).toInt32).toInt = 6 from by decide]
    exact Int.bmod_eq_of_le (by omega) (by omega)
  rw [Int32.lt_iff_toInt_lt, e1, e3] at h
  omega
theorem in_s0 {i L : Nat} (h : i < L) (hL : L ≤ 3072) : vp_in (nI i) L ∧ (nI i).toNatClampNeg = i := ⟨vp_in_nI h (by omega), nI_clamp (by omega)⟩
section
variable {l : Launch} {D : va_G} {b0 : Nat} {ty : Nat → ClassId} {ad av : Nat → Nat} {b L : Nat} {xs : Nat → Int32} {K : Nat → Nat → List (Option AV) → List AV → sMem → Prop}
theorem law_loop (hK : LLR l D b0 ty ad av b L xs K) (hW : LLW l D b0 ty ad av K) (hL : L ≤ 3072) : ∀ (f i c : Nat) (e5 e6 : Option AV) (σ : sMem), JR σ → L < i + 6 * (f + 1) → i ≤ 3078 → 2 * f ≤ c → K c 23 (lwE b i e5 e6) [] σ := by
  intro f
  induction f with
  | zero =>
    intro i c e5 e6 σ hJ hf hi hc
    iterate 3 refine hK tHd kHd _ _ _ _ _ ?_
    refine ⟨rfl, ?_⟩
    iterate 3 refine hK tHd kHd _ _ _ _ _ ?_
    refine ⟨fun _ => ?_, fun h => absurd (scr_le (by omega) hL h) (by omega)⟩
    iterate 2 refine hK tHd kHd _ _ _ _ _ ?_
    exact ⟨Or.inr rfl, rfl⟩
  | succ f ih =>
    intro i c e5 e6 σ hJ hf hi hc
    iterate 3 refine hK tHd kHd _ _ _ _ _ ?_
    refine ⟨rfl, ?_⟩
    iterate 3 refine hK tHd kHd _ _ _ _ _ ?_
    refine ⟨fun _ => ?_, fun h => ?_⟩
    · iterate 2 refine hK tHd kHd _ _ _ _ _ ?_
      exact ⟨Or.inr rfl, rfl⟩
    have h6 := scr_le (by omega) hL h
    obtain ⟨c0, rfl⟩ : ∃ c0, c = c0 + 2 := ⟨c - 2, by omega⟩
    have hn : ∀ c' e5 e6 σ', c0 ≤ c' → JR σ' → K c' 1997 (lwE b i e5 e6) [] σ' := by
      intro c' e5 e6 σ' hc' hJ'
      refine hK tHd kHd _ _ _ _ _ ?_
      refine hK tHd kHd _ _ _ _ _ ?_
      show K _ _ [some (.inl (.retAddr b)), some (aR 34), some (aR 0), some (aR 100), some (aI (nI i + Int32.ofInt 6)), e5, e6] [] σ'
      rw [show nI i + Int32.ofInt 6 = nI (i + 6) from nIa i 6]
      exact ih (i + 6) c' e5 e6 σ' hJ' (by omega) (by omega) (by omega)
    iterate 3 refine hK tHd kHd _ _ _ _ _ ?_
    refine ⟨rfl, (in_s0 (by omega) hL).1, ?_⟩
    iterate 2 refine hK tHd kHd _ _ _ _ _ ?_
    refine hK tHd kHd _ _ _ _ _ ?_
    refine ⟨fun _ => hn (c0 + 2) _ _ _ (by omega) hJ, fun _ => lawc_feed hK hW hJ h6 hL _ _ hn, fun _ => lawc_town hK hW hJ h6 hL _ _ hn, fun _ => lawc_fault hK hW hJ h6 hL _ _ hn, fun _ => lawc_told hK hW hJ h6 hL _ _ hn, fun _ => lawc_far hK hW hJ h6 hL _ _ hn, fun _ => lawc_way hK hW hJ h6 hL _ _ hn, fun _ => lawc_person hK hW hJ h6 hL _ _ hn, fun _ => lawc_stranger hK hW hJ h6 hL _ _ hn, fun _ => lawc_tell hK hW hJ h6 hL _ _ hn, fun _ => lawc_day hK hW hJ h6 hL _ _ hn, fun _ => lawc_leads hK hW hJ h6 hL _ _ hn, fun _ => lawc_there hK hW hJ h6 hL _ _ hn, fun _ => lawc_lost hK hW hJ h6 hL _ _ hn, fun _ => lawc_fees hK hW hJ h6 hL _ _ hn, fun _ => lawc_judge hK hW hJ h6 hL _ _ hn, fun _ => lawc_match hK hW hJ h6 hL _ _ hn, fun _ => lawc_matched hK hW hJ h6 hL _ _ hn, fun _ => lawc_bound hK hW hJ h6 hL _ _ hn, fun _ => lawc_hand hK hW hJ h6 hL _ _ hn, fun _ => lawc_saves hK hW hJ h6 hL _ _ hn, fun _ => lawc_which hK hW hJ h6 hL _ _ hn, fun _ => lawc_where hK hW hJ h6 hL _ _ hn, fun _ => lawc_many hK hW hJ h6 hL _ _ hn, fun _ => lawc_corner hK hW hJ h6 hL _ _ hn, fun _ => lawc_other hK hW hJ h6 hL _ _ hn, fun _ => lawc_rest hK hW hJ h6 hL _ _ hn, fun _ => lawc_avoid hK hW hJ h6 hL _ _ hn, fun _ => lawc_learn hK hW hJ h6 hL _ _ hn, fun _ => lawc_soon hK hW hJ h6 hL _ _ hn, fun _ => lawc_seed hK hW hJ h6 hL _ _ hn, fun _ => lawc_mean hK hW hJ h6 hL _ _ hn, fun _ => lawc_image hK hW hJ h6 hL _ _ hn, fun _ => lawc_restore hK hW hJ h6 hL _ _ hn, fun _ => lawc_count hK hW hJ h6 hL _ _ hn, trivial⟩
end
