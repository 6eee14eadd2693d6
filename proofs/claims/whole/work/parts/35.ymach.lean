/-! THE STEP OVER THE CLASS: nest mates, System.arraycopy, String constants, exceptions. 'K c': c cells (of 12 words) are left to be made. -/
def yIAE : String := "java/lang/IllegalArgumentException"
def yIOE : String := "java/lang/IndexOutOfBoundsException"
def yNms : List String := ["java/lang/RuntimeException", "java/lang/Exception"]
/-- static methods of the outer class, called by nest mates -/
def yNest : List (String × Nat × MethodName) := [(RX7, 95, yX8_hasBit), (RX7, 83, yX8_allBits), (RX5, 53, yX8_allBits), (RX0, 116, yX8_hasBit), (RX2, 37, yX8_allBits), (RX2, 52, yX8_hasBit), (RX3, 100, yX8_hasBit), (RX1, 86, yX8_hasBit), (RX6, 55, yX8_hasBit)]
/-- words of a throw that the tables decide, beside the good ones -/
def yTw : List Cond := [.castable yIAE yIAE, .castable yIOE yIOE, .castable yNSE yNSE, .declares (Bundle.initS "java/lang/RuntimeException"), .declares (Bundle.initS "java/lang/Exception"), .declares (Bundle.initS "java/lang/Throwable")]
theorem yTw_on : ∀ w ∈ yTw, w.onTables = true := by decide
theorem yTw_warm {s U : State} (hW : s.WarmedH U.vm) : ∀ w ∈ yTw, va_Nw w s → va_Nw w U := by
  intro w hw h
  simp only [yTw, List.mem_cons, List.not_mem_nil, or_false] at hw
  rcases hw with rfl | rfl | rfl | rfl | rfl | rfl
  · exact va_Nw.warmC hW h
  · exact va_Nw.warmC hW h
  · exact va_Nw.warmC hW h
  · exact va_Nw.warmD hW h
  · exact va_Nw.warmD hW h
  · exact va_Nw.warmD hW h
/-- texts of exceptions -/
def yTxt : List (Nat × String) := [(115, "not so many bytes on the tape"), (143, "no such what"), (373, "no such place"), (202, "no such person"), (379, "no such stranger"), (381, "no such kind"), (267, "no such number of times handed on"), (383, "no such fee"), (303, "no such law"), (319, "no such number of days"), (345, "no such number of seeds")]
/-- the reader's words -/
def yWd : List String := ["places", "street", "person", "not", "stranger", "finds", "chance", "sign", "guide", "law"]
def yLen : List Nat := [6, 6, 6, 3, 8, 5, 6, 4, 5, 3]
def yByt : List (List Int32) := [[112, 108, 97, 99, 101, 115], [115, 116, 114, 101, 101, 116], [112, 101, 114, 115, 111, 110], [110, 111, 116], [115, 116, 114, 97, 110, 103, 101, 114], [102, 105, 110, 100, 115], [99, 104, 97, 110, 99, 101], [115, 105, 103, 110], [103, 117, 105, 100, 101], [108, 97, 119]]
def yEnv (ad av : Nat → Nat) (A : Nat → Prop) (U : State) (H : Heap) : Prop :=
  (∀ q ∈ yNest, va_Nw (.methodLinkNest q.1 q.2.1 q.2.2 RX8) U) ∧ (∀ q ∈ yTxt, ∃ sa, vk_R RX8 q.1 q.2 sa U) ∧ (∀ w ∈ yTw, va_Nw w U) ∧ vx_Zq Bundle.tN "UNASSIGNED_STACK" Bundle.steD A U H ∧ vx_Zq Bundle.tN "SUPPRESSED_SENTINEL" Bundle.listD A U H ∧
  (∀ i, i < 10 → vk_R RX4 (105 + 2 * i) (yWd.getD i "") (ad i) U) ∧ vk_S 10 yLen yByt ad av A U H ∧ va_Z "java/lang/String" "COMPACT_STRINGS" "Z" (.int 1) A U H ∧ va_Nc yIAE yNSE U ∧ va_Zq "jdk/internal/util/Preconditions" "SIOOBE_FORMATTER" "Ljava/util/function/BiFunction;" A U H
theorem yEnv.warm {ad av : Nat → Nat} {A : Nat → Prop} {s U : State} {H : Heap} (hW : s.WarmedH U.vm) (h : yEnv ad av A s H) : yEnv ad av A U H := by
  obtain ⟨h1, h2, h3, h4, h5, h6, h7, h8, h9, h10⟩ := h
  exact ⟨fun q hq => va_Nw.warmM hW (h1 q hq), fun q hq => (h2 q hq).elim fun sa hs => ⟨sa, vk_R.warm hW hs⟩, fun w hw => yTw_warm hW w hw (h3 w hw), vx_Zq.moved hW.alike h4, vx_Zq.moved hW.alike h5, fun i hi => vk_R.warm hW (h6 i hi), vk_S.moved hW.alike h7, va_Z.moved hW.alike h8, va_Nc.moved hW.alike h9, va_Zq.moved hW.alike h10⟩
theorem yEnv.kept {ad av : Nat → Nat} {A : Nat → Prop} {U : State} {H H1 : Heap} (h : yEnv ad av A U H) (hq : ∀ a : Nat, a < H.size → ¬ A a → H1[a]? = H[a]?) : yEnv ad av A U H1 := by
  obtain ⟨h1, h2, h3, h4, h5, h6, h7, h8, h9, h10⟩ := h
  exact ⟨h1, h2, h3, h4.kept hq, h5.kept hq, h6, h7.kept hq, h8.kept hq, h9, h10.kept hq⟩
/-- a whole row -/
def sRow (σ : sMem) (i j : Nat) (g : Nat → Int32) : sMem := fun a b c => if a = i ∧ b = j then g c else σ a b c
theorem sRow_off {σ : sMem} {i j : Nat} {g : Nat → Int32} {a : Nat} (h : a ≠ i) : sRow σ i j g a = σ a := by
  funext b c
  simp [sRow, h]
theorem sRow_at {σ : sMem} {i j : Nat} {g : Nat → Int32} : sRow σ i j g i j = g := by
  funext c
  simp [sRow]
theorem sRow_ne {σ : sMem} {i j b : Nat} {g : Nat → Int32} (h : b ≠ j) : sRow σ i j g i b = σ i b := by
  funext c
  simp [sRow, h]
section
variable {b0 : Nat} {ty : Nat → ClassId} {L : sLay} {σ : sMem}
theorem sAtA' {i o n : Nat} (h : L[i]? = some (o, .inr (.inl (0, n)))) : ∃ k, (sFl b0 ty L σ 0 L)[k]? = some (b0 + o, .inl (ty 0, n, .inl (σ i 0))) ∧
    ∀ g, sFl b0 ty L (sRow σ i 0 g) 0 L = (sFl b0 ty L σ 0 L).set k (b0 + o, .inl (ty 0, n, .inl g)) := by
  obtain ⟨k, hk⟩ := sFl_at (b0 := b0) (ty := ty) (L := L) (σ := σ) L 0 i _ h
  obtain ⟨h1, h2⟩ := hk 0 (by simp [sBlk])
  refine ⟨k, by simpa [sBlk] using h1, fun g => ?_⟩
  have := h2 (sRow σ i 0 g) (b0 + o, .inl (ty 0, n, .inl g)) (fun j hj => sRow_off (by omega)) (by simp [sBlk, sRow_at])
  simpa using this
theorem sAtR' {i o n m j : Nat} (h : L[i]? = some (o, .inr (.inr (n, m)))) (hj : j < n) : ∃ k, (sFl b0 ty L σ 0 L)[k]? = some (b0 + o + 1 + j, .inl (ty 0, m, .inl (σ i j))) ∧
    ∀ g, sFl b0 ty L (sRow σ i j g) 0 L = (sFl b0 ty L σ 0 L).set k (b0 + o + 1 + j, .inl (ty 0, m, .inl g)) := by
  obtain ⟨k, hk⟩ := sFl_at (b0 := b0) (ty := ty) (L := L) (σ := σ) L 0 i _ h
  obtain ⟨h1, h2⟩ := hk (j + 1) (by simp [sBlk]; exact hj)
  refine ⟨k + (j + 1), ?_, fun g => ?_⟩
  · rw [h1]
    simp [sBlk, hj]
  · refine h2 (sRow σ i j g) _ (fun j' hj' => sRow_off (by omega)) ?_
    rw [Nat.zero_add]
    simp only [sBlk, List.set_cons_succ]
    refine congrArg _ (List.ext_getElem? fun t => ?_)
    rw [List.getElem?_set]
    simp only [List.getElem?_map, List.length_map, List.length_range]
    by_cases ht : j = t
    · subst ht
      simp [hj, sRow_at]
    · rw [if_neg ht]
      by_cases h5 : t < n
      · simp [h5, sRow_ne (show t ≠ j from fun e => ht e.symm)]
      · simp [h5]
end
/-- v is row j of the variable i, n long -/
def yRw (L : sLay) (v : AV) (i j n : Nat) : Prop := match v with
  | .inl (.ref i') => match L[i']? with
    | some (_, .inr (.inl (0, n'))) => i' = i ∧ 0 = j ∧ n' = n
    | _ => False
  | .inr (i', j') => match L[i']? with
    | some (_, .inr (.inr (n', m))) => j' < n' ∧ i' = i ∧ j' = j ∧ m = n
    | _ => False
  | _ => False
theorem yRw_at {b0 : Nat} {ty : Nat → ClassId} {L : sLay} {σ : sMem} {v : AV} {i j n : Nat} (h : yRw L v i j n) : ∃ (k a : Nat), sCv b0 L v = .ref a ∧ (sFl b0 ty L σ 0 L)[k]? = some (a, .inl (ty 0, n, .inl (σ i j))) ∧
    ∀ g, sFl b0 ty L (sRow σ i j g) 0 L = (sFl b0 ty L σ 0 L).set k (a, .inl (ty 0, n, .inl g)) := by
  unfold yRw at h
  split at h
  · rename_i i'
    split at h
    · rename_i o n' hL
      obtain ⟨rfl, rfl, rfl⟩ := h
      obtain ⟨k, h1, h2⟩ := sAtA' (b0 := b0) (ty := ty) (σ := σ) hL
      exact ⟨k, b0 + o, by simp only [sCv]; rw [sOff_at hL], h1, h2⟩
    · exact h.elim
  · rename_i i' j'
    split at h
    · rename_i o n' m hL
      obtain ⟨hj, rfl, rfl, rfl⟩ := h
      obtain ⟨k, h1, h2⟩ := sAtR' (b0 := b0) (ty := ty) (σ := σ) hL hj
      exact ⟨k, b0 + o + 1 + j', by simp only [sCv]; rw [sOff_at hL], h1, h2⟩
    · exact h.elim
  · exact h.elim
def mnI (x y : Int32) : Int32 := if y < x then y else x
def mxI (x y : Int32) : Int32 := if x < y then y else x
/-- nest calls, String constants, String's methods (0 length, 1 charAt) and Math's (2 min, 3 max), arraycopy, throws (the place behind 'new': its class's number, the text's, the constructor's, class, text, by a wide index) -/
abbrev yTb : Type := List (Nat × xMe) × List (Nat × Nat) × List (Nat × Nat) × List Nat × List (Nat × Nat × Nat × Nat × String × String × Bool)
def yc (calp : xMe → List AV → sMem → (List AV → sMem → Prop) → Prop) (cal : Nat → xMe → List AV → sMem → (List AV → sMem → Prop) → (String → sMem → Prop) → Prop) (xh : Nat → Nat → List (Option AV) → String → sMem → Prop) (K : Nat → Nat → List (Option AV) → List AV → sMem → Prop) (c nx : Nat) (E : List (Option AV)) (rest : List AV) (q : xMe) (as : List AV) (σ : sMem) : Prop :=
  calp q as σ (fun r σ' => K c nx E (r ++ rest) σ') ∨ cal 0 q as σ (fun r σ' => K c nx E (r ++ rest) σ') (fun e σ' => xh c nx E e σ') ∨ ∃ c' n0, c = c' + n0 ∧ cal n0 q as σ (fun r σ' => K c' nx E (r ++ rest) σ') (fun e σ' => xh c' nx E e σ')
def yi (L : sLay) (nL : Nat) (X : xTb) (Y : yTb) (scr : Option (Nat × Nat × (Nat → Int32))) (ad : Nat → Nat) (d : Nat) (calp : xMe → List AV → sMem → (List AV → sMem → Prop) → Prop) (cal : Nat → xMe → List AV → sMem → (List AV → sMem → Prop) → (String → sMem → Prop) → Prop) (ret : Option FieldType) (rt : List AV → sMem → Prop) (xp : String → sMem → Prop) (xh : Nat → Nat → List (Option AV) → String → sMem → Prop) (K : Nat → Nat → List (Option AV) → List AV → sMem → Prop) (c nx : Nat) (E : List (Option AV)) (st : List AV) (σ : sMem) (i : Instr) (len : Nat) (tg : List Nat) : Prop := match i, len with
  | .invokevirtual n, 3 => match Y.2.2.1.lookup n with
    | some 0 => match st with
      | .inl (.retAddr a) :: r => match Nat.ble (avSum r) 8, Nat.ble 5 d with
        | true, true => ∃ j, j < 10 ∧ a = ad j ∧ K c nx E (aI (nI (yLen.getD j 0)) :: r) σ
        | _, _ => False
      | _ => False
    | some 1 => match st with
      | .inl (.int k) :: .inl (.retAddr a) :: r => match Nat.ble (avSum r) 8, Nat.ble 5 d with
        | true, true => ∃ j m, j < 10 ∧ a = ad j ∧ m < yLen.getD j 0 ∧ k = nI m ∧ K c nx E (aI ((yByt.getD j []).getD m 0) :: r) σ
        | _, _ => False
      | _ => False
    | some _ => False
    | none => match X.2.2.2.lookup n with
      | some (k, some ci, q) => match Nat.ble k st.length, Nat.ble (avSum (st.drop k)) 8, (st.take k).reverse with
        | true, true, .inl (.ref v) :: as => match L[v]? with
          | some (_, .inl (cj, _)) => match Nat.beq ci cj with
            | true => yc calp cal xh K c nx E (st.drop k) (k, some ci, q) (aR v :: as) σ
            | false => False
          | _ => False
        | _, _, _ => False
      | _ => False
  | .invokestatic n, 3 => match Y.2.2.1.lookup n with
    | some 2 => match st with
      | .inl (.int y) :: .inl (.int x) :: r => match Nat.ble (avSum r) 8, Nat.ble 1 d with
        | true, true => K c nx E (aI (mnI x y) :: r) σ
        | _, _ => False
      | _ => False
    | some 3 => match st with
      | .inl (.int y) :: .inl (.int x) :: r => match Nat.ble (avSum r) 8, Nat.ble 1 d with
        | true, true => K c nx E (aI (mxI x y) :: r) σ
        | _, _ => False
      | _ => False
    | some _ => False
    | none => match Y.2.2.2.1.contains n with
      | true => match st with
        | .inl (.int x) :: .inl (.int dp) :: dst :: .inl (.int sp) :: src :: r => match Nat.ble (avSum r) 8, Nat.ble 1 d with
          | true, true => ∃ i j n i' j' n' a b k : Nat, yRw L src i j n ∧ yRw L dst i' j' n' ∧ sp = nI a ∧ dp = nI b ∧ x = nI k ∧ a + k ≤ n ∧ b + k ≤ n' ∧ n < 2 ^ 31 ∧ n' < 2 ^ 31 ∧ K c nx E r (sRow σ i' j' (va_cpy (σ i j) (σ i' j') a b k))
          | _, _ => False
        | _ => False
      | false => match Y.1.lookup n with
        | some (k, none, q) => match Nat.ble k st.length, Nat.ble (avSum (st.drop k)) 8 with
          | true, true => calp (k, none, q) (st.take k).reverse σ (fun r σ' => K c nx E (r ++ st.drop k) σ')
          | _, _ => False
        | some _ => False
        | none => match X.2.2.2.lookup n with
          | some (k, none, q) => match Nat.ble k st.length, Nat.ble (avSum (st.drop k)) 8 with
            | true, true => yc calp cal xh K c nx E (st.drop k) (k, none, q) (st.take k).reverse σ
            | _, _ => False
          | _ => False
  | .ldc n, 2 => match Y.2.1.lookup n with
    | some j => K c nx E (.inl (.retAddr (ad j)) :: st) σ
    | none => xi L nL X scr (fun _ _ _ _ => False) ret rt (K c) nx E st σ (.ldc n) 2 tg
  | .areturn, 1 => match st, ret with
    | [.inl (.retAddr x)], some (.object _) => rt [.inl (.retAddr x)] σ
    | _, _ => xi L nL X scr (fun _ _ _ _ => False) ret rt (K c) nx E st σ .areturn 1 tg
  | .new _, 3 => match Y.2.2.2.2.lookup nx, Nat.ble (avSum st) 8, Nat.ble 6 d with
    | some q, true, true => ∃ c', c = c' + 1 ∧ xp q.2.2.2.1 σ
    | _, _, _ => False
  | i, len => xi L nL X scr (fun _ _ _ _ => False) ret rt (K c) nx E st σ i len tg
def yw (L : sLay) (nL : Nat) (X : xTb) (Y : yTb) (T : xCode) (scr : Option (Nat × Nat × (Nat → Int32))) (ad : Nat → Nat) (d : Nat) (calp : xMe → List AV → sMem → (List AV → sMem → Prop) → Prop) (cal : Nat → xMe → List AV → sMem → (List AV → sMem → Prop) → (String → sMem → Prop) → Prop) (ret : Option FieldType) (rt : List AV → sMem → Prop) (xp : String → sMem → Prop) (xh : Nat → Nat → List (Option AV) → String → sMem → Prop) (K : Nat → Nat → List (Option AV) → List AV → sMem → Prop) (c pc : Nat) (E : List (Option AV)) (st : List AV) (σ : sMem) : Prop := match T.lookup pc with
  | some (i, len, nx, tg) => yi L nL X Y scr ad d calp cal ret rt xp xh K c nx E st σ i len tg
  | none => False
