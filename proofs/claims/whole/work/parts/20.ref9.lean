section
variable {l : Launch} {D : va_G} {b0 : Nat} {ty : Nat → ClassId}
/-- from here at this minute on along the WAY: where a person is when, from his n-th entry on -/
def stL (to p : Nat) : Nat → Nat → Int32 → Nat → sMem → sMem
  | 0, _, m, n, s => sUp (sUp s 20 0 p (nI n)) 23 0 p m
  | f + 1, h, m, n, s => if h = to then sUp (sUp s 20 0 p (nI n)) 23 0 p m
    else stL to p f (s 15 h to).toNatClampNeg (m + s 13 h (s 15 h to).toNatClampNeg) (n + 1) (sUp (sUp s 18 p n (s 15 h to)) 19 p n (m + s 13 h (s 15 h to).toNatClampNeg))
def stM (σ : sMem) (p h : Nat) (m : Int32) : sMem := stL (σ 6 p 1).toNatClampNeg p 12 h m 1 (sUp (sUp σ 18 p 0 (nI h)) 19 p 0 m)
set_option maxHeartbeats 8000000 in
theorem c9_sets (d : Nat) (σ : sMem) (N : Nat) (hW : WI σ N) (p h to : Nat) (m : Int32) (hp : p < 10) (hh : h < N) (hto : to < N) (eto : σ 6 p 1 = nI to) (hf : fN σ h to < 1000000) : sMet l D b0 ty lay d mX9_sets [aR 0, aI (nI p), aI (nI h), aI m] σ (fun r σ' => r = [] ∧ σ' = stM σ p h m) := by
  refine sMet_intro lay_nd kX9_sets xX9_ok (by decide +kernel) rfl ?_
  intro K hK
  have hN := hW.1
  generalize hG : stM σ p h m = G at hK
  have key : ∀ (f h' n : Nat) (m' : Int32) (s : sMem), s 13 = σ 13 → s 14 = σ 14 → s 15 = σ 15 → h' < N → fN σ h' to < 1000000 → rk σ N to h' ≤ f → 1 ≤ n → n + rk σ N to h' ≤ 12 → stL to p f h' m' n s = G →
      K 42 [some (aR 0), some (aI (nI p)), some (aI (nI h)), some (aI m), some (aI (nI to)), some (aI (nI h')), some (aI m'), some (aI (nI n))] [] s := by
    intro f
    have fin : ∀ (n : Nat) (m' : Int32) (s : sMem), sUp (sUp s 20 0 p (nI n)) 23 0 p m' = G → ∀ h' : Nat, K 112 [some (aR 0), some (aI (nI p)), some (aI (nI h)), some (aI m), some (aI (nI to)), some (aI (nI h')), some (aI m'), some (aI (nI n))] [] s := by
      intro n m' s hs h'
      iterate 5 refine hK _ _ _ _ ?_
      refine And.intro (vp_in_nI (by omega) (by decide)) ?_
      iterate 5 refine hK _ _ _ _ ?_
      refine And.intro (vp_in_nI (by omega) (by decide)) ?_
      refine hK _ _ _ _ ?_
      rw [nI_clamp (by omega)]
      exact ⟨rfl, hs⟩
    induction f with
    | zero =>
      intro h' n m' s e13 e14 e15 hh' hf' hr h1 hn he
      have hht : h' = to := by
        by_cases q : h' = to
        · exact q
        · obtain ⟨c, w, hc, -, -, hw1, -, hw⟩ := hW.2.2 h' to hh' hto q hf'
          have := rk_lt (σ := σ) (N := N) (b := to) (a := h') hc (by omega)
          omega
      iterate 3 refine hK _ _ _ _ ?_
      refine And.intro (fun _ => fin n m' s he h') (fun q => absurd (by rw [hht]) q)
    | succ f ih =>
      intro h' n m' s e13 e14 e15 hh' hf' hr h1 hn he
      unfold stL at he
      iterate 3 refine hK _ _ _ _ ?_
      refine And.intro (fun q => ?_) (fun q => ?_)
      · have hht : h' = to := (nI_eq (by omega) (by omega)).mp q
        rw [if_pos hht] at he
        exact fin n m' s he h'
      · have hht : ¬ h' = to := fun z => q (by rw [z])
        rw [if_neg hht] at he
        obtain ⟨c, w, hc, c15, c13, hw1, hw6, hw⟩ := hW.2.2 h' to hh' hto hht hf'
        have hrk := rk_lt (σ := σ) (N := N) (b := to) (a := h') hc (by omega)
        have c15' : s 15 h' to = nI c := by rw [e15]; exact c15
        rw [c15', nI_clamp (by omega)] at he
        refine hK _ _ _ _ ?_
        iterate 4 refine hK _ _ _ _ ?_
        refine And.intro (vp_in_nI (by omega) (by decide)) ?_
        iterate 4 refine hK _ _ _ _ ?_
        refine And.intro (vp_in_nI (by omega) (by decide)) ?_
        iterate 2 refine hK _ _ _ _ ?_
        refine And.intro (by first | omega | (rw [nI_clamp (by omega)]; omega)) (And.intro (vp_in_nI (by omega) (by decide)) ?_)
        rw [nI_clamp (show h' < 2 ^ 31 by omega), nI_clamp (show to < 2 ^ 31 by omega), c15']
        refine hK _ _ _ _ ?_
        refine And.intro (by omega) (And.intro (vp_in_nI (by omega) (by decide)) ?_)
        rw [nI_clamp (show c < 2 ^ 31 by omega)]
        iterate 6 refine hK _ _ _ _ ?_
        refine And.intro (vp_in_nI (by omega) (by decide)) ?_
        iterate 2 refine hK _ _ _ _ ?_
        refine And.intro (by first | omega | (rw [nI_clamp (by omega)]; omega)) (And.intro (vp_in_nI (by omega) (by decide)) ?_)
        rw [nI_clamp (show h' < 2 ^ 31 by omega), nI_clamp (show to < 2 ^ 31 by omega), c15']
        iterate 5 refine hK _ _ _ _ ?_
        refine And.intro (vp_in_nI (by omega) (by decide)) ?_
        iterate 3 refine hK _ _ _ _ ?_
        refine And.intro (by first | omega | (rw [nI_clamp (by omega)]; omega)) (And.intro (vp_in_nI (by omega) (by decide)) ?_)
        iterate 4 refine hK _ _ _ _ ?_
        refine And.intro (vp_in_nI (by omega) (by decide)) ?_
        iterate 3 refine hK _ _ _ _ ?_
        refine And.intro (by first | omega | (rw [nI_clamp (by omega)]; omega)) (And.intro (vp_in_nI (by omega) (by decide)) ?_)
        rw [nI_clamp (show p < 2 ^ 31 by omega), nI_clamp (show n < 2 ^ 31 by omega)]
        refine hK _ _ _ _ ?_
        show K _ _ _ _
        rw [nIs]
        refine hK _ _ _ _ ?_
        refine ih c (n + 1) (m' + s 13 h' c) _ ?_ ?_ ?_ hc (by omega) (by omega) (by omega) (by omega) he
        · rw [sUp_off (by decide), sUp_off (by decide)]; exact e13
        · rw [sUp_off (by decide), sUp_off (by decide)]; exact e14
        · rw [sUp_off (by decide), sUp_off (by decide)]; exact e15
  iterate 4 refine hK _ _ _ _ ?_
  refine And.intro (vp_in_nI (by omega) (by decide)) ?_
  iterate 2 refine hK _ _ _ _ ?_
  refine And.intro (by first | omega | (rw [nI_clamp (by omega)]; omega)) (And.intro (vp_in_nI (n := 1) (by decide) (by decide)) ?_)
  rw [nI_clamp (show p < 2 ^ 31 by omega)]
  have eto' : σ 6 p (Int32.ofInt 1).toNatClampNeg = nI to := eto
  rw [eto']
  iterate 11 refine hK _ _ _ _ ?_
  refine And.intro (vp_in_nI (by omega) (by decide)) ?_
  iterate 3 refine hK _ _ _ _ ?_
  refine And.intro (by first | omega | (rw [nI_clamp (by omega)]; omega)) (And.intro (vp_in_nI (n := 0) (by decide) (by decide)) ?_)
  iterate 4 refine hK _ _ _ _ ?_
  refine And.intro (vp_in_nI (by omega) (by decide)) ?_
  iterate 3 refine hK _ _ _ _ ?_
  refine And.intro (by first | omega | (rw [nI_clamp (by omega)]; omega)) (And.intro (vp_in_nI (n := 0) (by decide) (by decide)) ?_)
  rw [nI_clamp (show p < 2 ^ 31 by omega)]
  iterate 2 refine hK _ _ _ _ ?_
  have hr := rk_le (σ := σ) (b := to) hh
  refine key 12 h 1 m _ ?_ ?_ ?_ hh hf (by omega) (by omega) (by omega) ?_
  · rw [sUp_off (by decide), sUp_off (by decide)]
  · rw [sUp_off (by decide), sUp_off (by decide)]
  · rw [sUp_off (by decide), sUp_off (by decide)]
  · rw [← hG]
    unfold stM
    rw [eto, nI_clamp (show to < 2 ^ 31 by omega)]
    rfl
end
