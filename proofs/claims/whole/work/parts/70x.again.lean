/-! THE CLASS: a second day over the setting of a day that is over -/
section
variable {σ t u u' : sMem} {v N P S G : Nat} {r : Int32}
theorem DY_again (h : HR σ t v N P S G) (hv : v = 36 ∨ v = 54) (hS : SS σ (cn u G) aT N S G) (hU : UI t u N G G (t 3 0 4) (-1) (-1)) (hU' : UI t u' N G G (t 3 0 4) r (-1)) : DY (sUp σ 76 0 7 r) (cn u' G) aT v N P S G := by
  obtain ⟨k, e, hk⟩ := h.2.2.1.2.2.1
  have hM := h.2.2.1
  have hS2 := hU'.SC hM e hk
  refine ⟨TT_of (h.2.1.cg (fun i h1 h2 => sUp_off (by omega))) hM (fun a ha => hU'.at (by omega)), hU'.MC hM, ?_, hS2⟩
  obtain ⟨s0, s1, s2, s3, s4, s5, s6⟩ := hS
  have f27 : lw (cn u' G) = lw (cn u G) := by
    unfold lw
    rw [cn_f (t := u') (k := 27) (Or.inl rfl), cn_f (t := u) (k := 27) (Or.inl rfl), hU.2.2.1, hU'.2.2.1]
  have fg : ∀ g, g < G → ∀ j, j < 2 → cn u' G 10 g j = cn u G 10 g j := fun g hg j hj => by rw [cn_g (t := u') hg hj, cn_g (t := u) hg hj, hU.2.1 g j hg, hU'.2.1 g j hg]
  refine ⟨?_, ?_, fun g hg => ?_, fun x y hx hy => ?_, fun s hs => ?_, ?_, fun s hs => ?_⟩
  · rw [sUp_k (by decide), s0, f27]
  · rw [sUp_k (by decide), s1]
  · rw [sUp_off (by decide), sUp_off (by decide)]
    unfold gA gF
    rw [fg g hg 0 (by decide), fg g hg 1 (by decide)]
    exact s2 g hg
  · rw [sUp_off (by decide), s3 x y hx hy]
    unfold sgB
    rw [hU.at (a := 12) (by omega), hU'.at (a := 12) (by omega), cn_f (t := u) (k := 29) (by omega), cn_f (t := u') (k := 29) (by omega), hU.2.2.2.2.1, hU'.2.2.2.2.1]
  · rw [sUp_off (by decide), s4 s hs]
    unfold tlO
    rw [hU.at (a := 16) (by omega), hU'.at (a := 16) (by omega)]
  · rw [sUp_at, cn_f (t := u') (k := 28) (Or.inr (Or.inl rfl)), hU'.2.2.2.1]
  · rw [sUp_k (by decide)]; exact s6 s hs
end
