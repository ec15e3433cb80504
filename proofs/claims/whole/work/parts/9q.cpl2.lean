/-! the reference passes hours; small questions couple -/
theorem c_mpass_ {w : JW} {D : JD} (hB : jBk w (w.2.2 41 8) D) (hW : jWF D) (hA : jIA 51 false 51) (x : Int32) : jF MX11_pass_ 407 [jR 41 false, jI x] w (jI (if 1 ≤ x ∧ x ≤ 120 then jHours D x.toNatClampNeg (w.1 51 false) 2 - w.1 51 false 2 else 0)) (if 1 ≤ x ∧ x ≤ 120 then jfn (jT0 w 0) 51 false (jHours D x.toNatClampNeg (w.1 51 false)) else jset (jT0 w 0) 41 false 0 1) := by
  have e51 : (jT0 w 0).1 51 false = w.1 51 false := by
    funext j
    unfold jT0
    rw [jset_I, if_neg (by omega)]
  have hB2 : jBk (jT0 w 0) ((jT0 w 0).2.2 41 8) D := hB.kept (fun k k1 k2 => by
    funext j
    unfold jT0
    rw [jset_I, if_neg (by omega)])
  refine jF_of jp_X11_pass_ rfl (Nat.le_of_ble_eq_true rfl) (fun C hm => ?_)
  refine bk_X11_pass__0 hm (c_isIn _ x 1 120) (by decide) (bk_X11_pass__12 hm (fun q => ?_) (fun q => ?_))
  · rw [jif0, Decidable.not_not] at q
    rw [if_pos q, if_pos q]
    obtain ⟨n, h1, h2, rfl⟩ := i32_nat (a := 1) (b := 120) q.1 q.2 (by omega) (by omega)
    rw [nI_clamp (by omega)]
    have hp := c_mpassAll hB2 hW (Or.inl rfl) hA ((jT0 w 0).1 51 false) (n := n) (by omega)
    rw [jfn_self] at hp
    have v : vp_in 2 51 := show vp_in (nI 2) 51 from vp_in_nI (by omega) (by omega)
    refine bk_X11_pass__21 hm v hp (by decide) (bk_X11_pass__37 hm v ⟨?_, ?_⟩)
    · rw [e51]
      show jI ((jfn (jT0 w 0) 51 false (jHours D n (w.1 51 false))).1 51 false 2 - (jT0 w 0).1 51 false 2) = _
      rw [jfn_row, e51]
    · rw [e51]
  · rw [jif0] at q
    rw [if_neg q, if_neg q]
    exact bk_X11_pass__15 hm (c_no2 _ 1) (by decide) (bk_X11_pass__20 hm ⟨rfl, rfl⟩)
theorem jhgt_01 {D : JD} {w : JW} (h : jCpl D w) : w.1 14 false 6 = w.1 51 false 1 := by
  have := h.2.1 1 (by omega)
  rw [← this, jrow_0 (by omega)]
theorem i32_rng {x y : Int32} : (0 ≤ x ∧ x ≤ y) ↔ (¬ x < 0 ∧ x ≤ y) := ⟨fun h => ⟨i32_not_lt.mpr h.1, h.2⟩, fun h => ⟨i32_not_lt.mp h.1, h.2⟩⟩
