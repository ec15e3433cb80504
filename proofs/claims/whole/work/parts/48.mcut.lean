/-! the reference cuts a pipe -/
/-- the cut is a cut: the pipe is there, and something is left -/
def jCutOk (D : JD) (x y : Int32) : Bool := decide (1 ≤ y ∧ y ≤ nI (D.1 (140 + x.toNatClampNeg)) - 1)
theorem c_mcut {w : JW} {D : JD} (hB : jBk w (w.2.2 41 8) D) (hW : jWF D) (x y : Int32) : jF MX11_cut 2 [jR 41 false, jI x, jI y] w
    (jI (if 0 ≤ x ∧ x ≤ nI (D.1 1) - 1 then (if jCutOk D x y then nI (D.1 (140 + x.toNatClampNeg) - y.toNatClampNeg) else 0) else 0))
    (if 0 ≤ x ∧ x ≤ nI (D.1 1) - 1 then (if jCutOk D x y then jset (jT0 w 0) 55 (w.2.2 41 8) (3 * x.toNatClampNeg + 1) (nI (D.1 (140 + x.toNatClampNeg) - y.toNatClampNeg)) else jT0 w 2) else jT0 w 1) := by
  refine jF_of jp_X11_cut rfl (Nat.le_of_ble_eq_true rfl) (fun C hm => ?_)
  have h12 := hW.1.2.1
  refine bk_X11_cut_0 hm (c_isPipe (hB.t0 0) x) (by decide) (bk_X11_cut_10 hm (fun z => ?_) (fun z => ?_)) <;> rw [ite_ne0] at z
  · have z := Classical.not_not.mp z
    rw [if_pos z, if_pos z]
    obtain ⟨hc, he⟩ := in_nat (by omega) z
    unfold jCutOk
    generalize x.toNatClampNeg = p at hc he
    subst he
    obtain ⟨-, l1, l4⟩ := hW.2.2.1 p hc
    refine bk_X11_cut_19 hm (c_mlength (hB.t0 0) hW hc) (by decide) (bk_X11_cut_26 hm (c_isIn _ y 1 _) (by decide) (bk_X11_cut_31 hm (fun z2 => ?_) (fun z2 => ?_))) <;> rw [ite_ne0] at z2
    · have z2 := Classical.not_not.mp z2
      rw [if_pos (decide_eq_true z2), if_pos (decide_eq_true z2)]
      obtain ⟨c, hc2, rfl⟩ := i32_in (n := D.1 (140 + p)) (by omega) (Int32.le_trans (by decide) z2.1) z2.2
      rw [nI_clamp (by omega)]
      have hc1 : 1 ≤ c := (nI_leI (a := 1) (by omega) (by omega)).mp z2.1
      have c1 : 3 * nI p + 1 = nI (3 * p + 1) := by rw [mx3, nI_1]
      have c0 : (nI (3 * p + 1)).toNatClampNeg = 3 * p + 1 := nI_clamp (by omega)
      have v1 : vp_in (3 * nI p + 1) 36 := by rw [c1]; exact vp_in_nI (by omega) (by omega)
      have b1 : (jT0 w 0).1 55 ((jT0 w 0).2.2 41 8) (3 * p + 1) = nI (D.1 (140 + p)) := ((hB.t0 0).2.2.1 p hc).2.1
      have hB2 := (hB.t0 0).cut hW (v := D.1 (140 + p) - c) hc
      have hW2 := jCutD_WF (p := p) hW (v := D.1 (140 + p) - c) (by omega) (by omega)
      have hl := c_mlength (w := jset (jT0 w 0) 55 ((jT0 w 0).2.2 41 8) (3 * p + 1) (nI (D.1 (140 + p) - c))) hB2 hW2 (p := p) (by rw [jCutD_no (by omega)]; exact hc)
      rw [jCutD_at] at hl
      refine bk_X11_cut_40 hm v1 v1 (by rw [c1, c0, b1, pk_sub (by omega)]; exact hl) (by decide) (bk_X11_cut_62 hm ⟨rfl, rfl⟩)
    · rw [if_neg (fun q => z2 (of_decide_eq_true q)), if_neg (fun q => z2 (of_decide_eq_true q))]
      exact bk_X11_cut_34 hm (c_no _ 2) (by decide) (bk_X11_cut_39 hm ⟨rfl, jT0_T0 w 0 2⟩)
  · rw [if_neg z, if_neg z]
    exact bk_X11_cut_13 hm (c_no _ 1) (by decide) (bk_X11_cut_18 hm ⟨rfl, jT0_T0 w 0 1⟩)
