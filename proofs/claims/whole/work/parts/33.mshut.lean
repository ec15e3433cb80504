/-! the reference's caves -/
theorem c_mshut {w : JW} {D : JD} (hB : jBk w (w.2.2 41 8) D) (hW : jWF D) {k : Nat} (hA : jIA k false 51) {c : Nat} (hc : c < D.1 0) : jF MX11_isShut 403 [jR 41 false, jR k false, jI (nI c)] w (jI (if jShut D (w.1 k false) c then 1 else 0)) w := by
  refine jF_of jp_X11_isShut rfl (Nat.le_of_ble_eq_true rfl) (fun C hm => ?_)
  have hcn := hW.1.1
  have h16 := hW.1.2.2.2.2.2
  have e2 := hB.1.2.2.2.2.2
  refine bk_X11_isShut_0 hm hA (vp_in_nI (n := 0) (by omega) (by omega)) (c_mquiet hB hW _) (by decide) (bk_X11_isShut_7 hm ?_)
  unfold jShut
  generalize jStill D (w.1 k false 0) = st
  let q : Nat → Bool := fun j => decide (D.2.1 12 j = 15) && (decide (D.1 (120 + j) = c) && D.2.2 j (w.1 k false))
  have h := jfor (P := fun i => i ≤ D.1 5 → jW C 0 0 (jQQ C 0 0 (fun v w' => v = jI (if st || jany q (D.1 5) then 1 else 0) ∧ w' = w)) 11 [jR 41 false, jR k false, jI (nI c), jI (if st || jany q i then 1 else 0), jI (nI (3 * i))] [] w) (D.1 5) ?_ ?_ (Nat.zero_le _)
  · rw [show jany q 0 = false from rfl, Bool.or_false] at h
    exact h
  · intro _
    exact bk_X11_isShut_11 hm (fun _ => bk_X11_isShut_82 hm (jz_bool _) ⟨rfl, rfl⟩) (fun z => absurd (by rw [e2, mx3]; exact (nI_leI (by omega) (by omega)).mpr (Nat.le_refl _)) z)
  · intro i hi ih _
    refine bk_X11_isShut_11 hm (fun z => absurd ((nI_leI (a := 3 * D.1 5) (b := 3 * i) (by omega) (by omega)).mp (by rw [← mx3, ← e2]; exact z)) (by omega)) (fun _ => ?_)
    have ih2 := ih (by omega)
    rw [jany] at ih2
    obtain ⟨b1, b2, b3⟩ := hB.2.2.2.2.2.2 i hi
    have c2 : (nI (3 * i) + 2).toNatClampNeg = 3 * i + 2 := by rw [ax2, nI_clamp (by omega)]
    have c1 : (nI (3 * i) + 1).toNatClampNeg = 3 * i + 1 := by rw [nI_1, nI_clamp (by omega)]
    have c0 : (nI (3 * i)).toNatClampNeg = 3 * i := nI_clamp (by omega)
    have nxt : nI (3 * i) + 3 = nI (3 * (i + 1)) := by rw [ax3]; rfl
    have hno : q i = false → jW C 0 0 (jQQ C 0 0 (fun v w' => v = jI (if st || jany q (D.1 5) then 1 else 0) ∧ w' = w)) 76 [jR 41 false, jR k false, jI (nI c), jI (if st || jany q i then 1 else 0), jI (nI (3 * i))] [] w := by
      intro z
      rw [z, Bool.or_false] at ih2
      refine bk_X11_isShut_76 hm ?_
      rw [nxt]
      exact ih2
    refine bk_X11_isShut_25 hm (vp_in_nI (by omega) (by omega)) (fun z => ?_) (fun z => ?_) <;> rw [c0, b1] at z
    · refine hno ?_
      show (decide (D.2.1 12 i = 15) && (decide (D.1 (120 + i) = c) && D.2.2 i (w.1 k false))) = false
      simp [z]
    · have ht : D.1 (120 + i) < 2 ^ 31 := by
        rcases hW.2.2.2.2.2 i hi with h | h
        · have := h.2; omega
        · have := h.2; have := hW.1.2.1; omega
      refine bk_X11_isShut_40 hm (by rw [nI_1]; exact vp_in_nI (by omega) (by omega)) (fun z2 => ?_) (fun z2 => ?_) <;> rw [c1, b2] at z2
      · refine hno ?_
        have n : ¬ D.1 (120 + i) = c := fun e => z2 (by rw [e])
        show (decide (D.2.1 12 i = 15) && (decide (D.1 (120 + i) = c) && D.2.2 i (w.1 k false))) = false
        simp [n]
      · have e3 : D.1 (120 + i) = c := (nI_eq ht (by omega)).mp z2
        rcases b3 with ⟨-, y, -⟩ | ⟨v, n, y1, y2, y3, y4⟩
        · rw [z] at y; exact absurd y (by decide)
        · refine bk_X11_isShut_56 hm (d2 := n) (r := if D.2.2 i (w.1 k false) then 1 else 0) (w2 := w) (by rw [ax2]; exact vp_in_nI (by omega) (by omega)) ?_ (by omega) ?_
          · rw [c2, y1]
            exact c_mholdsD hW hA y2 y3 y4
          · refine bk_X11_isShut_74 hm ?_
            rw [or_bool]
            have eq : q i = D.2.2 i (w.1 k false) := by
              show (decide (D.2.1 12 i = 15) && (decide (D.1 (120 + i) = c) && D.2.2 i (w.1 k false))) = _
              simp [z, e3]
            rw [← eq, Bool.or_assoc]
            refine bk_X11_isShut_76 hm ?_
            rw [nxt]
            exact ih2
theorem c_mpress {w : JW} {D : JD} (hB : jBk w (w.2.2 41 8) D) (hW : jWF D) {k : Nat} (hA : jIA k false 51) {c : Nat} (hc : c < D.1 0) : jF MX11_press 404 [jR 41 false, jR k false, jI (nI c)] w jU (jfn w k false (jPress1 D c (w.1 k false))) := by
  refine jF_of jp_X11_press rfl (Nat.le_of_ble_eq_true rfl) (fun C hm => ?_)
  have hcn := hW.1.1
  obtain ⟨b1, b2⟩ := hB.2.1 c hc
  have c0 : 2 * nI c = nI (2 * c) := mx2 c
  have c1 : 2 * nI c + 1 = nI (2 * c + 1) := by rw [mx2, nI_1]
  have k0 : (nI (2 * c)).toNatClampNeg = 2 * c := nI_clamp (by omega)
  have k1 : (nI (2 * c + 1)).toNatClampNeg = 2 * c + 1 := nI_clamp (by omega)
  refine bk_X11_press_0 hm hA (vp_in_nI (n := 0) (by omega) (by omega)) (vp_in_nI (n := 1) (by omega) (by omega)) (c_mheight hB hW _ _) (by decide) ?_
  refine bk_X11_press_10 hm (by rw [c0]; exact vp_in_nI (by omega) (by omega)) (by rw [c1]; exact vp_in_nI (by omega) (by omega)) (by rw [c1, k1, b2]; exact hW.2.1 c hc) (c_mshut hB hW hA hc) (by decide) ?_
  rw [c1, k1, b2, c0, k0, b1, xa4]
  have fin : ∀ z : Int32, jW C 0 0 (jQQ C 0 0 (fun v w' => v = jU ∧ w' = jfn w k false (upd (w.1 k false) (4 + c) z))) 63 [jU, jU, jU, jU] [jI z, jI (nI (4 + c)), jR k false] w := by
    intro z
    refine bk_X11_press_63 hm hA (vp_in_nI (by omega) (by omega)) ⟨rfl, ?_⟩
    rw [nI_clamp (by omega), jset_fn]
  unfold jPress1
  cases hs : jShut D (w.1 k false) c with
  | true => exact bk_X11_press_47 hm (fun z => absurd z (by decide)) (fun _ => bk_X11_press_50 hm (fin _))
  | false =>
    refine bk_X11_press_47 hm (fun _ => bk_X11_press_54 hm hA (by rw [xa4]; exact vp_in_nI (by omega) (by omega)) ?_) (fun z => absurd rfl z)
    rw [xa4, nI_clamp (by omega)]
    exact fin _
