/-! the reference's questions and its small changes -/
theorem in_nat {x : Int32} {n : Nat} (hn : n ≤ 2000) (h : 0 ≤ x ∧ x ≤ nI n - 1) : x.toNatClampNeg < n ∧ x = nI x.toNatClampNeg := by
  obtain ⟨c, hc, rfl⟩ := i32_in hn h.1 h.2
  rw [nI_clamp (by omega)]
  exact ⟨hc, rfl⟩
theorem c_mcave {w : JW} {D : JD} (hB : jBk w (w.2.2 41 8) D) (hW : jWF D) (hA : jIA 51 false 51) (x y : Int32) : jF MX11_cave 405 [jR 41 false, jI x, jI y] w
    (jI (if (0 ≤ x ∧ x ≤ nI (D.1 0) - 1) ∧ (0 ≤ y ∧ y ≤ 4) then jCave D (w.1 51 false) x.toNatClampNeg y else 0)) (jT0 w (if (0 ≤ x ∧ x ≤ nI (D.1 0) - 1) ∧ (0 ≤ y ∧ y ≤ 4) then 0 else 1)) := by
  refine jF_of jp_X11_cave rfl (Nat.le_of_ble_eq_true rfl) (fun C hm => ?_)
  have h5 := hW.1.1
  refine bk_X11_cave_0 hm (c_isCave (hB.t0 0) x) (by decide) (bk_X11_cave_10 hm (fun z => ?_) (fun z => ?_)) <;> rw [ite_ne0] at z
  · rw [if_neg (fun q => z q.1), if_neg (fun q => z q.1)]
    exact bk_X11_cave_31 hm (c_no _ 1) (by decide) (bk_X11_cave_36 hm ⟨rfl, jT0_T0 w 0 1⟩)
  · have z := Classical.not_not.mp z
    refine bk_X11_cave_13 hm (c_isIn _ y 0 4) (by decide) (bk_X11_cave_19 hm (fun z2 => ?_) (fun z2 => ?_)) <;> rw [ite_ne0] at z2
    · rw [if_neg (fun q => z2 q.2), if_neg (fun q => z2 q.2)]
      exact bk_X11_cave_31 hm (c_no _ 1) (by decide) (bk_X11_cave_36 hm ⟨rfl, jT0_T0 w 0 1⟩)
    · have z2 := Classical.not_not.mp z2
      rw [if_pos ⟨z, z2⟩, if_pos ⟨z, z2⟩]
      obtain ⟨hc, he⟩ := in_nat (by omega) z
      generalize x.toNatClampNeg = c at hc he
      subst he
      exact bk_X11_cave_22 hm (c_mcaveTold (hB.t0 0) hW hA hc z2.1 z2.2) (by decide) (bk_X11_cave_28 hm (bk_X11_cave_36 hm ⟨rfl, rfl⟩))
theorem c_mpipe {w : JW} {D : JD} (hB : jBk w (w.2.2 41 8) D) (hW : jWF D) (hA : jIA 51 false 51) (x y : Int32) : jF MX11_pipe 3 [jR 41 false, jI x, jI y] w
    (jI (if (0 ≤ x ∧ x ≤ nI (D.1 1) - 1) ∧ (0 ≤ y ∧ y ≤ 6) then jPipe D (w.1 51 false) x.toNatClampNeg y else 0)) (jT0 w (if (0 ≤ x ∧ x ≤ nI (D.1 1) - 1) ∧ (0 ≤ y ∧ y ≤ 6) then 0 else 1)) := by
  refine jF_of jp_X11_pipe rfl (Nat.le_of_ble_eq_true rfl) (fun C hm => ?_)
  have h5 := hW.1.2.1
  refine bk_X11_pipe_0 hm (c_isPipe (hB.t0 0) x) (by decide) (bk_X11_pipe_10 hm (fun z => ?_) (fun z => ?_)) <;> rw [ite_ne0] at z
  · rw [if_neg (fun q => z q.1), if_neg (fun q => z q.1)]
    exact bk_X11_pipe_32 hm (c_no _ 1) (by decide) (bk_X11_pipe_37 hm ⟨rfl, jT0_T0 w 0 1⟩)
  · have z := Classical.not_not.mp z
    refine bk_X11_pipe_13 hm (c_isIn _ y 0 6) (by decide) (bk_X11_pipe_20 hm (fun z2 => ?_) (fun z2 => ?_)) <;> rw [ite_ne0] at z2
    · rw [if_neg (fun q => z2 q.2), if_neg (fun q => z2 q.2)]
      exact bk_X11_pipe_32 hm (c_no _ 1) (by decide) (bk_X11_pipe_37 hm ⟨rfl, jT0_T0 w 0 1⟩)
    · have z2 := Classical.not_not.mp z2
      rw [if_pos ⟨z, z2⟩, if_pos ⟨z, z2⟩]
      obtain ⟨hc, he⟩ := in_nat (by omega) z
      generalize x.toNatClampNeg = c at hc he
      subst he
      exact bk_X11_pipe_23 hm (c_mpipeTold (hB.t0 0) hW hA hc z2.1 z2.2) (by decide) (bk_X11_pipe_29 hm (bk_X11_pipe_37 hm ⟨rfl, rfl⟩))
theorem c_mchord {w : JW} {D : JD} (hB : jBk w (w.2.2 41 8) D) (hW : jWF D) (hA : jIA 51 false 51) (x y : Int32) : jF MX11_chord 3 [jR 41 false, jI x, jI y] w
    (jI (if (0 ≤ x ∧ x ≤ nI (D.1 2) - 1) ∧ (0 ≤ y ∧ y ≤ 3) then jChd D (w.1 51 false) x.toNatClampNeg y else 0)) (jT0 w (if (0 ≤ x ∧ x ≤ nI (D.1 2) - 1) ∧ (0 ≤ y ∧ y ≤ 3) then 0 else 1)) := by
  refine jF_of jp_X11_chord rfl (Nat.le_of_ble_eq_true rfl) (fun C hm => ?_)
  have h5 := hW.1.2.2.1
  refine bk_X11_chord_0 hm (c_isChord (hB.t0 0) x) (by decide) (bk_X11_chord_10 hm (fun z => ?_) (fun z => ?_)) <;> rw [ite_ne0] at z
  · rw [if_neg (fun q => z q.1), if_neg (fun q => z q.1)]
    exact bk_X11_chord_31 hm (c_no _ 1) (by decide) (bk_X11_chord_36 hm ⟨rfl, jT0_T0 w 0 1⟩)
  · have z := Classical.not_not.mp z
    refine bk_X11_chord_13 hm (c_isIn _ y 0 3) (by decide) (bk_X11_chord_19 hm (fun z2 => ?_) (fun z2 => ?_)) <;> rw [ite_ne0] at z2
    · rw [if_neg (fun q => z2 q.2), if_neg (fun q => z2 q.2)]
      exact bk_X11_chord_31 hm (c_no _ 1) (by decide) (bk_X11_chord_36 hm ⟨rfl, jT0_T0 w 0 1⟩)
    · have z2 := Classical.not_not.mp z2
      rw [if_pos ⟨z, z2⟩, if_pos ⟨z, z2⟩]
      obtain ⟨hc, he⟩ := in_nat (by omega) z
      generalize x.toNatClampNeg = c at hc he
      subst he
      exact bk_X11_chord_22 hm (c_mchordTold (hB.t0 0) hW hA hc y) (by decide) (bk_X11_chord_28 hm (bk_X11_chord_36 hm ⟨rfl, rfl⟩))
/-- a note told: its place is inside its chord -/
def jNin (D : JD) (x y : Int32) : Bool := decide ((0 ≤ x ∧ x ≤ nI (D.1 2) - 1) ∧ (0 ≤ y ∧ y ≤ nI (D.1 (10 + x.toNatClampNeg)) - 1))
def jNote (D : JD) (x y : Int32) : Int32 := nI (D.1 (20 + (6 * x.toNatClampNeg + y.toNatClampNeg)))
theorem c_mnote {w : JW} {D : JD} (hB : jBk w (w.2.2 41 8) D) (hW : jWF D) (x y : Int32) : jF MX11_note 2 [jR 41 false, jI x, jI y] w (jI (if jNin D x y then jNote D x y else 0)) (jT0 w (if jNin D x y then 0 else 1)) := by
  refine jF_of jp_X11_note rfl (Nat.le_of_ble_eq_true rfl) (fun C hm => ?_)
  have h5 := hW.1.2.2.1
  refine bk_X11_note_0 hm (c_isChord (hB.t0 0) x) (by decide) (bk_X11_note_10 hm (fun z => ?_) (fun z => ?_)) <;> rw [ite_ne0] at z
  · rw [if_neg (fun q => z (of_decide_eq_true q).1), if_neg (fun q => z (of_decide_eq_true q).1)]
    exact bk_X11_note_54 hm (c_no _ 1) (by decide) (bk_X11_note_59 hm ⟨rfl, jT0_T0 w 0 1⟩)
  · have z := Classical.not_not.mp z
    obtain ⟨hc, he⟩ := in_nat (by omega) z
    obtain ⟨s1, s6, -⟩ := hW.2.2.2.1 _ hc
    obtain ⟨b1, b2⟩ := (hB.t0 0).2.2.2.1 _ hc
    have v0 : vp_in (7 * x) 42 := by rw [he, mx7]; exact vp_in_nI (by omega) (by omega)
    have c0 : (7 * x).toNatClampNeg = 7 * x.toNatClampNeg := by
      generalize x.toNatClampNeg = c at hc he
      rw [he, mx7, nI_clamp (by omega)]
    refine bk_X11_note_13 hm v0 (by rw [c0, b1]; exact c_isIn _ y 0 _) (by decide) (bk_X11_note_32 hm (fun z2 => ?_) (fun z2 => ?_)) <;> rw [ite_ne0] at z2
    · rw [if_neg (fun q => z2 (of_decide_eq_true q).2), if_neg (fun q => z2 (of_decide_eq_true q).2)]
      exact bk_X11_note_54 hm (c_no _ 1) (by decide) (bk_X11_note_59 hm ⟨rfl, jT0_T0 w 0 1⟩)
    · have z2 := Classical.not_not.mp z2
      obtain ⟨hc2, he2⟩ := in_nat (by omega) z2
      rw [if_pos (show jNin D x y = true from decide_eq_true ⟨z, z2⟩), if_pos (show jNin D x y = true from decide_eq_true ⟨z, z2⟩)]
      have n1 := b2 _ hc2
      unfold jNote
      generalize x.toNatClampNeg = c at hc he s1 s6 b1 b2 c0 hc2 n1
      generalize y.toNatClampNeg = d at hc2 he2 n1
      have e : 7 * x + 1 + y = nI (7 * c + (1 + d)) := by rw [he, he2, mx7, nI_1, nI_add, Nat.add_assoc]
      refine bk_X11_note_35 hm (by rw [e]; exact vp_in_nI (by omega) (by omega)) (bk_X11_note_59 hm ⟨?_, rfl⟩)
      rw [e, nI_clamp (by omega)]
      exact congrArg jI n1
theorem c_mheightAt {w : JW} {D : JD} (hB : jBk w (w.2.2 41 8) D) (hW : jWF D) (hA : jIA 51 false 51) (x : Int32) : jF MX11_height 1 [jR 41 false, jI x] w (jI (if 0 ≤ x ∧ x ≤ 9999 then jHgt D x (w.1 51 false 1) else 0)) (jT0 w (if 0 ≤ x ∧ x ≤ 9999 then 0 else 1)) := by
  refine jF_of jp_X11_height rfl (Nat.le_of_ble_eq_true rfl) (fun C hm => ?_)
  refine bk_X11_height_0 hm (c_isIn _ x 0 9999) (by decide) (bk_X11_height_13 hm (fun z => ?_) (fun z => ?_)) <;> rw [ite_ne0] at z
  · rw [if_neg z, if_neg z]
    exact bk_X11_height_30 hm (c_no _ 1) (by decide) (bk_X11_height_35 hm ⟨rfl, jT0_T0 w 0 1⟩)
  · have z := Classical.not_not.mp z
    rw [if_pos z, if_pos z]
    exact bk_X11_height_16 hm (vp_in_nI (n := 1) (by omega) (by omega)) (c_mheight (hB.t0 0) hW x _) (by decide) (bk_X11_height_27 hm (bk_X11_height_35 hm ⟨rfl, rfl⟩))
theorem c_misSilent {w : JW} {D : JD} (hB : jBk w (w.2.2 41 8) D) (hW : jWF D) (x : Int32) : jF MX11_isSilent 1 [jR 41 false, jI x] w (jI (if (0 ≤ x ∧ x ≤ 9999) ∧ jStill D x = true then 1 else 0)) (jT0 w (if 0 ≤ x ∧ x ≤ 9999 then 0 else 1)) := by
  refine jF_of jp_X11_isSilent rfl (Nat.le_of_ble_eq_true rfl) (fun C hm => ?_)
  refine bk_X11_isSilent_0 hm (c_isIn _ x 0 9999) (by decide) (bk_X11_isSilent_13 hm (fun z => ?_) (fun z => ?_)) <;> rw [ite_ne0] at z
  · rw [if_neg (fun q => z q.1), if_neg z]
    exact bk_X11_isSilent_24 hm (c_no _ 1) (by decide) (bk_X11_isSilent_29 hm (fun _ => bk_X11_isSilent_36 hm (bk_X11_isSilent_37 hm rfl ⟨rfl, jT0_T0 w 0 1⟩)) (fun q => absurd (by decide) q))
  · have z := Classical.not_not.mp z
    rw [if_pos z]
    refine bk_X11_isSilent_16 hm (c_mquiet (hB.t0 0) hW x) (by decide) (bk_X11_isSilent_21 hm (bk_X11_isSilent_37 hm (jz_bool _) ⟨?_, rfl⟩))
    cases jStill D x
    · exact congrArg jI (if_neg (fun q => absurd q.2 (by decide))).symm
    · exact congrArg jI (if_pos ⟨z, rfl⟩).symm
theorem c_mput (w : JW) (hA : jIA 51 false 51) {j : Nat} (hj : j < 51) (x : Int32) : jF MX11_put 0 [jR 41 false, jI (nI j), jI x] w (jI (w.1 51 false j)) (jset w 51 false j x) := by
  refine jF_of jp_X11_put rfl (Nat.le_of_ble_eq_true rfl) (fun C hm => ?_)
  refine bk_X11_put_0 hm (vp_in_nI hj (by omega)) (vp_in_nI hj (by omega)) ⟨?_, ?_⟩ <;> rw [nI_clamp (by omega)]
theorem c_msetTide (w : JW) (hA : jIA 51 false 51) (x : Int32) : jF MX11_setTide 1 [jR 41 false, jI x] w (jI (if 0 ≤ x ∧ x ≤ 9 then w.1 51 false 1 else 0)) (if 0 ≤ x ∧ x ≤ 9 then jset (jT0 w 0) 51 false 1 x else jT0 w 1) := by
  refine jF_of jp_X11_setTide rfl (Nat.le_of_ble_eq_true rfl) (fun C hm => ?_)
  refine bk_X11_setTide_0 hm (c_isIn _ x 0 9) (by decide) (bk_X11_setTide_12 hm (fun z => ?_) (fun z => ?_)) <;> rw [ite_ne0] at z
  · rw [if_neg z, if_neg z]
    exact bk_X11_setTide_24 hm (c_no _ 1) (by decide) (bk_X11_setTide_29 hm ⟨rfl, jT0_T0 w 0 1⟩)
  · have z := Classical.not_not.mp z
    rw [if_pos z, if_pos z]
    exact bk_X11_setTide_15 hm (c_mput _ hA (j := 1) (by omega) x) (by decide) (bk_X11_setTide_21 hm (bk_X11_setTide_29 hm ⟨rfl, rfl⟩))
theorem c_mclean {w : JW} {D : JD} (hB : jBk w (w.2.2 41 8) D) (hW : jWF D) (hA : jIA 51 false 51) (x : Int32) : jF MX11_clean 2 [jR 41 false, jI x] w (jI (if 0 ≤ x ∧ x ≤ nI (D.1 1) - 1 then w.1 51 false (9 + x.toNatClampNeg) else 0))
    (if 0 ≤ x ∧ x ≤ nI (D.1 1) - 1 then jset (jT0 w 0) 51 false (9 + x.toNatClampNeg) 0 else jT0 w 1) := by
  refine jF_of jp_X11_clean rfl (Nat.le_of_ble_eq_true rfl) (fun C hm => ?_)
  have h5 := hW.1.2.1
  refine bk_X11_clean_0 hm (c_isPipe (hB.t0 0) x) (by decide) (bk_X11_clean_10 hm (fun z => ?_) (fun z => ?_)) <;> rw [ite_ne0] at z
  · rw [if_neg z, if_neg z]
    exact bk_X11_clean_25 hm (c_no _ 1) (by decide) (bk_X11_clean_30 hm ⟨rfl, jT0_T0 w 0 1⟩)
  · have z := Classical.not_not.mp z
    rw [if_pos z, if_pos z]
    obtain ⟨hc, he⟩ := in_nat (by omega) z
    generalize x.toNatClampNeg = c at hc he
    subst he
    refine bk_X11_clean_13 hm (by rw [xa9]; exact c_mput _ hA (j := 9 + c) (by omega) 0) (by decide) (bk_X11_clean_22 hm (bk_X11_clean_30 hm ⟨rfl, rfl⟩))
