
/-! more of the class's questions and changes: answer or throw -/
theorem x_cave {w : JW} {D : JD} {R f : Nat → Int32} {x0 : Int32} (hO : jOrg w (w.2.2 0 6) D) (hW : jWF D) (x y : Int32) : jSX MX9_cave 6 1 6 [jR 0 false, jI x, jI y] (jgm w false R f x0) (fun v w2 => ∃ c : Nat, c < D.1 0 ∧ x = nI c ∧ (¬ y < 0 ∧ y < 5) ∧ ∃ r, v = jI r ∧ (r = jCave D R c y ∧ ∃ f x, w2 = jgm w false R f x)) (fun E w2 => ¬ ((0 ≤ x ∧ x < nI (D.1 0)) ∧ ¬ y < 0 ∧ y < 5) ∧ E = jIOB ∧ w2 = jgm w false R f x0) := by
  refine jSX_of jp_X9_cave rfl (Nat.le_of_ble_eq_true rfl) (fun C hx => ?_)
  have hm : jok C MX9_cave 6 0 0 := hx.1.less (Nat.le_refl _) (Nat.zero_le _) (Nat.zero_le _)
  have h5 := hW.1.1
  have e : (jgm w false R f x0).1 20 ((jgm w false R f x0).2.2 0 6) 9 = nI (D.1 0) := (jgm_org (t := false) (R := R) (f := f) (x := x0) hO).1.1
  refine bk_X9_cave_0 hm (fun q => jr_throw hx (by decide) (by decide) (by decide) (j := 35) (by decide) rfl rfl rfl jw_1067 jw_138 jx_at3 jx_k3 (Nat.le_of_ble_eq_true rfl) rfl dX9_cave_24 dX9_cave_27 dX9_cave_28 dX9_cave_30 dX9_cave_33 ⟨fun z => i32_not_lt.mpr z.1.1 q, rfl, rfl⟩) (fun q => bk_X9_cave_4 hm (fun q2 => jr_throw hx (by decide) (by decide) (by decide) (j := 35) (by decide) rfl rfl rfl jw_1067 jw_138 jx_at3 jx_k3 (Nat.le_of_ble_eq_true rfl) rfl dX9_cave_24 dX9_cave_27 dX9_cave_28 dX9_cave_30 dX9_cave_33 ⟨fun z => ?_, rfl, rfl⟩) (fun q2 => bk_X9_cave_15 hm (fun q3 => jr_throw hx (by decide) (by decide) (by decide) (j := 35) (by decide) rfl rfl rfl jw_1067 jw_138 jx_at3 jx_k3 (Nat.le_of_ble_eq_true rfl) rfl dX9_cave_24 dX9_cave_27 dX9_cave_28 dX9_cave_30 dX9_cave_33 ⟨fun z => z.2.1 q3, rfl, rfl⟩) (fun q3 => bk_X9_cave_19 hm (fun q4 => ?_) (fun q4 => jr_throw hx (by decide) (by decide) (by decide) (j := 35) (by decide) rfl rfl rfl jw_1067 jw_138 jx_at3 jx_k3 (Nat.le_of_ble_eq_true rfl) rfl dX9_cave_24 dX9_cave_27 dX9_cave_28 dX9_cave_30 dX9_cave_33 ⟨fun z => q4 z.2.2, rfl, rfl⟩))))
  · rw [e] at q2
    exact i32_not_lt.mpr q2 z.1.2
  · rw [e] at q2
    obtain ⟨c, hc, rfl⟩ := i32_N ⟨i32_not_lt.mp q, Decidable.not_not.mp (fun z => q2 (i32_not_lt.mp z))⟩ (by omega)
    exact jx_fin (jW_mono (fun v w' z => ⟨c, hc, rfl, ⟨q3, q4⟩, z⟩) (c_cave_ok hm hO hW hc y))
theorem x_chord {w : JW} {D : JD} {R f : Nat → Int32} {x0 : Int32} (hO : jOrg w (w.2.2 0 6) D) (hW : jWF D) (x y : Int32) : jSX MX9_chord 6 1 6 [jR 0 false, jI x, jI y] (jgm w false R f x0) (fun v w2 => ∃ c : Nat, c < D.1 2 ∧ x = nI c ∧ (¬ y < 0 ∧ y < 4) ∧ v = jI (jChd D R c y) ∧ w2 = jgm w false R f x0) (fun E w2 => ¬ ((0 ≤ x ∧ x < nI (D.1 2)) ∧ ¬ y < 0 ∧ y < 4) ∧ E = jIOB ∧ w2 = jgm w false R f x0) := by
  refine jSX_of jp_X9_chord rfl (Nat.le_of_ble_eq_true rfl) (fun C hx => ?_)
  have hm : jok C MX9_chord 6 0 0 := hx.1.less (Nat.le_refl _) (Nat.zero_le _) (Nat.zero_le _)
  have h5 := hW.1.2.2.1
  have e : (jgm w false R f x0).1 20 ((jgm w false R f x0).2.2 0 6) 11 = nI (D.1 2) := (jgm_org (t := false) (R := R) (f := f) (x := x0) hO).1.2.2.1
  refine bk_X9_chord_0 hm (fun q => jr_throw hx (by decide) (by decide) (by decide) (j := 37) (by decide) rfl rfl rfl jw_1067 jw_138 jx_at3 jx_k3 (Nat.le_of_ble_eq_true rfl) rfl dX9_chord_24 dX9_chord_27 dX9_chord_28 dX9_chord_30 dX9_chord_33 ⟨fun z => i32_not_lt.mpr z.1.1 q, rfl, rfl⟩) (fun q => bk_X9_chord_4 hm (fun q2 => jr_throw hx (by decide) (by decide) (by decide) (j := 37) (by decide) rfl rfl rfl jw_1067 jw_138 jx_at3 jx_k3 (Nat.le_of_ble_eq_true rfl) rfl dX9_chord_24 dX9_chord_27 dX9_chord_28 dX9_chord_30 dX9_chord_33 ⟨fun z => ?_, rfl, rfl⟩) (fun q2 => bk_X9_chord_15 hm (fun q3 => jr_throw hx (by decide) (by decide) (by decide) (j := 37) (by decide) rfl rfl rfl jw_1067 jw_138 jx_at3 jx_k3 (Nat.le_of_ble_eq_true rfl) rfl dX9_chord_24 dX9_chord_27 dX9_chord_28 dX9_chord_30 dX9_chord_33 ⟨fun z => z.2.1 q3, rfl, rfl⟩) (fun q3 => bk_X9_chord_19 hm (fun q4 => ?_) (fun q4 => jr_throw hx (by decide) (by decide) (by decide) (j := 37) (by decide) rfl rfl rfl jw_1067 jw_138 jx_at3 jx_k3 (Nat.le_of_ble_eq_true rfl) rfl dX9_chord_24 dX9_chord_27 dX9_chord_28 dX9_chord_30 dX9_chord_33 ⟨fun z => q4 z.2.2, rfl, rfl⟩))))
  · rw [e] at q2
    exact i32_not_lt.mpr q2 z.1.2
  · rw [e] at q2
    obtain ⟨c, hc, rfl⟩ := i32_N ⟨i32_not_lt.mp q, Decidable.not_not.mp (fun z => q2 (i32_not_lt.mp z))⟩ (by omega)
    exact jx_fin (jW_mono (fun v w' z => ⟨c, hc, rfl, ⟨q3, q4⟩, z⟩) (c_chord_ok (hm.less (by decide) (Nat.le_refl _) (Nat.le_refl _)) hO hW hc y))
theorem jno_pipe {x : Int32} {n : Nat} (q : (if 0 ≤ x ∧ x < nI n then (0 : Int32) else 1) = 0) : 0 ≤ x ∧ x < nI n := by
  by_cases z : 0 ≤ x ∧ x < nI n
  · exact z
  · rw [if_neg z] at q
    exact absurd q (by decide)
theorem x_pipe {w : JW} {D : JD} {R f : Nat → Int32} {x0 : Int32} (hO : jOrg w (w.2.2 0 6) D) (hW : jWF D) (x y : Int32) : jSX MX9_pipe 6 1 6 [jR 0 false, jI x, jI y] (jgm w false R f x0) (fun v w2 => ∃ p : Nat, p < D.1 1 ∧ x = nI p ∧ (¬ y < 0 ∧ y < 7) ∧ v = jI (jPipe D R p y) ∧ w2 = jgm w false R f x0) (fun E w2 => ¬ ((0 ≤ x ∧ x < nI (D.1 1)) ∧ ¬ y < 0 ∧ y < 7) ∧ E = jIOB ∧ w2 = jgm w false R f x0) := by
  refine jSX_of jp_X9_pipe rfl (Nat.le_of_ble_eq_true rfl) (fun C hx => ?_)
  have hm : jok C MX9_pipe 6 0 0 := hx.1.less (Nat.le_refl _) (Nat.zero_le _) (Nat.zero_le _)
  have h12 := hW.1.2.1
  refine bk_X9_pipe_0 hm (c_isNoPipe (w := jgm w false R f x0) (jgm_org hO) hW x) (by decide) (bk_X9_pipe_5 hm (fun q => jr_throw hx (by decide) (by decide) (by decide) (j := 36) (by decide) rfl rfl rfl jw_1067 jw_138 jx_at3 jx_k3 (Nat.le_of_ble_eq_true rfl) rfl dX9_pipe_18 dX9_pipe_21 dX9_pipe_22 dX9_pipe_24 dX9_pipe_27 ⟨fun z => q (if_pos z.1), rfl, rfl⟩) (fun q => bk_X9_pipe_8 hm (fun q3 => jr_throw hx (by decide) (by decide) (by decide) (j := 36) (by decide) rfl rfl rfl jw_1067 jw_138 jx_at3 jx_k3 (Nat.le_of_ble_eq_true rfl) rfl dX9_pipe_18 dX9_pipe_21 dX9_pipe_22 dX9_pipe_24 dX9_pipe_27 ⟨fun z => z.2.1 q3, rfl, rfl⟩) (fun q3 => bk_X9_pipe_12 hm (fun q4 => ?_) (fun q4 => jr_throw hx (by decide) (by decide) (by decide) (j := 36) (by decide) rfl rfl rfl jw_1067 jw_138 jx_at3 jx_k3 (Nat.le_of_ble_eq_true rfl) rfl dX9_pipe_18 dX9_pipe_21 dX9_pipe_22 dX9_pipe_24 dX9_pipe_27 ⟨fun z => q4 z.2.2, rfl, rfl⟩))))
  obtain ⟨p, hp, rfl⟩ := i32_N (jno_pipe q) (by omega)
  exact jx_fin (jW_mono (fun v w' z => ⟨p, hp, rfl, ⟨q3, q4⟩, z⟩) (c_pipe_ok (hm.less (by decide) (Nat.le_refl _) (Nat.le_refl _)) hO hW hp y))
theorem x_apart {w : JW} {D : JD} (hO : jOrg w (w.2.2 0 6) D) (hW : jWF D) (x y : Int32) : jSX MX9_apart 6 1 6 [jR 0 false, jI x, jI y] w (fun v w2 => ∃ p q : Nat, p < D.1 1 ∧ q < D.1 1 ∧ x = nI p ∧ y = nI q ∧ v = jI (nI (jEu 40 (D.1 (140 + p)) (D.1 (140 + q)))) ∧ w2 = w) (fun E w2 => ¬ ((0 ≤ x ∧ x < nI (D.1 1)) ∧ 0 ≤ y ∧ y < nI (D.1 1)) ∧ E = jIOB ∧ w2 = w) := by
  refine jSX_of jp_X9_apart rfl (Nat.le_of_ble_eq_true rfl) (fun C hx => ?_)
  have hm : jok C MX9_apart 6 0 0 := hx.1.less (Nat.le_refl _) (Nat.zero_le _) (Nat.zero_le _)
  have h12 := hW.1.2.1
  refine bk_X9_apart_0 hm (c_isNoPipe hO hW x) (by decide) (bk_X9_apart_5 hm (fun q => jr_throw hx (by decide) (by decide) (by decide) (j := 39) (by decide) rfl rfl rfl jw_1067 jw_138 jx_at3 jx_k3 (Nat.le_of_ble_eq_true rfl) rfl dX9_apart_16 dX9_apart_19 dX9_apart_20 dX9_apart_22 dX9_apart_25 ⟨fun z => q (if_pos z.1), rfl, rfl⟩) (fun q => bk_X9_apart_8 hm (c_isNoPipe hO hW y) (by decide) (bk_X9_apart_13 hm (fun q2 => ?_) (fun q2 => jr_throw hx (by decide) (by decide) (by decide) (j := 39) (by decide) rfl rfl rfl jw_1067 jw_138 jx_at3 jx_k3 (Nat.le_of_ble_eq_true rfl) rfl dX9_apart_16 dX9_apart_19 dX9_apart_20 dX9_apart_22 dX9_apart_25 ⟨fun z => q2 (if_pos z.2), rfl, rfl⟩))))
  obtain ⟨p, hp, rfl⟩ := i32_N (jno_pipe q) (by omega)
  obtain ⟨r, hr, rfl⟩ := i32_N (jno_pipe q2) (by omega)
  exact jx_fin (jW_mono (fun v w' z => ⟨p, r, hp, hr, rfl, rfl, z⟩) (c_apart_ok (hm.less (by decide) (Nat.le_refl _) (Nat.le_refl _)) hO hW hp hr))
theorem x_cut {w : JW} {D : JD} (hO : jOrg w (w.2.2 0 6) D) (hW : jWF D) (x c : Int32) : jSX MX9_cut 6 1 6 [jR 0 false, jI x, jI c] w (fun v w2 => ∃ p : Nat, p < D.1 1 ∧ x = nI p ∧ (¬ c < 1 ∧ c < w.1 24 (w.2.2 0 6) p) ∧ v = jI (w.1 24 (w.2.2 0 6) p - c) ∧ w2 = jset w 24 (w.2.2 0 6) p (w.1 24 (w.2.2 0 6) p - c)) (fun E w2 => ((¬ (0 ≤ x ∧ x < nI (D.1 1)) ∧ E = jIOB) ∨ ∃ p : Nat, p < D.1 1 ∧ x = nI p ∧ ¬ (¬ c < 1 ∧ c < w.1 24 (w.2.2 0 6) p) ∧ E = jIAE) ∧ w2 = w) := by
  refine jSX_of jp_X9_cut rfl (Nat.le_of_ble_eq_true rfl) (fun C hx => ?_)
  have hm : jok C MX9_cut 6 0 0 := hx.1.less (Nat.le_refl _) (Nat.zero_le _) (Nat.zero_le _)
  have h12 := hW.1.2.1
  refine bk_X9_cut_0 hm (c_isNoPipe hO hW x) (by decide) (bk_X9_cut_5 hm (fun q => ?_) (fun q => jr_throw hx (by decide) (by decide) (by decide) (j := 39) (by decide) rfl rfl rfl jw_1067 jw_138 jx_at3 jx_k3 (Nat.le_of_ble_eq_true rfl) rfl dX9_cut_8 dX9_cut_11 dX9_cut_12 dX9_cut_14 dX9_cut_17 ⟨Or.inl ⟨fun z => q (if_pos z), rfl⟩, rfl⟩))
  obtain ⟨p, hp, rfl⟩ := i32_N (jno_pipe q) (by omega)
  refine bk_X9_cut_18 hm (c_atN (ja_24 _) w (j := p) (by omega)) (by decide) (bk_X9_cut_29 hm (fun q2 => jr_throw hx (by decide) (by decide) (by decide) (j := 42) (by decide) rfl rfl rfl jw_1043 jw_131 jx_at2 jx_k2 (Nat.le_of_ble_eq_true rfl) rfl dX9_cut_40 dX9_cut_43 dX9_cut_44 dX9_cut_46 dX9_cut_49 ⟨Or.inr ⟨p, hp, rfl, fun z => z.1 q2, rfl⟩, rfl⟩) (fun q2 => bk_X9_cut_35 hm (fun q3 => ?_) (fun q3 => jr_throw hx (by decide) (by decide) (by decide) (j := 42) (by decide) rfl rfl rfl jw_1043 jw_131 jx_at2 jx_k2 (Nat.le_of_ble_eq_true rfl) rfl dX9_cut_40 dX9_cut_43 dX9_cut_44 dX9_cut_46 dX9_cut_49 ⟨Or.inr ⟨p, hp, rfl, fun z => q3 z.2, rfl⟩, rfl⟩)))
  exact jx_fin (jW_mono (fun v w' z => ⟨p, hp, rfl, ⟨q2, q3⟩, z⟩) (c_cut_ok (hm.less (by decide) (Nat.le_refl _) (Nat.le_refl _)) (by omega) c _))
theorem x_note {w : JW} {D : JD} (hO : jOrg w (w.2.2 0 6) D) (hW : jWF D) (x y : Int32) : jSX MX9_note 6 1 6 [jR 0 false, jI x, jI y] w (fun v w2 => ∃ c q : Nat, c < D.1 2 ∧ q < D.1 (10 + c) ∧ x = nI c ∧ y = nI q ∧ v = jI (nI (D.1 (20 + (6 * c + q)))) ∧ w2 = w) (fun E w2 => ¬ (∃ c : Nat, c < D.1 2 ∧ x = nI c ∧ 0 ≤ y ∧ y < nI (D.1 (10 + c))) ∧ E = jIOB ∧ w2 = w) := by
  refine jSX_of jp_X9_note rfl (Nat.le_of_ble_eq_true rfl) (fun C hx => ?_)
  have hm : jok C MX9_note 6 0 0 := hx.1.less (Nat.le_refl _) (Nat.zero_le _) (Nat.zero_le _)
  have h6 := hW.1.2.2.1
  have e : w.1 20 (w.2.2 0 6) 11 = nI (D.1 2) := hO.1.2.2.1
  refine bk_X9_note_0 hm (fun q => jr_throw hx (by decide) (by decide) (by decide) (j := 38) (by decide) rfl rfl rfl jw_1067 jw_138 jx_at3 jx_k3 (Nat.le_of_ble_eq_true rfl) rfl dX9_note_31 dX9_note_34 dX9_note_35 dX9_note_37 dX9_note_40 ⟨?_, rfl, rfl⟩) (fun q => bk_X9_note_4 hm (fun q2 => jr_throw hx (by decide) (by decide) (by decide) (j := 38) (by decide) rfl rfl rfl jw_1067 jw_138 jx_at3 jx_k3 (Nat.le_of_ble_eq_true rfl) rfl dX9_note_31 dX9_note_34 dX9_note_35 dX9_note_37 dX9_note_40 ⟨?_, rfl, rfl⟩) (fun q2 => bk_X9_note_15 hm (fun q3 => jr_throw hx (by decide) (by decide) (by decide) (j := 38) (by decide) rfl rfl rfl jw_1067 jw_138 jx_at3 jx_k3 (Nat.le_of_ble_eq_true rfl) rfl dX9_note_31 dX9_note_34 dX9_note_35 dX9_note_37 dX9_note_40 ⟨?_, rfl, rfl⟩) (fun q3 => ?_)))
  · rintro ⟨c, hc, rfl, -⟩
    exact nI_pos (by omega) q
  · rintro ⟨c, hc, rfl, -⟩
    rw [e, nI_leI (by omega) (by omega)] at q2
    omega
  · rintro ⟨c, hc, -, h, -⟩
    exact i32_not_lt.mpr h q3
  · rw [e] at q2
    obtain ⟨c, hc, rfl⟩ := i32_N ⟨i32_not_lt.mp q, Decidable.not_not.mp (fun z => q2 (i32_not_lt.mp z))⟩ (by omega)
    have s6 := (hW.2.2.2.1 c hc).2.1
    have e2 : w.1 26 (w.2.2 0 6) c = nI (D.1 (10 + c)) := (hO.2.2.2.1 c hc).1
    refine bk_X9_note_19 hm (c_sizeOf w _ (c := c) (by omega)) (by decide) (bk_X9_note_28 hm (fun q4 => ?_) (fun q4 => jr_throw hx (by decide) (by decide) (by decide) (j := 38) (by decide) rfl rfl rfl jw_1067 jw_138 jx_at3 jx_k3 (Nat.le_of_ble_eq_true rfl) rfl dX9_note_31 dX9_note_34 dX9_note_35 dX9_note_37 dX9_note_40 ⟨?_, rfl, rfl⟩))
    · rw [e2] at q4
      obtain ⟨r, hr, rfl⟩ := i32_N ⟨i32_not_lt.mp q3, q4⟩ (by omega)
      exact jx_fin (jW_mono (fun v w' z => ⟨c, r, hc, hr, rfl, rfl, z⟩) (c_note_ok (hm.less (by decide) (Nat.le_refl _) (Nat.le_refl _)) hO hW hc hr))
    · rintro ⟨c2, hc2, h1, h2, h3⟩
      have : c = c2 := (nI_eqi (by omega) (by omega)).mp h1
      subst this
      exact q4 (by rw [e2]; exact h3)
theorem x_pass {w : JW} {D : JD} {R f : Nat → Int32} {x0 : Int32} (hO : jOrg w (w.2.2 0 6) D) (hW : jWF D) (x : Int32) : jSX MX9_pass 7 1 6 [jR 0 false, jI x] (jgm w false R f x0) (fun v w2 => ∃ n : Nat, n ≤ 120 ∧ x = nI n ∧ 1 ≤ n ∧ v = jI (jHours D n R 2 - R 2) ∧ ∃ f x, w2 = jgm w false (jHours D n R) f x) (fun E w2 => ¬ (¬ x < 1 ∧ x ≤ 120) ∧ E = jIAE ∧ w2 = jgm w false R f x0) := by
  refine jSX_of jp_X9_pass rfl (Nat.le_of_ble_eq_true rfl) (fun C hx => ?_)
  have hm : jok C MX9_pass 7 0 0 := hx.1.less (Nat.le_refl _) (Nat.zero_le _) (Nat.zero_le _)
  refine bk_X9_pass_0 hm (fun q => jr_throw hx (by decide) (by decide) (by decide) (j := 43) (by decide) rfl rfl rfl jw_1043 jw_131 jx_at2 jx_k2 (Nat.le_of_ble_eq_true rfl) rfl dX9_pass_11 dX9_pass_14 dX9_pass_15 dX9_pass_17 dX9_pass_20 ⟨fun z => z.1 q, rfl, rfl⟩) (fun q => bk_X9_pass_5 hm (fun q2 => ?_) (fun q2 => jr_throw hx (by decide) (by decide) (by decide) (j := 43) (by decide) rfl rfl rfl jw_1043 jw_131 jx_at2 jx_k2 (Nat.le_of_ble_eq_true rfl) rfl dX9_pass_11 dX9_pass_14 dX9_pass_15 dX9_pass_17 dX9_pass_20 ⟨fun z => q2 z.2, rfl, rfl⟩))
  obtain ⟨n, h1, h2, rfl⟩ := i32_nat (a := 1) (b := 120) (i32_not_lt.mp q) q2 (by omega) (by omega)
  refine jx_fin (bq_X9_pass_21 hm (c_run hO hW R f x0 (by omega)) (by decide) (fun w2 hp => ?_))
  obtain ⟨f2, x2, rfl⟩ := hp
  refine bk_X9_pass_45 hm ⟨n, h2, rfl, h1, ?_, f2, x2, rfl⟩
  rw [jgm_heard, jgm_heard]
theorem x_trim (w : JW) (x : Int32) : jSX MX9_trim 6 1 6 [jR 0 false, jI x] w (fun v w2 => (¬ x < 0 ∧ x ≤ w.1 1 false 1) ∧ v = jI x ∧ w2 = jset w 1 false 1 x) (fun E w2 => ¬ (¬ x < 0 ∧ x ≤ w.1 1 false 1) ∧ E = jIAE ∧ w2 = w) := by
  refine jSX_of jp_X9_trim rfl (Nat.le_of_ble_eq_true rfl) (fun C hx => ?_)
  have hm : jok C MX9_trim 6 0 0 := hx.1.less (Nat.le_refl _) (Nat.zero_le _) (Nat.zero_le _)
  exact bk_X9_trim_0 hm (fun q => jr_throw hx (by decide) (by decide) (by decide) (j := 33) (by decide) rfl rfl rfl jw_1043 jw_131 jx_at2 jx_k2 (Nat.le_of_ble_eq_true rfl) rfl dX9_trim_15 dX9_trim_18 dX9_trim_19 dX9_trim_21 dX9_trim_24 ⟨fun z => z.1 q, rfl, rfl⟩) (fun q => bk_X9_trim_4 hm (fun q2 => jx_fin (bk_X9_trim_25 hm (c_shorten w x) (by decide) (bk_X9_trim_33 hm ⟨⟨q, q2⟩, rfl, rfl⟩))) (fun q2 => jr_throw hx (by decide) (by decide) (by decide) (j := 33) (by decide) rfl rfl rfl jw_1043 jw_131 jx_at2 jx_k2 (Nat.le_of_ble_eq_true rfl) rfl dX9_trim_15 dX9_trim_18 dX9_trim_19 dX9_trim_21 dX9_trim_24 ⟨fun z => q2 z.2, rfl, rfl⟩))

