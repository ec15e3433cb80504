theorem jw_1043 : Cond.classLink RX9 78 "java/lang/IllegalArgumentException" ∈ jGL := jmem 1043 (by decide +kernel) rfl
theorem jw_131 : Cond.initialized "java/lang/IllegalArgumentException" ∈ jGL := jmem 131 (by decide +kernel) rfl
theorem jw_1067 : Cond.classLink RX9 108 "java/lang/IndexOutOfBoundsException" ∈ jGL := jmem 1067 (by decide +kernel) rfl
theorem jw_138 : Cond.initialized "java/lang/IndexOutOfBoundsException" ∈ jGL := jmem 138 (by decide +kernel) rfl
/-! the class's questions with their tests: answer or throw -/
abbrev jISE : String := "java/lang/IllegalStateException"
abbrev jIAE : String := "java/lang/IllegalArgumentException"
abbrev jIOB : String := "java/lang/IndexOutOfBoundsException"
theorem i32_ge {x y : Int32} : ¬ x < y ↔ y ≤ x := i32_not_lt
theorem x_height {w : JW} {D : JD} (hO : jOrg w (w.2.2 0 6) D) (hW : jWF D) (h : Int32) : jSX MX9_height 6 1 6 [jR 0 false, jI h] w (fun v w2 => (¬ h < 0 ∧ h ≤ 9999) ∧ v = jI (jHgt D h (w.1 14 false 6)) ∧ w2 = w) (fun E w2 => ¬ (¬ h < 0 ∧ h ≤ 9999) ∧ E = jIAE ∧ w2 = w) := by
  refine jSX_of jp_X9_height rfl (Nat.le_of_ble_eq_true rfl) (fun C hx => ?_)
  have hm : jok C MX9_height 6 0 0 := hx.1.less (Nat.le_refl _) (Nat.zero_le _) (Nat.zero_le _)
  refine bk_X9_height_0 hm (fun q => jr_throw hx (by decide) (by decide) (by decide) (j := 40) (by decide) rfl rfl rfl jw_1043 jw_131 jx_at2 jx_k2 (Nat.le_of_ble_eq_true rfl) rfl dX9_height_11 dX9_height_14 dX9_height_15 dX9_height_17 dX9_height_20 ⟨fun z => z.1 q, rfl, rfl⟩) (fun q => bk_X9_height_4 hm (fun q2 => jx_fin (jW_mono ?_ (c_height_ok (hm.less (by decide) (Nat.le_refl _) (Nat.le_refl _)) hO hW h))) (fun q2 => jr_throw hx (by decide) (by decide) (by decide) (j := 40) (by decide) rfl rfl rfl jw_1043 jw_131 jx_at2 jx_k2 (Nat.le_of_ble_eq_true rfl) rfl dX9_height_11 dX9_height_14 dX9_height_15 dX9_height_17 dX9_height_20 ⟨fun z => q2 z.2, rfl, rfl⟩))
  exact fun v w' z => ⟨⟨q, q2⟩, z⟩
theorem x_isSilent {w : JW} {D : JD} (hO : jOrg w (w.2.2 0 6) D) (hW : jWF D) (h : Int32) : jSX MX9_isSilent 6 1 6 [jR 0 false, jI h] w (fun v w2 => (¬ h < 0 ∧ h ≤ 9999) ∧ v = jI (if jStill D h then 1 else 0) ∧ w2 = w) (fun E w2 => ¬ (¬ h < 0 ∧ h ≤ 9999) ∧ E = jIAE ∧ w2 = w) := by
  refine jSX_of jp_X9_isSilent rfl (Nat.le_of_ble_eq_true rfl) (fun C hx => ?_)
  have hm : jok C MX9_isSilent 6 0 0 := hx.1.less (Nat.le_refl _) (Nat.zero_le _) (Nat.zero_le _)
  refine bk_X9_isSilent_0 hm (fun q => jr_throw hx (by decide) (by decide) (by decide) (j := 40) (by decide) rfl rfl rfl jw_1043 jw_131 jx_at2 jx_k2 (Nat.le_of_ble_eq_true rfl) rfl dX9_isSilent_11 dX9_isSilent_14 dX9_isSilent_15 dX9_isSilent_17 dX9_isSilent_20 ⟨fun z => z.1 q, rfl, rfl⟩) (fun q => bk_X9_isSilent_4 hm (fun q2 => jx_fin (jW_mono ?_ (c_isSilent_ok (hm.less (by decide) (Nat.le_refl _) (Nat.le_refl _)) hO hW h))) (fun q2 => jr_throw hx (by decide) (by decide) (by decide) (j := 40) (by decide) rfl rfl rfl jw_1043 jw_131 jx_at2 jx_k2 (Nat.le_of_ble_eq_true rfl) rfl dX9_isSilent_11 dX9_isSilent_14 dX9_isSilent_15 dX9_isSilent_17 dX9_isSilent_20 ⟨fun z => q2 z.2, rfl, rfl⟩))
  exact fun v w' z => ⟨⟨q, q2⟩, z⟩
theorem x_setTide (w : JW) (y : Int32) : jSX MX9_setTide 6 1 6 [jR 0 false, jI y] w (fun v w2 => (¬ y < 0 ∧ y ≤ 9) ∧ v = jI (w.1 14 false 6) ∧ w2 = jset w 14 false 6 y) (fun E w2 => ¬ (¬ y < 0 ∧ y ≤ 9) ∧ E = jIAE ∧ w2 = w) := by
  refine jSX_of jp_X9_setTide rfl (Nat.le_of_ble_eq_true rfl) (fun C hx => ?_)
  have hm : jok C MX9_setTide 6 0 0 := hx.1.less (Nat.le_refl _) (Nat.zero_le _) (Nat.zero_le _)
  refine bk_X9_setTide_0 hm (fun q => jr_throw hx (by decide) (by decide) (by decide) (j := 41) (by decide) rfl rfl rfl jw_1043 jw_131 jx_at2 jx_k2 (Nat.le_of_ble_eq_true rfl) rfl dX9_setTide_10 dX9_setTide_13 dX9_setTide_14 dX9_setTide_16 dX9_setTide_19 ⟨fun z => z.1 q, rfl, rfl⟩) (fun q => bk_X9_setTide_4 hm (fun q2 => jx_fin (jW_mono ?_ (c_setTide_ok hm))) (fun q2 => jr_throw hx (by decide) (by decide) (by decide) (j := 41) (by decide) rfl rfl rfl jw_1043 jw_131 jx_at2 jx_k2 (Nat.le_of_ble_eq_true rfl) rfl dX9_setTide_10 dX9_setTide_13 dX9_setTide_14 dX9_setTide_16 dX9_setTide_19 ⟨fun z => q2 z.2, rfl, rfl⟩))
  exact fun v w' z => ⟨⟨q, q2⟩, z⟩
theorem x_count {w : JW} {D : JD} {R f : Nat → Int32} {x : Int32} (hO : jOrg w (w.2.2 0 6) D) (hW : jWF D) (y : Int32) : jSX MX9_count 6 1 6 [jR 0 false, jI y] (jgm w false R f x) (fun v w2 => (¬ y < 0 ∧ y < 14) ∧ v = jI (jCnt D R (w.1 1 false 1) y) ∧ w2 = jgm w false R f x) (fun E w2 => ¬ (¬ y < 0 ∧ y < 14) ∧ E = jIOB ∧ w2 = jgm w false R f x) := by
  refine jSX_of jp_X9_count rfl (Nat.le_of_ble_eq_true rfl) (fun C hx => ?_)
  have hm : jok C MX9_count 6 0 0 := hx.1.less (Nat.le_refl _) (Nat.zero_le _) (Nat.zero_le _)
  refine bk_X9_count_0 hm (fun q => jr_throw hx (by decide) (by decide) (by decide) (j := 34) (by decide) rfl rfl rfl jw_1067 jw_138 jx_at3 jx_k3 (Nat.le_of_ble_eq_true rfl) rfl dX9_count_10 dX9_count_13 dX9_count_14 dX9_count_16 dX9_count_19 ⟨fun z => z.1 q, rfl, rfl⟩) (fun q => bk_X9_count_4 hm (fun q2 => jx_fin (jW_mono ?_ (c_count_ok (hm.less (by decide) (Nat.le_refl _) (Nat.le_refl _)) hO hW y))) (fun q2 => jr_throw hx (by decide) (by decide) (by decide) (j := 34) (by decide) rfl rfl rfl jw_1067 jw_138 jx_at3 jx_k3 (Nat.le_of_ble_eq_true rfl) rfl dX9_count_10 dX9_count_13 dX9_count_14 dX9_count_16 dX9_count_19 ⟨fun z => q2 z.2, rfl, rfl⟩))
  exact fun v w' z => ⟨⟨q, q2⟩, z⟩
theorem i32_N {x : Int32} {n : Nat} (h : 0 ≤ x ∧ x < nI n) (hn : n < 2 ^ 31) : ∃ p : Nat, p < n ∧ x = nI p := by
  obtain ⟨k, hk, rfl⟩ := nI_of (i32_not_lt.mpr h.1)
  exact ⟨k, (nI_ltI hk hn).mp h.2, rfl⟩
theorem x_clean {w : JW} {D : JD} (hO : jOrg w (w.2.2 0 6) D) (hW : jWF D) (x : Int32) : jSX MX9_clean 6 1 6 [jR 0 false, jI x] w (fun v w2 => ∃ p : Nat, p < D.1 1 ∧ x = nI p ∧ v = jI (w.1 16 false p) ∧ w2 = jset w 16 false p 0) (fun E w2 => ¬ (0 ≤ x ∧ x < nI (D.1 1)) ∧ E = jIOB ∧ w2 = w) := by
  refine jSX_of jp_X9_clean rfl (Nat.le_of_ble_eq_true rfl) (fun C hx => ?_)
  have hm : jok C MX9_clean 6 0 0 := hx.1.less (Nat.le_refl _) (Nat.zero_le _) (Nat.zero_le _)
  have h12 := hW.1.2.1
  refine bk_X9_clean_0 hm (c_isNoPipe hO hW x) (by decide) (bk_X9_clean_5 hm (fun q => ?_) (fun q => jr_throw hx (by decide) (by decide) (by decide) (j := 39) (by decide) rfl rfl rfl jw_1067 jw_138 jx_at3 jx_k3 (Nat.le_of_ble_eq_true rfl) rfl dX9_clean_8 dX9_clean_11 dX9_clean_12 dX9_clean_14 dX9_clean_17 ⟨fun z => q (if_pos z), rfl, rfl⟩))
  have z : 0 ≤ x ∧ x < nI (D.1 1) := by
    by_cases z : 0 ≤ x ∧ x < nI (D.1 1)
    · exact z
    · rw [if_neg z] at q
      exact absurd q (by decide)
  obtain ⟨p, hp, rfl⟩ := i32_N z (by omega)
  exact jx_fin (jW_mono (fun v w' y => ⟨p, hp, rfl, y⟩) (c_clean_ok (hm.less (by decide) (Nat.le_refl _) (Nat.le_refl _)) (by omega)))
theorem x_until {w : JW} {D : JD} {R S f : Nat → Int32} {x0 : Int32} (hO : jOrg w (w.2.2 0 6) D) (hW : jWF D) (hR : ∀ i, i < 51 → R i = jrow w false i) (x : Int32) : jSX MX9_until 7 1 6 [jR 0 false, jI x] (jgm w true S f x0) (fun v w2 => ∃ p : Nat, p < D.1 1 ∧ x = nI p ∧ ∃ r, v = jI r ∧ (r = jUnt D R p 151 0 ∧ ∃ S f x, w2 = jgm w true S f x)) (fun E w2 => ¬ (0 ≤ x ∧ x < nI (D.1 1)) ∧ E = jIOB ∧ w2 = jgm w true S f x0) := by
  refine jSX_of jp_X9_until rfl (Nat.le_of_ble_eq_true rfl) (fun C hx => ?_)
  have hm : jok C MX9_until 7 0 0 := hx.1.less (Nat.le_refl _) (Nat.zero_le _) (Nat.zero_le _)
  have h12 := hW.1.2.1
  refine bk_X9_until_0 hm (c_isNoPipe (w := jgm w true S f x0) (jgm_org hO) hW x) (by decide) (bk_X9_until_5 hm (fun q => ?_) (fun q => jr_throw hx (by decide) (by decide) (by decide) (j := 39) (by decide) rfl rfl rfl jw_1067 jw_138 jx_at3 jx_k3 (Nat.le_of_ble_eq_true rfl) rfl dX9_until_8 dX9_until_11 dX9_until_12 dX9_until_14 dX9_until_17 ⟨fun z => q (if_pos z), rfl, rfl⟩))
  have z : 0 ≤ x ∧ x < nI (D.1 1) := by
    by_cases z : 0 ≤ x ∧ x < nI (D.1 1)
    · exact z
    · rw [if_neg z] at q
      exact absurd q (by decide)
  obtain ⟨p, hp, rfl⟩ := i32_N z (by omega)
  exact jx_fin (jW_mono (fun v w' y => ⟨p, hp, rfl, y⟩) (c_until_ok hm hO hW hR hp))
theorem x_best {w : JW} {D : JD} {R S f : Nat → Int32} {x0 : Int32} (hO : jOrg w (w.2.2 0 6) D) (hW : jWF D) (hR : ∀ i, i < 51 → R i = jrow w false i) (x : Int32) : jSX MX9_best 7 1 6 [jR 0 false, jI x] (jgm w true S f x0) (fun v w2 => ∃ n : Nat, n ≤ 72 ∧ x = nI n ∧ 1 ≤ n ∧ ∃ r, v = jI r ∧ (r = (jBest D R n (D.1 1)).2 ∧ ∃ S f x, w2 = jgm w true S f x)) (fun E w2 => ¬ (¬ x < 1 ∧ x ≤ 72) ∧ E = jIAE ∧ w2 = jgm w true S f x0) := by
  refine jSX_of jp_X9_best rfl (Nat.le_of_ble_eq_true rfl) (fun C hx => ?_)
  have hm : jok C MX9_best 7 0 0 := hx.1.less (Nat.le_refl _) (Nat.zero_le _) (Nat.zero_le _)
  refine bk_X9_best_0 hm (fun q => jr_throw hx (by decide) (by decide) (by decide) (j := 43) (by decide) rfl rfl rfl jw_1043 jw_131 jx_at2 jx_k2 (Nat.le_of_ble_eq_true rfl) rfl dX9_best_11 dX9_best_14 dX9_best_15 dX9_best_17 dX9_best_20 ⟨fun z => z.1 q, rfl, rfl⟩) (fun q => bk_X9_best_5 hm (fun q2 => ?_) (fun q2 => jr_throw hx (by decide) (by decide) (by decide) (j := 43) (by decide) rfl rfl rfl jw_1043 jw_131 jx_at2 jx_k2 (Nat.le_of_ble_eq_true rfl) rfl dX9_best_11 dX9_best_14 dX9_best_15 dX9_best_17 dX9_best_20 ⟨fun z => q2 z.2, rfl, rfl⟩))
  obtain ⟨n, h1, h2, rfl⟩ := i32_nat (a := 1) (b := 72) (i32_not_lt.mp q) q2 (by omega) (by omega)
  exact jx_fin (jW_mono (fun v w' y => ⟨n, h2, rfl, h1, y⟩) (c_best_ok hm hO hW hR (by omega)))
theorem x_advise {w : JW} {D : JD} {R S f : Nat → Int32} {x0 : Int32} (hO : jOrg w (w.2.2 0 6) D) (hW : jWF D) (hR : ∀ i, i < 51 → R i = jrow w false i) {m : Nat} (hL : jLow R m) (hm20 : m ≤ 2 ^ 23) (x : Int32) : jSX MX9_advise 8 1 6 [jR 0 false, jI x] (jgm w true S f x0) (fun v w2 => ∃ n : Nat, n ≤ 72 ∧ x = nI n ∧ 1 ≤ n ∧ ∃ r, v = jI r ∧ (r = (jAdvise D R n 10).1 ∧ ∃ S f x, w2 = jgm w true S f x)) (fun E w2 => ¬ (¬ x < 1 ∧ x ≤ 72) ∧ E = jIAE ∧ w2 = jgm w true S f x0) := by
  refine jSX_of jp_X9_advise rfl (Nat.le_of_ble_eq_true rfl) (fun C hx => ?_)
  have hm : jok C MX9_advise 8 0 0 := hx.1.less (Nat.le_refl _) (Nat.zero_le _) (Nat.zero_le _)
  refine bk_X9_advise_0 hm (fun q => jr_throw hx (by decide) (by decide) (by decide) (j := 43) (by decide) rfl rfl rfl jw_1043 jw_131 jx_at2 jx_k2 (Nat.le_of_ble_eq_true rfl) rfl dX9_advise_11 dX9_advise_14 dX9_advise_15 dX9_advise_17 dX9_advise_20 ⟨fun z => z.1 q, rfl, rfl⟩) (fun q => bk_X9_advise_5 hm (fun q2 => ?_) (fun q2 => jr_throw hx (by decide) (by decide) (by decide) (j := 43) (by decide) rfl rfl rfl jw_1043 jw_131 jx_at2 jx_k2 (Nat.le_of_ble_eq_true rfl) rfl dX9_advise_11 dX9_advise_14 dX9_advise_15 dX9_advise_17 dX9_advise_20 ⟨fun z => q2 z.2, rfl, rfl⟩))
  obtain ⟨n, h1, h2, rfl⟩ := i32_nat (a := 1) (b := 72) (i32_not_lt.mp q) q2 (by omega) (by omega)
  exact jx_fin (jW_mono (fun v w' y => ⟨n, h2, rfl, h1, y⟩) (c_advise_ok hm hO hW hR hL hm20 h2))
theorem x_foresee {w : JW} {D : JD} {R S f : Nat → Int32} {x0 : Int32} (hO : jOrg w (w.2.2 0 6) D) (hW : jWF D) (hR : ∀ i, i < 51 → R i = jrow w false i) (x y : Int32) : jSX MX9_foresee 7 1 6 [jR 0 false, jI x, jI y] (jgm w true S f x0) (fun v w2 => ∃ n : Nat, n ≤ 120 ∧ x = nI n ∧ 1 ≤ n ∧ (¬ y < 0 ∧ y < 4) ∧ ∃ r, v = jI r ∧ (r = jFor D R n y ∧ ∃ S f x, w2 = jgm w true S f x)) (fun E w2 => ((¬ (¬ x < 1 ∧ x ≤ 120) ∧ E = jIAE) ∨ ((¬ x < 1 ∧ x ≤ 120) ∧ ¬ (¬ y < 0 ∧ y < 4) ∧ E = jIOB)) ∧ w2 = jgm w true S f x0) := by
  refine jSX_of jp_X9_foresee rfl (Nat.le_of_ble_eq_true rfl) (fun C hx => ?_)
  have hm : jok C MX9_foresee 7 0 0 := hx.1.less (Nat.le_refl _) (Nat.zero_le _) (Nat.zero_le _)
  refine bk_X9_foresee_0 hm (fun q => jr_throw hx (by decide) (by decide) (by decide) (j := 43) (by decide) rfl rfl rfl jw_1043 jw_131 jx_at2 jx_k2 (Nat.le_of_ble_eq_true rfl) rfl dX9_foresee_11 dX9_foresee_14 dX9_foresee_15 dX9_foresee_17 dX9_foresee_20 ⟨Or.inl ⟨fun z => z.1 q, rfl⟩, rfl⟩) (fun q => bk_X9_foresee_5 hm (fun q2 => bk_X9_foresee_21 hm (fun q3 => jr_throw hx (by decide) (by decide) (by decide) (j := 44) (by decide) rfl rfl rfl jw_1067 jw_138 jx_at3 jx_k3 (Nat.le_of_ble_eq_true rfl) rfl dX9_foresee_30 dX9_foresee_33 dX9_foresee_34 dX9_foresee_36 dX9_foresee_39 ⟨Or.inr ⟨⟨q, q2⟩, fun z => z.1 q3, rfl⟩, rfl⟩) (fun q3 => bk_X9_foresee_25 hm (fun q4 => ?_) (fun q4 => jr_throw hx (by decide) (by decide) (by decide) (j := 44) (by decide) rfl rfl rfl jw_1067 jw_138 jx_at3 jx_k3 (Nat.le_of_ble_eq_true rfl) rfl dX9_foresee_30 dX9_foresee_33 dX9_foresee_34 dX9_foresee_36 dX9_foresee_39 ⟨Or.inr ⟨⟨q, q2⟩, fun z => q4 z.2, rfl⟩, rfl⟩))) (fun q2 => jr_throw hx (by decide) (by decide) (by decide) (j := 43) (by decide) rfl rfl rfl jw_1043 jw_131 jx_at2 jx_k2 (Nat.le_of_ble_eq_true rfl) rfl dX9_foresee_11 dX9_foresee_14 dX9_foresee_15 dX9_foresee_17 dX9_foresee_20 ⟨Or.inl ⟨fun z => q2 z.2, rfl⟩, rfl⟩))
  obtain ⟨n, h1, h2, rfl⟩ := i32_nat (a := 1) (b := 120) (i32_not_lt.mp q) q2 (by omega) (by omega)
  exact jx_fin (jW_mono (fun v w' z => ⟨n, h2, rfl, h1, ⟨q3, q4⟩, z⟩) (c_foresee_ok hm hO hW hR (by omega) y))

