theorem dL_cut_0 : decode cL_cut 0 = .ok (.aload_n 3, 1) := by decide +kernel
theorem dL_cut_1 : decode cL_cut 1 = .ok (.iconst 0, 1) := by decide +kernel
theorem dL_cut_2 : decode cL_cut 2 = .ok (.aload_n 0, 1) := by decide +kernel
theorem dL_cut_3 : decode cL_cut 3 = .ok (.iload_n 1, 1) := by decide +kernel
theorem dL_cut_4 : decode cL_cut 4 = .ok (.iload_n 2, 1) := by decide +kernel
theorem dL_cut_5 : decode cL_cut 5 = .ok (.invokevirtual 55, 3) := by decide +kernel
theorem dL_cut_8 : decode cL_cut 8 = .ok (.i2l, 1) := by decide +kernel
theorem dL_cut_9 : decode cL_cut 9 = .ok (.lastore, 1) := by decide +kernel
theorem dL_cut_10 : decode cL_cut 10 = .ok (.goto 11, 3) := by decide +kernel
theorem dL_cut_13 : decode cL_cut 13 = .ok (.astore 4, 2) := by decide +kernel
theorem dL_cut_15 : decode cL_cut 15 = .ok (.iconst 1, 1) := by decide +kernel
theorem dL_cut_16 : decode cL_cut 16 = .ok (.ireturn, 1) := by decide +kernel
theorem dL_cut_17 : decode cL_cut 17 = .ok (.astore 4, 2) := by decide +kernel
theorem dL_cut_19 : decode cL_cut 19 = .ok (.iconst 2, 1) := by decide +kernel
theorem dL_cut_20 : decode cL_cut 20 = .ok (.ireturn, 1) := by decide +kernel
theorem dL_cut_21 : decode cL_cut 21 = .ok (.iconst 0, 1) := by decide +kernel
theorem dL_cut_22 : decode cL_cut 22 = .ok (.ireturn, 1) := by decide +kernel
abbrev ML_cut : JM := (cL_cut, 5, RL, (some .int), yL_cut)
theorem jn_L_cut : jnm ML_cut 4 := by decide +kernel
theorem jp_L_cut : plainName ML_cut.2.2.2.2.cls = true := by decide +kernel
theorem dL_foresee_0 : decode cL_foresee 0 = .ok (.aload_n 3, 1) := by decide +kernel
theorem dL_foresee_1 : decode cL_foresee 1 = .ok (.iconst 0, 1) := by decide +kernel
theorem dL_foresee_2 : decode cL_foresee 2 = .ok (.aload_n 0, 1) := by decide +kernel
theorem dL_foresee_3 : decode cL_foresee 3 = .ok (.iload_n 1, 1) := by decide +kernel
theorem dL_foresee_4 : decode cL_foresee 4 = .ok (.iload_n 2, 1) := by decide +kernel
theorem dL_foresee_5 : decode cL_foresee 5 = .ok (.invokevirtual 64, 3) := by decide +kernel
theorem dL_foresee_8 : decode cL_foresee 8 = .ok (.i2l, 1) := by decide +kernel
theorem dL_foresee_9 : decode cL_foresee 9 = .ok (.lastore, 1) := by decide +kernel
theorem dL_foresee_10 : decode cL_foresee 10 = .ok (.goto 11, 3) := by decide +kernel
theorem dL_foresee_13 : decode cL_foresee 13 = .ok (.astore 4, 2) := by decide +kernel
theorem dL_foresee_15 : decode cL_foresee 15 = .ok (.iconst 1, 1) := by decide +kernel
theorem dL_foresee_16 : decode cL_foresee 16 = .ok (.ireturn, 1) := by decide +kernel
theorem dL_foresee_17 : decode cL_foresee 17 = .ok (.astore 4, 2) := by decide +kernel
theorem dL_foresee_19 : decode cL_foresee 19 = .ok (.iconst 2, 1) := by decide +kernel
theorem dL_foresee_20 : decode cL_foresee 20 = .ok (.ireturn, 1) := by decide +kernel
theorem dL_foresee_21 : decode cL_foresee 21 = .ok (.iconst 0, 1) := by decide +kernel
theorem dL_foresee_22 : decode cL_foresee 22 = .ok (.ireturn, 1) := by decide +kernel
abbrev ML_foresee : JM := (cL_foresee, 5, RL, (some .int), yL_foresee)
theorem jn_L_foresee : jnm ML_foresee 4 := by decide +kernel
theorem jp_L_foresee : plainName ML_foresee.2.2.2.2.cls = true := by decide +kernel
theorem jw_1165 : Cond.methodLink RL 55 yX9_cut ∈ jGL := jmem 1165 (by decide +kernel) rfl
theorem jw_1166 : Cond.instanceMethod yX9_cut ∈ jGL := jmem 1166 (by decide +kernel) rfl
theorem jw_1167 : Cond.selects RX9 yX9_cut yX9_cut ∈ jGL := jmem 1167 (by decide +kernel) rfl
theorem jw_1168 : Cond.code yX9_cut cX9_cut 4 (some .int) ∈ jGL := jmem 1168 (by decide +kernel) rfl
theorem jw_1230 : Cond.methodLink RL 64 yX9_foresee ∈ jGL := jmem 1230 (by decide +kernel) rfl
theorem jw_1231 : Cond.instanceMethod yX9_foresee ∈ jGL := jmem 1231 (by decide +kernel) rfl
theorem jw_1232 : Cond.selects RX9 yX9_foresee yX9_foresee ∈ jGL := jmem 1232 (by decide +kernel) rfl
theorem jw_1233 : Cond.code yX9_foresee cX9_foresee 3 (some .int) ∈ jGL := jmem 1233 (by decide +kernel) rfl
/-! the law's wrappers with two handlers -/
def jWr2 (P : JV → JW → Prop) (PX : String → JW → Prop) (X Y : String) (v : JV) (w2 : JW) : Prop := (∃ r w1, P (jI r) w1 ∧ v = jI 0 ∧ w2 = jsetL w1 63 0 r.toInt64) ∨ (PX X w2 ∧ v = jI 1) ∨ (PX Y w2 ∧ v = jI 2)
theorem w_cut {w : JW} {P : JV → JW → Prop} {PX : String → JW → Prop} {d : Nat} (x1 x2 : Int32) (hs : jSX MX9_cut d 1 6 [jR 0 false, jI x1, jI x2] w P PX) (hP : ∀ v w', P v w' → ∃ r, v = jI r) (hX : ∀ E w', PX E w' → E = jIOB ∨ E = jIAE) : jSW ML_cut [(0, 10, 13, 24), (0, 10, 17, 19)] (d + 1) 1 6 [jR 0 false, jI x1, jI x2, jR 63 false] w (jWr2 P PX jIOB jIAE) := by
  refine jSW_of jp_L_cut rfl (Nat.le_of_ble_eq_true rfl) (fun C hw => ?_)
  have h6 := hw.1
  have hm : jok C ML_cut (d + 1) 0 0 := h6.less (Nat.le_refl _) (Nat.zero_le _) (Nat.zero_le _)
  refine jr_aload_n hm (i := 3) rfl rfl dL_cut_0 ?_
  refine jr_iconst hm (v := 0) (by decide) dL_cut_1 ?_
  refine jr_aload_n hm (i := 0) rfl rfl dL_cut_2 ?_
  refine jr_iload_n hm (i := 1) rfl rfl dL_cut_3 ?_
  refine jr_iload_n hm (i := 2) rfl rfl dL_cut_4 ?_
  refine jr_callVX (cl := 0) (sl := 0) (mc := 1) (ms := 6) (as := [jI x1, jI x2]) hw hs (Nat.le_refl _) jw_1165 jw_1166 jw_1167 jw_115 jw_1168 jn_X9_cut rfl jo_0 (fun _ _ _ _ _ => ⟨_, rfl⟩) rfl rfl (Nat.le_of_ble_eq_true rfl) rfl dL_cut_5 (fun v w2 hp => ?_) (fun E w2 hp => ?_)
  · obtain ⟨r, rfl⟩ := hP v w2 hp
    have hm : jok C ML_cut (d + 1) (0 + 1) (0 + 6) := h6
    refine jr_i2l hm dL_cut_8 ?_
    refine jr_lastore hm (Or.inr rfl) ja_63 (show vp_in (nI 0) 1 from vp_in_nI (by omega) (by omega)) dL_cut_9 ?_
    refine jr_goto hm (tgt := 21) dL_cut_10 (by decide) ?_
    refine jr_iconst hm (v := 0) (by decide) dL_cut_21 ?_
    exact jr_ireturn hm rfl dL_cut_22 (Or.inl ⟨r, w2, hp, rfl, rfl⟩)
  · have hm : jok C ML_cut (d + 1) (0 + 1) (0 + 6) := h6
    rcases hX E w2 hp with rfl | rfl
    · refine jr_catch (cl := 0 + 1) (sl := 0 + 6) hw [] _ [_] rfl (fun z hz => absurd hz List.not_mem_nil) rfl (by decide) jw_1062 jcast_IOB (jh_astore hm (i := 4) (Nat.le_of_ble_eq_true rfl) rfl dL_cut_13 ?_)
      refine jr_iconst hm (v := 1) (by decide) dL_cut_15 ?_
      exact jr_ireturn hm rfl dL_cut_16 (Or.inr (Or.inl ⟨hp, rfl⟩))
    · refine jr_catch (cl := 0 + 1) (sl := 0 + 6) hw [_] _ [] rfl (fun z hz => Or.inr ?_) rfl (by decide) jw_1038 jcast_IAE (jh_astore hm (i := 4) (Nat.le_of_ble_eq_true rfl) rfl dL_cut_17 ?_)
      · obtain rfl := List.mem_singleton.mp hz
        exact ⟨by decide, _, jw_1062, hw.2.2.1.2.1⟩
      · refine jr_iconst hm (v := 2) (by decide) dL_cut_19 ?_
        exact jr_ireturn hm rfl dL_cut_20 (Or.inr (Or.inr ⟨hp, rfl⟩))
theorem w_foresee {w : JW} {P : JV → JW → Prop} {PX : String → JW → Prop} {d : Nat} (x1 x2 : Int32) (hs : jSX MX9_foresee d 1 6 [jR 0 false, jI x1, jI x2] w P PX) (hP : ∀ v w', P v w' → ∃ r, v = jI r) (hX : ∀ E w', PX E w' → E = jIAE ∨ E = jIOB) : jSW ML_foresee [(0, 10, 13, 19), (0, 10, 17, 24)] (d + 1) 1 6 [jR 0 false, jI x1, jI x2, jR 63 false] w (jWr2 P PX jIAE jIOB) := by
  refine jSW_of jp_L_foresee rfl (Nat.le_of_ble_eq_true rfl) (fun C hw => ?_)
  have h6 := hw.1
  have hm : jok C ML_foresee (d + 1) 0 0 := h6.less (Nat.le_refl _) (Nat.zero_le _) (Nat.zero_le _)
  refine jr_aload_n hm (i := 3) rfl rfl dL_foresee_0 ?_
  refine jr_iconst hm (v := 0) (by decide) dL_foresee_1 ?_
  refine jr_aload_n hm (i := 0) rfl rfl dL_foresee_2 ?_
  refine jr_iload_n hm (i := 1) rfl rfl dL_foresee_3 ?_
  refine jr_iload_n hm (i := 2) rfl rfl dL_foresee_4 ?_
  refine jr_callVX (cl := 0) (sl := 0) (mc := 1) (ms := 6) (as := [jI x1, jI x2]) hw hs (Nat.le_refl _) jw_1230 jw_1231 jw_1232 jw_115 jw_1233 jn_X9_foresee rfl jo_0 (fun _ _ _ _ _ => ⟨_, rfl⟩) rfl rfl (Nat.le_of_ble_eq_true rfl) rfl dL_foresee_5 (fun v w2 hp => ?_) (fun E w2 hp => ?_)
  · obtain ⟨r, rfl⟩ := hP v w2 hp
    have hm : jok C ML_foresee (d + 1) (0 + 1) (0 + 6) := h6
    refine jr_i2l hm dL_foresee_8 ?_
    refine jr_lastore hm (Or.inr rfl) ja_63 (show vp_in (nI 0) 1 from vp_in_nI (by omega) (by omega)) dL_foresee_9 ?_
    refine jr_goto hm (tgt := 21) dL_foresee_10 (by decide) ?_
    refine jr_iconst hm (v := 0) (by decide) dL_foresee_21 ?_
    exact jr_ireturn hm rfl dL_foresee_22 (Or.inl ⟨r, w2, hp, rfl, rfl⟩)
  · have hm : jok C ML_foresee (d + 1) (0 + 1) (0 + 6) := h6
    rcases hX E w2 hp with rfl | rfl
    · refine jr_catch (cl := 0 + 1) (sl := 0 + 6) hw [] _ [_] rfl (fun z hz => absurd hz List.not_mem_nil) rfl (by decide) jw_1038 jcast_IAE (jh_astore hm (i := 4) (Nat.le_of_ble_eq_true rfl) rfl dL_foresee_13 ?_)
      refine jr_iconst hm (v := 1) (by decide) dL_foresee_15 ?_
      exact jr_ireturn hm rfl dL_foresee_16 (Or.inr (Or.inl ⟨hp, rfl⟩))
    · refine jr_catch (cl := 0 + 1) (sl := 0 + 6) hw [_] _ [] rfl (fun z hz => Or.inr ?_) rfl (by decide) jw_1062 jcast_IOB (jh_astore hm (i := 4) (Nat.le_of_ble_eq_true rfl) rfl dL_foresee_17 ?_)
      · obtain rfl := List.mem_singleton.mp hz
        exact ⟨by decide, _, jw_1038, hw.2.2.1.2.2⟩
      · refine jr_iconst hm (v := 2) (by decide) dL_foresee_19 ?_
        exact jr_ireturn hm rfl dL_foresee_20 (Or.inr (Or.inr ⟨hp, rfl⟩))

