theorem dJ5_ensureCapacityInternal_d00df_0 : decode cJ5_ensureCapacityInternal_d00df 0 = .ok (.aload_n 0, 1) := by decide +kernel
theorem dJ5_ensureCapacityInternal_d00df_1 : decode cJ5_ensureCapacityInternal_d00df 1 = .ok (.getfield 15, 3) := by decide +kernel
theorem dJ5_ensureCapacityInternal_d00df_4 : decode cJ5_ensureCapacityInternal_d00df 4 = .ok (.arraylength, 1) := by decide +kernel
theorem dJ5_ensureCapacityInternal_d00df_5 : decode cJ5_ensureCapacityInternal_d00df 5 = .ok (.aload_n 0, 1) := by decide +kernel
theorem dJ5_ensureCapacityInternal_d00df_6 : decode cJ5_ensureCapacityInternal_d00df 6 = .ok (.getfield 22, 3) := by decide +kernel
theorem dJ5_ensureCapacityInternal_d00df_9 : decode cJ5_ensureCapacityInternal_d00df 9 = .ok (.ishr, 1) := by decide +kernel
theorem dJ5_ensureCapacityInternal_d00df_10 : decode cJ5_ensureCapacityInternal_d00df 10 = .ok (.istore_n 2, 1) := by decide +kernel
theorem dJ5_ensureCapacityInternal_d00df_11 : decode cJ5_ensureCapacityInternal_d00df 11 = .ok (.iload_n 1, 1) := by decide +kernel
theorem dJ5_ensureCapacityInternal_d00df_12 : decode cJ5_ensureCapacityInternal_d00df 12 = .ok (.iload_n 2, 1) := by decide +kernel
theorem dJ5_ensureCapacityInternal_d00df_13 : decode cJ5_ensureCapacityInternal_d00df 13 = .ok (.isub, 1) := by decide +kernel
theorem dJ5_ensureCapacityInternal_d00df_14 : decode cJ5_ensureCapacityInternal_d00df 14 = .ok (.ifCond .le 24, 3) := by decide +kernel
theorem dJ5_ensureCapacityInternal_d00df_17 : decode cJ5_ensureCapacityInternal_d00df 17 = .ok (.aload_n 0, 1) := by decide +kernel
theorem dJ5_ensureCapacityInternal_d00df_18 : decode cJ5_ensureCapacityInternal_d00df 18 = .ok (.aload_n 0, 1) := by decide +kernel
theorem dJ5_ensureCapacityInternal_d00df_19 : decode cJ5_ensureCapacityInternal_d00df 19 = .ok (.getfield 15, 3) := by decide +kernel
theorem dJ5_ensureCapacityInternal_d00df_22 : decode cJ5_ensureCapacityInternal_d00df 22 = .ok (.aload_n 0, 1) := by decide +kernel
theorem dJ5_ensureCapacityInternal_d00df_23 : decode cJ5_ensureCapacityInternal_d00df 23 = .ok (.iload_n 1, 1) := by decide +kernel
theorem dJ5_ensureCapacityInternal_d00df_24 : decode cJ5_ensureCapacityInternal_d00df 24 = .ok (.invokevirtual 104, 3) := by decide +kernel
theorem dJ5_ensureCapacityInternal_d00df_27 : decode cJ5_ensureCapacityInternal_d00df 27 = .ok (.aload_n 0, 1) := by decide +kernel
theorem dJ5_ensureCapacityInternal_d00df_28 : decode cJ5_ensureCapacityInternal_d00df 28 = .ok (.getfield 22, 3) := by decide +kernel
theorem dJ5_ensureCapacityInternal_d00df_31 : decode cJ5_ensureCapacityInternal_d00df 31 = .ok (.ishl, 1) := by decide +kernel
theorem dJ5_ensureCapacityInternal_d00df_32 : decode cJ5_ensureCapacityInternal_d00df 32 = .ok (.invokestatic 108, 3) := by decide +kernel
theorem dJ5_ensureCapacityInternal_d00df_35 : decode cJ5_ensureCapacityInternal_d00df 35 = .ok (.putfield 15, 3) := by decide +kernel
theorem dJ5_ensureCapacityInternal_d00df_38 : decode cJ5_ensureCapacityInternal_d00df 38 = .ok (.return_, 1) := by decide +kernel
abbrev MJ5_ensureCapacityInternal_d00df : JM := (cJ5_ensureCapacityInternal_d00df, 3, RJ5, none, yJ5_ensureCapacityInternal_d00df)
theorem jn_J5_ensureCapacityInternal_d00df : jnm MJ5_ensureCapacityInternal_d00df 1 := by decide +kernel
theorem jp_J5_ensureCapacityInternal_d00df : plainName MJ5_ensureCapacityInternal_d00df.2.2.2.2.cls = true := by decide +kernel
theorem dJ5_inflateIfNeededFor_a7421_0 : decode cJ5_inflateIfNeededFor_a7421 0 = .ok (.getstatic 18, 3) := by decide +kernel
theorem dJ5_inflateIfNeededFor_a7421_3 : decode cJ5_inflateIfNeededFor_a7421 3 = .ok (.ifCond .eq 18, 3) := by decide +kernel
theorem dJ5_inflateIfNeededFor_a7421_6 : decode cJ5_inflateIfNeededFor_a7421 6 = .ok (.aload_n 0, 1) := by decide +kernel
theorem dJ5_inflateIfNeededFor_a7421_7 : decode cJ5_inflateIfNeededFor_a7421 7 = .ok (.getfield 22, 3) := by decide +kernel
theorem dJ5_inflateIfNeededFor_a7421_10 : decode cJ5_inflateIfNeededFor_a7421 10 = .ok (.aload_n 1, 1) := by decide +kernel
theorem dJ5_inflateIfNeededFor_a7421_11 : decode cJ5_inflateIfNeededFor_a7421 11 = .ok (.invokevirtual 40, 3) := by decide +kernel
theorem dJ5_inflateIfNeededFor_a7421_14 : decode cJ5_inflateIfNeededFor_a7421 14 = .ok (.if_icmp .eq 7, 3) := by decide +kernel
theorem dJ5_inflateIfNeededFor_a7421_17 : decode cJ5_inflateIfNeededFor_a7421 17 = .ok (.aload_n 0, 1) := by decide +kernel
theorem dJ5_inflateIfNeededFor_a7421_18 : decode cJ5_inflateIfNeededFor_a7421 18 = .ok (.invokevirtual 195, 3) := by decide +kernel
theorem dJ5_inflateIfNeededFor_a7421_21 : decode cJ5_inflateIfNeededFor_a7421 21 = .ok (.return_, 1) := by decide +kernel
abbrev MJ5_inflateIfNeededFor_a7421 : JM := (cJ5_inflateIfNeededFor_a7421, 2, RJ5, none, yJ5_inflateIfNeededFor_a7421)
theorem jn_J5_inflateIfNeededFor_a7421 : jnm MJ5_inflateIfNeededFor_a7421 1 := by decide +kernel
theorem jp_J5_inflateIfNeededFor_a7421 : plainName MJ5_inflateIfNeededFor_a7421.2.2.2.2.cls = true := by decide +kernel
theorem dJ0_getBytes_840e7_0 : decode cJ0_getBytes_840e7 0 = .ok (.aload_n 0, 1) := by decide +kernel
theorem dJ0_getBytes_840e7_1 : decode cJ0_getBytes_840e7 1 = .ok (.invokevirtual 335, 3) := by decide +kernel
theorem dJ0_getBytes_840e7_4 : decode cJ0_getBytes_840e7 4 = .ok (.iload_n 3, 1) := by decide +kernel
theorem dJ0_getBytes_840e7_5 : decode cJ0_getBytes_840e7 5 = .ok (.if_icmp .ne 23, 3) := by decide +kernel
theorem dJ0_getBytes_840e7_8 : decode cJ0_getBytes_840e7 8 = .ok (.aload_n 0, 1) := by decide +kernel
theorem dJ0_getBytes_840e7_9 : decode cJ0_getBytes_840e7 9 = .ok (.getfield 9, 3) := by decide +kernel
theorem dJ0_getBytes_840e7_12 : decode cJ0_getBytes_840e7 12 = .ok (.iconst 0, 1) := by decide +kernel
theorem dJ0_getBytes_840e7_13 : decode cJ0_getBytes_840e7 13 = .ok (.aload_n 1, 1) := by decide +kernel
theorem dJ0_getBytes_840e7_14 : decode cJ0_getBytes_840e7 14 = .ok (.iload_n 2, 1) := by decide +kernel
theorem dJ0_getBytes_840e7_15 : decode cJ0_getBytes_840e7 15 = .ok (.iload_n 3, 1) := by decide +kernel
theorem dJ0_getBytes_840e7_16 : decode cJ0_getBytes_840e7 16 = .ok (.ishl, 1) := by decide +kernel
theorem dJ0_getBytes_840e7_17 : decode cJ0_getBytes_840e7 17 = .ok (.aload_n 0, 1) := by decide +kernel
theorem dJ0_getBytes_840e7_18 : decode cJ0_getBytes_840e7 18 = .ok (.getfield 9, 3) := by decide +kernel
theorem dJ0_getBytes_840e7_21 : decode cJ0_getBytes_840e7 21 = .ok (.arraylength, 1) := by decide +kernel
theorem dJ0_getBytes_840e7_22 : decode cJ0_getBytes_840e7 22 = .ok (.invokestatic 212, 3) := by decide +kernel
theorem dJ0_getBytes_840e7_25 : decode cJ0_getBytes_840e7 25 = .ok (.goto 18, 3) := by decide +kernel
theorem dJ0_getBytes_840e7_28 : decode cJ0_getBytes_840e7 28 = .ok (.aload_n 0, 1) := by decide +kernel
theorem dJ0_getBytes_840e7_29 : decode cJ0_getBytes_840e7 29 = .ok (.getfield 9, 3) := by decide +kernel
theorem dJ0_getBytes_840e7_32 : decode cJ0_getBytes_840e7 32 = .ok (.iconst 0, 1) := by decide +kernel
theorem dJ0_getBytes_840e7_33 : decode cJ0_getBytes_840e7 33 = .ok (.aload_n 1, 1) := by decide +kernel
theorem dJ0_getBytes_840e7_34 : decode cJ0_getBytes_840e7 34 = .ok (.iload_n 2, 1) := by decide +kernel
theorem dJ0_getBytes_840e7_35 : decode cJ0_getBytes_840e7 35 = .ok (.aload_n 0, 1) := by decide +kernel
theorem dJ0_getBytes_840e7_36 : decode cJ0_getBytes_840e7 36 = .ok (.getfield 9, 3) := by decide +kernel
theorem dJ0_getBytes_840e7_39 : decode cJ0_getBytes_840e7 39 = .ok (.arraylength, 1) := by decide +kernel
theorem dJ0_getBytes_840e7_40 : decode cJ0_getBytes_840e7 40 = .ok (.invokestatic 106, 3) := by decide +kernel
theorem dJ0_getBytes_840e7_43 : decode cJ0_getBytes_840e7 43 = .ok (.return_, 1) := by decide +kernel
abbrev MJ0_getBytes_840e7 : JM := (cJ0_getBytes_840e7, 4, RJ0, none, yJ0_getBytes_840e7)
theorem jn_J0_getBytes_840e7 : jnm MJ0_getBytes_840e7 3 := by decide +kernel
theorem jp_J0_getBytes_840e7 : plainName MJ0_getBytes_840e7.2.2.2.2.cls = true := by decide +kernel
theorem dJ5_putStringAt_47b60_0 : decode cJ5_putStringAt_47b60 0 = .ok (.aload_n 0, 1) := by decide +kernel
theorem dJ5_putStringAt_47b60_1 : decode cJ5_putStringAt_47b60 1 = .ok (.aload_n 2, 1) := by decide +kernel
theorem dJ5_putStringAt_47b60_2 : decode cJ5_putStringAt_47b60 2 = .ok (.invokevirtual 397, 3) := by decide +kernel
theorem dJ5_putStringAt_47b60_5 : decode cJ5_putStringAt_47b60 5 = .ok (.aload_n 2, 1) := by decide +kernel
theorem dJ5_putStringAt_47b60_6 : decode cJ5_putStringAt_47b60 6 = .ok (.aload_n 0, 1) := by decide +kernel
theorem dJ5_putStringAt_47b60_7 : decode cJ5_putStringAt_47b60 7 = .ok (.getfield 15, 3) := by decide +kernel
theorem dJ5_putStringAt_47b60_10 : decode cJ5_putStringAt_47b60 10 = .ok (.iload_n 1, 1) := by decide +kernel
theorem dJ5_putStringAt_47b60_11 : decode cJ5_putStringAt_47b60 11 = .ok (.aload_n 0, 1) := by decide +kernel
theorem dJ5_putStringAt_47b60_12 : decode cJ5_putStringAt_47b60 12 = .ok (.getfield 22, 3) := by decide +kernel
theorem dJ5_putStringAt_47b60_15 : decode cJ5_putStringAt_47b60 15 = .ok (.invokevirtual 399, 3) := by decide +kernel
theorem dJ5_putStringAt_47b60_18 : decode cJ5_putStringAt_47b60 18 = .ok (.return_, 1) := by decide +kernel
abbrev MJ5_putStringAt_47b60 : JM := (cJ5_putStringAt_47b60, 3, RJ5, none, yJ5_putStringAt_47b60)
theorem jn_J5_putStringAt_47b60 : jnm MJ5_putStringAt_47b60 2 := by decide +kernel
theorem jp_J5_putStringAt_47b60 : plainName MJ5_putStringAt_47b60.2.2.2.2.cls = true := by decide +kernel
theorem dJ5_append_cf1ce_0 : decode cJ5_append_cf1ce 0 = .ok (.aload_n 1, 1) := by decide +kernel
theorem dJ5_append_cf1ce_1 : decode cJ5_append_cf1ce 1 = .ok (.ifnonnull 8, 3) := by decide +kernel
theorem dJ5_append_cf1ce_4 : decode cJ5_append_cf1ce 4 = .ok (.aload_n 0, 1) := by decide +kernel
theorem dJ5_append_cf1ce_5 : decode cJ5_append_cf1ce 5 = .ok (.invokevirtual 204, 3) := by decide +kernel
theorem dJ5_append_cf1ce_8 : decode cJ5_append_cf1ce 8 = .ok (.areturn, 1) := by decide +kernel
theorem dJ5_append_cf1ce_9 : decode cJ5_append_cf1ce 9 = .ok (.aload_n 1, 1) := by decide +kernel
theorem dJ5_append_cf1ce_10 : decode cJ5_append_cf1ce 10 = .ok (.invokevirtual 32, 3) := by decide +kernel
theorem dJ5_append_cf1ce_13 : decode cJ5_append_cf1ce 13 = .ok (.istore_n 2, 1) := by decide +kernel
theorem dJ5_append_cf1ce_14 : decode cJ5_append_cf1ce 14 = .ok (.aload_n 0, 1) := by decide +kernel
theorem dJ5_append_cf1ce_15 : decode cJ5_append_cf1ce 15 = .ok (.aload_n 0, 1) := by decide +kernel
theorem dJ5_append_cf1ce_16 : decode cJ5_append_cf1ce 16 = .ok (.getfield 79, 3) := by decide +kernel
theorem dJ5_append_cf1ce_19 : decode cJ5_append_cf1ce 19 = .ok (.iload_n 2, 1) := by decide +kernel
theorem dJ5_append_cf1ce_20 : decode cJ5_append_cf1ce 20 = .ok (.iadd, 1) := by decide +kernel
theorem dJ5_append_cf1ce_21 : decode cJ5_append_cf1ce 21 = .ok (.invokevirtual 100, 3) := by decide +kernel
theorem dJ5_append_cf1ce_24 : decode cJ5_append_cf1ce 24 = .ok (.aload_n 0, 1) := by decide +kernel
theorem dJ5_append_cf1ce_25 : decode cJ5_append_cf1ce 25 = .ok (.aload_n 0, 1) := by decide +kernel
theorem dJ5_append_cf1ce_26 : decode cJ5_append_cf1ce 26 = .ok (.getfield 79, 3) := by decide +kernel
theorem dJ5_append_cf1ce_29 : decode cJ5_append_cf1ce 29 = .ok (.aload_n 1, 1) := by decide +kernel
theorem dJ5_append_cf1ce_30 : decode cJ5_append_cf1ce 30 = .ok (.invokevirtual 208, 3) := by decide +kernel
theorem dJ5_append_cf1ce_33 : decode cJ5_append_cf1ce 33 = .ok (.aload_n 0, 1) := by decide +kernel
theorem dJ5_append_cf1ce_34 : decode cJ5_append_cf1ce 34 = .ok (.dup, 1) := by decide +kernel
theorem dJ5_append_cf1ce_35 : decode cJ5_append_cf1ce 35 = .ok (.getfield 79, 3) := by decide +kernel
theorem dJ5_append_cf1ce_38 : decode cJ5_append_cf1ce 38 = .ok (.iload_n 2, 1) := by decide +kernel
theorem dJ5_append_cf1ce_39 : decode cJ5_append_cf1ce 39 = .ok (.iadd, 1) := by decide +kernel
theorem dJ5_append_cf1ce_40 : decode cJ5_append_cf1ce 40 = .ok (.putfield 79, 3) := by decide +kernel
theorem dJ5_append_cf1ce_43 : decode cJ5_append_cf1ce 43 = .ok (.aload_n 0, 1) := by decide +kernel
theorem dJ5_append_cf1ce_44 : decode cJ5_append_cf1ce 44 = .ok (.areturn, 1) := by decide +kernel
abbrev MJ5_append_cf1ce : JM := (cJ5_append_cf1ce, 3, RJ5, (some (.object "java/lang/AbstractStringBuilder")), yJ5_append_cf1ce)
theorem jn_J5_append_cf1ce : jnm MJ5_append_cf1ce 1 := by decide +kernel
theorem jp_J5_append_cf1ce : plainName MJ5_append_cf1ce.2.2.2.2.cls = true := by decide +kernel
theorem dJ4_append_15ec4_0 : decode cJ4_append_15ec4 0 = .ok (.aload_n 0, 1) := by decide +kernel
theorem dJ4_append_15ec4_1 : decode cJ4_append_15ec4 1 = .ok (.aload_n 1, 1) := by decide +kernel
theorem dJ4_append_15ec4_2 : decode cJ4_append_15ec4 2 = .ok (.invokespecial 29, 3) := by decide +kernel
theorem dJ4_append_15ec4_5 : decode cJ4_append_15ec4 5 = .ok (.pop, 1) := by decide +kernel
theorem dJ4_append_15ec4_6 : decode cJ4_append_15ec4 6 = .ok (.aload_n 0, 1) := by decide +kernel
theorem dJ4_append_15ec4_7 : decode cJ4_append_15ec4 7 = .ok (.areturn, 1) := by decide +kernel
abbrev MJ4_append_15ec4 : JM := (cJ4_append_15ec4, 2, RJ4, (some (.object "java/lang/StringBuilder")), yJ4_append_15ec4)
theorem jn_J4_append_15ec4 : jnm MJ4_append_15ec4 1 := by decide +kernel
theorem jp_J4_append_15ec4 : plainName MJ4_append_15ec4.2.2.2.2.cls = true := by decide +kernel
theorem jw_780 : Cond.methodLink RJ5 104 yJ5_newCapacity_0f7a4 ∈ jGL := jmem 780 (by decide +kernel) rfl
theorem jw_782 : Cond.instanceMethod yJ5_newCapacity_0f7a4 ∈ jGL := jmem 782 (by decide +kernel) rfl
theorem jw_783 : Cond.code yJ5_newCapacity_0f7a4 cJ5_newCapacity_0f7a4 6 (some .int) ∈ jGL := jmem 783 (by decide +kernel) rfl
theorem jw_793 : Cond.methodLink RJ5 108 yJ7_copyOf_9075b ∈ jGL := jmem 793 (by decide +kernel) rfl
theorem jw_794 : Cond.static yJ7_copyOf_9075b ∈ jGL := jmem 794 (by decide +kernel) rfl
theorem jw_63 : Cond.initialized RJ7 ∈ jGL := jmem 63 (by decide +kernel) rfl
theorem jw_795 : Cond.code yJ7_copyOf_9075b cJ7_copyOf_9075b 3 (some (.array .byte)) ∈ jGL := jmem 795 (by decide +kernel) rfl
theorem jw_855 : Cond.methodLink RJ5 40 yJ0_coder_7d493 ∈ jGL := jmem 855 (by decide +kernel) rfl
theorem jw_879 : Cond.methodLink RJ0 212 arraycopyName ∈ jGL := jmem 879 (by decide +kernel) rfl
theorem jw_851 : Cond.methodLink RJ5 397 yJ5_inflateIfNeededFor_a7421 ∈ jGL := jmem 851 (by decide +kernel) rfl
theorem jw_853 : Cond.instanceMethod yJ5_inflateIfNeededFor_a7421 ∈ jGL := jmem 853 (by decide +kernel) rfl
theorem jw_854 : Cond.code yJ5_inflateIfNeededFor_a7421 cJ5_inflateIfNeededFor_a7421 2 none ∈ jGL := jmem 854 (by decide +kernel) rfl
theorem jw_875 : Cond.methodLink RJ5 399 yJ0_getBytes_840e7 ∈ jGL := jmem 875 (by decide +kernel) rfl
theorem jw_876 : Cond.instanceMethod yJ0_getBytes_840e7 ∈ jGL := jmem 876 (by decide +kernel) rfl
theorem jw_878 : Cond.code yJ0_getBytes_840e7 cJ0_getBytes_840e7 4 none ∈ jGL := jmem 878 (by decide +kernel) rfl
theorem jw_877 : Cond.selects RJ0 yJ0_getBytes_840e7 yJ0_getBytes_840e7 ∈ jGL := jmem 877 (by decide +kernel) rfl
theorem jw_838 : Cond.methodLink RJ5 32 yJ0_length_8abf5 ∈ jGL := jmem 838 (by decide +kernel) rfl
theorem jw_776 : Cond.methodLink RJ5 100 yJ5_ensureCapacityInternal_d00df ∈ jGL := jmem 776 (by decide +kernel) rfl
theorem jw_778 : Cond.instanceMethod yJ5_ensureCapacityInternal_d00df ∈ jGL := jmem 778 (by decide +kernel) rfl
theorem jw_779 : Cond.code yJ5_ensureCapacityInternal_d00df cJ5_ensureCapacityInternal_d00df 3 none ∈ jGL := jmem 779 (by decide +kernel) rfl
theorem jw_847 : Cond.methodLink RJ5 208 yJ5_putStringAt_47b60 ∈ jGL := jmem 847 (by decide +kernel) rfl
theorem jw_849 : Cond.instanceMethod yJ5_putStringAt_47b60 ∈ jGL := jmem 849 (by decide +kernel) rfl
theorem jw_850 : Cond.code yJ5_putStringAt_47b60 cJ5_putStringAt_47b60 3 none ∈ jGL := jmem 850 (by decide +kernel) rfl
theorem jw_769 : Cond.methodLink RJ4 29 yJ5_append_cf1ce ∈ jGL := jmem 769 (by decide +kernel) rfl
theorem jw_770 : Cond.instanceMethod yJ5_append_cf1ce ∈ jGL := jmem 770 (by decide +kernel) rfl
theorem jw_771 : Cond.code yJ5_append_cf1ce cJ5_append_cf1ce 3 (some (.object "java/lang/AbstractStringBuilder")) ∈ jGL := jmem 771 (by decide +kernel) rfl
theorem jw_1395 : Cond.sameMethod yJ5_append_cf1ce.cls yJ5_append_cf1ce.cls yJ5_append_cf1ce.name yJ5_append_cf1ce.desc ∈ jGL := jmem 1395 (by decide +kernel) rfl
/-! appending; making texts -/
theorem t_ensure {xs : Nat × (Nat × (Nat → Int32))} {o : Option (Nat × (Nat × List Nat))} {h v m n q : Nat} {f : Nat → Int32} (hm1 : m ≤ 3000) (hq : q ≤ 1000) (hf : sb_Fit f) : jSG MJ5_ensureCapacityInternal_d00df 3 1 4000 [jR h false, jI (nI q)] (xs, o) (fun cs => jBd cs h v m n f) (fun cs r X => r = jU ∧ ∃ (v2 m2 : Nat) (f2 : Nat → Int32), X = jBd cs h v2 m2 n f2 ∧ q ≤ m2 ∧ m2 ≤ 3000 ∧ (∀ j, j < m → f2 j = f j) ∧ sb_Fit f2) := by
  refine jSG_of jp_J5_ensureCapacityInternal_d00df rfl (Nat.le_of_ble_eq_true rfl) (fun C hm hS hi => ?_)
  have hT := jsx_t hS.1
  have hX := (jsx_x hS.1).symm
  refine jg_aload_n hm.1 (i := 0) rfl rfl dJ5_ensureCapacityInternal_d00df_0 ?_
  refine jg_getc hm.1 (v := jR v false) 0 0 rfl rfl jin_J4 (by decide) jw_751 rfl rfl dJ5_ensureCapacityInternal_d00df_1 ?_
  refine jg_alenb hm.1 1 rfl dJ5_ensureCapacityInternal_d00df_4 ?_
  refine jg_aload_n hm.1 (i := 0) rfl rfl dJ5_ensureCapacityInternal_d00df_5 ?_
  refine jg_getc hm.1 (v := jI 0) 0 1 rfl rfl jin_J4 (by decide) jw_752 rfl rfl dJ5_ensureCapacityInternal_d00df_6 ?_
  refine jg_ishr hm.1 dJ5_ensureCapacityInternal_d00df_9 ?_
  rw [sb_shr0]
  refine jg_istore_n hm.1 (i := 2) rfl (Nat.le_of_ble_eq_true rfl) rfl dJ5_ensureCapacityInternal_d00df_10 ?_
  refine jg_iload_n hm.1 (i := 1) rfl rfl dJ5_ensureCapacityInternal_d00df_11 ?_
  refine jg_iload_n hm.1 (i := 2) rfl rfl dJ5_ensureCapacityInternal_d00df_12 ?_
  refine jg_isub hm.1 dJ5_ensureCapacityInternal_d00df_13 ?_
  have e1 : (nI q - nI m).toInt = (q : Int) - m := pk_sub_toInt (by omega) (by omega)
  refine jg_if_le hm.1 (tgt := 38) dJ5_ensureCapacityInternal_d00df_14 (by decide) (fun z => ?_) (fun z => ?_)
  · have hqm : q ≤ m := by
      rw [Int32.le_iff_toInt_le, e1, Int32.toInt_zero] at z
      omega
    exact jt_ret hm rfl (Nat.le_of_ble_eq_true rfl) (Nat.le_of_ble_eq_true rfl) dJ5_ensureCapacityInternal_d00df_38 ⟨rfl, v, m, f, rfl, hqm, hm1, fun _ _ => rfl, hf⟩
  · have hqm : m < q := by
      rw [Int32.le_iff_toInt_le, e1, Int32.toInt_zero] at z
      omega
    refine jg_aload_n hm.1 (i := 0) rfl rfl dJ5_ensureCapacityInternal_d00df_17 ?_
    refine jg_aload_n hm.1 (i := 0) rfl rfl dJ5_ensureCapacityInternal_d00df_18 ?_
    refine jg_getc hm.1 (v := jR v false) 0 0 rfl rfl jin_J4 (by decide) jw_751 rfl rfl dJ5_ensureCapacityInternal_d00df_19 ?_
    refine jg_aload_n hm.1 (i := 0) rfl rfl dJ5_ensureCapacityInternal_d00df_22 ?_
    refine jg_iload_n hm.1 (i := 1) rfl rfl dJ5_ensureCapacityInternal_d00df_23 ?_
    refine jt_callV (wr := []) (as := [jI (nI q)]) (st := [jR v false, jR h false]) hm (t_newCapacity (v := v) (m := m) (n := n) (f := f) (by omega) (by omega) hqm) rfl ⟨hX, hS.2⟩ (jTa_same hT) (jRv_cell hm (i := 0) rfl rfl) (by omega) (Nat.le_of_ble_eq_true rfl) (Nat.le_of_ble_eq_true rfl) jw_780 jw_782 (jsel_p hm (w := Cond.selects RJ4 yJ5_newCapacity_0f7a4 yJ5_newCapacity_0f7a4) (by decide)) jw_57 jw_783 jn_J5_newCapacity_0f7a4 rfl rfl (Nat.le_of_ble_eq_true rfl) rfl dJ5_ensureCapacityInternal_d00df_24 ?_
    rintro _ _ ⟨rfl, rfl⟩
    generalize hz : m + (if q - m < m + 2 then m + 2 else q - m) = z
    have hz1 : q ≤ z := by split at hz <;> omega
    have hz2 : z ≤ 3000 := by split at hz <;> omega
    refine jg_aload_n hm.1 (i := 0) rfl rfl dJ5_ensureCapacityInternal_d00df_27 ?_
    refine jg_getc hm.1 (v := jI 0) 0 1 rfl rfl jin_J4 (by decide) jw_752 rfl rfl dJ5_ensureCapacityInternal_d00df_28 ?_
    refine jg_ishl hm.1 dJ5_ensureCapacityInternal_d00df_31 ?_
    rw [sb_shl0]
    refine jt_callS (wr := [(h, .inr (1, [.ref v, .int 0, .int 0, .int (nI n)]))]) (as := [jR v false, jI (nI z)]) (st := [jR h false]) hm (t_copyOf (m := m) (f := f) (by omega) (by omega) hf) rfl ⟨hX, hS.2⟩ (jTa_same hT) (by omega) (Nat.le_of_ble_eq_true rfl) (Nat.le_of_ble_eq_true rfl) jw_793 jw_794 jw_63 jw_795 jn_J7_copyOf_9075b rfl rfl (Nat.le_of_ble_eq_true rfl) rfl dJ5_ensureCapacityInternal_d00df_32 ?_
    rintro _ _ ⟨v2, rfl, rfl⟩
    refine jg_putc hm.1 (ty0 := tyJ4) (v := jR v2 false) 0 0 rfl rfl jin_J4 tyJ4_ok nmJ4 (by decide) jw_751 rfl rfl rfl rfl (Nat.le_of_ble_eq_true rfl) dJ5_ensureCapacityInternal_d00df_35 ?_
    refine jg_sub (X2 := jBd (jcs C) h v2 z n (va_cpy f (fun _ => 0) 0 0 m)) [0, 2] rfl rfl ?_
    exact jt_ret hm rfl (Nat.le_of_ble_eq_true rfl) (Nat.le_of_ble_eq_true rfl) dJ5_ensureCapacityInternal_d00df_38 ⟨rfl, v2, z, _, rfl, hz1, hz2, fun j hj => sb_cpy0 hj, sb_fitC hf sb_fit0⟩
theorem t_inflate {xs : Nat × (Nat × (Nat → Int32))} {h2 v2 : Nat} {t : List Nat} {h v m n : Nat} {f : Nat → Int32} : jSG MJ5_inflateIfNeededFor_a7421 1 0 0 [jR h false, jR h2 false] (xs, some (h2, v2, t)) (fun cs => jBd cs h v m n f) (fun cs r X => r = jU ∧ X = jBd cs h v m n f) := by
  refine jSG_of jp_J5_inflateIfNeededFor_a7421 rfl (Nat.le_of_ble_eq_true rfl) (fun C hm hS hi => ?_)
  have hT := jsx_t hS.1
  have hX := (jsx_x hS.1).symm
  refine jt_cs hm jw_742 dJ5_inflateIfNeededFor_a7421_0 ?_
  refine jg_if_eq hm.1 (tgt := 21) dJ5_inflateIfNeededFor_a7421_3 (by decide) (fun h => absurd h (by decide)) (fun _ => ?_)
  refine jg_aload_n hm.1 (i := 0) rfl rfl dJ5_inflateIfNeededFor_a7421_6 ?_
  refine jg_getc hm.1 (v := jI 0) 0 1 rfl rfl jin_J4 (by decide) jw_752 rfl rfl dJ5_inflateIfNeededFor_a7421_7 ?_
  refine jg_aload_n hm.1 (i := 1) rfl rfl dJ5_inflateIfNeededFor_a7421_10 ?_
  refine jt_callV (wr := jBd (jcs C) h v m n f) (as := []) (st := [jI 0]) hm t_coder rfl ⟨hX, hS.2⟩ (jTa_same hT) (jRv_text hm (jTa_same hT)) (by omega) (Nat.le_of_ble_eq_true rfl) (Nat.le_of_ble_eq_true rfl) jw_855 jw_843 (hm.1.hts _ jw_844) jw_59 jw_845 jn_J0_coder_7d493 rfl rfl (Nat.le_of_ble_eq_true rfl) rfl dJ5_inflateIfNeededFor_a7421_11 ?_
  rintro _ _ ⟨rfl, rfl⟩
  refine jg_icmp_eq hm.1 (tgt := 21) dJ5_inflateIfNeededFor_a7421_14 (by decide) (fun _ => ?_) (fun h => absurd rfl h)
  exact jt_ret hm rfl (Nat.le_of_ble_eq_true rfl) (Nat.le_of_ble_eq_true rfl) dJ5_inflateIfNeededFor_a7421_21 ⟨rfl, rfl⟩
theorem t_getBytes {xs : Nat × (Nat × (Nat → Int32))} {h v : Nat} {t : List Nat} {q m n : Nat} {g : Nat → Int32} (ht : t.length + n ≤ m) (hm1 : m ≤ 4000) (ha : ∀ x ∈ t, x < 128) : jSG MJ0_getBytes_840e7 1 0 0 [jR h false, jR q false, jI (nI n), jI 0] (xs, some (h, v, t)) (fun cs => [(q, .inl (cs 1, m, .inl g))]) (fun cs r X => r = jU ∧ X = [(q, .inl (cs 1, m, .inl (va_cpy (fun j => nI (t.getD j 0)) g 0 n t.length)))]) := by
  refine jSG_of jp_J0_getBytes_840e7 rfl (Nat.le_of_ble_eq_true rfl) (fun C hm hS hi => ?_)
  have hT := jsx_t hS.1
  have hX := (jsx_x hS.1).symm
  refine jg_aload_n hm.1 (i := 0) rfl rfl dJ0_getBytes_840e7_0 ?_
  refine jt_callV (wr := [(q, .inl (jcs C 1, m, .inl g))]) (as := []) (st := []) hm t_coder rfl ⟨hX, hS.2⟩ (jTa_same hT) (jRv_text hm (jTa_same hT)) (by omega) (Nat.le_of_ble_eq_true rfl) (Nat.le_of_ble_eq_true rfl) jw_842 jw_843 (hm.1.hts _ jw_844) jw_59 jw_845 jn_J0_coder_7d493 rfl rfl (Nat.le_of_ble_eq_true rfl) rfl dJ0_getBytes_840e7_1 ?_
  rintro _ _ ⟨rfl, rfl⟩
  refine jg_iload_n hm.1 (i := 3) rfl rfl dJ0_getBytes_840e7_4 ?_
  refine jg_icmp_ne hm.1 (tgt := 28) dJ0_getBytes_840e7_5 (by decide) (fun h => absurd rfl h) (fun _ => ?_)
  refine jg_aload_n hm.1 (i := 0) rfl rfl dJ0_getBytes_840e7_8 ?_
  refine jt_sval hm hT jw_917 dJ0_getBytes_840e7_9 ?_
  refine jg_iconst hm.1 (v := 0) (by decide) dJ0_getBytes_840e7_12 ?_
  refine jg_aload_n hm.1 (i := 1) rfl rfl dJ0_getBytes_840e7_13 ?_
  refine jg_iload_n hm.1 (i := 2) rfl rfl dJ0_getBytes_840e7_14 ?_
  refine jg_iload_n hm.1 (i := 3) rfl rfl dJ0_getBytes_840e7_15 ?_
  refine jg_ishl hm.1 dJ0_getBytes_840e7_16 ?_
  rw [sb_shl0]
  refine jg_aload_n hm.1 (i := 0) rfl rfl dJ0_getBytes_840e7_17 ?_
  refine jt_sval hm hT jw_917 dJ0_getBytes_840e7_18 ?_
  refine jt_slen hm hT dJ0_getBytes_840e7_21 ?_
  refine jt_copyt hm hT ha 0 rfl (by omega) jw_879 (by decide) (nI_pos (by omega)) (nI_pos (by omega)) (by rw [nI_clamp (by omega), sb_cl0]; omega) (by rw [nI_clamp (by omega), nI_clamp (by omega)]; omega) rfl dJ0_getBytes_840e7_22 ?_
  rw [nI_clamp (show t.length < 2 ^ 31 by omega), nI_clamp (show n < 2 ^ 31 by omega), sb_cl0]
  refine jg_goto hm.1 (tgt := 43) dJ0_getBytes_840e7_25 (by decide) ?_
  exact jt_ret hm rfl (Nat.le_of_ble_eq_true rfl) (Nat.le_of_ble_eq_true rfl) dJ0_getBytes_840e7_43 ⟨rfl, rfl⟩
theorem t_putString {xs : Nat × (Nat × (Nat → Int32))} {h2 v2 : Nat} {t : List Nat} {h v m n : Nat} {f : Nat → Int32} (ht : t.length + n ≤ m) (hm1 : m ≤ 4000) (ha : ∀ x ∈ t, x < 128) : jSG MJ5_putStringAt_47b60 2 0 0 [jR h false, jI (nI n), jR h2 false] (xs, some (h2, v2, t)) (fun cs => jBd cs h v m n f) (fun cs r X => r = jU ∧ X = jBd cs h v m n (va_cpy (fun j => nI (t.getD j 0)) f 0 n t.length)) := by
  refine jSG_of jp_J5_putStringAt_47b60 rfl (Nat.le_of_ble_eq_true rfl) (fun C hm hS hi => ?_)
  have hT := jsx_t hS.1
  have hX := (jsx_x hS.1).symm
  refine jg_aload_n hm.1 (i := 0) rfl rfl dJ5_putStringAt_47b60_0 ?_
  refine jg_aload_n hm.1 (i := 2) rfl rfl dJ5_putStringAt_47b60_1 ?_
  refine jt_callV (wr := []) (as := [jR h2 false]) (st := []) hm (t_inflate (v := v) (m := m) (n := n) (f := f)) rfl ⟨hX, hS.2⟩ (jTa_same hT) (jRv_cell hm (i := 0) rfl rfl) (by omega) (Nat.le_of_ble_eq_true rfl) (Nat.le_of_ble_eq_true rfl) jw_851 jw_853 (jsel_p hm (w := Cond.selects RJ4 yJ5_inflateIfNeededFor_a7421 yJ5_inflateIfNeededFor_a7421) (by decide)) jw_57 jw_854 jn_J5_inflateIfNeededFor_a7421 rfl rfl (Nat.le_of_ble_eq_true rfl) rfl dJ5_putStringAt_47b60_2 ?_
  rintro _ _ ⟨rfl, rfl⟩
  refine jg_aload_n hm.1 (i := 2) rfl rfl dJ5_putStringAt_47b60_5 ?_
  refine jg_aload_n hm.1 (i := 0) rfl rfl dJ5_putStringAt_47b60_6 ?_
  refine jg_getc hm.1 (v := jR v false) 0 0 rfl rfl jin_J4 (by decide) jw_751 rfl rfl dJ5_putStringAt_47b60_7 ?_
  refine jg_iload_n hm.1 (i := 1) rfl rfl dJ5_putStringAt_47b60_10 ?_
  refine jg_aload_n hm.1 (i := 0) rfl rfl dJ5_putStringAt_47b60_11 ?_
  refine jg_getc hm.1 (v := jI 0) 0 1 rfl rfl jin_J4 (by decide) jw_752 rfl rfl dJ5_putStringAt_47b60_12 ?_
  refine jt_callV (wr := [(h, .inr (1, [.ref v, .int 0, .int 0, .int (nI n)]))]) (as := [jR v false, jI (nI n), jI 0]) (st := []) hm (t_getBytes (g := f) ht hm1 ha) rfl ⟨hX, hS.2⟩ (jTa_same hT) (jRv_text hm (jTa_same hT)) (by omega) (Nat.le_of_ble_eq_true rfl) (Nat.le_of_ble_eq_true rfl) jw_875 jw_876 (hm.1.hts _ jw_877) jw_59 jw_878 jn_J0_getBytes_840e7 rfl rfl (Nat.le_of_ble_eq_true rfl) rfl dJ5_putStringAt_47b60_15 ?_
  rintro _ _ ⟨rfl, rfl⟩
  exact jt_ret hm rfl (Nat.le_of_ble_eq_true rfl) (Nat.le_of_ble_eq_true rfl) dJ5_putStringAt_47b60_18 ⟨rfl, rfl⟩
/-- the builder's row holds the text u -/
def jBT (m : Nat) (f : Nat → Int32) (u : List Nat) : Prop := u.length ≤ m ∧ m ≤ 3000 ∧ (∀ j, j < u.length → f j = nI (u.getD j 0)) ∧ sb_Fit f
theorem jBT.app {m m2 : Nat} {f f2 : Nat → Int32} {u t : List Nat} (h : jBT m f u) (h1 : u.length + t.length ≤ m2) (h2 : m2 ≤ 3000) (h3 : ∀ j, j < m → f2 j = f j) (h4 : sb_Fit f2) (ha : ∀ x ∈ t, x < 128) : jBT m2 (va_cpy (fun j => nI (t.getD j 0)) f2 0 u.length t.length) (u ++ t) := by
  refine ⟨by rw [List.length_append]; exact h1, h2, fun j hj => ?_, sb_fitC (fun j => jfitN (jgetD_lt ha j)) h4⟩
  rw [List.length_append] at hj
  by_cases q : j < u.length
  · rw [pk_cpy_out (Or.inl q), h3 j (by have := h.1; omega), h.2.2.1 j q]
    rw [List.getD_eq_getElem?_getD, List.getD_eq_getElem?_getD, List.getElem?_append_left q]
  · rw [pk_cpy_in (by omega) (by omega)]
    show nI (t.getD (0 + (j - u.length)) 0) = _
    rw [Nat.zero_add, List.getD_eq_getElem?_getD, List.getD_eq_getElem?_getD, List.getElem?_append_right (by omega)]
theorem t_aappend {xs : Nat × (Nat × (Nat → Int32))} {h2 v2 : Nat} {t u : List Nat} {h v m : Nat} {f : Nat → Int32} (hB : jBT m f u) (hl : u.length + t.length ≤ 1000) (ha : ∀ x ∈ t, x < 128) : jSG MJ5_append_cf1ce 4 1 4000 [jR h false, jR h2 false] (xs, some (h2, v2, t)) (fun cs => jBd cs h v m u.length f) (fun cs r X => r = jR h false ∧ ∃ (v' m' : Nat) (f' : Nat → Int32), X = jBd cs h v' m' (u ++ t).length f' ∧ jBT m' f' (u ++ t)) := by
  refine jSG_of jp_J5_append_cf1ce rfl (Nat.le_of_ble_eq_true rfl) (fun C hm hS hi => ?_)
  have hT := jsx_t hS.1
  have hX := (jsx_x hS.1).symm
  refine jg_aload_n hm.1 (i := 1) rfl rfl dJ5_append_cf1ce_0 ?_
  refine jg_ifnonnull hm.1 (tgt := 9) dJ5_append_cf1ce_1 (by decide) ?_
  refine jg_aload_n hm.1 (i := 1) rfl rfl dJ5_append_cf1ce_9 ?_
  refine jt_callV (wr := jBd (jcs C) h v m u.length f) (as := []) (st := []) hm t_length rfl ⟨hX, hS.2⟩ (jTa_same hT) (jRv_text hm (jTa_same hT)) (by omega) (Nat.le_of_ble_eq_true rfl) (Nat.le_of_ble_eq_true rfl) jw_838 jw_839 (hm.1.hts _ jw_840) jw_59 jw_841 jn_J0_length_8abf5 rfl rfl (Nat.le_of_ble_eq_true rfl) rfl dJ5_append_cf1ce_10 ?_
  rintro _ _ ⟨rfl, rfl⟩
  refine jg_eq (X2 := jBd (jcs C) h v m u.length f) rfl ?_
  refine jg_istore_n hm.1 (i := 2) rfl (Nat.le_of_ble_eq_true rfl) rfl dJ5_append_cf1ce_13 ?_
  refine jg_aload_n hm.1 (i := 0) rfl rfl dJ5_append_cf1ce_14 ?_
  refine jg_aload_n hm.1 (i := 0) rfl rfl dJ5_append_cf1ce_15 ?_
  refine jg_getc hm.1 (v := jI (nI u.length)) 0 3 rfl rfl jin_J4 (by decide) jw_754 rfl rfl dJ5_append_cf1ce_16 ?_
  refine jg_iload_n hm.1 (i := 2) rfl rfl dJ5_append_cf1ce_19 ?_
  refine jg_iadd hm.1 dJ5_append_cf1ce_20 ?_
  rw [nI_add]
  refine jt_callV (wr := []) (as := [jI (nI (u.length + t.length))]) (st := []) hm (t_ensure (v := v) (m := m) (n := u.length) (f := f) hB.2.1 hl hB.2.2.2) rfl ⟨hX, hS.2⟩ (jTa_same hT) (jRv_cell hm (i := 0) rfl rfl) (by omega) (Nat.le_of_ble_eq_true rfl) (Nat.le_of_ble_eq_true rfl) jw_776 jw_778 (jsel_p hm (w := Cond.selects RJ4 yJ5_ensureCapacityInternal_d00df yJ5_ensureCapacityInternal_d00df) (by decide)) jw_57 jw_779 jn_J5_ensureCapacityInternal_d00df rfl rfl (Nat.le_of_ble_eq_true rfl) rfl dJ5_append_cf1ce_21 ?_
  rintro _ _ ⟨rfl, v3, m3, f3, rfl, g1, g2, g3, g4⟩
  refine jg_aload_n hm.1 (i := 0) rfl rfl dJ5_append_cf1ce_24 ?_
  refine jg_aload_n hm.1 (i := 0) rfl rfl dJ5_append_cf1ce_25 ?_
  refine jg_getc hm.1 (v := jI (nI u.length)) 0 3 rfl rfl jin_J4 (by decide) jw_754 rfl rfl dJ5_append_cf1ce_26 ?_
  refine jg_aload_n hm.1 (i := 1) rfl rfl dJ5_append_cf1ce_29 ?_
  refine jt_callV (wr := []) (as := [jI (nI u.length), jR h2 false]) (st := []) hm (t_putString (v := v3) (m := m3) (n := u.length) (f := f3) (by omega) (by omega) ha) rfl ⟨hX, hS.2⟩ (jTa_same hT) (jRv_cell hm (i := 0) rfl rfl) (by omega) (Nat.le_of_ble_eq_true rfl) (Nat.le_of_ble_eq_true rfl) jw_847 jw_849 (jsel_p hm (w := Cond.selects RJ4 yJ5_putStringAt_47b60 yJ5_putStringAt_47b60) (by decide)) jw_57 jw_850 jn_J5_putStringAt_47b60 rfl rfl (Nat.le_of_ble_eq_true rfl) rfl dJ5_append_cf1ce_30 ?_
  rintro _ _ ⟨rfl, rfl⟩
  refine jg_aload_n hm.1 (i := 0) rfl rfl dJ5_append_cf1ce_33 ?_
  refine jg_dup hm.1 dJ5_append_cf1ce_34 ?_
  refine jg_getc hm.1 (v := jI (nI u.length)) 0 3 rfl rfl jin_J4 (by decide) jw_754 rfl rfl dJ5_append_cf1ce_35 ?_
  refine jg_iload_n hm.1 (i := 2) rfl rfl dJ5_append_cf1ce_38 ?_
  refine jg_iadd hm.1 dJ5_append_cf1ce_39 ?_
  rw [nI_add]
  refine jg_putc hm.1 (ty0 := tyJ4) (v := jI (nI (u.length + t.length))) 0 3 rfl rfl jin_J4 tyJ4_ok nmJ4 (by decide) jw_754 rfl rfl rfl rfl (Nat.le_of_ble_eq_true rfl) dJ5_append_cf1ce_40 ?_
  refine jg_aload_n hm.1 (i := 0) rfl rfl dJ5_append_cf1ce_43 ?_
  refine jg_eq (X2 := jBd (jcs C) h v3 m3 (u ++ t).length (va_cpy (fun j => nI (t.getD j 0)) f3 0 u.length t.length)) (by rw [List.length_append]; rfl) ?_
  exact jt_aret hm rfl (Or.inl ⟨_, rfl⟩) (Nat.le_of_ble_eq_true rfl) (Nat.le_of_ble_eq_true rfl) dJ5_append_cf1ce_44 ⟨rfl, v3, m3, _, rfl, hB.app g1 g2 g3 g4 ha⟩
theorem t_append {xs : Nat × (Nat × (Nat → Int32))} {h2 v2 : Nat} {t u : List Nat} {h v m : Nat} {f : Nat → Int32} (hB : jBT m f u) (hl : u.length + t.length ≤ 1000) (ha : ∀ x ∈ t, x < 128) : jSG MJ4_append_15ec4 5 1 4000 [jR h false, jR h2 false] (xs, some (h2, v2, t)) (fun cs => jBd cs h v m u.length f) (fun cs r X => r = jR h false ∧ ∃ (v' m' : Nat) (f' : Nat → Int32), X = jBd cs h v' m' (u ++ t).length f' ∧ jBT m' f' (u ++ t)) := by
  refine jSG_of jp_J4_append_15ec4 rfl (Nat.le_of_ble_eq_true rfl) (fun C hm hS hi => ?_)
  have hT := jsx_t hS.1
  have hX := (jsx_x hS.1).symm
  refine jg_aload_n hm.1 (i := 0) rfl rfl dJ4_append_15ec4_0 ?_
  refine jg_aload_n hm.1 (i := 1) rfl rfl dJ4_append_15ec4_1 ?_
  refine jt_callSU (wr := []) (as := [jR h2 false]) (st := []) hm (t_aappend (v := v) hB hl ha) rfl ⟨hX, hS.2⟩ (jTa_same hT) (jRv_cell hm (i := 0) rfl rfl) (by omega) (Nat.le_of_ble_eq_true rfl) (Nat.le_of_ble_eq_true rfl) jw_769 jw_770 jw_1395 jw_763 jw_57 jw_771 jn_J5_append_cf1ce (by decide) rfl rfl (Nat.le_of_ble_eq_true rfl) rfl dJ4_append_15ec4_2 ?_
  rintro _ _ ⟨rfl, v', m', f', rfl, hB'⟩
  refine jg_popR hm.1 dJ4_append_15ec4_5 ?_
  refine jg_aload_n hm.1 (i := 0) rfl rfl dJ4_append_15ec4_6 ?_
  exact jt_aret hm rfl (Or.inl ⟨_, rfl⟩) (Nat.le_of_ble_eq_true rfl) (Nat.le_of_ble_eq_true rfl) dJ4_append_15ec4_7 ⟨rfl, v', m', f', rfl, hB'⟩

