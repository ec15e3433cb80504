theorem dJ0_coder_7d493_0 : decode cJ0_coder_7d493 0 = .ok (.getstatic 38, 3) := by decide +kernel
theorem dJ0_coder_7d493_3 : decode cJ0_coder_7d493 3 = .ok (.ifCond .eq 10, 3) := by decide +kernel
theorem dJ0_coder_7d493_6 : decode cJ0_coder_7d493 6 = .ok (.aload_n 0, 1) := by decide +kernel
theorem dJ0_coder_7d493_7 : decode cJ0_coder_7d493 7 = .ok (.getfield 15, 3) := by decide +kernel
theorem dJ0_coder_7d493_10 : decode cJ0_coder_7d493 10 = .ok (.goto 4, 3) := by decide +kernel
theorem dJ0_coder_7d493_13 : decode cJ0_coder_7d493 13 = .ok (.iconst 1, 1) := by decide +kernel
theorem dJ0_coder_7d493_14 : decode cJ0_coder_7d493 14 = .ok (.ireturn, 1) := by decide +kernel
abbrev MJ0_coder_7d493 : JM := (cJ0_coder_7d493, 1, RJ0, (some .byte), yJ0_coder_7d493)
theorem jn_J0_coder_7d493 : jnm MJ0_coder_7d493 0 := by decide +kernel
theorem jp_J0_coder_7d493 : plainName MJ0_coder_7d493.2.2.2.2.cls = true := by decide +kernel
theorem dJ0_isLatin1_aae02_0 : decode cJ0_isLatin1_aae02 0 = .ok (.getstatic 38, 3) := by decide +kernel
theorem dJ0_isLatin1_aae02_3 : decode cJ0_isLatin1_aae02 3 = .ok (.ifCond .eq 14, 3) := by decide +kernel
theorem dJ0_isLatin1_aae02_6 : decode cJ0_isLatin1_aae02 6 = .ok (.aload_n 0, 1) := by decide +kernel
theorem dJ0_isLatin1_aae02_7 : decode cJ0_isLatin1_aae02 7 = .ok (.getfield 15, 3) := by decide +kernel
theorem dJ0_isLatin1_aae02_10 : decode cJ0_isLatin1_aae02 10 = .ok (.ifCond .ne 7, 3) := by decide +kernel
theorem dJ0_isLatin1_aae02_13 : decode cJ0_isLatin1_aae02 13 = .ok (.iconst 1, 1) := by decide +kernel
theorem dJ0_isLatin1_aae02_14 : decode cJ0_isLatin1_aae02 14 = .ok (.goto 4, 3) := by decide +kernel
theorem dJ0_isLatin1_aae02_17 : decode cJ0_isLatin1_aae02 17 = .ok (.iconst 0, 1) := by decide +kernel
theorem dJ0_isLatin1_aae02_18 : decode cJ0_isLatin1_aae02 18 = .ok (.ireturn, 1) := by decide +kernel
abbrev MJ0_isLatin1_aae02 : JM := (cJ0_isLatin1_aae02, 1, RJ0, (some .boolean), yJ0_isLatin1_aae02)
theorem jn_J0_isLatin1_aae02 : jnm MJ0_isLatin1_aae02 0 := by decide +kernel
theorem jp_J0_isLatin1_aae02 : plainName MJ0_isLatin1_aae02.2.2.2.2.cls = true := by decide +kernel
theorem dJ0_length_8abf5_0 : decode cJ0_length_8abf5 0 = .ok (.aload_n 0, 1) := by decide +kernel
theorem dJ0_length_8abf5_1 : decode cJ0_length_8abf5 1 = .ok (.getfield 9, 3) := by decide +kernel
theorem dJ0_length_8abf5_4 : decode cJ0_length_8abf5 4 = .ok (.arraylength, 1) := by decide +kernel
theorem dJ0_length_8abf5_5 : decode cJ0_length_8abf5 5 = .ok (.aload_n 0, 1) := by decide +kernel
theorem dJ0_length_8abf5_6 : decode cJ0_length_8abf5 6 = .ok (.invokevirtual 335, 3) := by decide +kernel
theorem dJ0_length_8abf5_9 : decode cJ0_length_8abf5 9 = .ok (.ishr, 1) := by decide +kernel
theorem dJ0_length_8abf5_10 : decode cJ0_length_8abf5 10 = .ok (.ireturn, 1) := by decide +kernel
abbrev MJ0_length_8abf5 : JM := (cJ0_length_8abf5, 1, RJ0, (some .int), yJ0_length_8abf5)
theorem jn_J0_length_8abf5 : jnm MJ0_length_8abf5 0 := by decide +kernel
theorem jp_J0_length_8abf5 : plainName MJ0_length_8abf5.2.2.2.2.cls = true := by decide +kernel
theorem dJ3_checkIndex_8e157_0 : decode cJ3_checkIndex_8e157 0 = .ok (.iload_n 0, 1) := by decide +kernel
theorem dJ3_checkIndex_8e157_1 : decode cJ3_checkIndex_8e157 1 = .ok (.ifCond .lt 8, 3) := by decide +kernel
theorem dJ3_checkIndex_8e157_4 : decode cJ3_checkIndex_8e157 4 = .ok (.iload_n 0, 1) := by decide +kernel
theorem dJ3_checkIndex_8e157_5 : decode cJ3_checkIndex_8e157 5 = .ok (.iload_n 1, 1) := by decide +kernel
theorem dJ3_checkIndex_8e157_6 : decode cJ3_checkIndex_8e157 6 = .ok (.if_icmp .lt 10, 3) := by decide +kernel
theorem dJ3_checkIndex_8e157_9 : decode cJ3_checkIndex_8e157 9 = .ok (.aload_n 2, 1) := by decide +kernel
theorem dJ3_checkIndex_8e157_10 : decode cJ3_checkIndex_8e157 10 = .ok (.iload_n 0, 1) := by decide +kernel
theorem dJ3_checkIndex_8e157_11 : decode cJ3_checkIndex_8e157 11 = .ok (.iload_n 1, 1) := by decide +kernel
theorem dJ3_checkIndex_8e157_12 : decode cJ3_checkIndex_8e157 12 = .ok (.invokestatic 95, 3) := by decide +kernel
theorem dJ3_checkIndex_8e157_15 : decode cJ3_checkIndex_8e157 15 = .ok (.athrow, 1) := by decide +kernel
theorem dJ3_checkIndex_8e157_16 : decode cJ3_checkIndex_8e157 16 = .ok (.iload_n 0, 1) := by decide +kernel
theorem dJ3_checkIndex_8e157_17 : decode cJ3_checkIndex_8e157 17 = .ok (.ireturn, 1) := by decide +kernel
abbrev MJ3_checkIndex_8e157 : JM := (cJ3_checkIndex_8e157, 3, RJ3, (some .int), yJ3_checkIndex_8e157)
theorem jn_J3_checkIndex_8e157 : jnm MJ3_checkIndex_8e157 3 := by decide +kernel
theorem jp_J3_checkIndex_8e157 : plainName MJ3_checkIndex_8e157.2.2.2.2.cls = true := by decide +kernel
theorem dJ0_checkIndex_df160_0 : decode cJ0_checkIndex_df160 0 = .ok (.iload_n 0, 1) := by decide +kernel
theorem dJ0_checkIndex_df160_1 : decode cJ0_checkIndex_df160 1 = .ok (.iload_n 1, 1) := by decide +kernel
theorem dJ0_checkIndex_df160_2 : decode cJ0_checkIndex_df160 2 = .ok (.getstatic 1053, 3) := by decide +kernel
theorem dJ0_checkIndex_df160_5 : decode cJ0_checkIndex_df160 5 = .ok (.invokestatic 1059, 3) := by decide +kernel
theorem dJ0_checkIndex_df160_8 : decode cJ0_checkIndex_df160 8 = .ok (.pop, 1) := by decide +kernel
theorem dJ0_checkIndex_df160_9 : decode cJ0_checkIndex_df160 9 = .ok (.return_, 1) := by decide +kernel
abbrev MJ0_checkIndex_df160 : JM := (cJ0_checkIndex_df160, 2, RJ0, none, yJ0_checkIndex_df160)
theorem jn_J0_checkIndex_df160 : jnm MJ0_checkIndex_df160 2 := by decide +kernel
theorem jp_J0_checkIndex_df160 : plainName MJ0_checkIndex_df160.2.2.2.2.cls = true := by decide +kernel
theorem dJ1_charAt_3b067_0 : decode cJ1_charAt_3b067 0 = .ok (.iload_n 1, 1) := by decide +kernel
theorem dJ1_charAt_3b067_1 : decode cJ1_charAt_3b067 1 = .ok (.aload_n 0, 1) := by decide +kernel
theorem dJ1_charAt_3b067_2 : decode cJ1_charAt_3b067 2 = .ok (.arraylength, 1) := by decide +kernel
theorem dJ1_charAt_3b067_3 : decode cJ1_charAt_3b067 3 = .ok (.invokestatic 9, 3) := by decide +kernel
theorem dJ1_charAt_3b067_6 : decode cJ1_charAt_3b067 6 = .ok (.aload_n 0, 1) := by decide +kernel
theorem dJ1_charAt_3b067_7 : decode cJ1_charAt_3b067 7 = .ok (.iload_n 1, 1) := by decide +kernel
theorem dJ1_charAt_3b067_8 : decode cJ1_charAt_3b067 8 = .ok (.baload, 1) := by decide +kernel
theorem dJ1_charAt_3b067_9 : decode cJ1_charAt_3b067 9 = .ok (.sipush 255, 3) := by decide +kernel
theorem dJ1_charAt_3b067_12 : decode cJ1_charAt_3b067 12 = .ok (.iand, 1) := by decide +kernel
theorem dJ1_charAt_3b067_13 : decode cJ1_charAt_3b067 13 = .ok (.i2c, 1) := by decide +kernel
theorem dJ1_charAt_3b067_14 : decode cJ1_charAt_3b067 14 = .ok (.ireturn, 1) := by decide +kernel
abbrev MJ1_charAt_3b067 : JM := (cJ1_charAt_3b067, 2, RJ1, (some .char), yJ1_charAt_3b067)
theorem jn_J1_charAt_3b067 : jnm MJ1_charAt_3b067 2 := by decide +kernel
theorem jp_J1_charAt_3b067 : plainName MJ1_charAt_3b067.2.2.2.2.cls = true := by decide +kernel
theorem dJ0_charAt_5068e_0 : decode cJ0_charAt_5068e 0 = .ok (.aload_n 0, 1) := by decide +kernel
theorem dJ0_charAt_5068e_1 : decode cJ0_charAt_5068e 1 = .ok (.invokevirtual 492, 3) := by decide +kernel
theorem dJ0_charAt_5068e_4 : decode cJ0_charAt_5068e 4 = .ok (.ifCond .eq 12, 3) := by decide +kernel
theorem dJ0_charAt_5068e_7 : decode cJ0_charAt_5068e 7 = .ok (.aload_n 0, 1) := by decide +kernel
theorem dJ0_charAt_5068e_8 : decode cJ0_charAt_5068e 8 = .ok (.getfield 9, 3) := by decide +kernel
theorem dJ0_charAt_5068e_11 : decode cJ0_charAt_5068e 11 = .ok (.iload_n 1, 1) := by decide +kernel
theorem dJ0_charAt_5068e_12 : decode cJ0_charAt_5068e 12 = .ok (.invokestatic 495, 3) := by decide +kernel
theorem dJ0_charAt_5068e_15 : decode cJ0_charAt_5068e 15 = .ok (.ireturn, 1) := by decide +kernel
theorem dJ0_charAt_5068e_16 : decode cJ0_charAt_5068e 16 = .ok (.aload_n 0, 1) := by decide +kernel
theorem dJ0_charAt_5068e_17 : decode cJ0_charAt_5068e 17 = .ok (.getfield 9, 3) := by decide +kernel
theorem dJ0_charAt_5068e_20 : decode cJ0_charAt_5068e 20 = .ok (.iload_n 1, 1) := by decide +kernel
theorem dJ0_charAt_5068e_21 : decode cJ0_charAt_5068e 21 = .ok (.invokestatic 498, 3) := by decide +kernel
theorem dJ0_charAt_5068e_24 : decode cJ0_charAt_5068e 24 = .ok (.ireturn, 1) := by decide +kernel
abbrev MJ0_charAt_5068e : JM := (cJ0_charAt_5068e, 2, RJ0, (some .char), yJ0_charAt_5068e)
theorem jn_J0_charAt_5068e : jnm MJ0_charAt_5068e 1 := by decide +kernel
theorem jp_J0_charAt_5068e : plainName MJ0_charAt_5068e.2.2.2.2.cls = true := by decide +kernel
theorem dJ1_indexOfChar_4cfef_0 : decode cJ1_indexOfChar_4cfef 0 = .ok (.iload_n 1, 1) := by decide +kernel
theorem dJ1_indexOfChar_4cfef_1 : decode cJ1_indexOfChar_4cfef 1 = .ok (.i2b, 1) := by decide +kernel
theorem dJ1_indexOfChar_4cfef_2 : decode cJ1_indexOfChar_4cfef 2 = .ok (.istore 4, 2) := by decide +kernel
theorem dJ1_indexOfChar_4cfef_4 : decode cJ1_indexOfChar_4cfef 4 = .ok (.iload_n 2, 1) := by decide +kernel
theorem dJ1_indexOfChar_4cfef_5 : decode cJ1_indexOfChar_4cfef 5 = .ok (.istore 5, 2) := by decide +kernel
theorem dJ1_indexOfChar_4cfef_7 : decode cJ1_indexOfChar_4cfef 7 = .ok (.iload 5, 2) := by decide +kernel
theorem dJ1_indexOfChar_4cfef_9 : decode cJ1_indexOfChar_4cfef 9 = .ok (.iload_n 3, 1) := by decide +kernel
theorem dJ1_indexOfChar_4cfef_10 : decode cJ1_indexOfChar_4cfef 10 = .ok (.if_icmp .ge 21, 3) := by decide +kernel
theorem dJ1_indexOfChar_4cfef_13 : decode cJ1_indexOfChar_4cfef 13 = .ok (.aload_n 0, 1) := by decide +kernel
theorem dJ1_indexOfChar_4cfef_14 : decode cJ1_indexOfChar_4cfef 14 = .ok (.iload 5, 2) := by decide +kernel
theorem dJ1_indexOfChar_4cfef_16 : decode cJ1_indexOfChar_4cfef 16 = .ok (.baload, 1) := by decide +kernel
theorem dJ1_indexOfChar_4cfef_17 : decode cJ1_indexOfChar_4cfef 17 = .ok (.iload 4, 2) := by decide +kernel
theorem dJ1_indexOfChar_4cfef_19 : decode cJ1_indexOfChar_4cfef 19 = .ok (.if_icmp .ne 6, 3) := by decide +kernel
theorem dJ1_indexOfChar_4cfef_22 : decode cJ1_indexOfChar_4cfef 22 = .ok (.iload 5, 2) := by decide +kernel
theorem dJ1_indexOfChar_4cfef_24 : decode cJ1_indexOfChar_4cfef 24 = .ok (.ireturn, 1) := by decide +kernel
theorem dJ1_indexOfChar_4cfef_25 : decode cJ1_indexOfChar_4cfef 25 = .ok (.iinc 5 1, 3) := by decide +kernel
theorem dJ1_indexOfChar_4cfef_28 : decode cJ1_indexOfChar_4cfef 28 = .ok (.goto (-21), 3) := by decide +kernel
theorem dJ1_indexOfChar_4cfef_31 : decode cJ1_indexOfChar_4cfef 31 = .ok (.iconst (-1), 1) := by decide +kernel
theorem dJ1_indexOfChar_4cfef_32 : decode cJ1_indexOfChar_4cfef 32 = .ok (.ireturn, 1) := by decide +kernel
abbrev MJ1_indexOfChar_4cfef : JM := (cJ1_indexOfChar_4cfef, 6, RJ1, (some .int), yJ1_indexOfChar_4cfef)
theorem jn_J1_indexOfChar_4cfef : jnm MJ1_indexOfChar_4cfef 4 := by decide +kernel
theorem jp_J1_indexOfChar_4cfef : plainName MJ1_indexOfChar_4cfef.2.2.2.2.cls = true := by decide +kernel
theorem jw_846 : Cond.fieldLink RJ0 38 "java/lang/String" "COMPACT_STRINGS" "Z" ∈ jGL := jmem 846 (by decide +kernel) rfl
theorem jw_918 : Cond.fieldLink RJ0 15 "java/lang/String" "coder" "B" ∈ jGL := jmem 918 (by decide +kernel) rfl
theorem jw_917 : Cond.fieldLink RJ0 9 "java/lang/String" "value" "[B" ∈ jGL := jmem 917 (by decide +kernel) rfl
theorem jw_842 : Cond.methodLink RJ0 335 yJ0_coder_7d493 ∈ jGL := jmem 842 (by decide +kernel) rfl
theorem jw_843 : Cond.instanceMethod yJ0_coder_7d493 ∈ jGL := jmem 843 (by decide +kernel) rfl
theorem jw_844 : Cond.selects RJ0 yJ0_coder_7d493 yJ0_coder_7d493 ∈ jGL := jmem 844 (by decide +kernel) rfl
theorem jw_59 : Cond.initialized RJ0 ∈ jGL := jmem 59 (by decide +kernel) rfl
theorem jw_845 : Cond.code yJ0_coder_7d493 cJ0_coder_7d493 1 (some .byte) ∈ jGL := jmem 845 (by decide +kernel) rfl
theorem jw_824 : Cond.fieldLink RJ0 1053 "jdk/internal/util/Preconditions" "SIOOBE_FORMATTER" "Ljava/util/function/BiFunction;" ∈ jGL := jmem 824 (by decide +kernel) rfl
theorem jw_1047 : Cond.methodLink RJ0 1059 yJ3_checkIndex_8e157 ∈ jGL := jmem 1047 (by decide +kernel) rfl
theorem jw_1048 : Cond.static yJ3_checkIndex_8e157 ∈ jGL := jmem 1048 (by decide +kernel) rfl
theorem jw_65 : Cond.initialized RJ3 ∈ jGL := jmem 65 (by decide +kernel) rfl
theorem jw_1049 : Cond.code yJ3_checkIndex_8e157 cJ3_checkIndex_8e157 3 (some .int) ∈ jGL := jmem 1049 (by decide +kernel) rfl
theorem jw_1044 : Cond.methodLink RJ1 9 yJ0_checkIndex_df160 ∈ jGL := jmem 1044 (by decide +kernel) rfl
theorem jw_1045 : Cond.static yJ0_checkIndex_df160 ∈ jGL := jmem 1045 (by decide +kernel) rfl
theorem jw_1046 : Cond.code yJ0_checkIndex_df160 cJ0_checkIndex_df160 2 none ∈ jGL := jmem 1046 (by decide +kernel) rfl
theorem jw_894 : Cond.methodLink RJ0 492 yJ0_isLatin1_aae02 ∈ jGL := jmem 894 (by decide +kernel) rfl
theorem jw_895 : Cond.instanceMethod yJ0_isLatin1_aae02 ∈ jGL := jmem 895 (by decide +kernel) rfl
theorem jw_896 : Cond.selects RJ0 yJ0_isLatin1_aae02 yJ0_isLatin1_aae02 ∈ jGL := jmem 896 (by decide +kernel) rfl
theorem jw_897 : Cond.code yJ0_isLatin1_aae02 cJ0_isLatin1_aae02 1 (some .boolean) ∈ jGL := jmem 897 (by decide +kernel) rfl
theorem jw_1041 : Cond.methodLink RJ0 495 yJ1_charAt_3b067 ∈ jGL := jmem 1041 (by decide +kernel) rfl
theorem jw_1042 : Cond.static yJ1_charAt_3b067 ∈ jGL := jmem 1042 (by decide +kernel) rfl
theorem jw_66 : Cond.initialized RJ1 ∈ jGL := jmem 66 (by decide +kernel) rfl
theorem jw_1043 : Cond.code yJ1_charAt_3b067 cJ1_charAt_3b067 2 (some .char) ∈ jGL := jmem 1043 (by decide +kernel) rfl
/-! STRINGS: the constants of the two classes, and the JDK members that read them -/
theorem jadS_k {C : JC} {M : JM} {d cl sl : Nat} (hm : jok C M d cl sl) {i : Nat} (hi : i < 23) : jcv (jad C) (jR (100 + i) false) = .ref ((jS C).1 i) := congrArg Value.ref (hm.adS.1 i hi).1
theorem jadS_v {C : JC} {M : JM} {d cl sl : Nat} (hm : jok C M d cl sl) {i : Nat} (hi : i < 23) : jcv (jad C) (jR (200 + i) false) = .ref ((jS C).2.1 i) := congrArg Value.ref (hm.adS.1 i hi).2
theorem jr_ldcS {C : JC} {M : JM} {d cl sl : Nat} {Q : State → Prop} {pc : Nat} {ls st : List JV} {w : JW} (hm : jok C M d cl sl) (i : Nat) {index : Nat} (hi : i < 23) (ho : jn_o.getD i "" = M.2.2.1) (hx : jn_i.getD i 0 = index) (hd : decode M.1 pc = .ok (.ldc index, 2)) (kk : jW C cl sl Q (pc + 2) ls (jR (100 + i) false :: st) w) : jW C cl sl Q pc ls st w := by
  intro H locs a hr hl
  have h := hm.SF.2.2.1 i hi
  rw [ho, hx] at h
  refine va_ldcS hm.exec hm.code hm.own h hd ?_
  have := kk H locs a hr hl
  rw [List.map_cons, jadS_k hm hi] at this
  exact this
theorem jr_sval {C : JC} {M : JM} {d cl sl : Nat} {Q : State → Prop} {pc : Nat} {ls st : List JV} {w : JW} (hm : jok C M d cl sl) {i index : Nat} (hi : i < 23) (hk : Cond.fieldLink M.2.2.1 index "java/lang/String" "value" "[B" ∈ jGL) (hd : decode M.1 pc = .ok (.getfield index, 3)) (kk : jW C cl sl Q (pc + 3) ls (jR (200 + i) false :: st) w) : jW C cl sl Q pc ls (jR (100 + i) false :: st) w := by
  intro H locs a hr hl
  rw [List.map_cons, jadS_k hm hi]
  refine vk_getf hm.exec hm.code (hm.SF.2.1.1 i hi).2.2.1 hr.2.2 hm.own (hm.hts _ hk) (fun _ h => h) hd ?_
  have := kk H locs a hr hl
  rw [List.map_cons, jadS_v hm hi] at this
  exact this
theorem jr_scod {C : JC} {M : JM} {d cl sl : Nat} {Q : State → Prop} {pc : Nat} {ls st : List JV} {w : JW} (hm : jok C M d cl sl) {i index : Nat} (hi : i < 23) (hk : Cond.fieldLink M.2.2.1 index "java/lang/String" "coder" "B" ∈ jGL) (hd : decode M.1 pc = .ok (.getfield index, 3)) (kk : jW C cl sl Q (pc + 3) ls (jI 0 :: st) w) : jW C cl sl Q pc ls (jR (100 + i) false :: st) w := by
  intro H locs a hr hl
  rw [List.map_cons, jadS_k hm hi]
  exact vk_getf hm.exec hm.code (hm.SF.2.1.1 i hi).2.1 hr.2.2 hm.own (hm.hts _ hk) (fun _ h => h) hd (kk H locs a hr hl)
theorem jr_cs {C : JC} {M : JM} {d cl sl : Nat} {Q : State → Prop} {pc : Nat} {ls st : List JV} {w : JW} (hm : jok C M d cl sl) {index : Nat} (hk : Cond.fieldLink M.2.2.1 index "java/lang/String" "COMPACT_STRINGS" "Z" ∈ jGL) (hd : decode M.1 pc = .ok (.getstatic index, 3)) (kk : jW C cl sl Q (pc + 3) ls (jI 1 :: st) w) : jW C cl sl Q pc ls st w := fun H locs a hr hl =>
  va_gets hm.exec hm.code hm.SF.2.2.2.1 hr.2.2 hm.own (hm.hts _ hk) (fun _ h => h) hd (kk H locs a hr hl)
/-- what SIOOBE_FORMATTER holds -/
theorem jr_fmt {C : JC} {M : JM} {d cl sl : Nat} {Q : State → Prop} {pc : Nat} {ls st : List JV} {w : JW} (hm : jok C M d cl sl) {index : Nat} (hk : Cond.fieldLink M.2.2.1 index "jdk/internal/util/Preconditions" "SIOOBE_FORMATTER" "Ljava/util/function/BiFunction;" ∈ jGL) (hd : decode M.1 pc = .ok (.getstatic index, 3)) (kk : ∀ v : JV, (v = jU ∨ v = jR 98 false) → jW C cl sl Q (pc + 3) ls (v :: st) w) : jW C cl sl Q pc ls st w := by
  intro H locs a hr hl
  refine va_gets hm.exec hm.code hm.SF.2.2.2.2.1 hr.2.2 hm.own (hm.hts _ hk) (fun _ h => h) hd ?_
  rcases hm.adS.2.2.1 with h | h
  · rw [h]
    exact kk jU (Or.inl rfl) H locs a hr hl
  · rw [h]
    exact kk (jR 98 false) (Or.inr rfl) H locs a hr hl
theorem jr_slen {C : JC} {M : JM} {d cl sl : Nat} {Q : State → Prop} {pc : Nat} {ls st : List JV} {w : JW} (hm : jok C M d cl sl) {i : Nat} (hi : i < 23) (hd : decode M.1 pc = .ok (.arraylength, 1)) (kk : jW C cl sl Q (pc + 1) ls (jI (nI (jn_len.getD i 0)) :: st) w) : jW C cl sl Q pc ls (jR (200 + i) false :: st) w := by
  intro H locs a hr hl
  rw [List.map_cons, jadS_v hm hi]
  exact va_tlen hm.exec hm.code (hm.SF.2.1.1 i hi).2.2.2 hr.2.2 rfl hd (kk H locs a hr hl)
theorem jr_sbyte {C : JC} {M : JM} {d cl sl : Nat} {Q : State → Prop} {pc : Nat} {ls st : List JV} {w : JW} (hm : jok C M d cl sl) {i : Nat} {x : Int32} (hi : i < 23) (hin : vp_in x (jn_len.getD i 0)) (hd : decode M.1 pc = .ok (.baload, 1)) (kk : jW C cl sl Q (pc + 1) ls (jI ((jn_byt.getD i []).getD x.toNatClampNeg 0) :: st) w) : jW C cl sl Q pc ls (jI x :: jR (200 + i) false :: st) w := by
  intro H locs a hr hl
  rw [List.map_cons, List.map_cons, jadS_v hm hi]
  exact va_tb hm.exec hm.code (hm.SF.2.1.1 i hi).2.2.2 hr.2.2 hin rfl hd (kk H locs a hr hl)
theorem jr_callK {C : JC} {M : JM} {d cl sl mc ms : Nat} {Q : State → Prop} {pc : Nat} {ls st st0 : List JV} {w : JW} (hm : jok C M d (cl + mc) (sl + ms)) {Mc : JM} {d2 n index i : Nat} {as : List JV} {P : JV → JW → Prop} (hi : i < 23) (hs : jSp Mc d2 mc ms (jR (100 + i) false :: as) w P) (hd2 : d2 + 1 ≤ d)
    (hw1 : Cond.methodLink M.2.2.1 index Mc.2.2.2.2 ∈ jGL) (hw2 : Cond.instanceMethod Mc.2.2.2.2 ∈ jGL) (hw3 : Cond.selects Mc.2.2.1 Mc.2.2.2.2 Mc.2.2.2.2 ∈ jGL) (hw4 : Cond.initialized Mc.2.2.1 ∈ jGL) (hw5 : Cond.code Mc.2.2.2.2 Mc.1 Mc.2.1 Mc.2.2.2.1 ∈ jGL) (hy : jnm Mc n)
    (hn : as.length = n) (hcl : Mc.2.2.1 = "java/lang/String") (hst : st0 = as.reverse ++ jR (100 + i) false :: st) (hcat : jcats st ≤ 8) (hln : ls.length = M.2.1) (hd : decode M.1 pc = .ok (.invokevirtual index, 3))
    (kk : ∀ (v : JV) (w2 : JW), P v w2 → jW C (cl + mc) (sl + ms) Q (pc + 3) ls (jpush v st) w2) : jW C cl sl Q pc ls st0 w := by
  subst hst
  have h40 := hm.2.2.2.2.2.2.2.2.2.2.1
  have hfr := hm.2.2.2.2.2.2.2.2.2.1
  have h21 := hy.2.2.2.2
  have hm0 : jok C M d cl sl := ⟨hm.1, hm.2.1, hm.2.2.1, hm.2.2.2.1, hm.2.2.2.2.1, hm.2.2.2.2.2.1, hm.K, ⟨hm.SF, hm.adS⟩, hm.new, hfr, h40, Nat.le_trans (Nat.le_add_right _ _) hm.2.2.2.2.2.2.2.2.2.2.2.1, Nat.le_trans (Nat.le_add_right _ _) hm.2.2.2.2.2.2.2.2.2.2.2.2⟩
  intro H locs a hr hl
  have e : (as.reverse ++ jR (100 + i) false :: st).map (jcv (jad C)) = (as.map (jcv (jad C))).reverse ++ Value.ref (jad C (100 + i) false) :: st.map (jcv (jad C)) := by simp [List.map_reverse, jcv, jR]
  rw [e]
  refine jr_behind hm0 (P := P) (st0 := (as.map (jcv (jad C))).reverse ++ Value.ref (jad C (100 + i) false) :: st.map (jcv (jad C))) (Qa := fun _ _ _ => True) (fun H locs a hr hl => ?_) kk H locs a hr hl
  have hM := hs (jl C) (jD C) (jad C) (jcs C) (jS C) H.size
  have hrecv : ∃ cell : Cell, H[jad C (100 + i) false]? = some cell ∧ cell.vm.isStatics = false ∧ (js C).vm.findClass Mc.2.2.1 = some cell.cls := by
    rw [(hm.adS.1 i hi).1, hcl]
    exact vk_recv hm.SF.2.1 hi hr.2.2
  exact va_runV (C := Mc.2.2.1) (own := M.2.2.1) (n := n) (nL := M.2.1) (Ts := jGL) (As := as.map (jcv (jad C))) (rest := st.map (jcv (jad C))) ⟨hm.exec, hm.code, hm.2.2.1, hm.own, hm.hts⟩ hM
    ⟨⟨rfl, rfl, Nat.le_trans hd2 hfr, by show 8 + (Mc.2.1 + 11) + 40 * d2 ≤ _; omega, jcode_pay hm hw5, List.mem_cons_self, hm.hts _ hw5, by rw [hy.1]; exact hm.hts _ hw4, ⟨hy.2.1, hy.2.2.1⟩, jnm_len hy, hm.hts _ hw1⟩, hm.hts _ hw2, hm.hts _ hw3⟩
    ⟨jB_blind, hrecv, fun U hU hW => ⟨by simp [jcv, jR], jB_of hm hr hU hW⟩⟩ rfl (by rw [List.length_map]; exact hn) (by rw [← hln]; exact hl.1) rfl (lv_room (Nat.le_trans (jcats_le st) hcat)) hd ⟨hm.2.2.2.2.2.2.2.2.2.2.2.1, hm.2.2.2.2.2.2.2.2.2.2.2.2⟩
theorem jr_nreturn {C : JC} {M : JM} {d cl sl : Nat} {pc : Nat} {ls : List JV} {w : JW} (hm : jok C M d cl sl) {P : JV → JW → Prop} {x : Int32} {ty : FieldType} (hty : ty = .byte ∨ ty = .char) (hret : M.2.2.2.1 = some ty) (hz : narrow ty (.int x) = .int x) (hd : decode M.1 pc = .ok (.ireturn, 1)) (hp : P (jI x) w) : jW C cl sl (jQQ C cl sl P) pc ls [jI x] w := by
  rcases hty with rfl | rfl
  · exact fun H locs a hr hl => W.zret (ty := .byte) hm.exec hm.code (hm.2.2.2.2.1.trans hret) hz (fun t ht _ => ⟨⟨jI x, w, rfl, hp, by rw [ht]; exact hr.1⟩, hr.2.2.F ht⟩) hr.2.2.2.2 hd hm.2.2.2.2.2.1
  · exact fun H locs a hr hl => W.zret (ty := .char) hm.exec hm.code (hm.2.2.2.2.1.trans hret) hz (fun t ht _ => ⟨⟨jI x, w, rfl, hp, by rw [ht]; exact hr.1⟩, hr.2.2.F ht⟩) hr.2.2.2.2 hd hm.2.2.2.2.2.1
theorem c_coder (w : JW) {i : Nat} (hi : i < 23) : jF MJ0_coder_7d493 0 [jR (100 + i) false] w (jI 0) w := by
  refine jF_of jp_J0_coder_7d493 rfl (Nat.le_of_ble_eq_true rfl) (fun C hm => ?_)
  refine jr_cs hm jw_846 dJ0_coder_7d493_0 ?_
  refine jr_if_eq hm (tgt := 13) dJ0_coder_7d493_3 (by decide) (fun h => absurd h (by decide)) (fun _ => ?_)
  refine jr_aload_n hm (i := 0) rfl rfl dJ0_coder_7d493_6 ?_
  refine jr_scod hm hi jw_918 dJ0_coder_7d493_7 ?_
  refine jr_goto hm (tgt := 14) dJ0_coder_7d493_10 (by decide) ?_
  exact jr_nreturn hm (Or.inl rfl) rfl rfl dJ0_coder_7d493_14 ⟨rfl, rfl⟩
theorem c_isLatin1 (w : JW) {i : Nat} (hi : i < 23) : jF MJ0_isLatin1_aae02 0 [jR (100 + i) false] w (jI 1) w := by
  refine jF_of jp_J0_isLatin1_aae02 rfl (Nat.le_of_ble_eq_true rfl) (fun C hm => ?_)
  refine jr_cs hm jw_846 dJ0_isLatin1_aae02_0 ?_
  refine jr_if_eq hm (tgt := 17) dJ0_isLatin1_aae02_3 (by decide) (fun h => absurd h (by decide)) (fun _ => ?_)
  refine jr_aload_n hm (i := 0) rfl rfl dJ0_isLatin1_aae02_6 ?_
  refine jr_scod hm hi jw_918 dJ0_isLatin1_aae02_7 ?_
  refine jr_if_ne hm (tgt := 17) dJ0_isLatin1_aae02_10 (by decide) (fun h => absurd rfl h) (fun _ => ?_)
  refine jr_iconst hm (v := 1) (by decide) dJ0_isLatin1_aae02_13 ?_
  refine jr_goto hm (tgt := 18) dJ0_isLatin1_aae02_14 (by decide) ?_
  exact jr_zreturn hm rfl rfl dJ0_isLatin1_aae02_18 ⟨rfl, rfl⟩
theorem jn_lens : ∀ i, i < 53 → (jn_len.getD i 0 = (jn_byt.getD i []).length ∧ (jn_byt.getD i []).length ≤ 200 ∧ ∀ b ∈ jn_byt.getD i [], 0 ≤ b ∧ b ≤ 127) := by decide +kernel
theorem c_slength (w : JW) {i : Nat} (hi : i < 23) : jF MJ0_length_8abf5 1 [jR (100 + i) false] w (jI (nI (jn_len.getD i 0))) w := by
  refine jF_of jp_J0_length_8abf5 rfl (Nat.le_of_ble_eq_true rfl) (fun C hm => ?_)
  refine jr_aload_n hm (i := 0) rfl rfl dJ0_length_8abf5_0 ?_
  refine jr_sval hm hi jw_917 dJ0_length_8abf5_1 ?_
  refine jr_slen hm hi dJ0_length_8abf5_4 ?_
  refine jr_aload_n hm (i := 0) rfl rfl dJ0_length_8abf5_5 ?_
  refine jr_callK (mc := 0) (ms := 0) (as := []) hm hi (c_coder w hi) (by omega) jw_842 jw_843 jw_844 jw_59 jw_845 jn_J0_coder_7d493 rfl rfl rfl (Nat.le_of_ble_eq_true rfl) rfl dJ0_length_8abf5_6 (jkF ?_)
  refine jr_ishr hm dJ0_length_8abf5_9 ?_
  refine jr_ireturn hm rfl dJ0_length_8abf5_10 ⟨?_, rfl⟩
  rw [show (0 : Int32) &&& 31 = 0 by decide]
  simp
theorem c_check3U (w : JW) {x n : Nat} (hx : x < n) (hn : n < 2 ^ 31) : jF MJ3_checkIndex_8e157 0 [jI (nI x), jI (nI n), jU] w (jI (nI x)) w := by
  refine jF_of jp_J3_checkIndex_8e157 rfl (Nat.le_of_ble_eq_true rfl) (fun C hm => ?_)
  refine jr_iload_n hm (i := 0) rfl rfl dJ3_checkIndex_8e157_0 ?_
  refine jr_if_lt hm (tgt := 9) dJ3_checkIndex_8e157_1 (by decide) (fun h => absurd h (nI_pos (by omega))) (fun _ => ?_)
  refine jr_iload_n hm (i := 0) rfl rfl dJ3_checkIndex_8e157_4 ?_
  refine jr_iload_n hm (i := 1) rfl rfl dJ3_checkIndex_8e157_5 ?_
  refine jr_icmp_lt hm (tgt := 16) dJ3_checkIndex_8e157_6 (by decide) (fun _ => ?_) (fun h => absurd (nI_lt hx hn) h)
  refine jr_iload_n hm (i := 0) rfl rfl dJ3_checkIndex_8e157_16 ?_
  exact jr_ireturn hm rfl dJ3_checkIndex_8e157_17 ⟨rfl, rfl⟩
theorem c_check3R (w : JW) {x n : Nat} (hx : x < n) (hn : n < 2 ^ 31) : jF MJ3_checkIndex_8e157 0 [jI (nI x), jI (nI n), jR 98 false] w (jI (nI x)) w := by
  refine jF_of jp_J3_checkIndex_8e157 rfl (Nat.le_of_ble_eq_true rfl) (fun C hm => ?_)
  refine jr_iload_n hm (i := 0) rfl rfl dJ3_checkIndex_8e157_0 ?_
  refine jr_if_lt hm (tgt := 9) dJ3_checkIndex_8e157_1 (by decide) (fun h => absurd h (nI_pos (by omega))) (fun _ => ?_)
  refine jr_iload_n hm (i := 0) rfl rfl dJ3_checkIndex_8e157_4 ?_
  refine jr_iload_n hm (i := 1) rfl rfl dJ3_checkIndex_8e157_5 ?_
  refine jr_icmp_lt hm (tgt := 16) dJ3_checkIndex_8e157_6 (by decide) (fun _ => ?_) (fun h => absurd (nI_lt hx hn) h)
  refine jr_iload_n hm (i := 0) rfl rfl dJ3_checkIndex_8e157_16 ?_
  exact jr_ireturn hm rfl dJ3_checkIndex_8e157_17 ⟨rfl, rfl⟩
theorem c_check2 (w : JW) {x n : Nat} (hx : x < n) (hn : n < 2 ^ 31) : jF MJ0_checkIndex_df160 1 [jI (nI x), jI (nI n)] w jU w := by
  refine jF_of jp_J0_checkIndex_df160 rfl (Nat.le_of_ble_eq_true rfl) (fun C hm => ?_)
  refine jr_iload_n hm (i := 0) rfl rfl dJ0_checkIndex_df160_0 ?_
  refine jr_iload_n hm (i := 1) rfl rfl dJ0_checkIndex_df160_1 ?_
  refine jr_fmt hm jw_824 dJ0_checkIndex_df160_2 (fun v hv => ?_)
  rcases hv with rfl | rfl
  · refine jr_callS (mc := 0) (ms := 0) (as := [jI (nI x), jI (nI n), jU]) (st := []) hm (c_check3U w hx hn) (by omega) jw_1047 jw_1048 jw_65 jw_1049 jn_J3_checkIndex_8e157 rfl rfl (Nat.le_of_ble_eq_true rfl) rfl dJ0_checkIndex_df160_5 (jkF ?_)
    refine jr_popI hm dJ0_checkIndex_df160_8 ?_
    exact jr_return hm rfl dJ0_checkIndex_df160_9 ⟨rfl, rfl⟩
  · refine jr_callS (mc := 0) (ms := 0) (as := [jI (nI x), jI (nI n), jR 98 false]) (st := []) hm (c_check3R w hx hn) (by omega) jw_1047 jw_1048 jw_65 jw_1049 jn_J3_checkIndex_8e157 rfl rfl (Nat.le_of_ble_eq_true rfl) rfl dJ0_checkIndex_df160_5 (jkF ?_)
    refine jr_popI hm dJ0_checkIndex_df160_8 ?_
    exact jr_return hm rfl dJ0_checkIndex_df160_9 ⟨rfl, rfl⟩
/-- the byte at place k of text i -/
def jtx (i k : Nat) : Int32 := (jn_byt.getD i []).getD k 0
theorem jtx_in {i k : Nat} (hi : i < 53) (hk : k < jn_len.getD i 0) : 0 ≤ jtx i k ∧ jtx i k ≤ 127 := by
  have h := jn_lens i (by omega)
  rw [h.1] at hk
  refine h.2.2 _ ?_
  unfold jtx
  generalize jn_byt.getD i [] = l at hk ⊢
  rw [List.getD_eq_getElem?_getD, List.getElem?_eq_getElem hk]
  exact List.getElem_mem hk
theorem jchar : ∀ n : Nat, n < 128 → (((nI n &&& 255).toUInt32 % 65536).toInt32 = nI n ∧ narrow .char (.int (nI n)) = .int (nI n) ∧ (nI n).toInt8.toInt32 = nI n) := by decide +kernel
theorem jtx_c {i k : Nat} (hi : i < 53) (hk : k < jn_len.getD i 0) : ∃ n : Nat, n < 128 ∧ jtx i k = nI n := by
  have h := jtx_in hi hk
  obtain ⟨n, -, hn, e⟩ := i32_nat (a := 0) (b := 127) h.1 h.2 (by omega) (by omega)
  exact ⟨n, by omega, e⟩
theorem c_lcharAt (w : JW) {i k : Nat} (hi : i < 23) (hk : k < jn_len.getD i 0) : jF MJ1_charAt_3b067 2 [jR (200 + i) false, jI (nI k)] w (jI (jtx i k)) w := by
  have hl := jn_lens i (by omega)
  obtain ⟨n, hn, e⟩ := jtx_c (by omega) hk
  have hc := jchar n hn
  refine jF_of jp_J1_charAt_3b067 rfl (Nat.le_of_ble_eq_true rfl) (fun C hm => ?_)
  refine jr_iload_n hm (i := 1) rfl rfl dJ1_charAt_3b067_0 ?_
  refine jr_aload_n hm (i := 0) rfl rfl dJ1_charAt_3b067_1 ?_
  refine jr_slen hm hi dJ1_charAt_3b067_2 ?_
  refine jr_callS (mc := 0) (ms := 0) (as := [jI (nI k), jI (nI (jn_len.getD i 0))]) (st := []) hm (c_check2 w hk (by omega)) (by omega) jw_1044 jw_1045 jw_59 jw_1046 jn_J0_checkIndex_df160 rfl rfl (Nat.le_of_ble_eq_true rfl) rfl dJ1_charAt_3b067_3 (jkF ?_)
  refine jr_aload_n hm (i := 0) rfl rfl dJ1_charAt_3b067_6 ?_
  refine jr_iload_n hm (i := 1) rfl rfl dJ1_charAt_3b067_7 ?_
  refine jr_sbyte hm hi (vp_in_nI hk (by omega)) dJ1_charAt_3b067_8 ?_
  refine jr_sipush hm (v := 255) (by decide) dJ1_charAt_3b067_9 ?_
  refine jr_iand hm dJ1_charAt_3b067_12 ?_
  refine jr_i2c hm dJ1_charAt_3b067_13 ?_
  rw [nI_clamp (by omega), show (jn_byt.getD i []).getD k 0 = jtx i k from rfl, e, hc.1]
  exact jr_nreturn hm (Or.inr rfl) rfl hc.2.1 dJ1_charAt_3b067_14 ⟨rfl, rfl⟩
theorem c_charAt (w : JW) {i k : Nat} (hi : i < 23) (hk : k < jn_len.getD i 0) : jF MJ0_charAt_5068e 3 [jR (100 + i) false, jI (nI k)] w (jI (jtx i k)) w := by
  obtain ⟨n, hn, e⟩ := jtx_c (by omega) hk
  have hc := jchar n hn
  refine jF_of jp_J0_charAt_5068e rfl (Nat.le_of_ble_eq_true rfl) (fun C hm => ?_)
  refine jr_aload_n hm (i := 0) rfl rfl dJ0_charAt_5068e_0 ?_
  refine jr_callK (mc := 0) (ms := 0) (as := []) (st := []) hm hi (c_isLatin1 w hi) (by omega) jw_894 jw_895 jw_896 jw_59 jw_897 jn_J0_isLatin1_aae02 rfl rfl rfl (Nat.le_of_ble_eq_true rfl) rfl dJ0_charAt_5068e_1 (jkF ?_)
  refine jr_if_eq hm (tgt := 16) dJ0_charAt_5068e_4 (by decide) (fun h => absurd h (by decide)) (fun _ => ?_)
  refine jr_aload_n hm (i := 0) rfl rfl dJ0_charAt_5068e_7 ?_
  refine jr_sval hm hi jw_917 dJ0_charAt_5068e_8 ?_
  refine jr_iload_n hm (i := 1) rfl rfl dJ0_charAt_5068e_11 ?_
  refine jr_callS (mc := 0) (ms := 0) (as := [jR (200 + i) false, jI (nI k)]) (st := []) hm (c_lcharAt w hi hk) (by omega) jw_1041 jw_1042 jw_66 jw_1043 jn_J1_charAt_3b067 rfl rfl (Nat.le_of_ble_eq_true rfl) rfl dJ0_charAt_5068e_12 (jkF ?_)
  rw [e]
  exact jr_nreturn hm (Or.inr rfl) rfl hc.2.1 dJ0_charAt_5068e_15 ⟨rfl, rfl⟩
/-- the first place from k on, below n, where text i has the byte x (n more places to look at) -/
def jix (i : Nat) (x : Int32) : Nat → Nat → Int32
  | 0, _ => -1
  | n + 1, k => if jtx i k = x then nI k else jix i x n (k + 1)
theorem nI_inc (k : Nat) : nI k + Int32.ofInt 1 = nI (k + 1) := (nI_succ k).symm
theorem jsgnB : ∀ z : Nat, z < 256 → z < 128 ∨ (nI z).toInt8.toInt32 < 0 := by decide +kernel
theorem jsame (y : Nat) (hy : y < 128) (z : Nat) (hz : z < 256) : (nI y = (nI z).toInt8.toInt32) ↔ nI y = nI z := by
  by_cases h : z < 128
  · rw [(jchar z h).2.2]
  · have h2 := (jsgnB z hz).resolve_left h
    refine ⟨fun q => ?_, fun q => ?_⟩
    · rw [← q] at h2
      exact absurd h2 (nI_pos (by omega))
    · have h3 := congrArg Int32.toNatClampNeg q
      rw [nI_clamp (by omega), nI_clamp (by omega)] at h3
      omega
theorem l_ixchar {C : JC} {w : JW} (hm : jok C MJ1_indexOfChar_4cfef 0 0 0) {i z : Nat} (hi : i < 23) (hz : z < 256) {v1 v2 : JV} : ∀ n k : Nat, k + n = jn_len.getD i 0 → jW C 0 0 (jQQ C 0 0 (fun v w' => v = jI (jix i (nI z) n k) ∧ w' = w)) 7 [jR (200 + i) false, v1, v2, jI (nI (jn_len.getD i 0)), jI (nI z).toInt8.toInt32, jI (nI k)] [] w := by
  have hl := jn_lens i (by omega)
  intro n
  induction n with
  | zero =>
    intro k hk
    refine jr_iload hm (i := 5) rfl dJ1_indexOfChar_4cfef_7 ?_
    refine jr_iload_n hm (i := 3) rfl rfl dJ1_indexOfChar_4cfef_9 ?_
    refine jr_icmp_ge hm (tgt := 31) dJ1_indexOfChar_4cfef_10 (by decide) (fun _ => ?_) (fun h => absurd (nI_le (by omega) (by omega)) h)
    refine jr_iconst hm (v := (-1)) (by decide) dJ1_indexOfChar_4cfef_31 ?_
    exact jr_ireturn hm rfl dJ1_indexOfChar_4cfef_32 ⟨rfl, rfl⟩
  | succ n ih =>
    intro k hk
    obtain ⟨y, hy, e⟩ := jtx_c (i := i) (by omega) (k := k) (by omega)
    refine jr_iload hm (i := 5) rfl dJ1_indexOfChar_4cfef_7 ?_
    refine jr_iload_n hm (i := 3) rfl rfl dJ1_indexOfChar_4cfef_9 ?_
    refine jr_icmp_ge hm (tgt := 31) dJ1_indexOfChar_4cfef_10 (by decide) (fun h => absurd h (nI_ge (by omega) (by omega))) (fun _ => ?_)
    refine jr_aload_n hm (i := 0) rfl rfl dJ1_indexOfChar_4cfef_13 ?_
    refine jr_iload hm (i := 5) rfl dJ1_indexOfChar_4cfef_14 ?_
    refine jr_sbyte hm hi (vp_in_nI (by omega) (by omega)) dJ1_indexOfChar_4cfef_16 ?_
    rw [nI_clamp (by omega), show (jn_byt.getD i []).getD k 0 = jtx i k from rfl, e]
    have hq : (nI y = (nI z).toInt8.toInt32) ↔ nI y = nI z := jsame y hy z hz
    refine jr_iload hm (i := 4) rfl dJ1_indexOfChar_4cfef_17 ?_
    refine jr_icmp_ne hm (tgt := 25) dJ1_indexOfChar_4cfef_19 (by decide) (fun h => ?_) (fun h => ?_)
    · refine jr_iinc hm (i := 5) rfl (nI_inc _) rfl dJ1_indexOfChar_4cfef_25 ?_
      refine jr_goto hm (tgt := 7) dJ1_indexOfChar_4cfef_28 (by decide) ?_
      rw [show jix i (nI z) (n + 1) k = if jtx i k = nI z then nI k else jix i (nI z) n (k + 1) from rfl, if_neg (fun q => h (hq.mpr (e ▸ q)))]
      exact ih (k + 1) (by omega)
    · refine jr_iload hm (i := 5) rfl dJ1_indexOfChar_4cfef_22 ?_
      rw [show jix i (nI z) (n + 1) k = if jtx i k = nI z then nI k else jix i (nI z) n (k + 1) from rfl, if_pos (e.trans (hq.mp h))]
      exact jr_ireturn hm rfl dJ1_indexOfChar_4cfef_24 ⟨rfl, rfl⟩

