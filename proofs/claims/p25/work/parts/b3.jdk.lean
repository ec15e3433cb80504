theorem dJ5_init_d00df_0 : decode cJ5_init_d00df 0 = .ok (.aload_n 0, 1) := by decide +kernel
theorem dJ5_init_d00df_1 : decode cJ5_init_d00df 1 = .ok (.invokespecial 3, 3) := by decide +kernel
theorem dJ5_init_d00df_4 : decode cJ5_init_d00df 4 = .ok (.getstatic 18, 3) := by decide +kernel
theorem dJ5_init_d00df_7 : decode cJ5_init_d00df 7 = .ok (.ifCond .eq 18, 3) := by decide +kernel
theorem dJ5_init_d00df_10 : decode cJ5_init_d00df 10 = .ok (.aload_n 0, 1) := by decide +kernel
theorem dJ5_init_d00df_11 : decode cJ5_init_d00df 11 = .ok (.iload_n 1, 1) := by decide +kernel
theorem dJ5_init_d00df_12 : decode cJ5_init_d00df 12 = .ok (.newarray .byte, 2) := by decide +kernel
theorem dJ5_init_d00df_14 : decode cJ5_init_d00df 14 = .ok (.putfield 15, 3) := by decide +kernel
theorem dJ5_init_d00df_17 : decode cJ5_init_d00df 17 = .ok (.aload_n 0, 1) := by decide +kernel
theorem dJ5_init_d00df_18 : decode cJ5_init_d00df 18 = .ok (.iconst 0, 1) := by decide +kernel
theorem dJ5_init_d00df_19 : decode cJ5_init_d00df 19 = .ok (.putfield 22, 3) := by decide +kernel
theorem dJ5_init_d00df_22 : decode cJ5_init_d00df 22 = .ok (.goto 16, 3) := by decide +kernel
theorem dJ5_init_d00df_25 : decode cJ5_init_d00df 25 = .ok (.aload_n 0, 1) := by decide +kernel
theorem dJ5_init_d00df_26 : decode cJ5_init_d00df 26 = .ok (.iload_n 1, 1) := by decide +kernel
theorem dJ5_init_d00df_27 : decode cJ5_init_d00df 27 = .ok (.invokestatic 26, 3) := by decide +kernel
theorem dJ5_init_d00df_30 : decode cJ5_init_d00df 30 = .ok (.putfield 15, 3) := by decide +kernel
theorem dJ5_init_d00df_33 : decode cJ5_init_d00df 33 = .ok (.aload_n 0, 1) := by decide +kernel
theorem dJ5_init_d00df_34 : decode cJ5_init_d00df 34 = .ok (.iconst 1, 1) := by decide +kernel
theorem dJ5_init_d00df_35 : decode cJ5_init_d00df 35 = .ok (.putfield 22, 3) := by decide +kernel
theorem dJ5_init_d00df_38 : decode cJ5_init_d00df 38 = .ok (.return_, 1) := by decide +kernel
abbrev MJ5_init_d00df : JM := (cJ5_init_d00df, 2, RJ5, none, yJ5_init_d00df)
theorem jn_J5_init_d00df : jnm MJ5_init_d00df 1 := by decide +kernel
theorem jp_J5_init_d00df : plainName MJ5_init_d00df.2.2.2.2.cls = true := by decide +kernel
theorem dJ4_init_da8c8_0 : decode cJ4_init_da8c8 0 = .ok (.aload_n 0, 1) := by decide +kernel
theorem dJ4_init_da8c8_1 : decode cJ4_init_da8c8 1 = .ok (.bipush 16, 2) := by decide +kernel
theorem dJ4_init_da8c8_3 : decode cJ4_init_da8c8 3 = .ok (.invokespecial 1, 3) := by decide +kernel
theorem dJ4_init_da8c8_6 : decode cJ4_init_da8c8 6 = .ok (.return_, 1) := by decide +kernel
abbrev MJ4_init_da8c8 : JM := (cJ4_init_da8c8, 1, RJ4, none, yJ4_init_da8c8)
theorem jn_J4_init_da8c8 : jnm MJ4_init_da8c8 0 := by decide +kernel
theorem jp_J4_init_da8c8 : plainName MJ4_init_da8c8.2.2.2.2.cls = true := by decide +kernel
theorem dJ5_getValue_6d5f1_0 : decode cJ5_getValue_6d5f1 0 = .ok (.aload_n 0, 1) := by decide +kernel
theorem dJ5_getValue_6d5f1_1 : decode cJ5_getValue_6d5f1 1 = .ok (.getfield 15, 3) := by decide +kernel
theorem dJ5_getValue_6d5f1_4 : decode cJ5_getValue_6d5f1 4 = .ok (.areturn, 1) := by decide +kernel
abbrev MJ5_getValue_6d5f1 : JM := (cJ5_getValue_6d5f1, 1, RJ5, (some (.array .byte)), yJ5_getValue_6d5f1)
theorem jn_J5_getValue_6d5f1 : jnm MJ5_getValue_6d5f1 0 := by decide +kernel
theorem jp_J5_getValue_6d5f1 : plainName MJ5_getValue_6d5f1.2.2.2.2.cls = true := by decide +kernel
theorem dJ5_length_8abf5_0 : decode cJ5_length_8abf5 0 = .ok (.aload_n 0, 1) := by decide +kernel
theorem dJ5_length_8abf5_1 : decode cJ5_length_8abf5 1 = .ok (.getfield 79, 3) := by decide +kernel
theorem dJ5_length_8abf5_4 : decode cJ5_length_8abf5 4 = .ok (.ireturn, 1) := by decide +kernel
abbrev MJ5_length_8abf5 : JM := (cJ5_length_8abf5, 1, RJ5, (some .int), yJ5_length_8abf5)
theorem jn_J5_length_8abf5 : jnm MJ5_length_8abf5 0 := by decide +kernel
theorem jp_J5_length_8abf5 : plainName MJ5_length_8abf5.2.2.2.2.cls = true := by decide +kernel
theorem dJ4_length_8abf5_0 : decode cJ4_length_8abf5 0 = .ok (.aload_n 0, 1) := by decide +kernel
theorem dJ4_length_8abf5_1 : decode cJ4_length_8abf5 1 = .ok (.invokespecial 343, 3) := by decide +kernel
theorem dJ4_length_8abf5_4 : decode cJ4_length_8abf5 4 = .ok (.ireturn, 1) := by decide +kernel
abbrev MJ4_length_8abf5 : JM := (cJ4_length_8abf5, 1, RJ4, (some .int), yJ4_length_8abf5)
theorem jn_J4_length_8abf5 : jnm MJ4_length_8abf5 0 := by decide +kernel
theorem jp_J4_length_8abf5 : plainName MJ4_length_8abf5.2.2.2.2.cls = true := by decide +kernel
theorem dJ5_isLatin1_aae02_0 : decode cJ5_isLatin1_aae02 0 = .ok (.getstatic 18, 3) := by decide +kernel
theorem dJ5_isLatin1_aae02_3 : decode cJ5_isLatin1_aae02 3 = .ok (.ifCond .eq 14, 3) := by decide +kernel
theorem dJ5_isLatin1_aae02_6 : decode cJ5_isLatin1_aae02 6 = .ok (.aload_n 0, 1) := by decide +kernel
theorem dJ5_isLatin1_aae02_7 : decode cJ5_isLatin1_aae02 7 = .ok (.getfield 22, 3) := by decide +kernel
theorem dJ5_isLatin1_aae02_10 : decode cJ5_isLatin1_aae02 10 = .ok (.ifCond .ne 7, 3) := by decide +kernel
theorem dJ5_isLatin1_aae02_13 : decode cJ5_isLatin1_aae02 13 = .ok (.iconst 1, 1) := by decide +kernel
theorem dJ5_isLatin1_aae02_14 : decode cJ5_isLatin1_aae02 14 = .ok (.goto 4, 3) := by decide +kernel
theorem dJ5_isLatin1_aae02_17 : decode cJ5_isLatin1_aae02 17 = .ok (.iconst 0, 1) := by decide +kernel
theorem dJ5_isLatin1_aae02_18 : decode cJ5_isLatin1_aae02 18 = .ok (.ireturn, 1) := by decide +kernel
abbrev MJ5_isLatin1_aae02 : JM := (cJ5_isLatin1_aae02, 1, RJ5, (some .boolean), yJ5_isLatin1_aae02)
theorem jn_J5_isLatin1_aae02 : jnm MJ5_isLatin1_aae02 0 := by decide +kernel
theorem jp_J5_isLatin1_aae02 : plainName MJ5_isLatin1_aae02.2.2.2.2.cls = true := by decide +kernel
theorem dJ8_newLength_cabcc_0 : decode cJ8_newLength_cabcc 0 = .ok (.iload_n 0, 1) := by decide +kernel
theorem dJ8_newLength_cabcc_1 : decode cJ8_newLength_cabcc 1 = .ok (.iload_n 1, 1) := by decide +kernel
theorem dJ8_newLength_cabcc_2 : decode cJ8_newLength_cabcc 2 = .ok (.iload_n 2, 1) := by decide +kernel
theorem dJ8_newLength_cabcc_3 : decode cJ8_newLength_cabcc 3 = .ok (.invokestatic 194, 3) := by decide +kernel
theorem dJ8_newLength_cabcc_6 : decode cJ8_newLength_cabcc 6 = .ok (.iadd, 1) := by decide +kernel
theorem dJ8_newLength_cabcc_7 : decode cJ8_newLength_cabcc 7 = .ok (.istore_n 3, 1) := by decide +kernel
theorem dJ8_newLength_cabcc_8 : decode cJ8_newLength_cabcc 8 = .ok (.iconst 0, 1) := by decide +kernel
theorem dJ8_newLength_cabcc_9 : decode cJ8_newLength_cabcc 9 = .ok (.iload_n 3, 1) := by decide +kernel
theorem dJ8_newLength_cabcc_10 : decode cJ8_newLength_cabcc 10 = .ok (.if_icmp .ge 11, 3) := by decide +kernel
theorem dJ8_newLength_cabcc_13 : decode cJ8_newLength_cabcc 13 = .ok (.iload_n 3, 1) := by decide +kernel
theorem dJ8_newLength_cabcc_14 : decode cJ8_newLength_cabcc 14 = .ok (.ldc 200, 2) := by decide +kernel
theorem dJ8_newLength_cabcc_16 : decode cJ8_newLength_cabcc 16 = .ok (.if_icmp .gt 5, 3) := by decide +kernel
theorem dJ8_newLength_cabcc_19 : decode cJ8_newLength_cabcc 19 = .ok (.iload_n 3, 1) := by decide +kernel
theorem dJ8_newLength_cabcc_20 : decode cJ8_newLength_cabcc 20 = .ok (.ireturn, 1) := by decide +kernel
theorem dJ8_newLength_cabcc_21 : decode cJ8_newLength_cabcc 21 = .ok (.iload_n 0, 1) := by decide +kernel
theorem dJ8_newLength_cabcc_22 : decode cJ8_newLength_cabcc 22 = .ok (.iload_n 1, 1) := by decide +kernel
theorem dJ8_newLength_cabcc_23 : decode cJ8_newLength_cabcc 23 = .ok (.invokestatic 201, 3) := by decide +kernel
theorem dJ8_newLength_cabcc_26 : decode cJ8_newLength_cabcc 26 = .ok (.ireturn, 1) := by decide +kernel
abbrev MJ8_newLength_cabcc : JM := (cJ8_newLength_cabcc, 4, RJ8, (some .int), yJ8_newLength_cabcc)
theorem jn_J8_newLength_cabcc : jnm MJ8_newLength_cabcc 3 := by decide +kernel
theorem jp_J8_newLength_cabcc : plainName MJ8_newLength_cabcc.2.2.2.2.cls = true := by decide +kernel
theorem dJ5_newCapacity_0f7a4_0 : decode cJ5_newCapacity_0f7a4 0 = .ok (.aload_n 0, 1) := by decide +kernel
theorem dJ5_newCapacity_0f7a4_1 : decode cJ5_newCapacity_0f7a4 1 = .ok (.getfield 15, 3) := by decide +kernel
theorem dJ5_newCapacity_0f7a4_4 : decode cJ5_newCapacity_0f7a4 4 = .ok (.arraylength, 1) := by decide +kernel
theorem dJ5_newCapacity_0f7a4_5 : decode cJ5_newCapacity_0f7a4 5 = .ok (.istore_n 2, 1) := by decide +kernel
theorem dJ5_newCapacity_0f7a4_6 : decode cJ5_newCapacity_0f7a4 6 = .ok (.iload_n 1, 1) := by decide +kernel
theorem dJ5_newCapacity_0f7a4_7 : decode cJ5_newCapacity_0f7a4 7 = .ok (.aload_n 0, 1) := by decide +kernel
theorem dJ5_newCapacity_0f7a4_8 : decode cJ5_newCapacity_0f7a4 8 = .ok (.getfield 22, 3) := by decide +kernel
theorem dJ5_newCapacity_0f7a4_11 : decode cJ5_newCapacity_0f7a4 11 = .ok (.ishl, 1) := by decide +kernel
theorem dJ5_newCapacity_0f7a4_12 : decode cJ5_newCapacity_0f7a4 12 = .ok (.istore_n 3, 1) := by decide +kernel
theorem dJ5_newCapacity_0f7a4_13 : decode cJ5_newCapacity_0f7a4 13 = .ok (.iload_n 3, 1) := by decide +kernel
theorem dJ5_newCapacity_0f7a4_14 : decode cJ5_newCapacity_0f7a4 14 = .ok (.iload_n 2, 1) := by decide +kernel
theorem dJ5_newCapacity_0f7a4_15 : decode cJ5_newCapacity_0f7a4 15 = .ok (.isub, 1) := by decide +kernel
theorem dJ5_newCapacity_0f7a4_16 : decode cJ5_newCapacity_0f7a4 16 = .ok (.istore 4, 2) := by decide +kernel
theorem dJ5_newCapacity_0f7a4_18 : decode cJ5_newCapacity_0f7a4 18 = .ok (.iload_n 2, 1) := by decide +kernel
theorem dJ5_newCapacity_0f7a4_19 : decode cJ5_newCapacity_0f7a4 19 = .ok (.iload 4, 2) := by decide +kernel
theorem dJ5_newCapacity_0f7a4_21 : decode cJ5_newCapacity_0f7a4 21 = .ok (.iload_n 2, 1) := by decide +kernel
theorem dJ5_newCapacity_0f7a4_22 : decode cJ5_newCapacity_0f7a4 22 = .ok (.iconst 2, 1) := by decide +kernel
theorem dJ5_newCapacity_0f7a4_23 : decode cJ5_newCapacity_0f7a4 23 = .ok (.aload_n 0, 1) := by decide +kernel
theorem dJ5_newCapacity_0f7a4_24 : decode cJ5_newCapacity_0f7a4 24 = .ok (.getfield 22, 3) := by decide +kernel
theorem dJ5_newCapacity_0f7a4_27 : decode cJ5_newCapacity_0f7a4 27 = .ok (.ishl, 1) := by decide +kernel
theorem dJ5_newCapacity_0f7a4_28 : decode cJ5_newCapacity_0f7a4 28 = .ok (.iadd, 1) := by decide +kernel
theorem dJ5_newCapacity_0f7a4_29 : decode cJ5_newCapacity_0f7a4 29 = .ok (.invokestatic 114, 3) := by decide +kernel
theorem dJ5_newCapacity_0f7a4_32 : decode cJ5_newCapacity_0f7a4 32 = .ok (.istore 5, 2) := by decide +kernel
theorem dJ5_newCapacity_0f7a4_34 : decode cJ5_newCapacity_0f7a4 34 = .ok (.iload 5, 2) := by decide +kernel
theorem dJ5_newCapacity_0f7a4_36 : decode cJ5_newCapacity_0f7a4 36 = .ok (.ldc 39, 2) := by decide +kernel
theorem dJ5_newCapacity_0f7a4_38 : decode cJ5_newCapacity_0f7a4 38 = .ok (.if_icmp .ne 13, 3) := by decide +kernel
theorem dJ5_newCapacity_0f7a4_41 : decode cJ5_newCapacity_0f7a4 41 = .ok (.new 120, 3) := by decide +kernel
theorem dJ5_newCapacity_0f7a4_44 : decode cJ5_newCapacity_0f7a4 44 = .ok (.dup, 1) := by decide +kernel
theorem dJ5_newCapacity_0f7a4_45 : decode cJ5_newCapacity_0f7a4 45 = .ok (.ldc 122, 2) := by decide +kernel
theorem dJ5_newCapacity_0f7a4_47 : decode cJ5_newCapacity_0f7a4 47 = .ok (.invokespecial 124, 3) := by decide +kernel
theorem dJ5_newCapacity_0f7a4_50 : decode cJ5_newCapacity_0f7a4 50 = .ok (.athrow, 1) := by decide +kernel
theorem dJ5_newCapacity_0f7a4_51 : decode cJ5_newCapacity_0f7a4 51 = .ok (.iload 5, 2) := by decide +kernel
theorem dJ5_newCapacity_0f7a4_53 : decode cJ5_newCapacity_0f7a4 53 = .ok (.aload_n 0, 1) := by decide +kernel
theorem dJ5_newCapacity_0f7a4_54 : decode cJ5_newCapacity_0f7a4 54 = .ok (.getfield 22, 3) := by decide +kernel
theorem dJ5_newCapacity_0f7a4_57 : decode cJ5_newCapacity_0f7a4 57 = .ok (.ishr, 1) := by decide +kernel
theorem dJ5_newCapacity_0f7a4_58 : decode cJ5_newCapacity_0f7a4 58 = .ok (.ireturn, 1) := by decide +kernel
abbrev MJ5_newCapacity_0f7a4 : JM := (cJ5_newCapacity_0f7a4, 6, RJ5, (some .int), yJ5_newCapacity_0f7a4)
theorem jn_J5_newCapacity_0f7a4 : jnm MJ5_newCapacity_0f7a4 1 := by decide +kernel
theorem jp_J5_newCapacity_0f7a4 : plainName MJ5_newCapacity_0f7a4.2.2.2.2.cls = true := by decide +kernel
theorem dJ7_copyOf_9075b_0 : decode cJ7_copyOf_9075b 0 = .ok (.iload_n 1, 1) := by decide +kernel
theorem dJ7_copyOf_9075b_1 : decode cJ7_copyOf_9075b 1 = .ok (.aload_n 0, 1) := by decide +kernel
theorem dJ7_copyOf_9075b_2 : decode cJ7_copyOf_9075b 2 = .ok (.arraylength, 1) := by decide +kernel
theorem dJ7_copyOf_9075b_3 : decode cJ7_copyOf_9075b 3 = .ok (.if_icmp .ne 11, 3) := by decide +kernel
theorem dJ7_copyOf_9075b_6 : decode cJ7_copyOf_9075b 6 = .ok (.aload_n 0, 1) := by decide +kernel
theorem dJ7_copyOf_9075b_7 : decode cJ7_copyOf_9075b 7 = .ok (.invokevirtual 310, 3) := by decide +kernel
theorem dJ7_copyOf_9075b_10 : decode cJ7_copyOf_9075b 10 = .ok (.checkcast 311, 3) := by decide +kernel
theorem dJ7_copyOf_9075b_13 : decode cJ7_copyOf_9075b 13 = .ok (.areturn, 1) := by decide +kernel
theorem dJ7_copyOf_9075b_14 : decode cJ7_copyOf_9075b 14 = .ok (.iload_n 1, 1) := by decide +kernel
theorem dJ7_copyOf_9075b_15 : decode cJ7_copyOf_9075b 15 = .ok (.newarray .byte, 2) := by decide +kernel
theorem dJ7_copyOf_9075b_17 : decode cJ7_copyOf_9075b 17 = .ok (.astore_n 2, 1) := by decide +kernel
theorem dJ7_copyOf_9075b_18 : decode cJ7_copyOf_9075b 18 = .ok (.aload_n 0, 1) := by decide +kernel
theorem dJ7_copyOf_9075b_19 : decode cJ7_copyOf_9075b 19 = .ok (.iconst 0, 1) := by decide +kernel
theorem dJ7_copyOf_9075b_20 : decode cJ7_copyOf_9075b 20 = .ok (.aload_n 2, 1) := by decide +kernel
theorem dJ7_copyOf_9075b_21 : decode cJ7_copyOf_9075b 21 = .ok (.iconst 0, 1) := by decide +kernel
theorem dJ7_copyOf_9075b_22 : decode cJ7_copyOf_9075b 22 = .ok (.aload_n 0, 1) := by decide +kernel
theorem dJ7_copyOf_9075b_23 : decode cJ7_copyOf_9075b 23 = .ok (.arraylength, 1) := by decide +kernel
theorem dJ7_copyOf_9075b_24 : decode cJ7_copyOf_9075b 24 = .ok (.iload_n 1, 1) := by decide +kernel
theorem dJ7_copyOf_9075b_25 : decode cJ7_copyOf_9075b 25 = .ok (.invokestatic 304, 3) := by decide +kernel
theorem dJ7_copyOf_9075b_28 : decode cJ7_copyOf_9075b 28 = .ok (.invokestatic 150, 3) := by decide +kernel
theorem dJ7_copyOf_9075b_31 : decode cJ7_copyOf_9075b 31 = .ok (.aload_n 2, 1) := by decide +kernel
theorem dJ7_copyOf_9075b_32 : decode cJ7_copyOf_9075b 32 = .ok (.areturn, 1) := by decide +kernel
abbrev MJ7_copyOf_9075b : JM := (cJ7_copyOf_9075b, 3, RJ7, (some (.array .byte)), yJ7_copyOf_9075b)
theorem jn_J7_copyOf_9075b : jnm MJ7_copyOf_9075b 2 := by decide +kernel
theorem jp_J7_copyOf_9075b : plainName MJ7_copyOf_9075b.2.2.2.2.cls = true := by decide +kernel
theorem jw_741 : Cond.methodLink RJ5 3 Lib.objectInit ∈ jGL := jmem 741 (by decide +kernel) rfl
theorem jw_104 : Cond.instanceMethod Lib.objectInit ∈ jGL := jmem 104 (by decide +kernel) rfl
theorem jw_105 : Cond.code Lib.objectInit ⟨#[0xb1]⟩ 1 none ∈ jGL := jmem 105 (by decide +kernel) rfl
theorem jw_742 : Cond.fieldLink RJ5 18 "java/lang/String" "COMPACT_STRINGS" "Z" ∈ jGL := jmem 742 (by decide +kernel) rfl
theorem jw_751 : Cond.fieldLink RJ5 15 "java/lang/AbstractStringBuilder" "value" "[B" ∈ jGL := jmem 751 (by decide +kernel) rfl
theorem jw_752 : Cond.fieldLink RJ5 22 "java/lang/AbstractStringBuilder" "coder" "B" ∈ jGL := jmem 752 (by decide +kernel) rfl
theorem jw_738 : Cond.methodLink RJ4 1 yJ5_init_d00df ∈ jGL := jmem 738 (by decide +kernel) rfl
theorem jw_739 : Cond.instanceMethod yJ5_init_d00df ∈ jGL := jmem 739 (by decide +kernel) rfl
theorem jw_57 : Cond.initialized RJ5 ∈ jGL := jmem 57 (by decide +kernel) rfl
theorem jw_740 : Cond.code yJ5_init_d00df cJ5_init_d00df 2 none ∈ jGL := jmem 740 (by decide +kernel) rfl
theorem jw_754 : Cond.fieldLink RJ5 79 "java/lang/AbstractStringBuilder" "count" "I" ∈ jGL := jmem 754 (by decide +kernel) rfl
theorem jw_970 : Cond.methodLink RJ4 343 yJ5_length_8abf5 ∈ jGL := jmem 970 (by decide +kernel) rfl
theorem jw_965 : Cond.instanceMethod yJ5_length_8abf5 ∈ jGL := jmem 965 (by decide +kernel) rfl
theorem jw_971 : Cond.code yJ5_length_8abf5 cJ5_length_8abf5 1 (some .int) ∈ jGL := jmem 971 (by decide +kernel) rfl
theorem jw_966 : Cond.sameMethod yJ5_length_8abf5.cls yJ5_length_8abf5.cls yJ5_length_8abf5.name yJ5_length_8abf5.desc ∈ jGL := jmem 966 (by decide +kernel) rfl
theorem jw_763 : Cond.superclass RJ4 yJ5_length_8abf5.cls ∈ jGL := jmem 763 (by decide +kernel) rfl
theorem jw_787 : Cond.methodLink RJ8 194 Lib.Math.max.name ∈ jGL := jmem 787 (by decide +kernel) rfl
theorem jw_788 : Cond.constant RJ8 200 2147483639 ∈ jGL := jmem 788 (by decide +kernel) rfl
theorem jw_784 : Cond.methodLink RJ5 114 yJ8_newLength_cabcc ∈ jGL := jmem 784 (by decide +kernel) rfl
theorem jw_785 : Cond.static yJ8_newLength_cabcc ∈ jGL := jmem 785 (by decide +kernel) rfl
theorem jw_61 : Cond.initialized RJ8 ∈ jGL := jmem 61 (by decide +kernel) rfl
theorem jw_786 : Cond.code yJ8_newLength_cabcc cJ8_newLength_cabcc 4 (some .int) ∈ jGL := jmem 786 (by decide +kernel) rfl
theorem jw_792 : Cond.constant RJ5 39 2147483647 ∈ jGL := jmem 792 (by decide +kernel) rfl
theorem jw_803 : Cond.methodLink RJ7 304 Lib.Math.min.name ∈ jGL := jmem 803 (by decide +kernel) rfl
theorem jw_804 : Cond.methodLink RJ7 150 arraycopyName ∈ jGL := jmem 804 (by decide +kernel) rfl
/-! THE JDK's TEXTS: contracts over cells -/
theorem jsx_t {C : JC} {xs : Nat × (Nat × (Nat → Int32))} {o : Option (Nat × (Nat × List Nat))} (h : (jS C).2.2.2 = (xs, o)) : (jS C).2.2.2.2 = o := congrArg Prod.snd h
theorem jsx_x {C : JC} {xs : Nat × (Nat × (Nat → Int32))} {o : Option (Nat × (Nat × List Nat))} (h : (jS C).2.2.2 = (xs, o)) : (jS C).2.2.2.1 = xs := congrArg Prod.fst h
theorem jTa_same {C : JC} {wr : va_W} {o : Option (Nat × (Nat × List Nat))} (h : (jS C).2.2.2.2 = o) : jTa C wr o := fun _ hx => Or.inl (h.trans hx)
theorem jTa_none {C : JC} {wr : va_W} : jTa C wr none := fun _ hx => by cases hx
/-- the constants as naturals -/
def jkt (i : Nat) : List Nat := (jn_byt.getD i []).map (fun x => x.toNatClampNeg)
theorem jkt_ok : ∀ i, i < 23 → (jn_len.getD i 0 = (jkt i).length ∧ jn_byt.getD i [] = (jkt i).map (fun n => nI n) ∧ ∀ x ∈ jkt i, x < 128) := by decide +kernel
theorem jTa_const {C : JC} {wr : va_W} (i : Nat) (hi : i < 23) : jTa C wr (some ((jS C).1 i, (jS C).2.1 i, jkt i)) := by
  intro x hx
  obtain rfl := Option.some.inj hx
  obtain ⟨h1, h2, -⟩ := jkt_ok i hi
  refine Or.inr (Or.inl ⟨i, hi, rfl, rfl, h1.symm, fun j hj => ?_⟩)
  rw [h2, List.getD_eq_getElem?_getD, List.getElem?_map, List.getElem?_eq_getElem hj]
  simp [List.getD_eq_getElem?_getD, List.getElem?_eq_getElem hj]
theorem jTa_cell {C : JC} {wr : va_W} {h v : Nat} {t : List Nat} {f : Nat → Int32} (i j : Nat) (h1 : wr[i]? = some (h, .inr (0, [.ref v, .int 0, .int 0, .int 0]))) (h2 : wr[j]? = some (v, .inl (jcs C 1, t.length, .inl f))) (hf : ∀ k, k < t.length → f k = nI (t.getD k 0)) : jTa C wr (some (h, v, t)) := by
  intro x hx
  obtain rfl := Option.some.inj hx
  exact Or.inr (Or.inr ⟨i, j, 0, 0, f, h1, h2, hf⟩)
theorem t_coder {xs : Nat × (Nat × (Nat → Int32))} {h v : Nat} {t : List Nat} : jSG MJ0_coder_7d493 0 0 0 [jR h false] (xs, some (h, v, t)) (fun _ => []) (fun _ r X => r = jI 0 ∧ X = []) := by
  refine jSG_of jp_J0_coder_7d493 rfl (Nat.le_of_ble_eq_true rfl) (fun C hm hS hi => ?_)
  have hT := jsx_t hS.1
  have hX := (jsx_x hS.1).symm
  refine jt_cs hm jw_846 dJ0_coder_7d493_0 ?_
  refine jg_if_eq hm.1 (tgt := 13) dJ0_coder_7d493_3 (by decide) (fun h => absurd h (by decide)) (fun _ => ?_)
  refine jg_aload_n hm.1 (i := 0) rfl rfl dJ0_coder_7d493_6 ?_
  refine jt_scod hm hT jw_918 dJ0_coder_7d493_7 ?_
  refine jg_goto hm.1 (tgt := 14) dJ0_coder_7d493_10 (by decide) ?_
  exact jt_zret hm (Or.inr (Or.inl rfl)) rfl rfl (Nat.le_of_ble_eq_true rfl) (Nat.le_of_ble_eq_true rfl) dJ0_coder_7d493_14 ⟨rfl, rfl⟩
theorem t_isLatin1 {xs : Nat × (Nat × (Nat → Int32))} {h v : Nat} {t : List Nat} : jSG MJ0_isLatin1_aae02 0 0 0 [jR h false] (xs, some (h, v, t)) (fun _ => []) (fun _ r X => r = jI 1 ∧ X = []) := by
  refine jSG_of jp_J0_isLatin1_aae02 rfl (Nat.le_of_ble_eq_true rfl) (fun C hm hS hi => ?_)
  have hT := jsx_t hS.1
  have hX := (jsx_x hS.1).symm
  refine jt_cs hm jw_846 dJ0_isLatin1_aae02_0 ?_
  refine jg_if_eq hm.1 (tgt := 17) dJ0_isLatin1_aae02_3 (by decide) (fun h => absurd h (by decide)) (fun _ => ?_)
  refine jg_aload_n hm.1 (i := 0) rfl rfl dJ0_isLatin1_aae02_6 ?_
  refine jt_scod hm hT jw_918 dJ0_isLatin1_aae02_7 ?_
  refine jg_if_ne hm.1 (tgt := 17) dJ0_isLatin1_aae02_10 (by decide) (fun h => absurd rfl h) (fun _ => ?_)
  refine jg_iconst hm.1 (v := 1) (by decide) dJ0_isLatin1_aae02_13 ?_
  refine jg_goto hm.1 (tgt := 18) dJ0_isLatin1_aae02_14 (by decide) ?_
  exact jt_zret hm (Or.inl rfl) rfl rfl (Nat.le_of_ble_eq_true rfl) (Nat.le_of_ble_eq_true rfl) dJ0_isLatin1_aae02_18 ⟨rfl, rfl⟩
theorem t_length {xs : Nat × (Nat × (Nat → Int32))} {h v : Nat} {t : List Nat} : jSG MJ0_length_8abf5 1 0 0 [jR h false] (xs, some (h, v, t)) (fun _ => []) (fun _ r X => r = jI (nI t.length) ∧ X = []) := by
  refine jSG_of jp_J0_length_8abf5 rfl (Nat.le_of_ble_eq_true rfl) (fun C hm hS hi => ?_)
  have hT := jsx_t hS.1
  have hX := (jsx_x hS.1).symm
  refine jg_aload_n hm.1 (i := 0) rfl rfl dJ0_length_8abf5_0 ?_
  refine jt_sval hm hT jw_917 dJ0_length_8abf5_1 ?_
  refine jt_slen hm hT dJ0_length_8abf5_4 ?_
  refine jg_aload_n hm.1 (i := 0) rfl rfl dJ0_length_8abf5_5 ?_
  refine jt_callV (wr := []) (as := []) hm t_coder rfl ⟨hX, hS.2⟩ (jTa_same hT) (jRv_text hm (jTa_same hT)) (by omega) (Nat.le_of_ble_eq_true rfl) (Nat.le_of_ble_eq_true rfl) jw_842 jw_843 (hm.1.hts _ jw_844) jw_59 jw_845 jn_J0_coder_7d493 rfl rfl (Nat.le_of_ble_eq_true rfl) rfl dJ0_length_8abf5_6 ?_
  rintro _ _ ⟨rfl, rfl⟩
  refine jg_ishr hm.1 dJ0_length_8abf5_9 ?_
  rw [sb_shr0]
  exact jt_iret hm rfl (Nat.le_of_ble_eq_true rfl) (Nat.le_of_ble_eq_true rfl) dJ0_length_8abf5_10 ⟨rfl, rfl⟩
theorem t_pcheckU {xs : Nat × (Nat × (Nat → Int32))} {o : Option (Nat × (Nat × List Nat))} {x n : Nat} (hx : x < n) (hn : n < 2 ^ 31) : jSG MJ3_checkIndex_8e157 0 0 0 [jI (nI x), jI (nI n), jU] (xs, o) (fun _ => []) (fun _ r X => r = jI (nI x) ∧ X = []) := by
  refine jSG_of jp_J3_checkIndex_8e157 rfl (Nat.le_of_ble_eq_true rfl) (fun C hm hS hi => ?_)
  have hT := jsx_t hS.1
  have hX := (jsx_x hS.1).symm
  refine jg_iload_n hm.1 (i := 0) rfl rfl dJ3_checkIndex_8e157_0 ?_
  refine jg_if_lt hm.1 (tgt := 9) dJ3_checkIndex_8e157_1 (by decide) (fun h => absurd h (nI_pos (by omega))) (fun _ => ?_)
  refine jg_iload_n hm.1 (i := 0) rfl rfl dJ3_checkIndex_8e157_4 ?_
  refine jg_iload_n hm.1 (i := 1) rfl rfl dJ3_checkIndex_8e157_5 ?_
  refine jg_icmp_lt hm.1 (tgt := 16) dJ3_checkIndex_8e157_6 (by decide) (fun _ => ?_) (fun h => absurd (nI_lt hx hn) h)
  refine jg_iload_n hm.1 (i := 0) rfl rfl dJ3_checkIndex_8e157_16 ?_
  exact jt_iret hm rfl (Nat.le_of_ble_eq_true rfl) (Nat.le_of_ble_eq_true rfl) dJ3_checkIndex_8e157_17 ⟨rfl, rfl⟩
theorem t_pcheckR {xs : Nat × (Nat × (Nat → Int32))} {o : Option (Nat × (Nat × List Nat))} {x n q : Nat} (hx : x < n) (hn : n < 2 ^ 31) : jSG MJ3_checkIndex_8e157 0 0 0 [jI (nI x), jI (nI n), jR q false] (xs, o) (fun _ => []) (fun _ r X => r = jI (nI x) ∧ X = []) := by
  refine jSG_of jp_J3_checkIndex_8e157 rfl (Nat.le_of_ble_eq_true rfl) (fun C hm hS hi => ?_)
  have hT := jsx_t hS.1
  have hX := (jsx_x hS.1).symm
  refine jg_iload_n hm.1 (i := 0) rfl rfl dJ3_checkIndex_8e157_0 ?_
  refine jg_if_lt hm.1 (tgt := 9) dJ3_checkIndex_8e157_1 (by decide) (fun h => absurd h (nI_pos (by omega))) (fun _ => ?_)
  refine jg_iload_n hm.1 (i := 0) rfl rfl dJ3_checkIndex_8e157_4 ?_
  refine jg_iload_n hm.1 (i := 1) rfl rfl dJ3_checkIndex_8e157_5 ?_
  refine jg_icmp_lt hm.1 (tgt := 16) dJ3_checkIndex_8e157_6 (by decide) (fun _ => ?_) (fun h => absurd (nI_lt hx hn) h)
  refine jg_iload_n hm.1 (i := 0) rfl rfl dJ3_checkIndex_8e157_16 ?_
  exact jt_iret hm rfl (Nat.le_of_ble_eq_true rfl) (Nat.le_of_ble_eq_true rfl) dJ3_checkIndex_8e157_17 ⟨rfl, rfl⟩
theorem t_check {xs : Nat × (Nat × (Nat → Int32))} {o : Option (Nat × (Nat × List Nat))} {x n : Nat} (hx : x < n) (hn : n < 2 ^ 31) : jSG MJ0_checkIndex_df160 1 0 0 [jI (nI x), jI (nI n)] (xs, o) (fun _ => []) (fun _ r X => r = jU ∧ X = []) := by
  refine jSG_of jp_J0_checkIndex_df160 rfl (Nat.le_of_ble_eq_true rfl) (fun C hm hS hi => ?_)
  have hT := jsx_t hS.1
  have hX := (jsx_x hS.1).symm
  refine jg_iload_n hm.1 (i := 0) rfl rfl dJ0_checkIndex_df160_0 ?_
  refine jg_iload_n hm.1 (i := 1) rfl rfl dJ0_checkIndex_df160_1 ?_
  refine jt_fmt hm hS.2 jw_824 dJ0_checkIndex_df160_2 (fun v hv => ?_)
  rcases hv with rfl | ⟨q, rfl⟩
  · refine jt_callS (wr := []) (as := [jI (nI x), jI (nI n), jU]) (st := []) hm (t_pcheckU hx hn) rfl ⟨hX, hS.2⟩ (jTa_same hT) (by omega) (Nat.le_of_ble_eq_true rfl) (Nat.le_of_ble_eq_true rfl) jw_1047 jw_1048 jw_65 jw_1049 jn_J3_checkIndex_8e157 rfl rfl (Nat.le_of_ble_eq_true rfl) rfl dJ0_checkIndex_df160_5 ?_
    rintro _ _ ⟨rfl, rfl⟩
    refine jg_popI hm.1 dJ0_checkIndex_df160_8 ?_
    exact jt_ret hm rfl (Nat.le_of_ble_eq_true rfl) (Nat.le_of_ble_eq_true rfl) dJ0_checkIndex_df160_9 ⟨rfl, rfl⟩
  · refine jt_callS (wr := []) (as := [jI (nI x), jI (nI n), jR q false]) (st := []) hm (t_pcheckR hx hn) rfl ⟨hX, hS.2⟩ (jTa_same hT) (by omega) (Nat.le_of_ble_eq_true rfl) (Nat.le_of_ble_eq_true rfl) jw_1047 jw_1048 jw_65 jw_1049 jn_J3_checkIndex_8e157 rfl rfl (Nat.le_of_ble_eq_true rfl) rfl dJ0_checkIndex_df160_5 ?_
    rintro _ _ ⟨rfl, rfl⟩
    refine jg_popI hm.1 dJ0_checkIndex_df160_8 ?_
    exact jt_ret hm rfl (Nat.le_of_ble_eq_true rfl) (Nat.le_of_ble_eq_true rfl) dJ0_checkIndex_df160_9 ⟨rfl, rfl⟩
theorem t_lcharAt {xs : Nat × (Nat × (Nat → Int32))} {h v k : Nat} {t : List Nat} (hk : k < t.length) (ht : t.length < 2 ^ 31) (ha : ∀ x ∈ t, x < 128) : jSG MJ1_charAt_3b067 2 0 0 [jR v false, jI (nI k)] (xs, some (h, v, t)) (fun _ => []) (fun _ r X => r = jI (nI (t.getD k 0)) ∧ X = []) := by
  have hc := jchar _ (jgetD_lt ha k)
  refine jSG_of jp_J1_charAt_3b067 rfl (Nat.le_of_ble_eq_true rfl) (fun C hm hS hi => ?_)
  have hT := jsx_t hS.1
  have hX := (jsx_x hS.1).symm
  refine jg_iload_n hm.1 (i := 1) rfl rfl dJ1_charAt_3b067_0 ?_
  refine jg_aload_n hm.1 (i := 0) rfl rfl dJ1_charAt_3b067_1 ?_
  refine jt_slen hm hT dJ1_charAt_3b067_2 ?_
  refine jt_callS (wr := []) (as := [jI (nI k), jI (nI t.length)]) (st := []) hm (t_check hk ht) rfl ⟨hX, hS.2⟩ (jTa_same hT) (by omega) (Nat.le_of_ble_eq_true rfl) (Nat.le_of_ble_eq_true rfl) jw_1044 jw_1045 jw_59 jw_1046 jn_J0_checkIndex_df160 rfl rfl (Nat.le_of_ble_eq_true rfl) rfl dJ1_charAt_3b067_3 ?_
  rintro _ _ ⟨rfl, rfl⟩
  refine jg_aload_n hm.1 (i := 0) rfl rfl dJ1_charAt_3b067_6 ?_
  refine jg_iload_n hm.1 (i := 1) rfl rfl dJ1_charAt_3b067_7 ?_
  refine jt_sbyte hm hT (vp_in_nI hk ht) dJ1_charAt_3b067_8 ?_
  refine jg_sipush hm.1 (v := 255) (by decide) dJ1_charAt_3b067_9 ?_
  refine jg_iand hm.1 dJ1_charAt_3b067_12 ?_
  refine jg_i2c hm.1 dJ1_charAt_3b067_13 ?_
  rw [nI_clamp (by omega), hc.1]
  exact jt_zret hm (Or.inr (Or.inr rfl)) rfl hc.2.1 (Nat.le_of_ble_eq_true rfl) (Nat.le_of_ble_eq_true rfl) dJ1_charAt_3b067_14 ⟨rfl, rfl⟩
theorem t_charAt {xs : Nat × (Nat × (Nat → Int32))} {h v k : Nat} {t : List Nat} (hk : k < t.length) (ht : t.length < 2 ^ 31) (ha : ∀ x ∈ t, x < 128) : jSG MJ0_charAt_5068e 3 0 0 [jR h false, jI (nI k)] (xs, some (h, v, t)) (fun _ => []) (fun _ r X => r = jI (nI (t.getD k 0)) ∧ X = []) := by
  have hc := jchar _ (jgetD_lt ha k)
  refine jSG_of jp_J0_charAt_5068e rfl (Nat.le_of_ble_eq_true rfl) (fun C hm hS hi => ?_)
  have hT := jsx_t hS.1
  have hX := (jsx_x hS.1).symm
  refine jg_aload_n hm.1 (i := 0) rfl rfl dJ0_charAt_5068e_0 ?_
  refine jt_callV (wr := []) (as := []) (st := []) hm t_isLatin1 rfl ⟨hX, hS.2⟩ (jTa_same hT) (jRv_text hm (jTa_same hT)) (by omega) (Nat.le_of_ble_eq_true rfl) (Nat.le_of_ble_eq_true rfl) jw_894 jw_895 (hm.1.hts _ jw_896) jw_59 jw_897 jn_J0_isLatin1_aae02 rfl rfl (Nat.le_of_ble_eq_true rfl) rfl dJ0_charAt_5068e_1 ?_
  rintro _ _ ⟨rfl, rfl⟩
  refine jg_if_eq hm.1 (tgt := 16) dJ0_charAt_5068e_4 (by decide) (fun h => absurd h (by decide)) (fun _ => ?_)
  refine jg_aload_n hm.1 (i := 0) rfl rfl dJ0_charAt_5068e_7 ?_
  refine jt_sval hm hT jw_917 dJ0_charAt_5068e_8 ?_
  refine jg_iload_n hm.1 (i := 1) rfl rfl dJ0_charAt_5068e_11 ?_
  refine jt_callS (wr := []) (as := [jR v false, jI (nI k)]) (st := []) hm (t_lcharAt hk ht ha) rfl ⟨hX, hS.2⟩ (jTa_same hT) (by omega) (Nat.le_of_ble_eq_true rfl) (Nat.le_of_ble_eq_true rfl) jw_1041 jw_1042 jw_66 jw_1043 jn_J1_charAt_3b067 rfl rfl (Nat.le_of_ble_eq_true rfl) rfl dJ0_charAt_5068e_12 ?_
  rintro _ _ ⟨rfl, rfl⟩
  exact jt_zret hm (Or.inr (Or.inr rfl)) rfl hc.2.1 (Nat.le_of_ble_eq_true rfl) (Nat.le_of_ble_eq_true rfl) dJ0_charAt_5068e_15 ⟨rfl, rfl⟩
/-! builders -/
theorem df_J0 : ∀ j, j < 4 → defaultValue (tyJ0 j) = vp_V [.null, .int 0, .int 0, .int 0] j := by
  intro j hj
  rcases (show j = 0 ∨ j = 1 ∨ j = 2 ∨ j = 3 by omega) with rfl | rfl | rfl | rfl <;> rfl
theorem df_J4 : ∀ j, j < 4 → defaultValue (tyJ4 j) = vp_V [.null, .int 0, .int 0, .int 0] j := by
  intro j hj
  rcases (show j = 0 ∨ j = 1 ∨ j = 2 ∨ j = 3 by omega) with rfl | rfl | rfl | rfl <;> rfl
/-- a builder: its cell, its row of m bytes, n of them said -/
abbrev jBd (cs : Nat → ClassId) (h v m n : Nat) (f : Nat → Int32) : va_W := [(h, .inr (1, [.ref v, .int 0, .int 0, .int (nI n)])), (v, .inl (cs 1, m, .inl f))]
theorem t_ainit {xs : Nat × (Nat × (Nat → Int32))} {o : Option (Nat × (Nat × List Nat))} {h : Nat} : jSG MJ5_init_d00df 1 1 16 [jR h false, jI 16] (xs, o) (fun _ => [(h, .inr (1, [.null, .int 0, .int 0, .int 0]))]) (fun cs r X => r = jU ∧ ∃ v, X = jBd cs h v 16 0 (fun _ => 0)) := by
  refine jSG_of jp_J5_init_d00df rfl (Nat.le_of_ble_eq_true rfl) (fun C hm hS hi => ?_)
  have hT := jsx_t hS.1
  have hX := (jsx_x hS.1).symm
  refine jg_aload_n hm.1 (i := 0) rfl rfl dJ5_init_d00df_0 ?_
  refine jg_objInit hm.1 jw_741 jw_104 jw_105 (Nat.le_of_ble_eq_true rfl) (Nat.le_of_ble_eq_true rfl) rfl dJ5_init_d00df_1 ?_
  refine jt_cs hm jw_742 dJ5_init_d00df_4 ?_
  refine jg_if_eq hm.1 (tgt := 25) dJ5_init_d00df_7 (by decide) (fun h => absurd h (by decide)) (fun _ => ?_)
  refine jg_aload_n hm.1 (i := 0) rfl rfl dJ5_init_d00df_10 ?_
  refine jg_iload_n hm.1 (i := 1) rfl rfl dJ5_init_d00df_11 ?_
  refine jg_newb hm.1 (N := 16) (by decide) (by decide +kernel) (Nat.le_of_ble_eq_true rfl) (Nat.le_of_ble_eq_true rfl) (Nat.le_of_ble_eq_true rfl) dJ5_init_d00df_12 (fun v => ?_)
  refine jg_putc hm.1 (ty0 := tyJ4) 0 0 rfl rfl jin_J4 tyJ4_ok nmJ4 (by decide) jw_751 rfl rfl rfl rfl (Nat.le_of_ble_eq_true rfl) dJ5_init_d00df_14 ?_
  refine jg_aload_n hm.1 (i := 0) rfl rfl dJ5_init_d00df_17 ?_
  refine jg_iconst hm.1 (v := 0) (by decide) dJ5_init_d00df_18 ?_
  refine jg_putc hm.1 (ty0 := tyJ4) (v := jI 0) 0 1 rfl rfl jin_J4 tyJ4_ok nmJ4 (by decide) jw_752 rfl rfl rfl rfl (Nat.le_of_ble_eq_true rfl) dJ5_init_d00df_19 ?_
  refine jg_goto hm.1 (tgt := 38) dJ5_init_d00df_22 (by decide) ?_
  exact jt_ret hm rfl (Nat.le_of_ble_eq_true rfl) (Nat.le_of_ble_eq_true rfl) dJ5_init_d00df_38 ⟨rfl, v, rfl⟩
theorem t_binit {xs : Nat × (Nat × (Nat → Int32))} {o : Option (Nat × (Nat × List Nat))} {h : Nat} : jSG MJ4_init_da8c8 2 1 16 [jR h false] (xs, o) (fun _ => [(h, .inr (1, [.null, .int 0, .int 0, .int 0]))]) (fun cs r X => r = jU ∧ ∃ v, X = jBd cs h v 16 0 (fun _ => 0)) := by
  refine jSG_of jp_J4_init_da8c8 rfl (Nat.le_of_ble_eq_true rfl) (fun C hm hS hi => ?_)
  have hT := jsx_t hS.1
  have hX := (jsx_x hS.1).symm
  refine jg_aload_n hm.1 (i := 0) rfl rfl dJ4_init_da8c8_0 ?_
  refine jg_bipush hm.1 (v := 16) (by decide) dJ4_init_da8c8_1 ?_
  refine jt_callI (wr := []) (as := [jI 16]) (st := []) hm t_ainit rfl ⟨hX, hS.2⟩ (jTa_same hT) (by omega) (Nat.le_of_ble_eq_true rfl) (Nat.le_of_ble_eq_true rfl) jw_738 jw_739 jw_57 jw_740 jn_J5_init_d00df rfl rfl rfl (Nat.le_of_ble_eq_true rfl) rfl dJ4_init_da8c8_3 ?_
  rintro _ _ ⟨rfl, v, rfl⟩
  exact jt_ret hm rfl (Nat.le_of_ble_eq_true rfl) (Nat.le_of_ble_eq_true rfl) dJ4_init_da8c8_6 ⟨rfl, v, rfl⟩
theorem t_getValue {xs : Nat × (Nat × (Nat → Int32))} {o : Option (Nat × (Nat × List Nat))} {h v m n : Nat} {f : Nat → Int32} : jSG MJ5_getValue_6d5f1 0 0 0 [jR h false] (xs, o) (fun cs => jBd cs h v m n f) (fun cs r X => r = jR v false ∧ X = jBd cs h v m n f) := by
  refine jSG_of jp_J5_getValue_6d5f1 rfl (Nat.le_of_ble_eq_true rfl) (fun C hm hS hi => ?_)
  have hT := jsx_t hS.1
  have hX := (jsx_x hS.1).symm
  refine jg_aload_n hm.1 (i := 0) rfl rfl dJ5_getValue_6d5f1_0 ?_
  refine jg_getc hm.1 (v := jR v false) 0 0 rfl rfl jin_J4 (by decide) jw_751 rfl rfl dJ5_getValue_6d5f1_1 ?_
  exact jt_aret hm rfl (Or.inr ⟨_, rfl⟩) (Nat.le_of_ble_eq_true rfl) (Nat.le_of_ble_eq_true rfl) dJ5_getValue_6d5f1_4 ⟨rfl, rfl⟩
theorem t_alen {xs : Nat × (Nat × (Nat → Int32))} {o : Option (Nat × (Nat × List Nat))} {h v m n : Nat} {f : Nat → Int32} : jSG MJ5_length_8abf5 0 0 0 [jR h false] (xs, o) (fun cs => jBd cs h v m n f) (fun cs r X => r = jI (nI n) ∧ X = jBd cs h v m n f) := by
  refine jSG_of jp_J5_length_8abf5 rfl (Nat.le_of_ble_eq_true rfl) (fun C hm hS hi => ?_)
  have hT := jsx_t hS.1
  have hX := (jsx_x hS.1).symm
  refine jg_aload_n hm.1 (i := 0) rfl rfl dJ5_length_8abf5_0 ?_
  refine jg_getc hm.1 (v := jI (nI n)) 0 3 rfl rfl jin_J4 (by decide) jw_754 rfl rfl dJ5_length_8abf5_1 ?_
  exact jt_iret hm rfl (Nat.le_of_ble_eq_true rfl) (Nat.le_of_ble_eq_true rfl) dJ5_length_8abf5_4 ⟨rfl, rfl⟩
theorem t_blen {xs : Nat × (Nat × (Nat → Int32))} {o : Option (Nat × (Nat × List Nat))} {h v m n : Nat} {f : Nat → Int32} : jSG MJ4_length_8abf5 1 0 0 [jR h false] (xs, o) (fun cs => jBd cs h v m n f) (fun cs r X => r = jI (nI n) ∧ X = jBd cs h v m n f) := by
  refine jSG_of jp_J4_length_8abf5 rfl (Nat.le_of_ble_eq_true rfl) (fun C hm hS hi => ?_)
  have hT := jsx_t hS.1
  have hX := (jsx_x hS.1).symm
  refine jg_aload_n hm.1 (i := 0) rfl rfl dJ4_length_8abf5_0 ?_
  refine jt_callSU (wr := []) (as := []) (st := []) hm t_alen rfl ⟨hX, hS.2⟩ (jTa_same hT) (jRv_cell hm (i := 0) rfl rfl) (by omega) (Nat.le_of_ble_eq_true rfl) (Nat.le_of_ble_eq_true rfl) jw_970 jw_965 jw_966 jw_763 jw_57 jw_971 jn_J5_length_8abf5 (by decide) rfl rfl (Nat.le_of_ble_eq_true rfl) rfl dJ4_length_8abf5_1 ?_
  rintro _ _ ⟨rfl, rfl⟩
  exact jt_iret hm rfl (Nat.le_of_ble_eq_true rfl) (Nat.le_of_ble_eq_true rfl) dJ4_length_8abf5_4 ⟨rfl, rfl⟩
theorem t_blatin {xs : Nat × (Nat × (Nat → Int32))} {o : Option (Nat × (Nat × List Nat))} {h v m n : Nat} {f : Nat → Int32} : jSG MJ5_isLatin1_aae02 0 0 0 [jR h false] (xs, o) (fun cs => jBd cs h v m n f) (fun cs r X => r = jI 1 ∧ X = jBd cs h v m n f) := by
  refine jSG_of jp_J5_isLatin1_aae02 rfl (Nat.le_of_ble_eq_true rfl) (fun C hm hS hi => ?_)
  have hT := jsx_t hS.1
  have hX := (jsx_x hS.1).symm
  refine jt_cs hm jw_742 dJ5_isLatin1_aae02_0 ?_
  refine jg_if_eq hm.1 (tgt := 17) dJ5_isLatin1_aae02_3 (by decide) (fun h => absurd h (by decide)) (fun _ => ?_)
  refine jg_aload_n hm.1 (i := 0) rfl rfl dJ5_isLatin1_aae02_6 ?_
  refine jg_getc hm.1 (v := jI 0) 0 1 rfl rfl jin_J4 (by decide) jw_752 rfl rfl dJ5_isLatin1_aae02_7 ?_
  refine jg_if_ne hm.1 (tgt := 17) dJ5_isLatin1_aae02_10 (by decide) (fun h => absurd rfl h) (fun _ => ?_)
  refine jg_iconst hm.1 (v := 1) (by decide) dJ5_isLatin1_aae02_13 ?_
  refine jg_goto hm.1 (tgt := 18) dJ5_isLatin1_aae02_14 (by decide) ?_
  exact jt_zret hm (Or.inl rfl) rfl rfl (Nat.le_of_ble_eq_true rfl) (Nat.le_of_ble_eq_true rfl) dJ5_isLatin1_aae02_18 ⟨rfl, rfl⟩
theorem t_newLength {xs : Nat × (Nat × (Nat → Int32))} {o : Option (Nat × (Nat × List Nat))} {a b c : Nat} (ha : a ≤ 65536) (hb : b ≤ 65536) (hc : c ≤ 65536) (h0 : 0 < b) : jSG MJ8_newLength_cabcc 1 0 0 [jI (nI a), jI (nI b), jI (nI c)] (xs, o) (fun _ => []) (fun _ r X => r = jI (nI (a + (if b < c then c else b))) ∧ X = []) := by
  refine jSG_of jp_J8_newLength_cabcc rfl (Nat.le_of_ble_eq_true rfl) (fun C hm hS hi => ?_)
  have hT := jsx_t hS.1
  have hX := (jsx_x hS.1).symm
  refine jg_iload_n hm.1 (i := 0) rfl rfl dJ8_newLength_cabcc_0 ?_
  refine jg_iload_n hm.1 (i := 1) rfl rfl dJ8_newLength_cabcc_1 ?_
  refine jg_iload_n hm.1 (i := 2) rfl rfl dJ8_newLength_cabcc_2 ?_
  refine jg_mmax hm.1 jw_787 jw_244 jw_62 jw_245 (by omega) (Nat.le_of_ble_eq_true rfl) (Nat.le_of_ble_eq_true rfl) (Nat.le_of_ble_eq_true rfl) rfl dJ8_newLength_cabcc_3 ?_
  refine jg_iadd hm.1 dJ8_newLength_cabcc_6 ?_
  have e : nI a + (if nI b < nI c then nI c else nI b) = nI (a + (if b < c then c else b)) := by
    by_cases h : b < c
    · rw [if_pos h, if_pos (nI_lt h (by omega))]
      exact nI_add a c
    · rw [if_neg h, if_neg (nI_nlt (by omega) (by omega))]
      exact nI_add a b
  rw [e]
  generalize hz : a + (if b < c then c else b) = z
  have hz1 : 0 < z := by split at hz <;> omega
  have hz2 : z ≤ 131072 := by split at hz <;> omega
  refine jg_istore_n hm.1 (i := 3) rfl (Nat.le_of_ble_eq_true rfl) rfl dJ8_newLength_cabcc_7 ?_
  refine jg_iconst hm.1 (v := 0) (by decide) dJ8_newLength_cabcc_8 ?_
  refine jg_iload_n hm.1 (i := 3) rfl rfl dJ8_newLength_cabcc_9 ?_
  refine jg_icmp_ge hm.1 (tgt := 21) dJ8_newLength_cabcc_10 (by decide) (fun h => absurd h (nI_nle (n := z) hz1 (by omega))) (fun _ => ?_)
  refine jg_iload_n hm.1 (i := 3) rfl rfl dJ8_newLength_cabcc_13 ?_
  refine jg_ldc hm.1 (v := 2147483639) jw_788 dJ8_newLength_cabcc_14 ?_
  refine jg_icmp_gt hm.1 (tgt := 21) dJ8_newLength_cabcc_16 (by decide) (fun h => absurd h (show ¬ nI 2147483639 < nI z from nI_nlt (by omega) (by decide))) (fun _ => ?_)
  refine jg_iload_n hm.1 (i := 3) rfl rfl dJ8_newLength_cabcc_19 ?_
  exact jt_iret hm rfl (Nat.le_of_ble_eq_true rfl) (Nat.le_of_ble_eq_true rfl) dJ8_newLength_cabcc_20 ⟨rfl, rfl⟩
theorem t_newCapacity {xs : Nat × (Nat × (Nat → Int32))} {o : Option (Nat × (Nat × List Nat))} {h v m n q : Nat} {f : Nat → Int32} (hm1 : m ≤ 30000) (hq : q ≤ 30000) (h0 : m < q) : jSG MJ5_newCapacity_0f7a4 2 0 0 [jR h false, jI (nI q)] (xs, o) (fun cs => jBd cs h v m n f) (fun cs r X => r = jI (nI (m + (if q - m < m + 2 then m + 2 else q - m))) ∧ X = jBd cs h v m n f) := by
  refine jSG_of jp_J5_newCapacity_0f7a4 rfl (Nat.le_of_ble_eq_true rfl) (fun C hm hS hi => ?_)
  have hT := jsx_t hS.1
  have hX := (jsx_x hS.1).symm
  refine jg_aload_n hm.1 (i := 0) rfl rfl dJ5_newCapacity_0f7a4_0 ?_
  refine jg_getc hm.1 (v := jR v false) 0 0 rfl rfl jin_J4 (by decide) jw_751 rfl rfl dJ5_newCapacity_0f7a4_1 ?_
  refine jg_alenb hm.1 1 rfl dJ5_newCapacity_0f7a4_4 ?_
  refine jg_istore_n hm.1 (i := 2) rfl (Nat.le_of_ble_eq_true rfl) rfl dJ5_newCapacity_0f7a4_5 ?_
  refine jg_iload_n hm.1 (i := 1) rfl rfl dJ5_newCapacity_0f7a4_6 ?_
  refine jg_aload_n hm.1 (i := 0) rfl rfl dJ5_newCapacity_0f7a4_7 ?_
  refine jg_getc hm.1 (v := jI 0) 0 1 rfl rfl jin_J4 (by decide) jw_752 rfl rfl dJ5_newCapacity_0f7a4_8 ?_
  refine jg_ishl hm.1 dJ5_newCapacity_0f7a4_11 ?_
  rw [sb_shl0]
  refine jg_istore_n hm.1 (i := 3) rfl (Nat.le_of_ble_eq_true rfl) rfl dJ5_newCapacity_0f7a4_12 ?_
  refine jg_iload_n hm.1 (i := 3) rfl rfl dJ5_newCapacity_0f7a4_13 ?_
  refine jg_iload_n hm.1 (i := 2) rfl rfl dJ5_newCapacity_0f7a4_14 ?_
  refine jg_isub hm.1 dJ5_newCapacity_0f7a4_15 ?_
  rw [pk_sub (show m ≤ q by omega)]
  refine jg_istore hm.1 (i := 4) (Nat.le_of_ble_eq_true rfl) rfl dJ5_newCapacity_0f7a4_16 ?_
  refine jg_iload_n hm.1 (i := 2) rfl rfl dJ5_newCapacity_0f7a4_18 ?_
  refine jg_iload hm.1 (i := 4) rfl dJ5_newCapacity_0f7a4_19 ?_
  refine jg_iload_n hm.1 (i := 2) rfl rfl dJ5_newCapacity_0f7a4_21 ?_
  refine jg_iconst hm.1 (v := 2) (by decide) dJ5_newCapacity_0f7a4_22 ?_
  refine jg_aload_n hm.1 (i := 0) rfl rfl dJ5_newCapacity_0f7a4_23 ?_
  refine jg_getc hm.1 (v := jI 0) 0 1 rfl rfl jin_J4 (by decide) jw_752 rfl rfl dJ5_newCapacity_0f7a4_24 ?_
  refine jg_ishl hm.1 dJ5_newCapacity_0f7a4_27 ?_
  rw [sb_shl0]
  refine jg_iadd hm.1 dJ5_newCapacity_0f7a4_28 ?_
  rw [show nI m + 2 = nI (m + 2) from nI_add m 2]
  refine jt_callS (wr := jBd (jcs C) h v m n f) (as := [jI (nI m), jI (nI (q - m)), jI (nI (m + 2))]) (st := []) hm (t_newLength (by omega) (by omega) (by omega) (by omega)) rfl ⟨hX, hS.2⟩ (jTa_same hT) (by omega) (Nat.le_of_ble_eq_true rfl) (Nat.le_of_ble_eq_true rfl) jw_784 jw_785 jw_61 jw_786 jn_J8_newLength_cabcc rfl rfl (Nat.le_of_ble_eq_true rfl) rfl dJ5_newCapacity_0f7a4_29 ?_
  rintro _ _ ⟨rfl, rfl⟩
  generalize hz : m + (if q - m < m + 2 then m + 2 else q - m) = z
  have hz2 : z ≤ 100000 := by split at hz <;> omega
  refine jg_istore hm.1 (i := 5) (Nat.le_of_ble_eq_true rfl) rfl dJ5_newCapacity_0f7a4_32 ?_
  refine jg_iload hm.1 (i := 5) rfl dJ5_newCapacity_0f7a4_34 ?_
  refine jg_ldc hm.1 (v := 2147483647) jw_792 dJ5_newCapacity_0f7a4_36 ?_
  refine jg_icmp_ne hm.1 (tgt := 51) dJ5_newCapacity_0f7a4_38 (by decide) (fun _ => ?_) (fun h => absurd ((nI_eq (by omega) (by decide)).mp (show nI z = nI 2147483647 from h)) (by omega))
  refine jg_iload hm.1 (i := 5) rfl dJ5_newCapacity_0f7a4_51 ?_
  refine jg_aload_n hm.1 (i := 0) rfl rfl dJ5_newCapacity_0f7a4_53 ?_
  refine jg_getc hm.1 (v := jI 0) 0 1 rfl rfl jin_J4 (by decide) jw_752 rfl rfl dJ5_newCapacity_0f7a4_54 ?_
  refine jg_ishr hm.1 dJ5_newCapacity_0f7a4_57 ?_
  rw [sb_shr0]
  exact jt_iret hm rfl (Nat.le_of_ble_eq_true rfl) (Nat.le_of_ble_eq_true rfl) dJ5_newCapacity_0f7a4_58 ⟨rfl, rfl⟩
theorem t_copyOf {xs : Nat × (Nat × (Nat → Int32))} {o : Option (Nat × (Nat × List Nat))} {v m q : Nat} {f : Nat → Int32} (h0 : m < q) (hq : q ≤ 4000) (hf : sb_Fit f) : jSG MJ7_copyOf_9075b 1 1 4000 [jR v false, jI (nI q)] (xs, o) (fun cs => [(v, .inl (cs 1, m, .inl f))]) (fun cs r X => ∃ v2, r = jR v2 false ∧ X = [(v, .inl (cs 1, m, .inl f)), (v2, .inl (cs 1, q, .inl (va_cpy f (fun _ => 0) 0 0 m)))]) := by
  refine jSG_of jp_J7_copyOf_9075b rfl (Nat.le_of_ble_eq_true rfl) (fun C hm hS hi => ?_)
  have hT := jsx_t hS.1
  have hX := (jsx_x hS.1).symm
  refine jg_iload_n hm.1 (i := 1) rfl rfl dJ7_copyOf_9075b_0 ?_
  refine jg_aload_n hm.1 (i := 0) rfl rfl dJ7_copyOf_9075b_1 ?_
  refine jg_alenb hm.1 0 rfl dJ7_copyOf_9075b_2 ?_
  refine jg_icmp_ne hm.1 (tgt := 14) dJ7_copyOf_9075b_3 (by decide) (fun _ => ?_) (fun h => absurd ((nI_eq (by omega) (by omega)).mp h) (by omega))
  refine jg_iload_n hm.1 (i := 1) rfl rfl dJ7_copyOf_9075b_14 ?_
  refine jg_newb hm.1 (N := q) (nI_pos (by omega)) (nI_clamp (by omega)) (by omega) (Nat.le_of_ble_eq_true rfl) (by omega) dJ7_copyOf_9075b_15 (fun v2 => ?_)
  refine jg_astore_n hm.1 (i := 2) rfl (Nat.le_of_ble_eq_true rfl) rfl dJ7_copyOf_9075b_17 ?_
  refine jg_aload_n hm.1 (i := 0) rfl rfl dJ7_copyOf_9075b_18 ?_
  refine jg_iconst hm.1 (v := 0) (by decide) dJ7_copyOf_9075b_19 ?_
  refine jg_aload_n hm.1 (i := 2) rfl rfl dJ7_copyOf_9075b_20 ?_
  refine jg_iconst hm.1 (v := 0) (by decide) dJ7_copyOf_9075b_21 ?_
  refine jg_aload_n hm.1 (i := 0) rfl rfl dJ7_copyOf_9075b_22 ?_
  refine jg_alenb hm.1 0 rfl dJ7_copyOf_9075b_23 ?_
  refine jg_iload_n hm.1 (i := 1) rfl rfl dJ7_copyOf_9075b_24 ?_
  refine jg_mmin hm.1 jw_803 jw_241 jw_62 jw_242 (by omega) (Nat.le_of_ble_eq_true rfl) (by omega) (Nat.le_of_ble_eq_true rfl) rfl dJ7_copyOf_9075b_25 ?_
  rw [if_neg (nI_nlt (by omega) (by omega))]
  refine jg_copyb hm.1 0 1 rfl rfl (by omega) jw_804 (by decide) (by decide) (nI_pos (by omega)) (by rw [nI_clamp (by omega), sb_cl0]; omega) (by rw [nI_clamp (by omega), sb_cl0]; omega) (fun i _ => hf _) rfl dJ7_copyOf_9075b_28 ?_
  rw [nI_clamp (show m < 2 ^ 31 by omega), sb_cl0]
  refine jg_aload_n hm.1 (i := 2) rfl rfl dJ7_copyOf_9075b_31 ?_
  exact jt_aret hm rfl (Or.inr ⟨_, rfl⟩) (Nat.le_of_ble_eq_true rfl) (by omega) dJ7_copyOf_9075b_32 ⟨v2, rfl, rfl⟩

