theorem dJ7_checkLength_df160_0 : decode cJ7_checkLength_df160 0 = .ok (.iload_n 1, 1) := by decide +kernel
theorem dJ7_checkLength_df160_1 : decode cJ7_checkLength_df160 1 = .ok (.iload_n 0, 1) := by decide +kernel
theorem dJ7_checkLength_df160_2 : decode cJ7_checkLength_df160 2 = .ok (.if_icmp .ge 35, 3) := by decide +kernel
theorem dJ7_checkLength_df160_5 : decode cJ7_checkLength_df160 5 = .ok (.new 43, 3) := by decide +kernel
theorem dJ7_checkLength_df160_8 : decode cJ7_checkLength_df160 8 = .ok (.dup, 1) := by decide +kernel
theorem dJ7_checkLength_df160_9 : decode cJ7_checkLength_df160 9 = .ok (.new 45, 3) := by decide +kernel
theorem dJ7_checkLength_df160_12 : decode cJ7_checkLength_df160 12 = .ok (.dup, 1) := by decide +kernel
theorem dJ7_checkLength_df160_13 : decode cJ7_checkLength_df160 13 = .ok (.invokespecial 47, 3) := by decide +kernel
theorem dJ7_checkLength_df160_16 : decode cJ7_checkLength_df160 16 = .ok (.iload_n 0, 1) := by decide +kernel
theorem dJ7_checkLength_df160_17 : decode cJ7_checkLength_df160 17 = .ok (.invokevirtual 54, 3) := by decide +kernel
theorem dJ7_checkLength_df160_20 : decode cJ7_checkLength_df160 20 = .ok (.ldc_w 337, 3) := by decide +kernel
theorem dJ7_checkLength_df160_23 : decode cJ7_checkLength_df160 23 = .ok (.invokevirtual 50, 3) := by decide +kernel
theorem dJ7_checkLength_df160_26 : decode cJ7_checkLength_df160 26 = .ok (.iload_n 1, 1) := by decide +kernel
theorem dJ7_checkLength_df160_27 : decode cJ7_checkLength_df160 27 = .ok (.invokevirtual 54, 3) := by decide +kernel
theorem dJ7_checkLength_df160_30 : decode cJ7_checkLength_df160 30 = .ok (.invokevirtual 61, 3) := by decide +kernel
theorem dJ7_checkLength_df160_33 : decode cJ7_checkLength_df160 33 = .ok (.invokespecial 65, 3) := by decide +kernel
theorem dJ7_checkLength_df160_36 : decode cJ7_checkLength_df160 36 = .ok (.athrow, 1) := by decide +kernel
theorem dJ7_checkLength_df160_37 : decode cJ7_checkLength_df160 37 = .ok (.return_, 1) := by decide +kernel
abbrev MJ7_checkLength_df160 : JM := (cJ7_checkLength_df160, 2, RJ7, none, yJ7_checkLength_df160)
theorem jn_J7_checkLength_df160 : jnm MJ7_checkLength_df160 2 := by decide +kernel
theorem jp_J7_checkLength_df160 : plainName MJ7_checkLength_df160.2.2.2.2.cls = true := by decide +kernel
theorem dJ7_copyOfRangeByte_39247_0 : decode cJ7_copyOfRangeByte_39247 0 = .ok (.iload_n 1, 1) := by decide +kernel
theorem dJ7_copyOfRangeByte_39247_1 : decode cJ7_copyOfRangeByte_39247 1 = .ok (.iload_n 2, 1) := by decide +kernel
theorem dJ7_copyOfRangeByte_39247_2 : decode cJ7_copyOfRangeByte_39247 2 = .ok (.invokestatic 343, 3) := by decide +kernel
theorem dJ7_copyOfRangeByte_39247_5 : decode cJ7_copyOfRangeByte_39247 5 = .ok (.iload_n 2, 1) := by decide +kernel
theorem dJ7_copyOfRangeByte_39247_6 : decode cJ7_copyOfRangeByte_39247 6 = .ok (.iload_n 1, 1) := by decide +kernel
theorem dJ7_copyOfRangeByte_39247_7 : decode cJ7_copyOfRangeByte_39247 7 = .ok (.isub, 1) := by decide +kernel
theorem dJ7_copyOfRangeByte_39247_8 : decode cJ7_copyOfRangeByte_39247 8 = .ok (.istore_n 3, 1) := by decide +kernel
theorem dJ7_copyOfRangeByte_39247_9 : decode cJ7_copyOfRangeByte_39247 9 = .ok (.iload_n 3, 1) := by decide +kernel
theorem dJ7_copyOfRangeByte_39247_10 : decode cJ7_copyOfRangeByte_39247 10 = .ok (.newarray .byte, 2) := by decide +kernel
theorem dJ7_copyOfRangeByte_39247_12 : decode cJ7_copyOfRangeByte_39247 12 = .ok (.astore 4, 2) := by decide +kernel
theorem dJ7_copyOfRangeByte_39247_14 : decode cJ7_copyOfRangeByte_39247 14 = .ok (.aload_n 0, 1) := by decide +kernel
theorem dJ7_copyOfRangeByte_39247_15 : decode cJ7_copyOfRangeByte_39247 15 = .ok (.iload_n 1, 1) := by decide +kernel
theorem dJ7_copyOfRangeByte_39247_16 : decode cJ7_copyOfRangeByte_39247 16 = .ok (.aload 4, 2) := by decide +kernel
theorem dJ7_copyOfRangeByte_39247_18 : decode cJ7_copyOfRangeByte_39247 18 = .ok (.iconst 0, 1) := by decide +kernel
theorem dJ7_copyOfRangeByte_39247_19 : decode cJ7_copyOfRangeByte_39247 19 = .ok (.aload_n 0, 1) := by decide +kernel
theorem dJ7_copyOfRangeByte_39247_20 : decode cJ7_copyOfRangeByte_39247 20 = .ok (.arraylength, 1) := by decide +kernel
theorem dJ7_copyOfRangeByte_39247_21 : decode cJ7_copyOfRangeByte_39247 21 = .ok (.iload_n 1, 1) := by decide +kernel
theorem dJ7_copyOfRangeByte_39247_22 : decode cJ7_copyOfRangeByte_39247 22 = .ok (.isub, 1) := by decide +kernel
theorem dJ7_copyOfRangeByte_39247_23 : decode cJ7_copyOfRangeByte_39247 23 = .ok (.iload_n 3, 1) := by decide +kernel
theorem dJ7_copyOfRangeByte_39247_24 : decode cJ7_copyOfRangeByte_39247 24 = .ok (.invokestatic 304, 3) := by decide +kernel
theorem dJ7_copyOfRangeByte_39247_27 : decode cJ7_copyOfRangeByte_39247 27 = .ok (.invokestatic 150, 3) := by decide +kernel
theorem dJ7_copyOfRangeByte_39247_30 : decode cJ7_copyOfRangeByte_39247 30 = .ok (.aload 4, 2) := by decide +kernel
theorem dJ7_copyOfRangeByte_39247_32 : decode cJ7_copyOfRangeByte_39247 32 = .ok (.areturn, 1) := by decide +kernel
abbrev MJ7_copyOfRangeByte_39247 : JM := (cJ7_copyOfRangeByte_39247, 5, RJ7, (some (.array .byte)), yJ7_copyOfRangeByte_39247)
theorem jn_J7_copyOfRangeByte_39247 : jnm MJ7_copyOfRangeByte_39247 3 := by decide +kernel
theorem jp_J7_copyOfRangeByte_39247 : plainName MJ7_copyOfRangeByte_39247.2.2.2.2.cls = true := by decide +kernel
theorem dJ7_copyOfRange_39247_0 : decode cJ7_copyOfRange_39247 0 = .ok (.iload_n 1, 1) := by decide +kernel
theorem dJ7_copyOfRange_39247_1 : decode cJ7_copyOfRange_39247 1 = .ok (.ifCond .ne 9, 3) := by decide +kernel
theorem dJ7_copyOfRange_39247_4 : decode cJ7_copyOfRange_39247 4 = .ok (.iload_n 2, 1) := by decide +kernel
theorem dJ7_copyOfRange_39247_5 : decode cJ7_copyOfRange_39247 5 = .ok (.aload_n 0, 1) := by decide +kernel
theorem dJ7_copyOfRange_39247_6 : decode cJ7_copyOfRange_39247 6 = .ok (.arraylength, 1) := by decide +kernel
theorem dJ7_copyOfRange_39247_7 : decode cJ7_copyOfRange_39247 7 = .ok (.if_icmp .eq 10, 3) := by decide +kernel
theorem dJ7_copyOfRange_39247_10 : decode cJ7_copyOfRange_39247 10 = .ok (.aload_n 0, 1) := by decide +kernel
theorem dJ7_copyOfRange_39247_11 : decode cJ7_copyOfRange_39247 11 = .ok (.iload_n 1, 1) := by decide +kernel
theorem dJ7_copyOfRange_39247_12 : decode cJ7_copyOfRange_39247 12 = .ok (.iload_n 2, 1) := by decide +kernel
theorem dJ7_copyOfRange_39247_13 : decode cJ7_copyOfRange_39247 13 = .ok (.invokestatic 339, 3) := by decide +kernel
theorem dJ7_copyOfRange_39247_16 : decode cJ7_copyOfRange_39247 16 = .ok (.areturn, 1) := by decide +kernel
theorem dJ7_copyOfRange_39247_17 : decode cJ7_copyOfRange_39247 17 = .ok (.aload_n 0, 1) := by decide +kernel
theorem dJ7_copyOfRange_39247_18 : decode cJ7_copyOfRange_39247 18 = .ok (.invokevirtual 310, 3) := by decide +kernel
theorem dJ7_copyOfRange_39247_21 : decode cJ7_copyOfRange_39247 21 = .ok (.checkcast 311, 3) := by decide +kernel
theorem dJ7_copyOfRange_39247_24 : decode cJ7_copyOfRange_39247 24 = .ok (.areturn, 1) := by decide +kernel
abbrev MJ7_copyOfRange_39247 : JM := (cJ7_copyOfRange_39247, 3, RJ7, (some (.array .byte)), yJ7_copyOfRange_39247)
theorem jn_J7_copyOfRange_39247 : jnm MJ7_copyOfRange_39247 3 := by decide +kernel
theorem jp_J7_copyOfRange_39247 : plainName MJ7_copyOfRange_39247.2.2.2.2.cls = true := by decide +kernel
theorem dJ0_init_db425_0 : decode cJ0_init_db425 0 = .ok (.aload_n 0, 1) := by decide +kernel
theorem dJ0_init_db425_1 : decode cJ0_init_db425 1 = .ok (.invokespecial 1, 3) := by decide +kernel
theorem dJ0_init_db425_4 : decode cJ0_init_db425 4 = .ok (.aload_n 1, 1) := by decide +kernel
theorem dJ0_init_db425_5 : decode cJ0_init_db425 5 = .ok (.invokevirtual 552, 3) := by decide +kernel
theorem dJ0_init_db425_8 : decode cJ0_init_db425 8 = .ok (.astore_n 3, 1) := by decide +kernel
theorem dJ0_init_db425_9 : decode cJ0_init_db425 9 = .ok (.aload_n 1, 1) := by decide +kernel
theorem dJ0_init_db425_10 : decode cJ0_init_db425 10 = .ok (.invokevirtual 549, 3) := by decide +kernel
theorem dJ0_init_db425_13 : decode cJ0_init_db425 13 = .ok (.istore 4, 2) := by decide +kernel
theorem dJ0_init_db425_15 : decode cJ0_init_db425 15 = .ok (.aload_n 1, 1) := by decide +kernel
theorem dJ0_init_db425_16 : decode cJ0_init_db425 16 = .ok (.invokevirtual 1047, 3) := by decide +kernel
theorem dJ0_init_db425_19 : decode cJ0_init_db425 19 = .ok (.ifCond .eq 22, 3) := by decide +kernel
theorem dJ0_init_db425_22 : decode cJ0_init_db425 22 = .ok (.aload_n 0, 1) := by decide +kernel
theorem dJ0_init_db425_23 : decode cJ0_init_db425 23 = .ok (.iconst 0, 1) := by decide +kernel
theorem dJ0_init_db425_24 : decode cJ0_init_db425 24 = .ok (.putfield 15, 3) := by decide +kernel
theorem dJ0_init_db425_27 : decode cJ0_init_db425 27 = .ok (.aload_n 0, 1) := by decide +kernel
theorem dJ0_init_db425_28 : decode cJ0_init_db425 28 = .ok (.aload_n 3, 1) := by decide +kernel
theorem dJ0_init_db425_29 : decode cJ0_init_db425 29 = .ok (.iconst 0, 1) := by decide +kernel
theorem dJ0_init_db425_30 : decode cJ0_init_db425 30 = .ok (.iload 4, 2) := by decide +kernel
theorem dJ0_init_db425_32 : decode cJ0_init_db425 32 = .ok (.invokestatic 54, 3) := by decide +kernel
theorem dJ0_init_db425_35 : decode cJ0_init_db425 35 = .ok (.putfield 9, 3) := by decide +kernel
theorem dJ0_init_db425_38 : decode cJ0_init_db425 38 = .ok (.goto 59, 3) := by decide +kernel
theorem dJ0_init_db425_41 : decode cJ0_init_db425 41 = .ok (.getstatic 38, 3) := by decide +kernel
theorem dJ0_init_db425_44 : decode cJ0_init_db425 44 = .ok (.ifCond .eq 35, 3) := by decide +kernel
theorem dJ0_init_db425_47 : decode cJ0_init_db425 47 = .ok (.aload_n 1, 1) := by decide +kernel
theorem dJ0_init_db425_48 : decode cJ0_init_db425 48 = .ok (.getfield 1048, 3) := by decide +kernel
theorem dJ0_init_db425_51 : decode cJ0_init_db425 51 = .ok (.ifCond .eq 28, 3) := by decide +kernel
theorem dJ0_init_db425_54 : decode cJ0_init_db425 54 = .ok (.aload_n 0, 1) := by decide +kernel
theorem dJ0_init_db425_55 : decode cJ0_init_db425 55 = .ok (.aload_n 3, 1) := by decide +kernel
theorem dJ0_init_db425_56 : decode cJ0_init_db425 56 = .ok (.iconst 0, 1) := by decide +kernel
theorem dJ0_init_db425_57 : decode cJ0_init_db425 57 = .ok (.iload 4, 2) := by decide +kernel
theorem dJ0_init_db425_59 : decode cJ0_init_db425 59 = .ok (.invokestatic 1051, 3) := by decide +kernel
theorem dJ0_init_db425_62 : decode cJ0_init_db425 62 = .ok (.putfield 9, 3) := by decide +kernel
theorem dJ0_init_db425_65 : decode cJ0_init_db425 65 = .ok (.aload_n 0, 1) := by decide +kernel
theorem dJ0_init_db425_66 : decode cJ0_init_db425 66 = .ok (.aload_n 0, 1) := by decide +kernel
theorem dJ0_init_db425_67 : decode cJ0_init_db425 67 = .ok (.getfield 9, 3) := by decide +kernel
theorem dJ0_init_db425_70 : decode cJ0_init_db425 70 = .ok (.iload 4, 2) := by decide +kernel
theorem dJ0_init_db425_72 : decode cJ0_init_db425 72 = .ok (.invokestatic 47, 3) := by decide +kernel
theorem dJ0_init_db425_75 : decode cJ0_init_db425 75 = .ok (.putfield 15, 3) := by decide +kernel
theorem dJ0_init_db425_78 : decode cJ0_init_db425 78 = .ok (.return_, 1) := by decide +kernel
theorem dJ0_init_db425_79 : decode cJ0_init_db425 79 = .ok (.aload_n 0, 1) := by decide +kernel
theorem dJ0_init_db425_80 : decode cJ0_init_db425 80 = .ok (.iconst 1, 1) := by decide +kernel
theorem dJ0_init_db425_81 : decode cJ0_init_db425 81 = .ok (.putfield 15, 3) := by decide +kernel
theorem dJ0_init_db425_84 : decode cJ0_init_db425 84 = .ok (.aload_n 0, 1) := by decide +kernel
theorem dJ0_init_db425_85 : decode cJ0_init_db425 85 = .ok (.aload_n 3, 1) := by decide +kernel
theorem dJ0_init_db425_86 : decode cJ0_init_db425 86 = .ok (.iconst 0, 1) := by decide +kernel
theorem dJ0_init_db425_87 : decode cJ0_init_db425 87 = .ok (.iload 4, 2) := by decide +kernel
theorem dJ0_init_db425_89 : decode cJ0_init_db425 89 = .ok (.iconst 1, 1) := by decide +kernel
theorem dJ0_init_db425_90 : decode cJ0_init_db425 90 = .ok (.ishl, 1) := by decide +kernel
theorem dJ0_init_db425_91 : decode cJ0_init_db425 91 = .ok (.invokestatic 54, 3) := by decide +kernel
theorem dJ0_init_db425_94 : decode cJ0_init_db425 94 = .ok (.putfield 9, 3) := by decide +kernel
theorem dJ0_init_db425_97 : decode cJ0_init_db425 97 = .ok (.return_, 1) := by decide +kernel
abbrev MJ0_init_db425 : JM := (cJ0_init_db425, 5, RJ0, none, yJ0_init_db425)
theorem jn_J0_init_db425 : jnm MJ0_init_db425 2 := by decide +kernel
theorem jp_J0_init_db425 : plainName MJ0_init_db425.2.2.2.2.cls = true := by decide +kernel
theorem dJ0_init_81219_0 : decode cJ0_init_81219 0 = .ok (.aload_n 0, 1) := by decide +kernel
theorem dJ0_init_81219_1 : decode cJ0_init_81219 1 = .ok (.aload_n 1, 1) := by decide +kernel
theorem dJ0_init_81219_2 : decode cJ0_init_81219 2 = .ok (.aconst_null, 1) := by decide +kernel
theorem dJ0_init_81219_3 : decode cJ0_init_81219 3 = .ok (.invokespecial 489, 3) := by decide +kernel
theorem dJ0_init_81219_6 : decode cJ0_init_81219 6 = .ok (.return_, 1) := by decide +kernel
abbrev MJ0_init_81219 : JM := (cJ0_init_81219, 2, RJ0, none, yJ0_init_81219)
theorem jn_J0_init_81219 : jnm MJ0_init_81219 1 := by decide +kernel
theorem jp_J0_init_81219 : plainName MJ0_init_81219.2.2.2.2.cls = true := by decide +kernel
theorem dJ4_toString_0e30d_0 : decode cJ4_toString_0e30d 0 = .ok (.new 18, 3) := by decide +kernel
theorem dJ4_toString_0e30d_3 : decode cJ4_toString_0e30d 3 = .ok (.dup, 1) := by decide +kernel
theorem dJ4_toString_0e30d_4 : decode cJ4_toString_0e30d 4 = .ok (.aload_n 0, 1) := by decide +kernel
theorem dJ4_toString_0e30d_5 : decode cJ4_toString_0e30d 5 = .ok (.invokespecial 137, 3) := by decide +kernel
theorem dJ4_toString_0e30d_8 : decode cJ4_toString_0e30d 8 = .ok (.areturn, 1) := by decide +kernel
abbrev MJ4_toString_0e30d : JM := (cJ4_toString_0e30d, 1, RJ4, (some (.object "java/lang/String")), yJ4_toString_0e30d)
theorem jn_J4_toString_0e30d : jnm MJ4_toString_0e30d 0 := by decide +kernel
theorem jp_J4_toString_0e30d : plainName MJ4_toString_0e30d.2.2.2.2.cls = true := by decide +kernel
theorem dJ0_init_031fb_0 : decode cJ0_init_031fb 0 = .ok (.aload_n 0, 1) := by decide +kernel
theorem dJ0_init_031fb_1 : decode cJ0_init_031fb 1 = .ok (.invokespecial 1, 3) := by decide +kernel
theorem dJ0_init_031fb_4 : decode cJ0_init_031fb 4 = .ok (.aload_n 0, 1) := by decide +kernel
theorem dJ0_init_031fb_5 : decode cJ0_init_031fb 5 = .ok (.aload_n 1, 1) := by decide +kernel
theorem dJ0_init_031fb_6 : decode cJ0_init_031fb 6 = .ok (.putfield 9, 3) := by decide +kernel
theorem dJ0_init_031fb_9 : decode cJ0_init_031fb 9 = .ok (.aload_n 0, 1) := by decide +kernel
theorem dJ0_init_031fb_10 : decode cJ0_init_031fb 10 = .ok (.iload_n 2, 1) := by decide +kernel
theorem dJ0_init_031fb_11 : decode cJ0_init_031fb 11 = .ok (.putfield 15, 3) := by decide +kernel
theorem dJ0_init_031fb_14 : decode cJ0_init_031fb 14 = .ok (.return_, 1) := by decide +kernel
abbrev MJ0_init_031fb : JM := (cJ0_init_031fb, 3, RJ0, none, yJ0_init_031fb)
theorem jn_J0_init_031fb : jnm MJ0_init_031fb 2 := by decide +kernel
theorem jp_J0_init_031fb : plainName MJ0_init_031fb.2.2.2.2.cls = true := by decide +kernel
theorem dJ1_newString_b4f7a_0 : decode cJ1_newString_b4f7a 0 = .ok (.iload_n 2, 1) := by decide +kernel
theorem dJ1_newString_b4f7a_1 : decode cJ1_newString_b4f7a 1 = .ok (.ifCond .ne 6, 3) := by decide +kernel
theorem dJ1_newString_b4f7a_4 : decode cJ1_newString_b4f7a 4 = .ok (.ldc 151, 2) := by decide +kernel
theorem dJ1_newString_b4f7a_6 : decode cJ1_newString_b4f7a 6 = .ok (.areturn, 1) := by decide +kernel
theorem dJ1_newString_b4f7a_7 : decode cJ1_newString_b4f7a 7 = .ok (.new 1, 3) := by decide +kernel
theorem dJ1_newString_b4f7a_10 : decode cJ1_newString_b4f7a 10 = .ok (.dup, 1) := by decide +kernel
theorem dJ1_newString_b4f7a_11 : decode cJ1_newString_b4f7a 11 = .ok (.aload_n 0, 1) := by decide +kernel
theorem dJ1_newString_b4f7a_12 : decode cJ1_newString_b4f7a 12 = .ok (.iload_n 1, 1) := by decide +kernel
theorem dJ1_newString_b4f7a_13 : decode cJ1_newString_b4f7a 13 = .ok (.iload_n 1, 1) := by decide +kernel
theorem dJ1_newString_b4f7a_14 : decode cJ1_newString_b4f7a 14 = .ok (.iload_n 2, 1) := by decide +kernel
theorem dJ1_newString_b4f7a_15 : decode cJ1_newString_b4f7a 15 = .ok (.iadd, 1) := by decide +kernel
theorem dJ1_newString_b4f7a_16 : decode cJ1_newString_b4f7a 16 = .ok (.invokestatic 232, 3) := by decide +kernel
theorem dJ1_newString_b4f7a_19 : decode cJ1_newString_b4f7a 19 = .ok (.iconst 0, 1) := by decide +kernel
theorem dJ1_newString_b4f7a_20 : decode cJ1_newString_b4f7a 20 = .ok (.invokespecial 112, 3) := by decide +kernel
theorem dJ1_newString_b4f7a_23 : decode cJ1_newString_b4f7a 23 = .ok (.areturn, 1) := by decide +kernel
abbrev MJ1_newString_b4f7a : JM := (cJ1_newString_b4f7a, 3, RJ1, (some (.object "java/lang/String")), yJ1_newString_b4f7a)
theorem jn_J1_newString_b4f7a : jnm MJ1_newString_b4f7a 3 := by decide +kernel
theorem jp_J1_newString_b4f7a : plainName MJ1_newString_b4f7a.2.2.2.2.cls = true := by decide +kernel
theorem dJ3_checkFromToIndex_8c36e_0 : decode cJ3_checkFromToIndex_8c36e 0 = .ok (.iload_n 0, 1) := by decide +kernel
theorem dJ3_checkFromToIndex_8c36e_1 : decode cJ3_checkFromToIndex_8c36e 1 = .ok (.ifCond .lt 13, 3) := by decide +kernel
theorem dJ3_checkFromToIndex_8c36e_4 : decode cJ3_checkFromToIndex_8c36e 4 = .ok (.iload_n 0, 1) := by decide +kernel
theorem dJ3_checkFromToIndex_8c36e_5 : decode cJ3_checkFromToIndex_8c36e 5 = .ok (.iload_n 1, 1) := by decide +kernel
theorem dJ3_checkFromToIndex_8c36e_6 : decode cJ3_checkFromToIndex_8c36e 6 = .ok (.if_icmp .gt 8, 3) := by decide +kernel
theorem dJ3_checkFromToIndex_8c36e_9 : decode cJ3_checkFromToIndex_8c36e 9 = .ok (.iload_n 1, 1) := by decide +kernel
theorem dJ3_checkFromToIndex_8c36e_10 : decode cJ3_checkFromToIndex_8c36e 10 = .ok (.iload_n 2, 1) := by decide +kernel
theorem dJ3_checkFromToIndex_8c36e_11 : decode cJ3_checkFromToIndex_8c36e 11 = .ok (.if_icmp .le 11, 3) := by decide +kernel
theorem dJ3_checkFromToIndex_8c36e_14 : decode cJ3_checkFromToIndex_8c36e 14 = .ok (.aload_n 3, 1) := by decide +kernel
theorem dJ3_checkFromToIndex_8c36e_15 : decode cJ3_checkFromToIndex_8c36e 15 = .ok (.iload_n 0, 1) := by decide +kernel
theorem dJ3_checkFromToIndex_8c36e_16 : decode cJ3_checkFromToIndex_8c36e 16 = .ok (.iload_n 1, 1) := by decide +kernel
theorem dJ3_checkFromToIndex_8c36e_17 : decode cJ3_checkFromToIndex_8c36e 17 = .ok (.iload_n 2, 1) := by decide +kernel
theorem dJ3_checkFromToIndex_8c36e_18 : decode cJ3_checkFromToIndex_8c36e 18 = .ok (.invokestatic 99, 3) := by decide +kernel
theorem dJ3_checkFromToIndex_8c36e_21 : decode cJ3_checkFromToIndex_8c36e 21 = .ok (.athrow, 1) := by decide +kernel
theorem dJ3_checkFromToIndex_8c36e_22 : decode cJ3_checkFromToIndex_8c36e 22 = .ok (.iload_n 0, 1) := by decide +kernel
theorem dJ3_checkFromToIndex_8c36e_23 : decode cJ3_checkFromToIndex_8c36e 23 = .ok (.ireturn, 1) := by decide +kernel
abbrev MJ3_checkFromToIndex_8c36e : JM := (cJ3_checkFromToIndex_8c36e, 4, RJ3, (some .int), yJ3_checkFromToIndex_8c36e)
theorem jn_J3_checkFromToIndex_8c36e : jnm MJ3_checkFromToIndex_8c36e 4 := by decide +kernel
theorem jp_J3_checkFromToIndex_8c36e : plainName MJ3_checkFromToIndex_8c36e.2.2.2.2.cls = true := by decide +kernel
theorem dJ0_checkBoundsBeginEnd_23922_0 : decode cJ0_checkBoundsBeginEnd_23922 0 = .ok (.iload_n 0, 1) := by decide +kernel
theorem dJ0_checkBoundsBeginEnd_23922_1 : decode cJ0_checkBoundsBeginEnd_23922 1 = .ok (.iload_n 1, 1) := by decide +kernel
theorem dJ0_checkBoundsBeginEnd_23922_2 : decode cJ0_checkBoundsBeginEnd_23922 2 = .ok (.iload_n 2, 1) := by decide +kernel
theorem dJ0_checkBoundsBeginEnd_23922_3 : decode cJ0_checkBoundsBeginEnd_23922 3 = .ok (.getstatic 1053, 3) := by decide +kernel
theorem dJ0_checkBoundsBeginEnd_23922_6 : decode cJ0_checkBoundsBeginEnd_23922 6 = .ok (.invokestatic 1062, 3) := by decide +kernel
theorem dJ0_checkBoundsBeginEnd_23922_9 : decode cJ0_checkBoundsBeginEnd_23922 9 = .ok (.pop, 1) := by decide +kernel
theorem dJ0_checkBoundsBeginEnd_23922_10 : decode cJ0_checkBoundsBeginEnd_23922 10 = .ok (.return_, 1) := by decide +kernel
abbrev MJ0_checkBoundsBeginEnd_23922 : JM := (cJ0_checkBoundsBeginEnd_23922, 3, RJ0, none, yJ0_checkBoundsBeginEnd_23922)
theorem jn_J0_checkBoundsBeginEnd_23922 : jnm MJ0_checkBoundsBeginEnd_23922 3 := by decide +kernel
theorem jp_J0_checkBoundsBeginEnd_23922 : plainName MJ0_checkBoundsBeginEnd_23922.2.2.2.2.cls = true := by decide +kernel
theorem dJ0_substring_37a41_0 : decode cJ0_substring_37a41 0 = .ok (.aload_n 0, 1) := by decide +kernel
theorem dJ0_substring_37a41_1 : decode cJ0_substring_37a41 1 = .ok (.invokevirtual 505, 3) := by decide +kernel
theorem dJ0_substring_37a41_4 : decode cJ0_substring_37a41 4 = .ok (.istore_n 3, 1) := by decide +kernel
theorem dJ0_substring_37a41_5 : decode cJ0_substring_37a41 5 = .ok (.iload_n 1, 1) := by decide +kernel
theorem dJ0_substring_37a41_6 : decode cJ0_substring_37a41 6 = .ok (.iload_n 2, 1) := by decide +kernel
theorem dJ0_substring_37a41_7 : decode cJ0_substring_37a41 7 = .ok (.iload_n 3, 1) := by decide +kernel
theorem dJ0_substring_37a41_8 : decode cJ0_substring_37a41 8 = .ok (.invokestatic 521, 3) := by decide +kernel
theorem dJ0_substring_37a41_11 : decode cJ0_substring_37a41 11 = .ok (.iload_n 1, 1) := by decide +kernel
theorem dJ0_substring_37a41_12 : decode cJ0_substring_37a41 12 = .ok (.ifCond .ne 10, 3) := by decide +kernel
theorem dJ0_substring_37a41_15 : decode cJ0_substring_37a41 15 = .ok (.iload_n 2, 1) := by decide +kernel
theorem dJ0_substring_37a41_16 : decode cJ0_substring_37a41 16 = .ok (.iload_n 3, 1) := by decide +kernel
theorem dJ0_substring_37a41_17 : decode cJ0_substring_37a41 17 = .ok (.if_icmp .ne 5, 3) := by decide +kernel
theorem dJ0_substring_37a41_20 : decode cJ0_substring_37a41 20 = .ok (.aload_n 0, 1) := by decide +kernel
theorem dJ0_substring_37a41_21 : decode cJ0_substring_37a41 21 = .ok (.areturn, 1) := by decide +kernel
theorem dJ0_substring_37a41_22 : decode cJ0_substring_37a41 22 = .ok (.iload_n 2, 1) := by decide +kernel
theorem dJ0_substring_37a41_23 : decode cJ0_substring_37a41 23 = .ok (.iload_n 1, 1) := by decide +kernel
theorem dJ0_substring_37a41_24 : decode cJ0_substring_37a41 24 = .ok (.isub, 1) := by decide +kernel
theorem dJ0_substring_37a41_25 : decode cJ0_substring_37a41 25 = .ok (.istore 4, 2) := by decide +kernel
theorem dJ0_substring_37a41_27 : decode cJ0_substring_37a41 27 = .ok (.aload_n 0, 1) := by decide +kernel
theorem dJ0_substring_37a41_28 : decode cJ0_substring_37a41 28 = .ok (.invokevirtual 492, 3) := by decide +kernel
theorem dJ0_substring_37a41_31 : decode cJ0_substring_37a41 31 = .ok (.ifCond .eq 16, 3) := by decide +kernel
theorem dJ0_substring_37a41_34 : decode cJ0_substring_37a41 34 = .ok (.aload_n 0, 1) := by decide +kernel
theorem dJ0_substring_37a41_35 : decode cJ0_substring_37a41 35 = .ok (.getfield 9, 3) := by decide +kernel
theorem dJ0_substring_37a41_38 : decode cJ0_substring_37a41 38 = .ok (.iload_n 1, 1) := by decide +kernel
theorem dJ0_substring_37a41_39 : decode cJ0_substring_37a41 39 = .ok (.iload 4, 2) := by decide +kernel
theorem dJ0_substring_37a41_41 : decode cJ0_substring_37a41 41 = .ok (.invokestatic 685, 3) := by decide +kernel
theorem dJ0_substring_37a41_44 : decode cJ0_substring_37a41 44 = .ok (.goto 13, 3) := by decide +kernel
theorem dJ0_substring_37a41_47 : decode cJ0_substring_37a41 47 = .ok (.aload_n 0, 1) := by decide +kernel
theorem dJ0_substring_37a41_48 : decode cJ0_substring_37a41 48 = .ok (.getfield 9, 3) := by decide +kernel
theorem dJ0_substring_37a41_51 : decode cJ0_substring_37a41 51 = .ok (.iload_n 1, 1) := by decide +kernel
theorem dJ0_substring_37a41_52 : decode cJ0_substring_37a41 52 = .ok (.iload 4, 2) := by decide +kernel
theorem dJ0_substring_37a41_54 : decode cJ0_substring_37a41 54 = .ok (.invokestatic 689, 3) := by decide +kernel
theorem dJ0_substring_37a41_57 : decode cJ0_substring_37a41 57 = .ok (.areturn, 1) := by decide +kernel
abbrev MJ0_substring_37a41 : JM := (cJ0_substring_37a41, 5, RJ0, (some (.object "java/lang/String")), yJ0_substring_37a41)
theorem jn_J0_substring_37a41 : jnm MJ0_substring_37a41 2 := by decide +kernel
theorem jp_J0_substring_37a41 : plainName MJ0_substring_37a41.2.2.2.2.cls = true := by decide +kernel
theorem jw_910 : Cond.methodLink RJ7 343 yJ7_checkLength_df160 ∈ jGL := jmem 910 (by decide +kernel) rfl
theorem jw_911 : Cond.static yJ7_checkLength_df160 ∈ jGL := jmem 911 (by decide +kernel) rfl
theorem jw_912 : Cond.code yJ7_checkLength_df160 cJ7_checkLength_df160 2 none ∈ jGL := jmem 912 (by decide +kernel) rfl
theorem jw_796 : Cond.methodLink RJ7 310 ⟨"[B", "clone", "()Ljava/lang/Object;"⟩ ∈ jGL := jmem 796 (by decide +kernel) rfl
theorem jw_802 : Cond.classLink RJ7 311 "[B" ∈ jGL := jmem 802 (by decide +kernel) rfl
theorem jw_907 : Cond.methodLink RJ7 339 yJ7_copyOfRangeByte_39247 ∈ jGL := jmem 907 (by decide +kernel) rfl
theorem jw_908 : Cond.static yJ7_copyOfRangeByte_39247 ∈ jGL := jmem 908 (by decide +kernel) rfl
theorem jw_909 : Cond.code yJ7_copyOfRangeByte_39247 cJ7_copyOfRangeByte_39247 5 (some (.array .byte)) ∈ jGL := jmem 909 (by decide +kernel) rfl
theorem jw_916 : Cond.methodLink RJ0 1 Lib.objectInit ∈ jGL := jmem 916 (by decide +kernel) rfl
theorem jw_959 : Cond.methodLink RJ0 552 yJ5_getValue_6d5f1 ∈ jGL := jmem 959 (by decide +kernel) rfl
theorem jw_960 : Cond.instanceMethod yJ5_getValue_6d5f1 ∈ jGL := jmem 960 (by decide +kernel) rfl
theorem jw_963 : Cond.code yJ5_getValue_6d5f1 cJ5_getValue_6d5f1 1 (some (.array .byte)) ∈ jGL := jmem 963 (by decide +kernel) rfl
theorem jw_962 : Cond.selects RJ4 yJ5_getValue_6d5f1 yJ5_getValue_6d5f1 ∈ jGL := jmem 962 (by decide +kernel) rfl
theorem jw_964 : Cond.methodLink RJ0 549 yJ5_length_8abf5 ∈ jGL := jmem 964 (by decide +kernel) rfl
theorem jw_968 : Cond.instanceMethod yJ4_length_8abf5 ∈ jGL := jmem 968 (by decide +kernel) rfl
theorem jw_967 : Cond.selects RJ4 yJ5_length_8abf5 yJ4_length_8abf5 ∈ jGL := jmem 967 (by decide +kernel) rfl
theorem jw_58 : Cond.initialized RJ4 ∈ jGL := jmem 58 (by decide +kernel) rfl
theorem jw_969 : Cond.code yJ4_length_8abf5 cJ4_length_8abf5 1 (some .int) ∈ jGL := jmem 969 (by decide +kernel) rfl
theorem jw_972 : Cond.methodLink RJ0 1047 yJ5_isLatin1_aae02 ∈ jGL := jmem 972 (by decide +kernel) rfl
theorem jw_808 : Cond.instanceMethod yJ5_isLatin1_aae02 ∈ jGL := jmem 808 (by decide +kernel) rfl
theorem jw_811 : Cond.code yJ5_isLatin1_aae02 cJ5_isLatin1_aae02 1 (some .boolean) ∈ jGL := jmem 811 (by decide +kernel) rfl
theorem jw_810 : Cond.selects RJ4 yJ5_isLatin1_aae02 yJ5_isLatin1_aae02 ∈ jGL := jmem 810 (by decide +kernel) rfl
theorem jw_973 : Cond.methodLink RJ0 54 yJ7_copyOfRange_39247 ∈ jGL := jmem 973 (by decide +kernel) rfl
theorem jw_905 : Cond.static yJ7_copyOfRange_39247 ∈ jGL := jmem 905 (by decide +kernel) rfl
theorem jw_906 : Cond.code yJ7_copyOfRange_39247 cJ7_copyOfRange_39247 3 (some (.array .byte)) ∈ jGL := jmem 906 (by decide +kernel) rfl
theorem jw_956 : Cond.methodLink RJ0 489 yJ0_init_db425 ∈ jGL := jmem 956 (by decide +kernel) rfl
theorem jw_957 : Cond.instanceMethod yJ0_init_db425 ∈ jGL := jmem 957 (by decide +kernel) rfl
theorem jw_958 : Cond.code yJ0_init_db425 cJ0_init_db425 5 none ∈ jGL := jmem 958 (by decide +kernel) rfl
theorem jw_952 : Cond.classLink RJ4 18 RJ0 ∈ jGL := jmem 952 (by decide +kernel) rfl
theorem jw_903 : Cond.instantiable RJ0 4 ∈ jGL := jmem 903 (by decide +kernel) rfl
theorem jw_953 : Cond.methodLink RJ4 137 yJ0_init_81219 ∈ jGL := jmem 953 (by decide +kernel) rfl
theorem jw_954 : Cond.instanceMethod yJ0_init_81219 ∈ jGL := jmem 954 (by decide +kernel) rfl
theorem jw_955 : Cond.code yJ0_init_81219 cJ0_init_81219 2 none ∈ jGL := jmem 955 (by decide +kernel) rfl
theorem jw_902 : Cond.classLink RJ1 1 RJ0 ∈ jGL := jmem 902 (by decide +kernel) rfl
theorem jw_904 : Cond.methodLink RJ1 232 yJ7_copyOfRange_39247 ∈ jGL := jmem 904 (by decide +kernel) rfl
theorem jw_913 : Cond.methodLink RJ1 112 yJ0_init_031fb ∈ jGL := jmem 913 (by decide +kernel) rfl
theorem jw_914 : Cond.instanceMethod yJ0_init_031fb ∈ jGL := jmem 914 (by decide +kernel) rfl
theorem jw_915 : Cond.code yJ0_init_031fb cJ0_init_031fb 3 none ∈ jGL := jmem 915 (by decide +kernel) rfl
theorem jw_826 : Cond.methodLink RJ0 1062 yJ3_checkFromToIndex_8c36e ∈ jGL := jmem 826 (by decide +kernel) rfl
theorem jw_827 : Cond.static yJ3_checkFromToIndex_8c36e ∈ jGL := jmem 827 (by decide +kernel) rfl
theorem jw_828 : Cond.code yJ3_checkFromToIndex_8c36e cJ3_checkFromToIndex_8c36e 4 (some .int) ∈ jGL := jmem 828 (by decide +kernel) rfl
theorem jw_898 : Cond.methodLink RJ0 685 yJ1_newString_b4f7a ∈ jGL := jmem 898 (by decide +kernel) rfl
theorem jw_899 : Cond.static yJ1_newString_b4f7a ∈ jGL := jmem 899 (by decide +kernel) rfl
theorem jw_900 : Cond.code yJ1_newString_b4f7a cJ1_newString_b4f7a 3 (some (.object "java/lang/String")) ∈ jGL := jmem 900 (by decide +kernel) rfl
theorem jw_893 : Cond.methodLink RJ0 521 yJ0_checkBoundsBeginEnd_23922 ∈ jGL := jmem 893 (by decide +kernel) rfl
theorem jw_822 : Cond.static yJ0_checkBoundsBeginEnd_23922 ∈ jGL := jmem 822 (by decide +kernel) rfl
theorem jw_823 : Cond.code yJ0_checkBoundsBeginEnd_23922 cJ0_checkBoundsBeginEnd_23922 3 none ∈ jGL := jmem 823 (by decide +kernel) rfl
/-! making texts -/
theorem t_checkLength {xs : Nat × (Nat × (Nat → Int32))} {o : Option (Nat × (Nat × List Nat))} {a e : Nat} (hae : a ≤ e) (he : e < 2 ^ 31) : jSG MJ7_checkLength_df160 0 0 0 [jI (nI a), jI (nI e)] (xs, o) (fun _ => []) (fun _ r X => r = jU ∧ X = []) := by
  refine jSG_of jp_J7_checkLength_df160 rfl (Nat.le_of_ble_eq_true rfl) (fun C hm hS hi => ?_)
  have hT := jsx_t hS.1
  have hX := (jsx_x hS.1).symm
  refine jg_iload_n hm.1 (i := 1) rfl rfl dJ7_checkLength_df160_0 ?_
  refine jg_iload_n hm.1 (i := 0) rfl rfl dJ7_checkLength_df160_1 ?_
  refine jg_icmp_ge hm.1 (tgt := 37) dJ7_checkLength_df160_2 (by decide) (fun _ => ?_) (fun h => absurd (nI_le hae he) h)
  exact jt_ret hm rfl (Nat.le_of_ble_eq_true rfl) (Nat.le_of_ble_eq_true rfl) dJ7_checkLength_df160_37 ⟨rfl, rfl⟩
theorem jmin_eq {a e m : Nat} (hae : a ≤ e) (hem : e ≤ m) (hm : m < 2 ^ 31) : (if nI (e - a) < nI (m - a) then nI (e - a) else nI (m - a)) = nI (e - a) := by
  by_cases h : e - a < m - a
  · exact if_pos (nI_lt h (by omega))
  · rw [if_neg (nI_nlt (by omega) (by omega)), show m - a = e - a by omega]
theorem t_crbC {xs : Nat × (Nat × (Nat → Int32))} {o : Option (Nat × (Nat × List Nat))} {v m a e : Nat} {f : Nat → Int32} (hae : a ≤ e) (hem : e ≤ m) (hm1 : m ≤ 4000) (hf : sb_Fit f) : jSG MJ7_copyOfRangeByte_39247 1 1 4000 [jR v false, jI (nI a), jI (nI e)] (xs, o) (fun cs => [(v, .inl (cs 1, m, .inl f))]) (fun cs r X => ∃ (v2 : Nat) (f2 : Nat → Int32), r = jR v2 false ∧ X = [(v, .inl (cs 1, m, .inl f)), (v2, .inl (cs 1, e - a, .inl f2))] ∧ (∀ j, j < e - a → f2 j = f (a + j)) ∧ sb_Fit f2) := by
  refine jSG_of jp_J7_copyOfRangeByte_39247 rfl (Nat.le_of_ble_eq_true rfl) (fun C hm hS hi => ?_)
  have hT := jsx_t hS.1
  have hX := (jsx_x hS.1).symm
  refine jg_iload_n hm.1 (i := 1) rfl rfl dJ7_copyOfRangeByte_39247_0 ?_
  refine jg_iload_n hm.1 (i := 2) rfl rfl dJ7_copyOfRangeByte_39247_1 ?_
  refine jt_callS (wr := [(v, .inl (jcs C 1, m, .inl f))]) (as := [jI (nI a), jI (nI e)]) (st := []) hm (t_checkLength hae (by omega)) rfl ⟨hX, hS.2⟩ (jTa_same hT) (by omega) (Nat.le_of_ble_eq_true rfl) (Nat.le_of_ble_eq_true rfl) jw_910 jw_911 jw_63 jw_912 jn_J7_checkLength_df160 rfl rfl (Nat.le_of_ble_eq_true rfl) rfl dJ7_copyOfRangeByte_39247_2 ?_
  rintro _ _ ⟨rfl, rfl⟩
  refine jg_iload_n hm.1 (i := 2) rfl rfl dJ7_copyOfRangeByte_39247_5 ?_
  refine jg_iload_n hm.1 (i := 1) rfl rfl dJ7_copyOfRangeByte_39247_6 ?_
  refine jg_isub hm.1 dJ7_copyOfRangeByte_39247_7 ?_
  rw [pk_sub hae]
  refine jg_istore_n hm.1 (i := 3) rfl (Nat.le_of_ble_eq_true rfl) rfl dJ7_copyOfRangeByte_39247_8 ?_
  refine jg_iload_n hm.1 (i := 3) rfl rfl dJ7_copyOfRangeByte_39247_9 ?_
  refine jg_newb hm.1 (N := e - a) (nI_pos (by omega)) (nI_clamp (by omega)) (by omega) (Nat.le_of_ble_eq_true rfl) (by omega) dJ7_copyOfRangeByte_39247_10 (fun v2 => ?_)
  refine jg_astore hm.1 (i := 4) (Nat.le_of_ble_eq_true rfl) rfl dJ7_copyOfRangeByte_39247_12 ?_
  refine jg_aload_n hm.1 (i := 0) rfl rfl dJ7_copyOfRangeByte_39247_14 ?_
  refine jg_iload_n hm.1 (i := 1) rfl rfl dJ7_copyOfRangeByte_39247_15 ?_
  refine jg_aload hm.1 (i := 4) rfl dJ7_copyOfRangeByte_39247_16 ?_
  refine jg_iconst hm.1 (v := 0) (by decide) dJ7_copyOfRangeByte_39247_18 ?_
  refine jg_aload_n hm.1 (i := 0) rfl rfl dJ7_copyOfRangeByte_39247_19 ?_
  refine jg_alenb hm.1 0 rfl dJ7_copyOfRangeByte_39247_20 ?_
  refine jg_iload_n hm.1 (i := 1) rfl rfl dJ7_copyOfRangeByte_39247_21 ?_
  refine jg_isub hm.1 dJ7_copyOfRangeByte_39247_22 ?_
  rw [pk_sub (show a ≤ m by omega)]
  refine jg_iload_n hm.1 (i := 3) rfl rfl dJ7_copyOfRangeByte_39247_23 ?_
  refine jg_mmin hm.1 jw_803 jw_241 jw_62 jw_242 (by omega) (Nat.le_of_ble_eq_true rfl) (by omega) (Nat.le_of_ble_eq_true rfl) rfl dJ7_copyOfRangeByte_39247_24 ?_
  rw [show (if nI (e - a) < nI (m - a) then nI (e - a) else nI (m - a)) = nI (e - a) from jmin_eq hae hem (by omega)]
  refine jg_copyb hm.1 0 1 rfl rfl (by omega) jw_804 (nI_pos (by omega)) (by decide) (nI_pos (by omega)) (by rw [nI_clamp (by omega), nI_clamp (by omega)]; omega) (by rw [nI_clamp (by omega), sb_cl0]; omega) (fun i _ => hf _) rfl dJ7_copyOfRangeByte_39247_27 ?_
  rw [nI_clamp (show e - a < 2 ^ 31 by omega), nI_clamp (show a < 2 ^ 31 by omega), sb_cl0]
  refine jg_aload hm.1 (i := 4) rfl dJ7_copyOfRangeByte_39247_30 ?_
  refine jt_aret hm rfl (Or.inr ⟨_, rfl⟩) (Nat.le_of_ble_eq_true rfl) (by omega) dJ7_copyOfRangeByte_39247_32 ⟨v2, _, rfl, rfl, fun j hj => ?_, sb_fitC hf sb_fit0⟩
  rw [pk_cpy_in (Nat.zero_le j) (by omega), Nat.sub_zero]
theorem t_crbT {xs : Nat × (Nat × (Nat → Int32))} {h v a e : Nat} {t : List Nat} (hae : a ≤ e) (hem : e ≤ t.length) (hm1 : t.length ≤ 4000) (ha : ∀ x ∈ t, x < 128) : jSG MJ7_copyOfRangeByte_39247 1 1 4000 [jR v false, jI (nI a), jI (nI e)] (xs, some (h, v, t)) (fun _ => []) (fun cs r X => ∃ (v2 : Nat) (f2 : Nat → Int32), r = jR v2 false ∧ X = [(v2, .inl (cs 1, e - a, .inl f2))] ∧ (∀ j, j < e - a → f2 j = nI (t.getD (a + j) 0)) ∧ sb_Fit f2) := by
  refine jSG_of jp_J7_copyOfRangeByte_39247 rfl (Nat.le_of_ble_eq_true rfl) (fun C hm hS hi => ?_)
  have hT := jsx_t hS.1
  have hX := (jsx_x hS.1).symm
  refine jg_iload_n hm.1 (i := 1) rfl rfl dJ7_copyOfRangeByte_39247_0 ?_
  refine jg_iload_n hm.1 (i := 2) rfl rfl dJ7_copyOfRangeByte_39247_1 ?_
  refine jt_callS (wr := []) (as := [jI (nI a), jI (nI e)]) (st := []) hm (t_checkLength hae (by omega)) rfl ⟨hX, hS.2⟩ (jTa_same hT) (by omega) (Nat.le_of_ble_eq_true rfl) (Nat.le_of_ble_eq_true rfl) jw_910 jw_911 jw_63 jw_912 jn_J7_checkLength_df160 rfl rfl (Nat.le_of_ble_eq_true rfl) rfl dJ7_copyOfRangeByte_39247_2 ?_
  rintro _ _ ⟨rfl, rfl⟩
  refine jg_iload_n hm.1 (i := 2) rfl rfl dJ7_copyOfRangeByte_39247_5 ?_
  refine jg_iload_n hm.1 (i := 1) rfl rfl dJ7_copyOfRangeByte_39247_6 ?_
  refine jg_isub hm.1 dJ7_copyOfRangeByte_39247_7 ?_
  rw [pk_sub hae]
  refine jg_istore_n hm.1 (i := 3) rfl (Nat.le_of_ble_eq_true rfl) rfl dJ7_copyOfRangeByte_39247_8 ?_
  refine jg_iload_n hm.1 (i := 3) rfl rfl dJ7_copyOfRangeByte_39247_9 ?_
  refine jg_newb hm.1 (N := e - a) (nI_pos (by omega)) (nI_clamp (by omega)) (by omega) (Nat.le_of_ble_eq_true rfl) (by omega) dJ7_copyOfRangeByte_39247_10 (fun v2 => ?_)
  refine jg_astore hm.1 (i := 4) (Nat.le_of_ble_eq_true rfl) rfl dJ7_copyOfRangeByte_39247_12 ?_
  refine jg_aload_n hm.1 (i := 0) rfl rfl dJ7_copyOfRangeByte_39247_14 ?_
  refine jg_iload_n hm.1 (i := 1) rfl rfl dJ7_copyOfRangeByte_39247_15 ?_
  refine jg_aload hm.1 (i := 4) rfl dJ7_copyOfRangeByte_39247_16 ?_
  refine jg_iconst hm.1 (v := 0) (by decide) dJ7_copyOfRangeByte_39247_18 ?_
  refine jg_aload_n hm.1 (i := 0) rfl rfl dJ7_copyOfRangeByte_39247_19 ?_
  refine jt_slen hm hT dJ7_copyOfRangeByte_39247_20 ?_
  refine jg_iload_n hm.1 (i := 1) rfl rfl dJ7_copyOfRangeByte_39247_21 ?_
  refine jg_isub hm.1 dJ7_copyOfRangeByte_39247_22 ?_
  rw [pk_sub (show a ≤ t.length by omega)]
  refine jg_iload_n hm.1 (i := 3) rfl rfl dJ7_copyOfRangeByte_39247_23 ?_
  refine jg_mmin hm.1 jw_803 jw_241 jw_62 jw_242 (by omega) (Nat.le_of_ble_eq_true rfl) (by omega) (Nat.le_of_ble_eq_true rfl) rfl dJ7_copyOfRangeByte_39247_24 ?_
  rw [show (if nI (e - a) < nI (t.length - a) then nI (e - a) else nI (t.length - a)) = nI (e - a) from jmin_eq hae hem (by omega)]
  refine jt_copyt hm hT ha 0 rfl (by omega) jw_804 (nI_pos (by omega)) (by decide) (nI_pos (by omega)) (by rw [nI_clamp (by omega), nI_clamp (by omega)]; omega) (by rw [nI_clamp (by omega), sb_cl0]; omega) rfl dJ7_copyOfRangeByte_39247_27 ?_
  rw [nI_clamp (show e - a < 2 ^ 31 by omega), nI_clamp (show a < 2 ^ 31 by omega), sb_cl0]
  refine jg_aload hm.1 (i := 4) rfl dJ7_copyOfRangeByte_39247_30 ?_
  refine jt_aret hm rfl (Or.inr ⟨_, rfl⟩) (Nat.le_of_ble_eq_true rfl) (by omega) dJ7_copyOfRangeByte_39247_32 ⟨v2, _, rfl, rfl, fun j hj => ?_, sb_fitC (fun j => jfitN (jgetD_lt ha j)) sb_fit0⟩
  rw [pk_cpy_in (Nat.zero_le j) (by omega), Nat.sub_zero]
theorem t_crC {xs : Nat × (Nat × (Nat → Int32))} {o : Option (Nat × (Nat × List Nat))} {v m n : Nat} {f : Nat → Int32} (hnm : n ≤ m) (hm1 : m ≤ 4000) (hf : sb_Fit f) : jSG MJ7_copyOfRange_39247 2 1 4000 [jR v false, jI 0, jI (nI n)] (xs, o) (fun cs => [(v, .inl (cs 1, m, .inl f))]) (fun cs r X => ∃ (v2 : Nat) (f2 : Nat → Int32), r = jR v2 false ∧ X = [(v, .inl (cs 1, m, .inl f)), (v2, .inl (cs 1, n, .inl f2))] ∧ (∀ j, j < n → f2 j = f j) ∧ sb_Fit f2) := by
  refine jSG_of jp_J7_copyOfRange_39247 rfl (Nat.le_of_ble_eq_true rfl) (fun C hm hS hi => ?_)
  have hT := jsx_t hS.1
  have hX := (jsx_x hS.1).symm
  refine jg_iload_n hm.1 (i := 1) rfl rfl dJ7_copyOfRange_39247_0 ?_
  refine jg_if_ne hm.1 (tgt := 10) dJ7_copyOfRange_39247_1 (by decide) (fun h => absurd rfl h) (fun _ => ?_)
  refine jg_iload_n hm.1 (i := 2) rfl rfl dJ7_copyOfRange_39247_4 ?_
  refine jg_aload_n hm.1 (i := 0) rfl rfl dJ7_copyOfRange_39247_5 ?_
  refine jg_alenb hm.1 0 rfl dJ7_copyOfRange_39247_6 ?_
  refine jg_icmp_eq hm.1 (tgt := 17) dJ7_copyOfRange_39247_7 (by decide) (fun h => ?_) (fun h => ?_)
  · have e : n = m := (nI_eq (by omega) (by omega)).mp h
    subst e
    refine jg_aload_n hm.1 (i := 0) rfl rfl dJ7_copyOfRange_39247_17 ?_
    refine jt_clone hm 0 rfl (fun i _ => hf i) (by omega) (Nat.le_of_ble_eq_true rfl) (by omega) jw_796 rfl dJ7_copyOfRange_39247_18 (fun v2 => ?_)
    refine jt_castB hm 1 rfl jw_802 dJ7_copyOfRange_39247_21 ?_
    exact jt_aret hm rfl (Or.inr ⟨_, rfl⟩) (Nat.le_of_ble_eq_true rfl) (by omega) dJ7_copyOfRange_39247_24 ⟨v2, f, rfl, rfl, fun _ _ => rfl, hf⟩
  · refine jg_aload_n hm.1 (i := 0) rfl rfl dJ7_copyOfRange_39247_10 ?_
    refine jg_iload_n hm.1 (i := 1) rfl rfl dJ7_copyOfRange_39247_11 ?_
    refine jg_iload_n hm.1 (i := 2) rfl rfl dJ7_copyOfRange_39247_12 ?_
    refine jt_callS (wr := []) (as := [jR v false, jI 0, jI (nI n)]) (st := []) hm (t_crbC (a := 0) (e := n) (m := m) (f := f) (Nat.zero_le n) hnm hm1 hf) rfl ⟨hX, hS.2⟩ (jTa_same hT) (by omega) (Nat.le_of_ble_eq_true rfl) (Nat.le_of_ble_eq_true rfl) jw_907 jw_908 jw_63 jw_909 jn_J7_copyOfRangeByte_39247 rfl rfl (Nat.le_of_ble_eq_true rfl) rfl dJ7_copyOfRange_39247_13 ?_
    rintro _ _ ⟨v2, f2, rfl, rfl, g1, g2⟩
    exact jt_aret hm rfl (Or.inr ⟨_, rfl⟩) (Nat.le_of_ble_eq_true rfl) (Nat.le_of_ble_eq_true rfl) dJ7_copyOfRange_39247_16 ⟨v2, f2, rfl, rfl, fun j hj => (g1 j (by omega)).trans (congrArg f (Nat.zero_add j)), g2⟩
theorem t_crT {xs : Nat × (Nat × (Nat → Int32))} {h v k : Nat} {t : List Nat} (hk : k + 1 ≤ t.length) (h2 : 2 ≤ t.length) (hm1 : t.length ≤ 4000) (ha : ∀ x ∈ t, x < 128) : jSG MJ7_copyOfRange_39247 2 1 4000 [jR v false, jI (nI k), jI (nI (k + 1))] (xs, some (h, v, t)) (fun _ => []) (fun cs r X => ∃ (v2 : Nat) (f2 : Nat → Int32), r = jR v2 false ∧ X = [(v2, .inl (cs 1, 1, .inl f2))] ∧ f2 0 = nI (t.getD k 0)) := by
  refine jSG_of jp_J7_copyOfRange_39247 rfl (Nat.le_of_ble_eq_true rfl) (fun C hm hS hi => ?_)
  have hT := jsx_t hS.1
  have hX := (jsx_x hS.1).symm
  have fin : ∀ {ls : List JV}, ls = [jR v false, jI (nI k), jI (nI (k + 1))] → jG C 0 0 (jMQ C 1 4000 (fun r X => ∃ (v2 : Nat) (f2 : Nat → Int32), r = jR v2 false ∧ X = [(v2, .inl (jcs C 1, 1, .inl f2))] ∧ f2 0 = nI (t.getD k 0))) 10 ls [] [] := by
    rintro _ rfl
    refine jg_aload_n hm.1 (i := 0) rfl rfl dJ7_copyOfRange_39247_10 ?_
    refine jg_iload_n hm.1 (i := 1) rfl rfl dJ7_copyOfRange_39247_11 ?_
    refine jg_iload_n hm.1 (i := 2) rfl rfl dJ7_copyOfRange_39247_12 ?_
    refine jt_callS (wr := []) (as := [jR v false, jI (nI k), jI (nI (k + 1))]) (st := []) hm (t_crbT (a := k) (e := k + 1) (by omega) hk hm1 ha) rfl ⟨hX, hS.2⟩ (jTa_same hT) (by omega) (Nat.le_of_ble_eq_true rfl) (Nat.le_of_ble_eq_true rfl) jw_907 jw_908 jw_63 jw_909 jn_J7_copyOfRangeByte_39247 rfl rfl (Nat.le_of_ble_eq_true rfl) rfl dJ7_copyOfRange_39247_13 ?_
    rintro _ _ ⟨v2, f2, rfl, rfl, g1, g2⟩
    refine jt_aret hm rfl (Or.inr ⟨_, rfl⟩) (Nat.le_of_ble_eq_true rfl) (Nat.le_of_ble_eq_true rfl) dJ7_copyOfRange_39247_16 ⟨v2, f2, rfl, ?_, g1 0 (by omega)⟩
    rw [show k + 1 - k = 1 by omega]
    rfl
  refine jg_iload_n hm.1 (i := 1) rfl rfl dJ7_copyOfRange_39247_0 ?_
  refine jg_if_ne hm.1 (tgt := 10) dJ7_copyOfRange_39247_1 (by decide) (fun _ => fin rfl) (fun _ => ?_)
  refine jg_iload_n hm.1 (i := 2) rfl rfl dJ7_copyOfRange_39247_4 ?_
  refine jg_aload_n hm.1 (i := 0) rfl rfl dJ7_copyOfRange_39247_5 ?_
  refine jt_slen hm hT dJ7_copyOfRange_39247_6 ?_
  refine jg_icmp_eq hm.1 (tgt := 17) dJ7_copyOfRange_39247_7 (by decide) (fun z => ?_) (fun _ => fin rfl)
  rename_i z0
  have e1 := (nI_eq (by omega) (by omega)).mp z
  have e2 : k = 0 := (nI_eq (a := k) (b := 0) (by omega) (by omega)).mp z0
  omega
theorem t_sinit {xs : Nat × (Nat × (Nat → Int32))} {o : Option (Nat × (Nat × List Nat))} {h v m n q : Nat} {f : Nat → Int32} (hnm : n ≤ m) (hm1 : m ≤ 4000) (hf : sb_Fit f) : jSG MJ0_init_db425 3 1 4000 [jR q false, jR h false, jU] (xs, o) (fun cs => (q, .inr (0, [.null, .int 0, .int 0, .int 0])) :: jBd cs h v m n f) (fun cs r X => r = jU ∧ ∃ (v2 : Nat) (f2 : Nat → Int32), X = [(q, .inr (0, [.ref v2, .int 0, .int 0, .int 0])), (h, .inr (1, [.ref v, .int 0, .int 0, .int (nI n)])), (v, .inl (cs 1, m, .inl f)), (v2, .inl (cs 1, n, .inl f2))] ∧ ∀ j, j < n → f2 j = f j) := by
  refine jSG_of jp_J0_init_db425 rfl (Nat.le_of_ble_eq_true rfl) (fun C hm hS hi => ?_)
  have hT := jsx_t hS.1
  have hX := (jsx_x hS.1).symm
  refine jg_aload_n hm.1 (i := 0) rfl rfl dJ0_init_db425_0 ?_
  refine jg_objInit hm.1 jw_916 jw_104 jw_105 (Nat.le_of_ble_eq_true rfl) (Nat.le_of_ble_eq_true rfl) rfl dJ0_init_db425_1 ?_
  refine jg_aload_n hm.1 (i := 1) rfl rfl dJ0_init_db425_4 ?_
  refine jt_callV (wr := [(q, .inr (0, [.null, .int 0, .int 0, .int 0]))]) (as := []) (st := []) hm (t_getValue (v := v) (m := m) (n := n) (f := f)) rfl ⟨hX, hS.2⟩ (jTa_same hT) (jRv_cell hm (i := 1) rfl rfl) (by omega) (Nat.le_of_ble_eq_true rfl) (Nat.le_of_ble_eq_true rfl) jw_959 jw_960 (hm.1.hts _ jw_962) jw_57 jw_963 jn_J5_getValue_6d5f1 rfl rfl (Nat.le_of_ble_eq_true rfl) rfl dJ0_init_db425_5 ?_
  rintro _ _ ⟨rfl, rfl⟩
  refine jg_astore_n hm.1 (i := 3) rfl (Nat.le_of_ble_eq_true rfl) rfl dJ0_init_db425_8 ?_
  refine jg_aload_n hm.1 (i := 1) rfl rfl dJ0_init_db425_9 ?_
  refine jt_callO (wr := [(q, .inr (0, [.null, .int 0, .int 0, .int 0]))]) (as := []) (st := []) hm (t_blen (v := v) (m := m) (n := n) (f := f)) rfl ⟨hX, hS.2⟩ (jTa_same hT) (jRv_cell hm (i := 1) rfl rfl) (by omega) (Nat.le_of_ble_eq_true rfl) (Nat.le_of_ble_eq_true rfl) jw_964 jw_966 jw_965 jw_971 jw_968 jw_967 jw_58 jw_969 jn_J4_length_8abf5 (by decide) rfl rfl (Nat.le_of_ble_eq_true rfl) rfl dJ0_init_db425_10 ?_
  rintro _ _ ⟨rfl, rfl⟩
  refine jg_istore hm.1 (i := 4) (Nat.le_of_ble_eq_true rfl) rfl dJ0_init_db425_13 ?_
  refine jg_aload_n hm.1 (i := 1) rfl rfl dJ0_init_db425_15 ?_
  refine jt_callV (wr := [(q, .inr (0, [.null, .int 0, .int 0, .int 0]))]) (as := []) (st := []) hm (t_blatin (v := v) (m := m) (n := n) (f := f)) rfl ⟨hX, hS.2⟩ (jTa_same hT) (jRv_cell hm (i := 1) rfl rfl) (by omega) (Nat.le_of_ble_eq_true rfl) (Nat.le_of_ble_eq_true rfl) jw_972 jw_808 (hm.1.hts _ jw_810) jw_57 jw_811 jn_J5_isLatin1_aae02 rfl rfl (Nat.le_of_ble_eq_true rfl) rfl dJ0_init_db425_16 ?_
  rintro _ _ ⟨rfl, rfl⟩
  refine jg_if_eq hm.1 (tgt := 41) dJ0_init_db425_19 (by decide) (fun h => absurd h (by decide)) (fun _ => ?_)
  refine jg_aload_n hm.1 (i := 0) rfl rfl dJ0_init_db425_22 ?_
  refine jg_iconst hm.1 (v := 0) (by decide) dJ0_init_db425_23 ?_
  refine jg_putF hm.1 hi (ty0 := tyJ0) (v := jI 0) 0 1 rfl rfl jin_J0 tyJ0_ok nmJ0 (by decide) jw_918 rfl rfl rfl rfl (Nat.le_of_ble_eq_true rfl) dJ0_init_db425_24 ?_
  refine jg_aload_n hm.1 (i := 0) rfl rfl dJ0_init_db425_27 ?_
  refine jg_aload_n hm.1 (i := 3) rfl rfl dJ0_init_db425_28 ?_
  refine jg_iconst hm.1 (v := 0) (by decide) dJ0_init_db425_29 ?_
  refine jg_iload hm.1 (i := 4) rfl dJ0_init_db425_30 ?_
  refine jt_callS (wr := [(q, .inr (0, [.null, .int 0, .int 0, .int 0])), (h, .inr (1, [.ref v, .int 0, .int 0, .int (nI n)]))]) (as := [jR v false, jI 0, jI (nI n)]) (st := [jR q false]) hm (t_crC (m := m) (f := f) hnm hm1 hf) rfl ⟨hX, hS.2⟩ (jTa_same hT) (by omega) (Nat.le_of_ble_eq_true rfl) (Nat.le_of_ble_eq_true rfl) jw_973 jw_905 jw_63 jw_906 jn_J7_copyOfRange_39247 rfl rfl (Nat.le_of_ble_eq_true rfl) rfl dJ0_init_db425_32 ?_
  rintro _ _ ⟨v2, f2, rfl, rfl, g1, g2⟩
  refine jg_putF hm.1 hi (ty0 := tyJ0) (v := jR v2 false) 0 0 rfl rfl jin_J0 tyJ0_ok nmJ0 (by decide) jw_917 rfl rfl rfl rfl (Nat.le_of_ble_eq_true rfl) dJ0_init_db425_35 ?_
  refine jg_goto hm.1 (tgt := 97) dJ0_init_db425_38 (by decide) ?_
  exact jt_ret hm rfl (Nat.le_of_ble_eq_true rfl) (Nat.le_of_ble_eq_true rfl) dJ0_init_db425_97 ⟨rfl, v2, f2, rfl, g1⟩
theorem t_sinitB {xs : Nat × (Nat × (Nat → Int32))} {o : Option (Nat × (Nat × List Nat))} {h v m n q : Nat} {f : Nat → Int32} (hnm : n ≤ m) (hm1 : m ≤ 4000) (hf : sb_Fit f) : jSG MJ0_init_81219 4 1 4000 [jR q false, jR h false] (xs, o) (fun cs => (q, .inr (0, [.null, .int 0, .int 0, .int 0])) :: jBd cs h v m n f) (fun cs r X => r = jU ∧ ∃ (v2 : Nat) (f2 : Nat → Int32), X = [(q, .inr (0, [.ref v2, .int 0, .int 0, .int 0])), (h, .inr (1, [.ref v, .int 0, .int 0, .int (nI n)])), (v, .inl (cs 1, m, .inl f)), (v2, .inl (cs 1, n, .inl f2))] ∧ ∀ j, j < n → f2 j = f j) := by
  refine jSG_of jp_J0_init_81219 rfl (Nat.le_of_ble_eq_true rfl) (fun C hm hS hi => ?_)
  have hT := jsx_t hS.1
  have hX := (jsx_x hS.1).symm
  refine jg_aload_n hm.1 (i := 0) rfl rfl dJ0_init_81219_0 ?_
  refine jg_aload_n hm.1 (i := 1) rfl rfl dJ0_init_81219_1 ?_
  refine jg_null hm.1 dJ0_init_81219_2 ?_
  refine jt_callI (wr := []) (as := [jR h false, jU]) (st := []) hm (t_sinit (v := v) (m := m) (n := n) (f := f) hnm hm1 hf) rfl ⟨hX, hS.2⟩ (jTa_same hT) (by omega) (Nat.le_of_ble_eq_true rfl) (Nat.le_of_ble_eq_true rfl) jw_956 jw_957 jw_59 jw_958 jn_J0_init_db425 rfl rfl rfl (Nat.le_of_ble_eq_true rfl) rfl dJ0_init_81219_3 ?_
  rintro _ _ ⟨rfl, v2, f2, rfl, g1⟩
  exact jt_ret hm rfl (Nat.le_of_ble_eq_true rfl) (Nat.le_of_ble_eq_true rfl) dJ0_init_81219_6 ⟨rfl, v2, f2, rfl, g1⟩
theorem t_toString {xs : Nat × (Nat × (Nat → Int32))} {o : Option (Nat × (Nat × List Nat))} {h v m : Nat} {f : Nat → Int32} {u : List Nat} (hB : jBT m f u) : jSG MJ4_toString_0e30d 5 2 4004 [jR h false] (xs, o) (fun cs => jBd cs h v m u.length f) (fun cs r X => ∃ (q v2 : Nat) (f2 : Nat → Int32), r = jR q false ∧ X = [(q, .inr (0, [.ref v2, .int 0, .int 0, .int 0])), (h, .inr (1, [.ref v, .int 0, .int 0, .int (nI u.length)])), (v, .inl (cs 1, m, .inl f)), (v2, .inl (cs 1, u.length, .inl f2))] ∧ ∀ j, j < u.length → f2 j = nI (u.getD j 0)) := by
  refine jSG_of jp_J4_toString_0e30d rfl (Nat.le_of_ble_eq_true rfl) (fun C hm hS hi => ?_)
  have hT := jsx_t hS.1
  have hX := (jsx_x hS.1).symm
  refine jg_new hm.1 (ty := tyJ0) (fs := [.null, .int 0, .int 0, .int 0]) (ci := 0) jin_J0 tyJ0_ok jw_952 jw_903 jw_59 rfl df_J0 (Nat.le_of_ble_eq_true rfl) (Nat.le_of_ble_eq_true rfl) dJ4_toString_0e30d_0 (fun q => ?_)
  refine jg_dup hm.1 dJ4_toString_0e30d_3 ?_
  refine jg_aload_n hm.1 (i := 0) rfl rfl dJ4_toString_0e30d_4 ?_
  refine jg_sub (X2 := (q, .inr (0, [.null, .int 0, .int 0, .int 0])) :: jBd (jcs C) h v m u.length f) [2, 0, 1] rfl rfl ?_
  refine jt_callI (wr := []) (as := [jR h false]) (st := [jR q false]) hm (t_sinitB (v := v) (m := m) (n := u.length) (f := f) hB.1 (by have := hB.2.1; omega) hB.2.2.2) rfl ⟨hX, hS.2⟩ (jTa_same hT) (by omega) (Nat.le_of_ble_eq_true rfl) (Nat.le_of_ble_eq_true rfl) jw_953 jw_954 jw_59 jw_955 jn_J0_init_81219 rfl rfl rfl (Nat.le_of_ble_eq_true rfl) rfl dJ4_toString_0e30d_5 ?_
  rintro _ _ ⟨rfl, v2, f2, rfl, g1⟩
  exact jt_aret hm rfl (Or.inl ⟨_, rfl⟩) (Nat.le_of_ble_eq_true rfl) (Nat.le_of_ble_eq_true rfl) dJ4_toString_0e30d_8 ⟨q, v2, f2, rfl, rfl, fun j hj => (g1 j hj).trans (hB.2.2.1 j hj)⟩
theorem t_bytesInit {xs : Nat × (Nat × (Nat → Int32))} {o : Option (Nat × (Nat × List Nat))} {q v2 : Nat} : jSG MJ0_init_031fb 1 0 0 [jR q false, jR v2 false, jI 0] (xs, o) (fun _ => [(q, .inr (0, [.null, .int 0, .int 0, .int 0]))]) (fun cs r X => r = jU ∧ X = [(q, .inr (0, [.ref v2, .int 0, .int 0, .int 0]))]) := by
  refine jSG_of jp_J0_init_031fb rfl (Nat.le_of_ble_eq_true rfl) (fun C hm hS hi => ?_)
  have hT := jsx_t hS.1
  have hX := (jsx_x hS.1).symm
  refine jg_aload_n hm.1 (i := 0) rfl rfl dJ0_init_031fb_0 ?_
  refine jg_objInit hm.1 jw_916 jw_104 jw_105 (Nat.le_of_ble_eq_true rfl) (Nat.le_of_ble_eq_true rfl) rfl dJ0_init_031fb_1 ?_
  refine jg_aload_n hm.1 (i := 0) rfl rfl dJ0_init_031fb_4 ?_
  refine jg_aload_n hm.1 (i := 1) rfl rfl dJ0_init_031fb_5 ?_
  refine jg_putF hm.1 hi (ty0 := tyJ0) (v := jR v2 false) 0 0 rfl rfl jin_J0 tyJ0_ok nmJ0 (by decide) jw_917 rfl rfl rfl rfl (Nat.le_of_ble_eq_true rfl) dJ0_init_031fb_6 ?_
  refine jg_aload_n hm.1 (i := 0) rfl rfl dJ0_init_031fb_9 ?_
  refine jg_iload_n hm.1 (i := 2) rfl rfl dJ0_init_031fb_10 ?_
  refine jg_putF hm.1 hi (ty0 := tyJ0) (v := jI 0) 0 1 rfl rfl jin_J0 tyJ0_ok nmJ0 (by decide) jw_918 rfl rfl rfl rfl (Nat.le_of_ble_eq_true rfl) dJ0_init_031fb_11 ?_
  exact jt_ret hm rfl (Nat.le_of_ble_eq_true rfl) (Nat.le_of_ble_eq_true rfl) dJ0_init_031fb_14 ⟨rfl, rfl⟩
theorem t_newString {xs : Nat × (Nat × (Nat → Int32))} {h v k : Nat} {t : List Nat} (hk : k + 1 ≤ t.length) (h2 : 2 ≤ t.length) (hm1 : t.length ≤ 4000) (ha : ∀ x ∈ t, x < 128) : jSG MJ1_newString_b4f7a 3 2 4004 [jR v false, jI (nI k), jI (nI 1)] (xs, some (h, v, t)) (fun _ => []) (fun cs r X => ∃ (q v2 : Nat) (f2 : Nat → Int32), r = jR q false ∧ X = [(v2, .inl (cs 1, 1, .inl f2)), (q, .inr (0, [.ref v2, .int 0, .int 0, .int 0]))] ∧ f2 0 = nI (t.getD k 0)) := by
  refine jSG_of jp_J1_newString_b4f7a rfl (Nat.le_of_ble_eq_true rfl) (fun C hm hS hi => ?_)
  have hT := jsx_t hS.1
  have hX := (jsx_x hS.1).symm
  refine jg_iload_n hm.1 (i := 2) rfl rfl dJ1_newString_b4f7a_0 ?_
  refine jg_if_ne hm.1 (tgt := 7) dJ1_newString_b4f7a_1 (by decide) (fun _ => ?_) (fun h => absurd h (by decide))
  refine jg_new hm.1 (ty := tyJ0) (fs := [.null, .int 0, .int 0, .int 0]) (ci := 0) jin_J0 tyJ0_ok jw_902 jw_903 jw_59 rfl df_J0 (Nat.le_of_ble_eq_true rfl) (Nat.le_of_ble_eq_true rfl) dJ1_newString_b4f7a_7 (fun q => ?_)
  refine jg_dup hm.1 dJ1_newString_b4f7a_10 ?_
  refine jg_aload_n hm.1 (i := 0) rfl rfl dJ1_newString_b4f7a_11 ?_
  refine jg_iload_n hm.1 (i := 1) rfl rfl dJ1_newString_b4f7a_12 ?_
  refine jg_iload_n hm.1 (i := 1) rfl rfl dJ1_newString_b4f7a_13 ?_
  refine jg_iload_n hm.1 (i := 2) rfl rfl dJ1_newString_b4f7a_14 ?_
  refine jg_iadd hm.1 dJ1_newString_b4f7a_15 ?_
  rw [nI_add]
  refine jt_callS (wr := [(q, .inr (0, [.null, .int 0, .int 0, .int 0]))]) (as := [jR v false, jI (nI k), jI (nI (k + 1))]) (st := [jR q false, jR q false]) hm (t_crT hk h2 hm1 ha) rfl ⟨hX, hS.2⟩ (jTa_same hT) (by omega) (Nat.le_of_ble_eq_true rfl) (Nat.le_of_ble_eq_true rfl) jw_904 jw_905 jw_63 jw_906 jn_J7_copyOfRange_39247 rfl rfl (Nat.le_of_ble_eq_true rfl) rfl dJ1_newString_b4f7a_16 ?_
  rintro _ _ ⟨v2, f2, rfl, rfl, g1⟩
  refine jg_sub (X2 := [(v2, .inl (jcs C 1, 1, .inl f2)), (q, .inr (0, [.null, .int 0, .int 0, .int 0]))]) [1, 0] rfl rfl ?_
  refine jg_iconst hm.1 (v := 0) (by decide) dJ1_newString_b4f7a_19 ?_
  refine jt_callI (wr := [(v2, .inl (jcs C 1, 1, .inl f2))]) (as := [jR v2 false, jI 0]) (st := [jR q false]) hm t_bytesInit rfl ⟨hX, hS.2⟩ (jTa_same hT) (by omega) (Nat.le_of_ble_eq_true rfl) (Nat.le_of_ble_eq_true rfl) jw_913 jw_914 jw_59 jw_915 jn_J0_init_031fb rfl rfl rfl (Nat.le_of_ble_eq_true rfl) rfl dJ1_newString_b4f7a_20 ?_
  rintro _ _ ⟨rfl, rfl⟩
  exact jt_aret hm rfl (Or.inl ⟨_, rfl⟩) (Nat.le_of_ble_eq_true rfl) (Nat.le_of_ble_eq_true rfl) dJ1_newString_b4f7a_23 ⟨q, v2, f2, rfl, rfl, g1⟩
theorem t_cftU {xs : Nat × (Nat × (Nat → Int32))} {o : Option (Nat × (Nat × List Nat))} {a b n : Nat} (hab : a ≤ b) (hbn : b ≤ n) (hn : n < 2 ^ 31) : jSG MJ3_checkFromToIndex_8c36e 0 0 0 [jI (nI a), jI (nI b), jI (nI n), jU] (xs, o) (fun _ => []) (fun _ r X => r = jI (nI a) ∧ X = []) := by
  refine jSG_of jp_J3_checkFromToIndex_8c36e rfl (Nat.le_of_ble_eq_true rfl) (fun C hm hS hi => ?_)
  have hT := jsx_t hS.1
  have hX := (jsx_x hS.1).symm
  refine jg_iload_n hm.1 (i := 0) rfl rfl dJ3_checkFromToIndex_8c36e_0 ?_
  refine jg_if_lt hm.1 (tgt := 14) dJ3_checkFromToIndex_8c36e_1 (by decide) (fun h => absurd h (nI_pos (by omega))) (fun _ => ?_)
  refine jg_iload_n hm.1 (i := 0) rfl rfl dJ3_checkFromToIndex_8c36e_4 ?_
  refine jg_iload_n hm.1 (i := 1) rfl rfl dJ3_checkFromToIndex_8c36e_5 ?_
  refine jg_icmp_gt hm.1 (tgt := 14) dJ3_checkFromToIndex_8c36e_6 (by decide) (fun h => absurd h (nI_nlt hab (by omega))) (fun _ => ?_)
  refine jg_iload_n hm.1 (i := 1) rfl rfl dJ3_checkFromToIndex_8c36e_9 ?_
  refine jg_iload_n hm.1 (i := 2) rfl rfl dJ3_checkFromToIndex_8c36e_10 ?_
  refine jg_icmp_le hm.1 (tgt := 22) dJ3_checkFromToIndex_8c36e_11 (by decide) (fun _ => ?_) (fun h => absurd (nI_le hbn hn) h)
  refine jg_iload_n hm.1 (i := 0) rfl rfl dJ3_checkFromToIndex_8c36e_22 ?_
  exact jt_iret hm rfl (Nat.le_of_ble_eq_true rfl) (Nat.le_of_ble_eq_true rfl) dJ3_checkFromToIndex_8c36e_23 ⟨rfl, rfl⟩
theorem t_cftR {xs : Nat × (Nat × (Nat → Int32))} {o : Option (Nat × (Nat × List Nat))} {a b n q : Nat} (hab : a ≤ b) (hbn : b ≤ n) (hn : n < 2 ^ 31) : jSG MJ3_checkFromToIndex_8c36e 0 0 0 [jI (nI a), jI (nI b), jI (nI n), jR q false] (xs, o) (fun _ => []) (fun _ r X => r = jI (nI a) ∧ X = []) := by
  refine jSG_of jp_J3_checkFromToIndex_8c36e rfl (Nat.le_of_ble_eq_true rfl) (fun C hm hS hi => ?_)
  have hT := jsx_t hS.1
  have hX := (jsx_x hS.1).symm
  refine jg_iload_n hm.1 (i := 0) rfl rfl dJ3_checkFromToIndex_8c36e_0 ?_
  refine jg_if_lt hm.1 (tgt := 14) dJ3_checkFromToIndex_8c36e_1 (by decide) (fun h => absurd h (nI_pos (by omega))) (fun _ => ?_)
  refine jg_iload_n hm.1 (i := 0) rfl rfl dJ3_checkFromToIndex_8c36e_4 ?_
  refine jg_iload_n hm.1 (i := 1) rfl rfl dJ3_checkFromToIndex_8c36e_5 ?_
  refine jg_icmp_gt hm.1 (tgt := 14) dJ3_checkFromToIndex_8c36e_6 (by decide) (fun h => absurd h (nI_nlt hab (by omega))) (fun _ => ?_)
  refine jg_iload_n hm.1 (i := 1) rfl rfl dJ3_checkFromToIndex_8c36e_9 ?_
  refine jg_iload_n hm.1 (i := 2) rfl rfl dJ3_checkFromToIndex_8c36e_10 ?_
  refine jg_icmp_le hm.1 (tgt := 22) dJ3_checkFromToIndex_8c36e_11 (by decide) (fun _ => ?_) (fun h => absurd (nI_le hbn hn) h)
  refine jg_iload_n hm.1 (i := 0) rfl rfl dJ3_checkFromToIndex_8c36e_22 ?_
  exact jt_iret hm rfl (Nat.le_of_ble_eq_true rfl) (Nat.le_of_ble_eq_true rfl) dJ3_checkFromToIndex_8c36e_23 ⟨rfl, rfl⟩
theorem t_cbbe {xs : Nat × (Nat × (Nat → Int32))} {o : Option (Nat × (Nat × List Nat))} {a b n : Nat} (hab : a ≤ b) (hbn : b ≤ n) (hn : n < 2 ^ 31) : jSG MJ0_checkBoundsBeginEnd_23922 1 0 0 [jI (nI a), jI (nI b), jI (nI n)] (xs, o) (fun _ => []) (fun _ r X => r = jU ∧ X = []) := by
  refine jSG_of jp_J0_checkBoundsBeginEnd_23922 rfl (Nat.le_of_ble_eq_true rfl) (fun C hm hS hi => ?_)
  have hT := jsx_t hS.1
  have hX := (jsx_x hS.1).symm
  refine jg_iload_n hm.1 (i := 0) rfl rfl dJ0_checkBoundsBeginEnd_23922_0 ?_
  refine jg_iload_n hm.1 (i := 1) rfl rfl dJ0_checkBoundsBeginEnd_23922_1 ?_
  refine jg_iload_n hm.1 (i := 2) rfl rfl dJ0_checkBoundsBeginEnd_23922_2 ?_
  refine jt_fmt hm hS.2 jw_824 dJ0_checkBoundsBeginEnd_23922_3 (fun v hv => ?_)
  rcases hv with rfl | ⟨q, rfl⟩
  · refine jt_callS (wr := []) (as := [jI (nI a), jI (nI b), jI (nI n), jU]) (st := []) hm (t_cftU hab hbn hn) rfl ⟨hX, hS.2⟩ (jTa_same hT) (by omega) (Nat.le_of_ble_eq_true rfl) (Nat.le_of_ble_eq_true rfl) jw_826 jw_827 jw_65 jw_828 jn_J3_checkFromToIndex_8c36e rfl rfl (Nat.le_of_ble_eq_true rfl) rfl dJ0_checkBoundsBeginEnd_23922_6 ?_
    rintro _ _ ⟨rfl, rfl⟩
    refine jg_popI hm.1 dJ0_checkBoundsBeginEnd_23922_9 ?_
    exact jt_ret hm rfl (Nat.le_of_ble_eq_true rfl) (Nat.le_of_ble_eq_true rfl) dJ0_checkBoundsBeginEnd_23922_10 ⟨rfl, rfl⟩
  · refine jt_callS (wr := []) (as := [jI (nI a), jI (nI b), jI (nI n), jR q false]) (st := []) hm (t_cftR hab hbn hn) rfl ⟨hX, hS.2⟩ (jTa_same hT) (by omega) (Nat.le_of_ble_eq_true rfl) (Nat.le_of_ble_eq_true rfl) jw_826 jw_827 jw_65 jw_828 jn_J3_checkFromToIndex_8c36e rfl rfl (Nat.le_of_ble_eq_true rfl) rfl dJ0_checkBoundsBeginEnd_23922_6 ?_
    rintro _ _ ⟨rfl, rfl⟩
    refine jg_popI hm.1 dJ0_checkBoundsBeginEnd_23922_9 ?_
    exact jt_ret hm rfl (Nat.le_of_ble_eq_true rfl) (Nat.le_of_ble_eq_true rfl) dJ0_checkBoundsBeginEnd_23922_10 ⟨rfl, rfl⟩
theorem t_substring {xs : Nat × (Nat × (Nat → Int32))} {h v k : Nat} {t : List Nat} (hk : k + 1 ≤ t.length) (h2 : 2 ≤ t.length) (hm1 : t.length ≤ 4000) (ha : ∀ x ∈ t, x < 128) : jSG MJ0_substring_37a41 4 2 4004 [jR h false, jI (nI k), jI (nI (k + 1))] (xs, some (h, v, t)) (fun _ => []) (fun cs r X => ∃ (q v2 : Nat) (f2 : Nat → Int32), r = jR q false ∧ X = [(v2, .inl (cs 1, 1, .inl f2)), (q, .inr (0, [.ref v2, .int 0, .int 0, .int 0]))] ∧ f2 0 = nI (t.getD k 0)) := by
  refine jSG_of jp_J0_substring_37a41 rfl (Nat.le_of_ble_eq_true rfl) (fun C hm hS hi => ?_)
  have hT := jsx_t hS.1
  have hX := (jsx_x hS.1).symm
  have fin : ∀ {ls : List JV}, ls = [jR h false, jI (nI k), jI (nI (k + 1)), jI (nI t.length), jU] → jG C 0 0 (jMQ C 2 4004 (fun r X => ∃ (q v2 : Nat) (f2 : Nat → Int32), r = jR q false ∧ X = [(v2, .inl (jcs C 1, 1, .inl f2)), (q, .inr (0, [.ref v2, .int 0, .int 0, .int 0]))] ∧ f2 0 = nI (t.getD k 0))) 22 ls [] [] := by
    rintro _ rfl
    refine jg_iload_n hm.1 (i := 2) rfl rfl dJ0_substring_37a41_22 ?_
    refine jg_iload_n hm.1 (i := 1) rfl rfl dJ0_substring_37a41_23 ?_
    refine jg_isub hm.1 dJ0_substring_37a41_24 ?_
    rw [pk_sub (show k ≤ k + 1 by omega), show k + 1 - k = 1 by omega]
    refine jg_istore hm.1 (i := 4) (Nat.le_of_ble_eq_true rfl) rfl dJ0_substring_37a41_25 ?_
    refine jg_aload_n hm.1 (i := 0) rfl rfl dJ0_substring_37a41_27 ?_
    refine jt_callV (wr := []) (as := []) (st := []) hm t_isLatin1 rfl ⟨hX, hS.2⟩ (jTa_same hT) (jRv_text hm (jTa_same hT)) (by omega) (Nat.le_of_ble_eq_true rfl) (Nat.le_of_ble_eq_true rfl) jw_894 jw_895 (hm.1.hts _ jw_896) jw_59 jw_897 jn_J0_isLatin1_aae02 rfl rfl (Nat.le_of_ble_eq_true rfl) rfl dJ0_substring_37a41_28 ?_
    rintro _ _ ⟨rfl, rfl⟩
    refine jg_if_eq hm.1 (tgt := 47) dJ0_substring_37a41_31 (by decide) (fun h => absurd h (by decide)) (fun _ => ?_)
    refine jg_aload_n hm.1 (i := 0) rfl rfl dJ0_substring_37a41_34 ?_
    refine jt_sval hm hT jw_917 dJ0_substring_37a41_35 ?_
    refine jg_iload_n hm.1 (i := 1) rfl rfl dJ0_substring_37a41_38 ?_
    refine jg_iload hm.1 (i := 4) rfl dJ0_substring_37a41_39 ?_
    refine jt_callS (wr := []) (as := [jR v false, jI (nI k), jI (nI 1)]) (st := []) hm (t_newString hk h2 hm1 ha) rfl ⟨hX, hS.2⟩ (jTa_same hT) (by omega) (Nat.le_of_ble_eq_true rfl) (Nat.le_of_ble_eq_true rfl) jw_898 jw_899 jw_66 jw_900 jn_J1_newString_b4f7a rfl rfl (Nat.le_of_ble_eq_true rfl) rfl dJ0_substring_37a41_41 ?_
    rintro _ _ ⟨q, v2, f2, rfl, rfl, g1⟩
    refine jg_goto hm.1 (tgt := 57) dJ0_substring_37a41_44 (by decide) ?_
    exact jt_aret hm rfl (Or.inl ⟨_, rfl⟩) (Nat.le_of_ble_eq_true rfl) (Nat.le_of_ble_eq_true rfl) dJ0_substring_37a41_57 ⟨q, v2, f2, rfl, rfl, g1⟩
  refine jg_aload_n hm.1 (i := 0) rfl rfl dJ0_substring_37a41_0 ?_
  refine jt_callV (wr := []) (as := []) (st := []) hm t_length rfl ⟨hX, hS.2⟩ (jTa_same hT) (jRv_text hm (jTa_same hT)) (by omega) (Nat.le_of_ble_eq_true rfl) (Nat.le_of_ble_eq_true rfl) jw_892 jw_839 (hm.1.hts _ jw_840) jw_59 jw_841 jn_J0_length_8abf5 rfl rfl (Nat.le_of_ble_eq_true rfl) rfl dJ0_substring_37a41_1 ?_
  rintro _ _ ⟨rfl, rfl⟩
  refine jg_istore_n hm.1 (i := 3) rfl (Nat.le_of_ble_eq_true rfl) rfl dJ0_substring_37a41_4 ?_
  refine jg_iload_n hm.1 (i := 1) rfl rfl dJ0_substring_37a41_5 ?_
  refine jg_iload_n hm.1 (i := 2) rfl rfl dJ0_substring_37a41_6 ?_
  refine jg_iload_n hm.1 (i := 3) rfl rfl dJ0_substring_37a41_7 ?_
  refine jt_callS (wr := []) (as := [jI (nI k), jI (nI (k + 1)), jI (nI t.length)]) (st := []) hm (t_cbbe (by omega) hk (by omega)) rfl ⟨hX, hS.2⟩ (jTa_same hT) (by omega) (Nat.le_of_ble_eq_true rfl) (Nat.le_of_ble_eq_true rfl) jw_893 jw_822 jw_59 jw_823 jn_J0_checkBoundsBeginEnd_23922 rfl rfl (Nat.le_of_ble_eq_true rfl) rfl dJ0_substring_37a41_8 ?_
  rintro _ _ ⟨rfl, rfl⟩
  refine jg_iload_n hm.1 (i := 1) rfl rfl dJ0_substring_37a41_11 ?_
  refine jg_if_ne hm.1 (tgt := 22) dJ0_substring_37a41_12 (by decide) (fun _ => fin rfl) (fun z0 => ?_)
  refine jg_iload_n hm.1 (i := 2) rfl rfl dJ0_substring_37a41_15 ?_
  refine jg_iload_n hm.1 (i := 3) rfl rfl dJ0_substring_37a41_16 ?_
  refine jg_icmp_ne hm.1 (tgt := 22) dJ0_substring_37a41_17 (by decide) (fun _ => fin rfl) (fun z => ?_)
  have e1 := (nI_eq (by omega) (by omega)).mp z
  have e2 : k = 0 := (nI_eq (a := k) (b := 0) (by omega) (by omega)).mp z0
  omega

