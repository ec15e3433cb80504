theorem dX0_init_0 : decode cX0_init 0 = .ok (.aload_n 0, 1) := by decide +kernel
theorem dX0_init_1 : decode cX0_init 1 = .ok (.invokespecial 3, 3) := by decide +kernel
theorem dX0_init_4 : decode cX0_init 4 = .ok (.aload_n 0, 1) := by decide +kernel
theorem dX0_init_5 : decode cX0_init 5 = .ok (.sipush 400, 3) := by decide +kernel
theorem dX0_init_8 : decode cX0_init 8 = .ok (.newarray .int, 2) := by decide +kernel
theorem dX0_init_10 : decode cX0_init 10 = .ok (.putfield 9, 3) := by decide +kernel
theorem dX0_init_13 : decode cX0_init 13 = .ok (.return_, 1) := by decide +kernel
abbrev MX0_init : JM := (cX0_init, 1, RX0, none, yX0_init)
theorem jn_X0_init : jnm MX0_init 0 := by decide +kernel
theorem jp_X0_init : plainName MX0_init.2.2.2.2.cls = true := by decide +kernel
theorem df_X0 : ∀ j, j < 2 → defaultValue (tyX0 j) = vp_V [.null, .int 0] j := by
  intro j hj
  rcases (show j = 0 ∨ j = 1 by omega) with rfl | rfl <;> rfl
theorem dX1_init_0 : decode cX1_init 0 = .ok (.aload_n 0, 1) := by decide +kernel
theorem dX1_init_1 : decode cX1_init 1 = .ok (.invokespecial 3, 3) := by decide +kernel
theorem dX1_init_4 : decode cX1_init 4 = .ok (.aload_n 0, 1) := by decide +kernel
theorem dX1_init_5 : decode cX1_init 5 = .ok (.iconst 5, 1) := by decide +kernel
theorem dX1_init_6 : decode cX1_init 6 = .ok (.newarray .int, 2) := by decide +kernel
theorem dX1_init_8 : decode cX1_init 8 = .ok (.putfield 9, 3) := by decide +kernel
theorem dX1_init_11 : decode cX1_init 11 = .ok (.aload_n 0, 1) := by decide +kernel
theorem dX1_init_12 : decode cX1_init 12 = .ok (.bipush 12, 2) := by decide +kernel
theorem dX1_init_14 : decode cX1_init 14 = .ok (.newarray .int, 2) := by decide +kernel
theorem dX1_init_16 : decode cX1_init 16 = .ok (.putfield 15, 3) := by decide +kernel
theorem dX1_init_19 : decode cX1_init 19 = .ok (.aload_n 0, 1) := by decide +kernel
theorem dX1_init_20 : decode cX1_init 20 = .ok (.bipush 12, 2) := by decide +kernel
theorem dX1_init_22 : decode cX1_init 22 = .ok (.newarray .int, 2) := by decide +kernel
theorem dX1_init_24 : decode cX1_init 24 = .ok (.putfield 18, 3) := by decide +kernel
theorem dX1_init_27 : decode cX1_init 27 = .ok (.aload_n 0, 1) := by decide +kernel
theorem dX1_init_28 : decode cX1_init 28 = .ok (.bipush 12, 2) := by decide +kernel
theorem dX1_init_30 : decode cX1_init 30 = .ok (.newarray .int, 2) := by decide +kernel
theorem dX1_init_32 : decode cX1_init 32 = .ok (.putfield 21, 3) := by decide +kernel
theorem dX1_init_35 : decode cX1_init 35 = .ok (.aload_n 0, 1) := by decide +kernel
theorem dX1_init_36 : decode cX1_init 36 = .ok (.bipush 6, 2) := by decide +kernel
theorem dX1_init_38 : decode cX1_init 38 = .ok (.newarray .int, 2) := by decide +kernel
theorem dX1_init_40 : decode cX1_init 40 = .ok (.putfield 24, 3) := by decide +kernel
theorem dX1_init_43 : decode cX1_init 43 = .ok (.aload_n 0, 1) := by decide +kernel
theorem dX1_init_44 : decode cX1_init 44 = .ok (.iconst 4, 1) := by decide +kernel
theorem dX1_init_45 : decode cX1_init 45 = .ok (.putfield 27, 3) := by decide +kernel
theorem dX1_init_48 : decode cX1_init 48 = .ok (.return_, 1) := by decide +kernel
abbrev MX1_init : JM := (cX1_init, 1, RX1, none, yX1_init)
theorem jn_X1_init : jnm MX1_init 0 := by decide +kernel
theorem jp_X1_init : plainName MX1_init.2.2.2.2.cls = true := by decide +kernel
theorem df_X1 : ∀ j, j < 9 → defaultValue (tyX1 j) = vp_V [.null, .null, .null, .null, .null, .int 0, .int 0, .int 0, .int 0] j := by
  intro j hj
  rcases (show j = 0 ∨ j = 1 ∨ j = 2 ∨ j = 3 ∨ j = 4 ∨ j = 5 ∨ j = 6 ∨ j = 7 ∨ j = 8 by omega) with rfl | rfl | rfl | rfl | rfl | rfl | rfl | rfl | rfl <;> rfl
theorem dX2_init_0 : decode cX2_init 0 = .ok (.aload_n 0, 1) := by decide +kernel
theorem dX2_init_1 : decode cX2_init 1 = .ok (.invokespecial 3, 3) := by decide +kernel
theorem dX2_init_4 : decode cX2_init 4 = .ok (.aload_n 0, 1) := by decide +kernel
theorem dX2_init_5 : decode cX2_init 5 = .ok (.bipush 16, 2) := by decide +kernel
theorem dX2_init_7 : decode cX2_init 7 = .ok (.newarray .int, 2) := by decide +kernel
theorem dX2_init_9 : decode cX2_init 9 = .ok (.putfield 9, 3) := by decide +kernel
theorem dX2_init_12 : decode cX2_init 12 = .ok (.aload_n 0, 1) := by decide +kernel
theorem dX2_init_13 : decode cX2_init 13 = .ok (.bipush 16, 2) := by decide +kernel
theorem dX2_init_15 : decode cX2_init 15 = .ok (.newarray .int, 2) := by decide +kernel
theorem dX2_init_17 : decode cX2_init 17 = .ok (.putfield 15, 3) := by decide +kernel
theorem dX2_init_20 : decode cX2_init 20 = .ok (.aload_n 0, 1) := by decide +kernel
theorem dX2_init_21 : decode cX2_init 21 = .ok (.bipush 16, 2) := by decide +kernel
theorem dX2_init_23 : decode cX2_init 23 = .ok (.newarray .int, 2) := by decide +kernel
theorem dX2_init_25 : decode cX2_init 25 = .ok (.putfield 18, 3) := by decide +kernel
theorem dX2_init_28 : decode cX2_init 28 = .ok (.aload_n 0, 1) := by decide +kernel
theorem dX2_init_29 : decode cX2_init 29 = .ok (.bipush 16, 2) := by decide +kernel
theorem dX2_init_31 : decode cX2_init 31 = .ok (.newarray .int, 2) := by decide +kernel
theorem dX2_init_33 : decode cX2_init 33 = .ok (.putfield 21, 3) := by decide +kernel
theorem dX2_init_36 : decode cX2_init 36 = .ok (.aload_n 0, 1) := by decide +kernel
theorem dX2_init_37 : decode cX2_init 37 = .ok (.sipush 400, 3) := by decide +kernel
theorem dX2_init_40 : decode cX2_init 40 = .ok (.newarray .int, 2) := by decide +kernel
theorem dX2_init_42 : decode cX2_init 42 = .ok (.putfield 24, 3) := by decide +kernel
theorem dX2_init_45 : decode cX2_init 45 = .ok (.aload_n 0, 1) := by decide +kernel
theorem dX2_init_46 : decode cX2_init 46 = .ok (.sipush 400, 3) := by decide +kernel
theorem dX2_init_49 : decode cX2_init 49 = .ok (.newarray .int, 2) := by decide +kernel
theorem dX2_init_51 : decode cX2_init 51 = .ok (.putfield 27, 3) := by decide +kernel
theorem dX2_init_54 : decode cX2_init 54 = .ok (.return_, 1) := by decide +kernel
abbrev MX2_init : JM := (cX2_init, 1, RX2, none, yX2_init)
theorem jn_X2_init : jnm MX2_init 0 := by decide +kernel
theorem jp_X2_init : plainName MX2_init.2.2.2.2.cls = true := by decide +kernel
theorem df_X2 : ∀ j, j < 8 → defaultValue (tyX2 j) = vp_V [.null, .null, .null, .null, .null, .null, .int 0, .int 0] j := by
  intro j hj
  rcases (show j = 0 ∨ j = 1 ∨ j = 2 ∨ j = 3 ∨ j = 4 ∨ j = 5 ∨ j = 6 ∨ j = 7 by omega) with rfl | rfl | rfl | rfl | rfl | rfl | rfl | rfl <;> rfl
theorem dX8_init_0 : decode cX8_init 0 = .ok (.aload_n 0, 1) := by decide +kernel
theorem dX8_init_1 : decode cX8_init 1 = .ok (.invokespecial 3, 3) := by decide +kernel
theorem dX8_init_4 : decode cX8_init 4 = .ok (.aload_n 0, 1) := by decide +kernel
theorem dX8_init_5 : decode cX8_init 5 = .ok (.iconst 5, 1) := by decide +kernel
theorem dX8_init_6 : decode cX8_init 6 = .ok (.newarray .int, 2) := by decide +kernel
theorem dX8_init_8 : decode cX8_init 8 = .ok (.putfield 9, 3) := by decide +kernel
theorem dX8_init_11 : decode cX8_init 11 = .ok (.aload_n 0, 1) := by decide +kernel
theorem dX8_init_12 : decode cX8_init 12 = .ok (.iconst 5, 1) := by decide +kernel
theorem dX8_init_13 : decode cX8_init 13 = .ok (.newarray .int, 2) := by decide +kernel
theorem dX8_init_15 : decode cX8_init 15 = .ok (.putfield 15, 3) := by decide +kernel
theorem dX8_init_18 : decode cX8_init 18 = .ok (.aload_n 0, 1) := by decide +kernel
theorem dX8_init_19 : decode cX8_init 19 = .ok (.iconst 5, 1) := by decide +kernel
theorem dX8_init_20 : decode cX8_init 20 = .ok (.newarray .int, 2) := by decide +kernel
theorem dX8_init_22 : decode cX8_init 22 = .ok (.putfield 18, 3) := by decide +kernel
theorem dX8_init_25 : decode cX8_init 25 = .ok (.aload_n 0, 1) := by decide +kernel
theorem dX8_init_26 : decode cX8_init 26 = .ok (.iconst 3, 1) := by decide +kernel
theorem dX8_init_27 : decode cX8_init 27 = .ok (.newarray .int, 2) := by decide +kernel
theorem dX8_init_29 : decode cX8_init 29 = .ok (.putfield 21, 3) := by decide +kernel
theorem dX8_init_32 : decode cX8_init 32 = .ok (.aload_n 0, 1) := by decide +kernel
theorem dX8_init_33 : decode cX8_init 33 = .ok (.iconst 3, 1) := by decide +kernel
theorem dX8_init_34 : decode cX8_init 34 = .ok (.newarray .int, 2) := by decide +kernel
theorem dX8_init_36 : decode cX8_init 36 = .ok (.putfield 24, 3) := by decide +kernel
theorem dX8_init_39 : decode cX8_init 39 = .ok (.return_, 1) := by decide +kernel
abbrev MX8_init : JM := (cX8_init, 1, RX8, none, yX8_init)
theorem jn_X8_init : jnm MX8_init 0 := by decide +kernel
theorem jp_X8_init : plainName MX8_init.2.2.2.2.cls = true := by decide +kernel
theorem df_X8 : ∀ j, j < 7 → defaultValue (tyX8 j) = vp_V [.null, .null, .null, .null, .null, .int 0, .int 0] j := by
  intro j hj
  rcases (show j = 0 ∨ j = 1 ∨ j = 2 ∨ j = 3 ∨ j = 4 ∨ j = 5 ∨ j = 6 by omega) with rfl | rfl | rfl | rfl | rfl | rfl | rfl <;> rfl
theorem dX3_init_0 : decode cX3_init 0 = .ok (.aload_n 0, 1) := by decide +kernel
theorem dX3_init_1 : decode cX3_init 1 = .ok (.invokespecial 3, 3) := by decide +kernel
theorem dX3_init_4 : decode cX3_init 4 = .ok (.aload_n 0, 1) := by decide +kernel
theorem dX3_init_5 : decode cX3_init 5 = .ok (.iconst 5, 1) := by decide +kernel
theorem dX3_init_6 : decode cX3_init 6 = .ok (.newarray .int, 2) := by decide +kernel
theorem dX3_init_8 : decode cX3_init 8 = .ok (.putfield 9, 3) := by decide +kernel
theorem dX3_init_11 : decode cX3_init 11 = .ok (.aload_n 0, 1) := by decide +kernel
theorem dX3_init_12 : decode cX3_init 12 = .ok (.iconst 5, 1) := by decide +kernel
theorem dX3_init_13 : decode cX3_init 13 = .ok (.newarray .int, 2) := by decide +kernel
theorem dX3_init_15 : decode cX3_init 15 = .ok (.putfield 15, 3) := by decide +kernel
theorem dX3_init_18 : decode cX3_init 18 = .ok (.aload_n 0, 1) := by decide +kernel
theorem dX3_init_19 : decode cX3_init 19 = .ok (.bipush 12, 2) := by decide +kernel
theorem dX3_init_21 : decode cX3_init 21 = .ok (.newarray .int, 2) := by decide +kernel
theorem dX3_init_23 : decode cX3_init 23 = .ok (.putfield 18, 3) := by decide +kernel
theorem dX3_init_26 : decode cX3_init 26 = .ok (.aload_n 0, 1) := by decide +kernel
theorem dX3_init_27 : decode cX3_init 27 = .ok (.bipush 12, 2) := by decide +kernel
theorem dX3_init_29 : decode cX3_init 29 = .ok (.newarray .int, 2) := by decide +kernel
theorem dX3_init_31 : decode cX3_init 31 = .ok (.putfield 21, 3) := by decide +kernel
theorem dX3_init_34 : decode cX3_init 34 = .ok (.aload_n 0, 1) := by decide +kernel
theorem dX3_init_35 : decode cX3_init 35 = .ok (.bipush 12, 2) := by decide +kernel
theorem dX3_init_37 : decode cX3_init 37 = .ok (.newarray .int, 2) := by decide +kernel
theorem dX3_init_39 : decode cX3_init 39 = .ok (.putfield 24, 3) := by decide +kernel
theorem dX3_init_42 : decode cX3_init 42 = .ok (.aload_n 0, 1) := by decide +kernel
theorem dX3_init_43 : decode cX3_init 43 = .ok (.bipush 6, 2) := by decide +kernel
theorem dX3_init_45 : decode cX3_init 45 = .ok (.newarray .int, 2) := by decide +kernel
theorem dX3_init_47 : decode cX3_init 47 = .ok (.putfield 27, 3) := by decide +kernel
theorem dX3_init_50 : decode cX3_init 50 = .ok (.aload_n 0, 1) := by decide +kernel
theorem dX3_init_51 : decode cX3_init 51 = .ok (.bipush 36, 2) := by decide +kernel
theorem dX3_init_53 : decode cX3_init 53 = .ok (.newarray .int, 2) := by decide +kernel
theorem dX3_init_55 : decode cX3_init 55 = .ok (.putfield 30, 3) := by decide +kernel
theorem dX3_init_58 : decode cX3_init 58 = .ok (.aload_n 0, 1) := by decide +kernel
theorem dX3_init_59 : decode cX3_init 59 = .ok (.new 33, 3) := by decide +kernel
theorem dX3_init_62 : decode cX3_init 62 = .ok (.dup, 1) := by decide +kernel
theorem dX3_init_63 : decode cX3_init 63 = .ok (.invokespecial 35, 3) := by decide +kernel
theorem dX3_init_66 : decode cX3_init 66 = .ok (.putfield 36, 3) := by decide +kernel
theorem dX3_init_69 : decode cX3_init 69 = .ok (.aload_n 0, 1) := by decide +kernel
theorem dX3_init_70 : decode cX3_init 70 = .ok (.new 40, 3) := by decide +kernel
theorem dX3_init_73 : decode cX3_init 73 = .ok (.dup, 1) := by decide +kernel
theorem dX3_init_74 : decode cX3_init 74 = .ok (.invokespecial 42, 3) := by decide +kernel
theorem dX3_init_77 : decode cX3_init 77 = .ok (.putfield 43, 3) := by decide +kernel
theorem dX3_init_80 : decode cX3_init 80 = .ok (.return_, 1) := by decide +kernel
abbrev MX3_init : JM := (cX3_init, 1, RX3, none, yX3_init)
theorem jn_X3_init : jnm MX3_init 0 := by decide +kernel
theorem jp_X3_init : plainName MX3_init.2.2.2.2.cls = true := by decide +kernel
theorem df_X3 : ∀ j, j < 12 → defaultValue (tyX3 j) = vp_V [.null, .null, .null, .null, .null, .null, .null, .null, .null, .int 0, .int 0, .int 0] j := by
  intro j hj
  rcases (show j = 0 ∨ j = 1 ∨ j = 2 ∨ j = 3 ∨ j = 4 ∨ j = 5 ∨ j = 6 ∨ j = 7 ∨ j = 8 ∨ j = 9 ∨ j = 10 ∨ j = 11 by omega) with rfl | rfl | rfl | rfl | rfl | rfl | rfl | rfl | rfl | rfl | rfl | rfl <;> rfl
theorem dX4_init_0 : decode cX4_init 0 = .ok (.aload_n 0, 1) := by decide +kernel
theorem dX4_init_1 : decode cX4_init 1 = .ok (.invokespecial 3, 3) := by decide +kernel
theorem dX4_init_4 : decode cX4_init 4 = .ok (.aload_n 0, 1) := by decide +kernel
theorem dX4_init_5 : decode cX4_init 5 = .ok (.new 9, 3) := by decide +kernel
theorem dX4_init_8 : decode cX4_init 8 = .ok (.dup, 1) := by decide +kernel
theorem dX4_init_9 : decode cX4_init 9 = .ok (.invokespecial 11, 3) := by decide +kernel
theorem dX4_init_12 : decode cX4_init 12 = .ok (.putfield 12, 3) := by decide +kernel
theorem dX4_init_15 : decode cX4_init 15 = .ok (.return_, 1) := by decide +kernel
abbrev MX4_init : JM := (cX4_init, 1, RX4, none, yX4_init)
theorem jn_X4_init : jnm MX4_init 0 := by decide +kernel
theorem jp_X4_init : plainName MX4_init.2.2.2.2.cls = true := by decide +kernel
theorem df_X4 : ∀ j, j < 1 → defaultValue (tyX4 j) = vp_V [.null] j := by
  intro j hj
  rcases (show j = 0 by omega) with rfl <;> rfl
theorem dX5_init_0 : decode cX5_init 0 = .ok (.aload_n 0, 1) := by decide +kernel
theorem dX5_init_1 : decode cX5_init 1 = .ok (.invokespecial 3, 3) := by decide +kernel
theorem dX5_init_4 : decode cX5_init 4 = .ok (.aload_n 0, 1) := by decide +kernel
theorem dX5_init_5 : decode cX5_init 5 = .ok (.iconst 5, 1) := by decide +kernel
theorem dX5_init_6 : decode cX5_init 6 = .ok (.newarray .int, 2) := by decide +kernel
theorem dX5_init_8 : decode cX5_init 8 = .ok (.putfield 9, 3) := by decide +kernel
theorem dX5_init_11 : decode cX5_init 11 = .ok (.aload_n 0, 1) := by decide +kernel
theorem dX5_init_12 : decode cX5_init 12 = .ok (.bipush 12, 2) := by decide +kernel
theorem dX5_init_14 : decode cX5_init 14 = .ok (.newarray .int, 2) := by decide +kernel
theorem dX5_init_16 : decode cX5_init 16 = .ok (.putfield 15, 3) := by decide +kernel
theorem dX5_init_19 : decode cX5_init 19 = .ok (.aload_n 0, 1) := by decide +kernel
theorem dX5_init_20 : decode cX5_init 20 = .ok (.bipush 6, 2) := by decide +kernel
theorem dX5_init_22 : decode cX5_init 22 = .ok (.newarray .int, 2) := by decide +kernel
theorem dX5_init_24 : decode cX5_init 24 = .ok (.putfield 18, 3) := by decide +kernel
theorem dX5_init_27 : decode cX5_init 27 = .ok (.aload_n 0, 1) := by decide +kernel
theorem dX5_init_28 : decode cX5_init 28 = .ok (.new 21, 3) := by decide +kernel
theorem dX5_init_31 : decode cX5_init 31 = .ok (.dup, 1) := by decide +kernel
theorem dX5_init_32 : decode cX5_init 32 = .ok (.invokespecial 23, 3) := by decide +kernel
theorem dX5_init_35 : decode cX5_init 35 = .ok (.putfield 24, 3) := by decide +kernel
theorem dX5_init_38 : decode cX5_init 38 = .ok (.aload_n 0, 1) := by decide +kernel
theorem dX5_init_39 : decode cX5_init 39 = .ok (.aload_n 1, 1) := by decide +kernel
theorem dX5_init_40 : decode cX5_init 40 = .ok (.putfield 28, 3) := by decide +kernel
theorem dX5_init_43 : decode cX5_init 43 = .ok (.return_, 1) := by decide +kernel
abbrev MX5_init : JM := (cX5_init, 2, RX5, none, yX5_init)
theorem jn_X5_init : jnm MX5_init 1 := by decide +kernel
theorem jp_X5_init : plainName MX5_init.2.2.2.2.cls = true := by decide +kernel
theorem df_X5 : ∀ j, j < 8 → defaultValue (tyX5 j) = vp_V [.null, .null, .null, .null, .null, .int 0, .int 0, .int 0] j := by
  intro j hj
  rcases (show j = 0 ∨ j = 1 ∨ j = 2 ∨ j = 3 ∨ j = 4 ∨ j = 5 ∨ j = 6 ∨ j = 7 by omega) with rfl | rfl | rfl | rfl | rfl | rfl | rfl | rfl <;> rfl
theorem dX6_init_0 : decode cX6_init 0 = .ok (.aload_n 0, 1) := by decide +kernel
theorem dX6_init_1 : decode cX6_init 1 = .ok (.invokespecial 3, 3) := by decide +kernel
theorem dX6_init_4 : decode cX6_init 4 = .ok (.aload_n 0, 1) := by decide +kernel
theorem dX6_init_5 : decode cX6_init 5 = .ok (.sipush 2000, 3) := by decide +kernel
theorem dX6_init_8 : decode cX6_init 8 = .ok (.newarray .byte, 2) := by decide +kernel
theorem dX6_init_10 : decode cX6_init 10 = .ok (.putfield 9, 3) := by decide +kernel
theorem dX6_init_13 : decode cX6_init 13 = .ok (.return_, 1) := by decide +kernel
abbrev MX6_init : JM := (cX6_init, 1, RX6, none, yX6_init)
theorem jn_X6_init : jnm MX6_init 0 := by decide +kernel
theorem jp_X6_init : plainName MX6_init.2.2.2.2.cls = true := by decide +kernel
theorem df_X6 : ∀ j, j < 2 → defaultValue (tyX6 j) = vp_V [.null, .int 0] j := by
  intro j hj
  rcases (show j = 0 ∨ j = 1 by omega) with rfl | rfl <;> rfl
theorem dX7_init_0 : decode cX7_init 0 = .ok (.aload_n 0, 1) := by decide +kernel
theorem dX7_init_1 : decode cX7_init 1 = .ok (.invokespecial 3, 3) := by decide +kernel
theorem dX7_init_4 : decode cX7_init 4 = .ok (.aload_n 0, 1) := by decide +kernel
theorem dX7_init_5 : decode cX7_init 5 = .ok (.sipush 401, 3) := by decide +kernel
theorem dX7_init_8 : decode cX7_init 8 = .ok (.newarray .int, 2) := by decide +kernel
theorem dX7_init_10 : decode cX7_init 10 = .ok (.putfield 9, 3) := by decide +kernel
theorem dX7_init_13 : decode cX7_init 13 = .ok (.aload_n 0, 1) := by decide +kernel
theorem dX7_init_14 : decode cX7_init 14 = .ok (.sipush 401, 3) := by decide +kernel
theorem dX7_init_17 : decode cX7_init 17 = .ok (.newarray .int, 2) := by decide +kernel
theorem dX7_init_19 : decode cX7_init 19 = .ok (.putfield 15, 3) := by decide +kernel
theorem dX7_init_22 : decode cX7_init 22 = .ok (.aload_n 0, 1) := by decide +kernel
theorem dX7_init_23 : decode cX7_init 23 = .ok (.sipush 401, 3) := by decide +kernel
theorem dX7_init_26 : decode cX7_init 26 = .ok (.newarray .long, 2) := by decide +kernel
theorem dX7_init_28 : decode cX7_init 28 = .ok (.putfield 18, 3) := by decide +kernel
theorem dX7_init_31 : decode cX7_init 31 = .ok (.return_, 1) := by decide +kernel
abbrev MX7_init : JM := (cX7_init, 1, RX7, none, yX7_init)
theorem jn_X7_init : jnm MX7_init 0 := by decide +kernel
theorem jp_X7_init : plainName MX7_init.2.2.2.2.cls = true := by decide +kernel
theorem df_X7 : ∀ j, j < 3 → defaultValue (tyX7 j) = vp_V [.null, .null, .null] j := by
  intro j hj
  rcases (show j = 0 ∨ j = 1 ∨ j = 2 by omega) with rfl | rfl | rfl <;> rfl
theorem dX9_init_0 : decode cX9_init 0 = .ok (.aload_n 0, 1) := by decide +kernel
theorem dX9_init_1 : decode cX9_init 1 = .ok (.invokespecial 1, 3) := by decide +kernel
theorem dX9_init_4 : decode cX9_init 4 = .ok (.aload_n 0, 1) := by decide +kernel
theorem dX9_init_5 : decode cX9_init 5 = .ok (.new 7, 3) := by decide +kernel
theorem dX9_init_8 : decode cX9_init 8 = .ok (.dup, 1) := by decide +kernel
theorem dX9_init_9 : decode cX9_init 9 = .ok (.invokespecial 9, 3) := by decide +kernel
theorem dX9_init_12 : decode cX9_init 12 = .ok (.putfield 10, 3) := by decide +kernel
theorem dX9_init_15 : decode cX9_init 15 = .ok (.aload_n 0, 1) := by decide +kernel
theorem dX9_init_16 : decode cX9_init 16 = .ok (.new 16, 3) := by decide +kernel
theorem dX9_init_19 : decode cX9_init 19 = .ok (.dup, 1) := by decide +kernel
theorem dX9_init_20 : decode cX9_init 20 = .ok (.invokespecial 18, 3) := by decide +kernel
theorem dX9_init_23 : decode cX9_init 23 = .ok (.putfield 19, 3) := by decide +kernel
theorem dX9_init_26 : decode cX9_init 26 = .ok (.aload_n 0, 1) := by decide +kernel
theorem dX9_init_27 : decode cX9_init 27 = .ok (.new 23, 3) := by decide +kernel
theorem dX9_init_30 : decode cX9_init 30 = .ok (.dup, 1) := by decide +kernel
theorem dX9_init_31 : decode cX9_init 31 = .ok (.aload_n 0, 1) := by decide +kernel
theorem dX9_init_32 : decode cX9_init 32 = .ok (.getfield 19, 3) := by decide +kernel
theorem dX9_init_35 : decode cX9_init 35 = .ok (.invokespecial 25, 3) := by decide +kernel
theorem dX9_init_38 : decode cX9_init 38 = .ok (.putfield 28, 3) := by decide +kernel
theorem dX9_init_41 : decode cX9_init 41 = .ok (.aload_n 0, 1) := by decide +kernel
theorem dX9_init_42 : decode cX9_init 42 = .ok (.new 32, 3) := by decide +kernel
theorem dX9_init_45 : decode cX9_init 45 = .ok (.dup, 1) := by decide +kernel
theorem dX9_init_46 : decode cX9_init 46 = .ok (.invokespecial 34, 3) := by decide +kernel
theorem dX9_init_49 : decode cX9_init 49 = .ok (.putfield 35, 3) := by decide +kernel
theorem dX9_init_52 : decode cX9_init 52 = .ok (.aload_n 0, 1) := by decide +kernel
theorem dX9_init_53 : decode cX9_init 53 = .ok (.new 39, 3) := by decide +kernel
theorem dX9_init_56 : decode cX9_init 56 = .ok (.dup, 1) := by decide +kernel
theorem dX9_init_57 : decode cX9_init 57 = .ok (.invokespecial 41, 3) := by decide +kernel
theorem dX9_init_60 : decode cX9_init 60 = .ok (.putfield 42, 3) := by decide +kernel
theorem dX9_init_63 : decode cX9_init 63 = .ok (.aload_n 0, 1) := by decide +kernel
theorem dX9_init_64 : decode cX9_init 64 = .ok (.new 39, 3) := by decide +kernel
theorem dX9_init_67 : decode cX9_init 67 = .ok (.dup, 1) := by decide +kernel
theorem dX9_init_68 : decode cX9_init 68 = .ok (.invokespecial 41, 3) := by decide +kernel
theorem dX9_init_71 : decode cX9_init 71 = .ok (.putfield 46, 3) := by decide +kernel
theorem dX9_init_74 : decode cX9_init 74 = .ok (.aload_n 0, 1) := by decide +kernel
theorem dX9_init_75 : decode cX9_init 75 = .ok (.new 49, 3) := by decide +kernel
theorem dX9_init_78 : decode cX9_init 78 = .ok (.dup, 1) := by decide +kernel
theorem dX9_init_79 : decode cX9_init 79 = .ok (.invokespecial 51, 3) := by decide +kernel
theorem dX9_init_82 : decode cX9_init 82 = .ok (.putfield 52, 3) := by decide +kernel
theorem dX9_init_85 : decode cX9_init 85 = .ok (.aload_n 0, 1) := by decide +kernel
theorem dX9_init_86 : decode cX9_init 86 = .ok (.iconst (-1), 1) := by decide +kernel
theorem dX9_init_87 : decode cX9_init 87 = .ok (.putfield 56, 3) := by decide +kernel
theorem dX9_init_90 : decode cX9_init 90 = .ok (.return_, 1) := by decide +kernel
abbrev MX9_init : JM := (cX9_init, 1, RX9, none, yX9_init)
theorem jn_X9_init : jnm MX9_init 0 := by decide +kernel
theorem jp_X9_init : plainName MX9_init.2.2.2.2.cls = true := by decide +kernel
theorem df_X9 : ∀ j, j < 8 → defaultValue (tyX9 j) = vp_V [.null, .null, .null, .null, .null, .null, .null, .int 0] j := by
  intro j hj
  rcases (show j = 0 ∨ j = 1 ∨ j = 2 ∨ j = 3 ∨ j = 4 ∨ j = 5 ∨ j = 6 ∨ j = 7 by omega) with rfl | rfl | rfl | rfl | rfl | rfl | rfl | rfl <;> rfl
theorem jw_634 : Cond.methodLink RX0 3 Lib.objectInit ∈ jGL := jmem 634 (by decide +kernel) rfl
theorem jw_651 : Cond.methodLink RX1 3 Lib.objectInit ∈ jGL := jmem 651 (by decide +kernel) rfl
theorem jw_503 : Cond.methodLink RX2 3 Lib.objectInit ∈ jGL := jmem 503 (by decide +kernel) rfl
theorem jw_471 : Cond.methodLink RX8 3 Lib.objectInit ∈ jGL := jmem 471 (by decide +kernel) rfl
theorem jw_465 : Cond.methodLink RX3 3 Lib.objectInit ∈ jGL := jmem 465 (by decide +kernel) rfl
theorem jw_466 : Cond.classLink RX3 33 RX8 ∈ jGL := jmem 466 (by decide +kernel) rfl
theorem jw_467 : Cond.instantiable RX8 7 ∈ jGL := jmem 467 (by decide +kernel) rfl
theorem jw_468 : Cond.methodLinkNest RX3 35 yX8_init "DriftOrgan" ∈ jGL := jmem 468 (by decide +kernel) rfl
theorem jw_469 : Cond.instanceMethod yX8_init ∈ jGL := jmem 469 (by decide +kernel) rfl
theorem jw_470 : Cond.code yX8_init cX8_init 1 none ∈ jGL := jmem 470 (by decide +kernel) rfl
theorem jw_498 : Cond.classLink RX3 40 RX2 ∈ jGL := jmem 498 (by decide +kernel) rfl
theorem jw_499 : Cond.instantiable RX2 8 ∈ jGL := jmem 499 (by decide +kernel) rfl
theorem jw_500 : Cond.methodLinkNest RX3 42 yX2_init "DriftOrgan" ∈ jGL := jmem 500 (by decide +kernel) rfl
theorem jw_501 : Cond.instanceMethod yX2_init ∈ jGL := jmem 501 (by decide +kernel) rfl
theorem jw_502 : Cond.code yX2_init cX2_init 1 none ∈ jGL := jmem 502 (by decide +kernel) rfl
theorem jw_629 : Cond.methodLink RX4 3 Lib.objectInit ∈ jGL := jmem 629 (by decide +kernel) rfl
theorem jw_630 : Cond.classLink RX4 9 RX0 ∈ jGL := jmem 630 (by decide +kernel) rfl
theorem jw_218 : Cond.instantiable RX0 2 ∈ jGL := jmem 218 (by decide +kernel) rfl
theorem jw_631 : Cond.methodLinkNest RX4 11 yX0_init "DriftOrgan" ∈ jGL := jmem 631 (by decide +kernel) rfl
theorem jw_632 : Cond.instanceMethod yX0_init ∈ jGL := jmem 632 (by decide +kernel) rfl
theorem jw_633 : Cond.code yX0_init cX0_init 1 none ∈ jGL := jmem 633 (by decide +kernel) rfl
theorem jw_459 : Cond.methodLink RX5 3 Lib.objectInit ∈ jGL := jmem 459 (by decide +kernel) rfl
theorem jw_460 : Cond.classLink RX5 21 RX3 ∈ jGL := jmem 460 (by decide +kernel) rfl
theorem jw_461 : Cond.instantiable RX3 12 ∈ jGL := jmem 461 (by decide +kernel) rfl
theorem jw_462 : Cond.methodLinkNest RX5 23 yX3_init "DriftOrgan" ∈ jGL := jmem 462 (by decide +kernel) rfl
theorem jw_463 : Cond.instanceMethod yX3_init ∈ jGL := jmem 463 (by decide +kernel) rfl
theorem jw_464 : Cond.code yX3_init cX3_init 1 none ∈ jGL := jmem 464 (by decide +kernel) rfl
theorem jw_427 : Cond.methodLink RX6 3 Lib.objectInit ∈ jGL := jmem 427 (by decide +kernel) rfl
theorem jw_441 : Cond.methodLink RX7 3 Lib.objectInit ∈ jGL := jmem 441 (by decide +kernel) rfl
theorem jw_421 : Cond.methodLink RX9 1 Lib.objectInit ∈ jGL := jmem 421 (by decide +kernel) rfl
theorem jw_422 : Cond.classLink RX9 7 RX6 ∈ jGL := jmem 422 (by decide +kernel) rfl
theorem jw_423 : Cond.instantiable RX6 2 ∈ jGL := jmem 423 (by decide +kernel) rfl
theorem jw_424 : Cond.methodLinkNest RX9 9 yX6_init "DriftOrgan" ∈ jGL := jmem 424 (by decide +kernel) rfl
theorem jw_425 : Cond.instanceMethod yX6_init ∈ jGL := jmem 425 (by decide +kernel) rfl
theorem jw_426 : Cond.code yX6_init cX6_init 1 none ∈ jGL := jmem 426 (by decide +kernel) rfl
theorem jw_436 : Cond.classLink RX9 16 RX7 ∈ jGL := jmem 436 (by decide +kernel) rfl
theorem jw_437 : Cond.instantiable RX7 3 ∈ jGL := jmem 437 (by decide +kernel) rfl
theorem jw_438 : Cond.methodLinkNest RX9 18 yX7_init "DriftOrgan" ∈ jGL := jmem 438 (by decide +kernel) rfl
theorem jw_439 : Cond.instanceMethod yX7_init ∈ jGL := jmem 439 (by decide +kernel) rfl
theorem jw_440 : Cond.code yX7_init cX7_init 1 none ∈ jGL := jmem 440 (by decide +kernel) rfl
theorem jw_454 : Cond.classLink RX9 23 RX5 ∈ jGL := jmem 454 (by decide +kernel) rfl
theorem jw_455 : Cond.instantiable RX5 8 ∈ jGL := jmem 455 (by decide +kernel) rfl
theorem jw_456 : Cond.methodLink RX9 25 yX5_init ∈ jGL := jmem 456 (by decide +kernel) rfl
theorem jw_457 : Cond.instanceMethod yX5_init ∈ jGL := jmem 457 (by decide +kernel) rfl
theorem jw_458 : Cond.code yX5_init cX5_init 2 none ∈ jGL := jmem 458 (by decide +kernel) rfl
theorem jw_625 : Cond.classLink RX9 32 RX4 ∈ jGL := jmem 625 (by decide +kernel) rfl
theorem jw_335 : Cond.instantiable RX4 1 ∈ jGL := jmem 335 (by decide +kernel) rfl
theorem jw_626 : Cond.methodLinkNest RX9 34 yX4_init "DriftOrgan" ∈ jGL := jmem 626 (by decide +kernel) rfl
theorem jw_627 : Cond.instanceMethod yX4_init ∈ jGL := jmem 627 (by decide +kernel) rfl
theorem jw_628 : Cond.code yX4_init cX4_init 1 none ∈ jGL := jmem 628 (by decide +kernel) rfl
theorem jw_646 : Cond.classLink RX9 39 RX1 ∈ jGL := jmem 646 (by decide +kernel) rfl
theorem jw_647 : Cond.instantiable RX1 9 ∈ jGL := jmem 647 (by decide +kernel) rfl
theorem jw_648 : Cond.methodLinkNest RX9 41 yX1_init "DriftOrgan" ∈ jGL := jmem 648 (by decide +kernel) rfl
theorem jw_649 : Cond.instanceMethod yX1_init ∈ jGL := jmem 649 (by decide +kernel) rfl
theorem jw_650 : Cond.code yX1_init cX1_init 1 none ∈ jGL := jmem 650 (by decide +kernel) rfl
theorem jw_703 : Cond.classLink RX9 49 RX3 ∈ jGL := jmem 703 (by decide +kernel) rfl
theorem jw_704 : Cond.methodLinkNest RX9 51 yX3_init "DriftOrgan" ∈ jGL := jmem 704 (by decide +kernel) rfl
def kP0 (h : Nat) (cs : Nat → ClassId) (X : va_W) : Prop := ∃ (a0 : Nat), X = [(h, .inr (2, [.ref a0, .int 0])), (a0, .inl (cs 0, 400, .inl (fun _ => 0)))]
set_option maxRecDepth 20000 in
theorem k_X0 (h : Nat) : jSN MX0_init 1 1 400 h [] (.inr (2, [.null, .int 0])) (kP0 h) := by
  refine jSN_of jp_X0_init rfl rfl (Nat.le_of_ble_eq_true rfl) (fun C hm hi => ?_)
  refine jg_aload_n hm (i := 0) (q := h) rfl rfl dX0_init_0 ?_
  refine jg_objInit hm jw_634 jw_104 jw_105 (by decide) (Nat.le_of_ble_eq_true rfl) rfl dX0_init_1 ?_
  refine jg_aload_n hm (i := 0) (q := h) rfl rfl dX0_init_4 ?_
  refine jg_sipush hm (v := 400) (by decide) dX0_init_5 ?_
  refine jg_newi hm (N := 400) (by decide) (by decide +kernel) (Nat.le_of_ble_eq_true rfl) (Nat.le_of_ble_eq_true rfl) (Nat.le_of_ble_eq_true rfl) dX0_init_8 (fun a0 => ?_)
  refine jg_putF hm hi (ty0 := tyX0) 0 0 rfl rfl jin_X0 tyX0_ok nmX0 (by decide) jw_635 rfl rfl rfl rfl (Nat.le_of_ble_eq_true rfl) dX0_init_10 ?_
  refine jg_eq (X2 := [(h, .inr (2, [.ref a0, .int 0])), (a0, .inl (jcs C 0, 400, .inl (fun _ => 0)))]) rfl ?_
  exact jg_return hm rfl (Nat.le_of_ble_eq_true rfl) (Nat.le_of_ble_eq_true rfl) dX0_init_13 ⟨a0, rfl⟩
def kP1 (h : Nat) (cs : Nat → ClassId) (X : va_W) : Prop := ∃ (a0 : Nat) (a1 : Nat) (a2 : Nat) (a3 : Nat) (a4 : Nat), X = [(h, .inr (3, [.ref a0, .ref a1, .ref a2, .ref a3, .ref a4, .int 0, .int 4, .int 0, .int 0])), (a0, .inl (cs 0, 5, .inl (fun _ => 0))), (a1, .inl (cs 0, 12, .inl (fun _ => 0))), (a2, .inl (cs 0, 12, .inl (fun _ => 0))), (a3, .inl (cs 0, 12, .inl (fun _ => 0))), (a4, .inl (cs 0, 6, .inl (fun _ => 0)))]
set_option maxRecDepth 20000 in
theorem k_X1 (h : Nat) : jSN MX1_init 1 5 47 h [] (.inr (3, [.null, .null, .null, .null, .null, .int 0, .int 0, .int 0, .int 0])) (kP1 h) := by
  refine jSN_of jp_X1_init rfl rfl (Nat.le_of_ble_eq_true rfl) (fun C hm hi => ?_)
  refine jg_aload_n hm (i := 0) (q := h) rfl rfl dX1_init_0 ?_
  refine jg_objInit hm jw_651 jw_104 jw_105 (by decide) (Nat.le_of_ble_eq_true rfl) rfl dX1_init_1 ?_
  refine jg_aload_n hm (i := 0) (q := h) rfl rfl dX1_init_4 ?_
  refine jg_iconst hm (v := 5) (by decide) dX1_init_5 ?_
  refine jg_newi hm (N := 5) (by decide) (by decide +kernel) (Nat.le_of_ble_eq_true rfl) (Nat.le_of_ble_eq_true rfl) (Nat.le_of_ble_eq_true rfl) dX1_init_6 (fun a0 => ?_)
  refine jg_putF hm hi (ty0 := tyX1) 0 0 rfl rfl jin_X1 tyX1_ok nmX1 (by decide) jw_652 rfl rfl rfl rfl (Nat.le_of_ble_eq_true rfl) dX1_init_8 ?_
  refine jg_eq (X2 := [(h, .inr (3, [.ref a0, .null, .null, .null, .null, .int 0, .int 0, .int 0, .int 0])), (a0, .inl (jcs C 0, 5, .inl (fun _ => 0)))]) rfl ?_
  refine jg_aload_n hm (i := 0) (q := h) rfl rfl dX1_init_11 ?_
  refine jg_bipush hm (v := 12) (by decide) dX1_init_12 ?_
  refine jg_newi hm (N := 12) (by decide) (by decide +kernel) (Nat.le_of_ble_eq_true rfl) (Nat.le_of_ble_eq_true rfl) (Nat.le_of_ble_eq_true rfl) dX1_init_14 (fun a1 => ?_)
  refine jg_putF hm hi (ty0 := tyX1) 0 1 rfl rfl jin_X1 tyX1_ok nmX1 (by decide) jw_656 rfl rfl rfl rfl (Nat.le_of_ble_eq_true rfl) dX1_init_16 ?_
  refine jg_eq (X2 := [(h, .inr (3, [.ref a0, .ref a1, .null, .null, .null, .int 0, .int 0, .int 0, .int 0])), (a0, .inl (jcs C 0, 5, .inl (fun _ => 0))), (a1, .inl (jcs C 0, 12, .inl (fun _ => 0)))]) rfl ?_
  refine jg_aload_n hm (i := 0) (q := h) rfl rfl dX1_init_19 ?_
  refine jg_bipush hm (v := 12) (by decide) dX1_init_20 ?_
  refine jg_newi hm (N := 12) (by decide) (by decide +kernel) (Nat.le_of_ble_eq_true rfl) (Nat.le_of_ble_eq_true rfl) (Nat.le_of_ble_eq_true rfl) dX1_init_22 (fun a2 => ?_)
  refine jg_putF hm hi (ty0 := tyX1) 0 2 rfl rfl jin_X1 tyX1_ok nmX1 (by decide) jw_660 rfl rfl rfl rfl (Nat.le_of_ble_eq_true rfl) dX1_init_24 ?_
  refine jg_eq (X2 := [(h, .inr (3, [.ref a0, .ref a1, .ref a2, .null, .null, .int 0, .int 0, .int 0, .int 0])), (a0, .inl (jcs C 0, 5, .inl (fun _ => 0))), (a1, .inl (jcs C 0, 12, .inl (fun _ => 0))), (a2, .inl (jcs C 0, 12, .inl (fun _ => 0)))]) rfl ?_
  refine jg_aload_n hm (i := 0) (q := h) rfl rfl dX1_init_27 ?_
  refine jg_bipush hm (v := 12) (by decide) dX1_init_28 ?_
  refine jg_newi hm (N := 12) (by decide) (by decide +kernel) (Nat.le_of_ble_eq_true rfl) (Nat.le_of_ble_eq_true rfl) (Nat.le_of_ble_eq_true rfl) dX1_init_30 (fun a3 => ?_)
  refine jg_putF hm hi (ty0 := tyX1) 0 3 rfl rfl jin_X1 tyX1_ok nmX1 (by decide) jw_664 rfl rfl rfl rfl (Nat.le_of_ble_eq_true rfl) dX1_init_32 ?_
  refine jg_eq (X2 := [(h, .inr (3, [.ref a0, .ref a1, .ref a2, .ref a3, .null, .int 0, .int 0, .int 0, .int 0])), (a0, .inl (jcs C 0, 5, .inl (fun _ => 0))), (a1, .inl (jcs C 0, 12, .inl (fun _ => 0))), (a2, .inl (jcs C 0, 12, .inl (fun _ => 0))), (a3, .inl (jcs C 0, 12, .inl (fun _ => 0)))]) rfl ?_
  refine jg_aload_n hm (i := 0) (q := h) rfl rfl dX1_init_35 ?_
  refine jg_bipush hm (v := 6) (by decide) dX1_init_36 ?_
  refine jg_newi hm (N := 6) (by decide) (by decide +kernel) (Nat.le_of_ble_eq_true rfl) (Nat.le_of_ble_eq_true rfl) (Nat.le_of_ble_eq_true rfl) dX1_init_38 (fun a4 => ?_)
  refine jg_putF hm hi (ty0 := tyX1) 0 4 rfl rfl jin_X1 tyX1_ok nmX1 (by decide) jw_667 rfl rfl rfl rfl (Nat.le_of_ble_eq_true rfl) dX1_init_40 ?_
  refine jg_eq (X2 := [(h, .inr (3, [.ref a0, .ref a1, .ref a2, .ref a3, .ref a4, .int 0, .int 0, .int 0, .int 0])), (a0, .inl (jcs C 0, 5, .inl (fun _ => 0))), (a1, .inl (jcs C 0, 12, .inl (fun _ => 0))), (a2, .inl (jcs C 0, 12, .inl (fun _ => 0))), (a3, .inl (jcs C 0, 12, .inl (fun _ => 0))), (a4, .inl (jcs C 0, 6, .inl (fun _ => 0)))]) rfl ?_
  refine jg_aload_n hm (i := 0) (q := h) rfl rfl dX1_init_43 ?_
  refine jg_iconst hm (v := 4) (by decide) dX1_init_44 ?_
  refine jg_put hm (ty0 := tyX1) 0 6 rfl rfl jin_X1 tyX1_ok nmX1 (by decide) jw_673 rfl rfl rfl rfl (Nat.le_of_ble_eq_true rfl) dX1_init_45 ?_
  refine jg_eq (X2 := [(h, .inr (3, [.ref a0, .ref a1, .ref a2, .ref a3, .ref a4, .int 0, .int 4, .int 0, .int 0])), (a0, .inl (jcs C 0, 5, .inl (fun _ => 0))), (a1, .inl (jcs C 0, 12, .inl (fun _ => 0))), (a2, .inl (jcs C 0, 12, .inl (fun _ => 0))), (a3, .inl (jcs C 0, 12, .inl (fun _ => 0))), (a4, .inl (jcs C 0, 6, .inl (fun _ => 0)))]) rfl ?_
  exact jg_return hm rfl (Nat.le_of_ble_eq_true rfl) (Nat.le_of_ble_eq_true rfl) dX1_init_48 ⟨a0, a1, a2, a3, a4, rfl⟩
def kP2 (h : Nat) (cs : Nat → ClassId) (X : va_W) : Prop := ∃ (a0 : Nat) (a1 : Nat) (a2 : Nat) (a3 : Nat) (a4 : Nat) (a5 : Nat), X = [(h, .inr (4, [.ref a0, .ref a1, .ref a2, .ref a3, .ref a4, .ref a5, .int 0, .int 0])), (a0, .inl (cs 0, 16, .inl (fun _ => 0))), (a1, .inl (cs 0, 16, .inl (fun _ => 0))), (a2, .inl (cs 0, 16, .inl (fun _ => 0))), (a3, .inl (cs 0, 16, .inl (fun _ => 0))), (a4, .inl (cs 0, 400, .inl (fun _ => 0))), (a5, .inl (cs 0, 400, .inl (fun _ => 0)))]
set_option maxRecDepth 20000 in
theorem k_X2 (h : Nat) : jSN MX2_init 1 6 864 h [] (.inr (4, [.null, .null, .null, .null, .null, .null, .int 0, .int 0])) (kP2 h) := by
  refine jSN_of jp_X2_init rfl rfl (Nat.le_of_ble_eq_true rfl) (fun C hm hi => ?_)
  refine jg_aload_n hm (i := 0) (q := h) rfl rfl dX2_init_0 ?_
  refine jg_objInit hm jw_503 jw_104 jw_105 (by decide) (Nat.le_of_ble_eq_true rfl) rfl dX2_init_1 ?_
  refine jg_aload_n hm (i := 0) (q := h) rfl rfl dX2_init_4 ?_
  refine jg_bipush hm (v := 16) (by decide) dX2_init_5 ?_
  refine jg_newi hm (N := 16) (by decide) (by decide +kernel) (Nat.le_of_ble_eq_true rfl) (Nat.le_of_ble_eq_true rfl) (Nat.le_of_ble_eq_true rfl) dX2_init_7 (fun a0 => ?_)
  refine jg_putF hm hi (ty0 := tyX2) 0 0 rfl rfl jin_X2 tyX2_ok nmX2 (by decide) jw_504 rfl rfl rfl rfl (Nat.le_of_ble_eq_true rfl) dX2_init_9 ?_
  refine jg_eq (X2 := [(h, .inr (4, [.ref a0, .null, .null, .null, .null, .null, .int 0, .int 0])), (a0, .inl (jcs C 0, 16, .inl (fun _ => 0)))]) rfl ?_
  refine jg_aload_n hm (i := 0) (q := h) rfl rfl dX2_init_12 ?_
  refine jg_bipush hm (v := 16) (by decide) dX2_init_13 ?_
  refine jg_newi hm (N := 16) (by decide) (by decide +kernel) (Nat.le_of_ble_eq_true rfl) (Nat.le_of_ble_eq_true rfl) (Nat.le_of_ble_eq_true rfl) dX2_init_15 (fun a1 => ?_)
  refine jg_putF hm hi (ty0 := tyX2) 0 1 rfl rfl jin_X2 tyX2_ok nmX2 (by decide) jw_506 rfl rfl rfl rfl (Nat.le_of_ble_eq_true rfl) dX2_init_17 ?_
  refine jg_eq (X2 := [(h, .inr (4, [.ref a0, .ref a1, .null, .null, .null, .null, .int 0, .int 0])), (a0, .inl (jcs C 0, 16, .inl (fun _ => 0))), (a1, .inl (jcs C 0, 16, .inl (fun _ => 0)))]) rfl ?_
  refine jg_aload_n hm (i := 0) (q := h) rfl rfl dX2_init_20 ?_
  refine jg_bipush hm (v := 16) (by decide) dX2_init_21 ?_
  refine jg_newi hm (N := 16) (by decide) (by decide +kernel) (Nat.le_of_ble_eq_true rfl) (Nat.le_of_ble_eq_true rfl) (Nat.le_of_ble_eq_true rfl) dX2_init_23 (fun a2 => ?_)
  refine jg_putF hm hi (ty0 := tyX2) 0 2 rfl rfl jin_X2 tyX2_ok nmX2 (by decide) jw_508 rfl rfl rfl rfl (Nat.le_of_ble_eq_true rfl) dX2_init_25 ?_
  refine jg_eq (X2 := [(h, .inr (4, [.ref a0, .ref a1, .ref a2, .null, .null, .null, .int 0, .int 0])), (a0, .inl (jcs C 0, 16, .inl (fun _ => 0))), (a1, .inl (jcs C 0, 16, .inl (fun _ => 0))), (a2, .inl (jcs C 0, 16, .inl (fun _ => 0)))]) rfl ?_
  refine jg_aload_n hm (i := 0) (q := h) rfl rfl dX2_init_28 ?_
  refine jg_bipush hm (v := 16) (by decide) dX2_init_29 ?_
  refine jg_newi hm (N := 16) (by decide) (by decide +kernel) (Nat.le_of_ble_eq_true rfl) (Nat.le_of_ble_eq_true rfl) (Nat.le_of_ble_eq_true rfl) dX2_init_31 (fun a3 => ?_)
  refine jg_putF hm hi (ty0 := tyX2) 0 3 rfl rfl jin_X2 tyX2_ok nmX2 (by decide) jw_510 rfl rfl rfl rfl (Nat.le_of_ble_eq_true rfl) dX2_init_33 ?_
  refine jg_eq (X2 := [(h, .inr (4, [.ref a0, .ref a1, .ref a2, .ref a3, .null, .null, .int 0, .int 0])), (a0, .inl (jcs C 0, 16, .inl (fun _ => 0))), (a1, .inl (jcs C 0, 16, .inl (fun _ => 0))), (a2, .inl (jcs C 0, 16, .inl (fun _ => 0))), (a3, .inl (jcs C 0, 16, .inl (fun _ => 0)))]) rfl ?_
  refine jg_aload_n hm (i := 0) (q := h) rfl rfl dX2_init_36 ?_
  refine jg_sipush hm (v := 400) (by decide) dX2_init_37 ?_
  refine jg_newi hm (N := 400) (by decide) (by decide +kernel) (Nat.le_of_ble_eq_true rfl) (Nat.le_of_ble_eq_true rfl) (Nat.le_of_ble_eq_true rfl) dX2_init_40 (fun a4 => ?_)
  refine jg_putF hm hi (ty0 := tyX2) 0 4 rfl rfl jin_X2 tyX2_ok nmX2 (by decide) jw_512 rfl rfl rfl rfl (Nat.le_of_ble_eq_true rfl) dX2_init_42 ?_
  refine jg_eq (X2 := [(h, .inr (4, [.ref a0, .ref a1, .ref a2, .ref a3, .ref a4, .null, .int 0, .int 0])), (a0, .inl (jcs C 0, 16, .inl (fun _ => 0))), (a1, .inl (jcs C 0, 16, .inl (fun _ => 0))), (a2, .inl (jcs C 0, 16, .inl (fun _ => 0))), (a3, .inl (jcs C 0, 16, .inl (fun _ => 0))), (a4, .inl (jcs C 0, 400, .inl (fun _ => 0)))]) rfl ?_
  refine jg_aload_n hm (i := 0) (q := h) rfl rfl dX2_init_45 ?_
  refine jg_sipush hm (v := 400) (by decide) dX2_init_46 ?_
  refine jg_newi hm (N := 400) (by decide) (by decide +kernel) (Nat.le_of_ble_eq_true rfl) (Nat.le_of_ble_eq_true rfl) (Nat.le_of_ble_eq_true rfl) dX2_init_49 (fun a5 => ?_)
  refine jg_putF hm hi (ty0 := tyX2) 0 5 rfl rfl jin_X2 tyX2_ok nmX2 (by decide) jw_514 rfl rfl rfl rfl (Nat.le_of_ble_eq_true rfl) dX2_init_51 ?_
  refine jg_eq (X2 := [(h, .inr (4, [.ref a0, .ref a1, .ref a2, .ref a3, .ref a4, .ref a5, .int 0, .int 0])), (a0, .inl (jcs C 0, 16, .inl (fun _ => 0))), (a1, .inl (jcs C 0, 16, .inl (fun _ => 0))), (a2, .inl (jcs C 0, 16, .inl (fun _ => 0))), (a3, .inl (jcs C 0, 16, .inl (fun _ => 0))), (a4, .inl (jcs C 0, 400, .inl (fun _ => 0))), (a5, .inl (jcs C 0, 400, .inl (fun _ => 0)))]) rfl ?_
  exact jg_return hm rfl (Nat.le_of_ble_eq_true rfl) (Nat.le_of_ble_eq_true rfl) dX2_init_54 ⟨a0, a1, a2, a3, a4, a5, rfl⟩
def kP8 (h : Nat) (cs : Nat → ClassId) (X : va_W) : Prop := ∃ (a0 : Nat) (a1 : Nat) (a2 : Nat) (a3 : Nat) (a4 : Nat), X = [(h, .inr (10, [.ref a0, .ref a1, .ref a2, .ref a3, .ref a4, .int 0, .int 0])), (a0, .inl (cs 0, 5, .inl (fun _ => 0))), (a1, .inl (cs 0, 5, .inl (fun _ => 0))), (a2, .inl (cs 0, 5, .inl (fun _ => 0))), (a3, .inl (cs 0, 3, .inl (fun _ => 0))), (a4, .inl (cs 0, 3, .inl (fun _ => 0)))]
set_option maxRecDepth 20000 in
theorem k_X8 (h : Nat) : jSN MX8_init 1 5 21 h [] (.inr (10, [.null, .null, .null, .null, .null, .int 0, .int 0])) (kP8 h) := by
  refine jSN_of jp_X8_init rfl rfl (Nat.le_of_ble_eq_true rfl) (fun C hm hi => ?_)
  refine jg_aload_n hm (i := 0) (q := h) rfl rfl dX8_init_0 ?_
  refine jg_objInit hm jw_471 jw_104 jw_105 (by decide) (Nat.le_of_ble_eq_true rfl) rfl dX8_init_1 ?_
  refine jg_aload_n hm (i := 0) (q := h) rfl rfl dX8_init_4 ?_
  refine jg_iconst hm (v := 5) (by decide) dX8_init_5 ?_
  refine jg_newi hm (N := 5) (by decide) (by decide +kernel) (Nat.le_of_ble_eq_true rfl) (Nat.le_of_ble_eq_true rfl) (Nat.le_of_ble_eq_true rfl) dX8_init_6 (fun a0 => ?_)
  refine jg_putF hm hi (ty0 := tyX8) 0 0 rfl rfl jin_X8 tyX8_ok nmX8 (by decide) jw_472 rfl rfl rfl rfl (Nat.le_of_ble_eq_true rfl) dX8_init_8 ?_
  refine jg_eq (X2 := [(h, .inr (10, [.ref a0, .null, .null, .null, .null, .int 0, .int 0])), (a0, .inl (jcs C 0, 5, .inl (fun _ => 0)))]) rfl ?_
  refine jg_aload_n hm (i := 0) (q := h) rfl rfl dX8_init_11 ?_
  refine jg_iconst hm (v := 5) (by decide) dX8_init_12 ?_
  refine jg_newi hm (N := 5) (by decide) (by decide +kernel) (Nat.le_of_ble_eq_true rfl) (Nat.le_of_ble_eq_true rfl) (Nat.le_of_ble_eq_true rfl) dX8_init_13 (fun a1 => ?_)
  refine jg_putF hm hi (ty0 := tyX8) 0 1 rfl rfl jin_X8 tyX8_ok nmX8 (by decide) jw_473 rfl rfl rfl rfl (Nat.le_of_ble_eq_true rfl) dX8_init_15 ?_
  refine jg_eq (X2 := [(h, .inr (10, [.ref a0, .ref a1, .null, .null, .null, .int 0, .int 0])), (a0, .inl (jcs C 0, 5, .inl (fun _ => 0))), (a1, .inl (jcs C 0, 5, .inl (fun _ => 0)))]) rfl ?_
  refine jg_aload_n hm (i := 0) (q := h) rfl rfl dX8_init_18 ?_
  refine jg_iconst hm (v := 5) (by decide) dX8_init_19 ?_
  refine jg_newi hm (N := 5) (by decide) (by decide +kernel) (Nat.le_of_ble_eq_true rfl) (Nat.le_of_ble_eq_true rfl) (Nat.le_of_ble_eq_true rfl) dX8_init_20 (fun a2 => ?_)
  refine jg_putF hm hi (ty0 := tyX8) 0 2 rfl rfl jin_X8 tyX8_ok nmX8 (by decide) jw_474 rfl rfl rfl rfl (Nat.le_of_ble_eq_true rfl) dX8_init_22 ?_
  refine jg_eq (X2 := [(h, .inr (10, [.ref a0, .ref a1, .ref a2, .null, .null, .int 0, .int 0])), (a0, .inl (jcs C 0, 5, .inl (fun _ => 0))), (a1, .inl (jcs C 0, 5, .inl (fun _ => 0))), (a2, .inl (jcs C 0, 5, .inl (fun _ => 0)))]) rfl ?_
  refine jg_aload_n hm (i := 0) (q := h) rfl rfl dX8_init_25 ?_
  refine jg_iconst hm (v := 3) (by decide) dX8_init_26 ?_
  refine jg_newi hm (N := 3) (by decide) (by decide +kernel) (Nat.le_of_ble_eq_true rfl) (Nat.le_of_ble_eq_true rfl) (Nat.le_of_ble_eq_true rfl) dX8_init_27 (fun a3 => ?_)
  refine jg_putF hm hi (ty0 := tyX8) 0 3 rfl rfl jin_X8 tyX8_ok nmX8 (by decide) jw_475 rfl rfl rfl rfl (Nat.le_of_ble_eq_true rfl) dX8_init_29 ?_
  refine jg_eq (X2 := [(h, .inr (10, [.ref a0, .ref a1, .ref a2, .ref a3, .null, .int 0, .int 0])), (a0, .inl (jcs C 0, 5, .inl (fun _ => 0))), (a1, .inl (jcs C 0, 5, .inl (fun _ => 0))), (a2, .inl (jcs C 0, 5, .inl (fun _ => 0))), (a3, .inl (jcs C 0, 3, .inl (fun _ => 0)))]) rfl ?_
  refine jg_aload_n hm (i := 0) (q := h) rfl rfl dX8_init_32 ?_
  refine jg_iconst hm (v := 3) (by decide) dX8_init_33 ?_
  refine jg_newi hm (N := 3) (by decide) (by decide +kernel) (Nat.le_of_ble_eq_true rfl) (Nat.le_of_ble_eq_true rfl) (Nat.le_of_ble_eq_true rfl) dX8_init_34 (fun a4 => ?_)
  refine jg_putF hm hi (ty0 := tyX8) 0 4 rfl rfl jin_X8 tyX8_ok nmX8 (by decide) jw_476 rfl rfl rfl rfl (Nat.le_of_ble_eq_true rfl) dX8_init_36 ?_
  refine jg_eq (X2 := [(h, .inr (10, [.ref a0, .ref a1, .ref a2, .ref a3, .ref a4, .int 0, .int 0])), (a0, .inl (jcs C 0, 5, .inl (fun _ => 0))), (a1, .inl (jcs C 0, 5, .inl (fun _ => 0))), (a2, .inl (jcs C 0, 5, .inl (fun _ => 0))), (a3, .inl (jcs C 0, 3, .inl (fun _ => 0))), (a4, .inl (jcs C 0, 3, .inl (fun _ => 0)))]) rfl ?_
  exact jg_return hm rfl (Nat.le_of_ble_eq_true rfl) (Nat.le_of_ble_eq_true rfl) dX8_init_39 ⟨a0, a1, a2, a3, a4, rfl⟩
def kP3 (h : Nat) (cs : Nat → ClassId) (X : va_W) : Prop := ∃ (a0 : Nat) (a1 : Nat) (a2 : Nat) (a3 : Nat) (a4 : Nat) (a5 : Nat) (a6 : Nat) (w7 : Nat) (w8 : Nat) (Y0 : va_W) (Y1 : va_W), kP8 w7 cs Y0 ∧ kP2 w8 cs Y1 ∧ X = (([(h, .inr (5, [.ref a0, .ref a1, .ref a2, .ref a3, .ref a4, .ref a5, .ref a6, .ref w7, .ref w8, .int 0, .int 0, .int 0])), (a0, .inl (cs 0, 5, .inl (fun _ => 0))), (a1, .inl (cs 0, 5, .inl (fun _ => 0))), (a2, .inl (cs 0, 12, .inl (fun _ => 0))), (a3, .inl (cs 0, 12, .inl (fun _ => 0))), (a4, .inl (cs 0, 12, .inl (fun _ => 0))), (a5, .inl (cs 0, 6, .inl (fun _ => 0))), (a6, .inl (cs 0, 36, .inl (fun _ => 0)))] ++ Y0) ++ Y1)
set_option maxRecDepth 20000 in
theorem k_X3 (h : Nat) : jSN MX3_init 2 20 988 h [] (.inr (5, [.null, .null, .null, .null, .null, .null, .null, .null, .null, .int 0, .int 0, .int 0])) (kP3 h) := by
  refine jSN_of jp_X3_init rfl rfl (Nat.le_of_ble_eq_true rfl) (fun C hm hi => ?_)
  refine jg_aload_n hm (i := 0) (q := h) rfl rfl dX3_init_0 ?_
  refine jg_objInit hm jw_465 jw_104 jw_105 (by decide) (Nat.le_of_ble_eq_true rfl) rfl dX3_init_1 ?_
  refine jg_aload_n hm (i := 0) (q := h) rfl rfl dX3_init_4 ?_
  refine jg_iconst hm (v := 5) (by decide) dX3_init_5 ?_
  refine jg_newi hm (N := 5) (by decide) (by decide +kernel) (Nat.le_of_ble_eq_true rfl) (Nat.le_of_ble_eq_true rfl) (Nat.le_of_ble_eq_true rfl) dX3_init_6 (fun a0 => ?_)
  refine jg_putF hm hi (ty0 := tyX3) 0 0 rfl rfl jin_X3 tyX3_ok nmX3 (by decide) jw_538 rfl rfl rfl rfl (Nat.le_of_ble_eq_true rfl) dX3_init_8 ?_
  refine jg_eq (X2 := [(h, .inr (5, [.ref a0, .null, .null, .null, .null, .null, .null, .null, .null, .int 0, .int 0, .int 0])), (a0, .inl (jcs C 0, 5, .inl (fun _ => 0)))]) rfl ?_
  refine jg_aload_n hm (i := 0) (q := h) rfl rfl dX3_init_11 ?_
  refine jg_iconst hm (v := 5) (by decide) dX3_init_12 ?_
  refine jg_newi hm (N := 5) (by decide) (by decide +kernel) (Nat.le_of_ble_eq_true rfl) (Nat.le_of_ble_eq_true rfl) (Nat.le_of_ble_eq_true rfl) dX3_init_13 (fun a1 => ?_)
  refine jg_putF hm hi (ty0 := tyX3) 0 1 rfl rfl jin_X3 tyX3_ok nmX3 (by decide) jw_541 rfl rfl rfl rfl (Nat.le_of_ble_eq_true rfl) dX3_init_15 ?_
  refine jg_eq (X2 := [(h, .inr (5, [.ref a0, .ref a1, .null, .null, .null, .null, .null, .null, .null, .int 0, .int 0, .int 0])), (a0, .inl (jcs C 0, 5, .inl (fun _ => 0))), (a1, .inl (jcs C 0, 5, .inl (fun _ => 0)))]) rfl ?_
  refine jg_aload_n hm (i := 0) (q := h) rfl rfl dX3_init_18 ?_
  refine jg_bipush hm (v := 12) (by decide) dX3_init_19 ?_
  refine jg_newi hm (N := 12) (by decide) (by decide +kernel) (Nat.le_of_ble_eq_true rfl) (Nat.le_of_ble_eq_true rfl) (Nat.le_of_ble_eq_true rfl) dX3_init_21 (fun a2 => ?_)
  refine jg_putF hm hi (ty0 := tyX3) 0 2 rfl rfl jin_X3 tyX3_ok nmX3 (by decide) jw_544 rfl rfl rfl rfl (Nat.le_of_ble_eq_true rfl) dX3_init_23 ?_
  refine jg_eq (X2 := [(h, .inr (5, [.ref a0, .ref a1, .ref a2, .null, .null, .null, .null, .null, .null, .int 0, .int 0, .int 0])), (a0, .inl (jcs C 0, 5, .inl (fun _ => 0))), (a1, .inl (jcs C 0, 5, .inl (fun _ => 0))), (a2, .inl (jcs C 0, 12, .inl (fun _ => 0)))]) rfl ?_
  refine jg_aload_n hm (i := 0) (q := h) rfl rfl dX3_init_26 ?_
  refine jg_bipush hm (v := 12) (by decide) dX3_init_27 ?_
  refine jg_newi hm (N := 12) (by decide) (by decide +kernel) (Nat.le_of_ble_eq_true rfl) (Nat.le_of_ble_eq_true rfl) (Nat.le_of_ble_eq_true rfl) dX3_init_29 (fun a3 => ?_)
  refine jg_putF hm hi (ty0 := tyX3) 0 3 rfl rfl jin_X3 tyX3_ok nmX3 (by decide) jw_547 rfl rfl rfl rfl (Nat.le_of_ble_eq_true rfl) dX3_init_31 ?_
  refine jg_eq (X2 := [(h, .inr (5, [.ref a0, .ref a1, .ref a2, .ref a3, .null, .null, .null, .null, .null, .int 0, .int 0, .int 0])), (a0, .inl (jcs C 0, 5, .inl (fun _ => 0))), (a1, .inl (jcs C 0, 5, .inl (fun _ => 0))), (a2, .inl (jcs C 0, 12, .inl (fun _ => 0))), (a3, .inl (jcs C 0, 12, .inl (fun _ => 0)))]) rfl ?_
  refine jg_aload_n hm (i := 0) (q := h) rfl rfl dX3_init_34 ?_
  refine jg_bipush hm (v := 12) (by decide) dX3_init_35 ?_
  refine jg_newi hm (N := 12) (by decide) (by decide +kernel) (Nat.le_of_ble_eq_true rfl) (Nat.le_of_ble_eq_true rfl) (Nat.le_of_ble_eq_true rfl) dX3_init_37 (fun a4 => ?_)
  refine jg_putF hm hi (ty0 := tyX3) 0 4 rfl rfl jin_X3 tyX3_ok nmX3 (by decide) jw_549 rfl rfl rfl rfl (Nat.le_of_ble_eq_true rfl) dX3_init_39 ?_
  refine jg_eq (X2 := [(h, .inr (5, [.ref a0, .ref a1, .ref a2, .ref a3, .ref a4, .null, .null, .null, .null, .int 0, .int 0, .int 0])), (a0, .inl (jcs C 0, 5, .inl (fun _ => 0))), (a1, .inl (jcs C 0, 5, .inl (fun _ => 0))), (a2, .inl (jcs C 0, 12, .inl (fun _ => 0))), (a3, .inl (jcs C 0, 12, .inl (fun _ => 0))), (a4, .inl (jcs C 0, 12, .inl (fun _ => 0)))]) rfl ?_
  refine jg_aload_n hm (i := 0) (q := h) rfl rfl dX3_init_42 ?_
  refine jg_bipush hm (v := 6) (by decide) dX3_init_43 ?_
  refine jg_newi hm (N := 6) (by decide) (by decide +kernel) (Nat.le_of_ble_eq_true rfl) (Nat.le_of_ble_eq_true rfl) (Nat.le_of_ble_eq_true rfl) dX3_init_45 (fun a5 => ?_)
  refine jg_putF hm hi (ty0 := tyX3) 0 5 rfl rfl jin_X3 tyX3_ok nmX3 (by decide) jw_552 rfl rfl rfl rfl (Nat.le_of_ble_eq_true rfl) dX3_init_47 ?_
  refine jg_eq (X2 := [(h, .inr (5, [.ref a0, .ref a1, .ref a2, .ref a3, .ref a4, .ref a5, .null, .null, .null, .int 0, .int 0, .int 0])), (a0, .inl (jcs C 0, 5, .inl (fun _ => 0))), (a1, .inl (jcs C 0, 5, .inl (fun _ => 0))), (a2, .inl (jcs C 0, 12, .inl (fun _ => 0))), (a3, .inl (jcs C 0, 12, .inl (fun _ => 0))), (a4, .inl (jcs C 0, 12, .inl (fun _ => 0))), (a5, .inl (jcs C 0, 6, .inl (fun _ => 0)))]) rfl ?_
  refine jg_aload_n hm (i := 0) (q := h) rfl rfl dX3_init_50 ?_
  refine jg_bipush hm (v := 36) (by decide) dX3_init_51 ?_
  refine jg_newi hm (N := 36) (by decide) (by decide +kernel) (Nat.le_of_ble_eq_true rfl) (Nat.le_of_ble_eq_true rfl) (Nat.le_of_ble_eq_true rfl) dX3_init_53 (fun a6 => ?_)
  refine jg_putF hm hi (ty0 := tyX3) 0 6 rfl rfl jin_X3 tyX3_ok nmX3 (by decide) jw_553 rfl rfl rfl rfl (Nat.le_of_ble_eq_true rfl) dX3_init_55 ?_
  refine jg_eq (X2 := [(h, .inr (5, [.ref a0, .ref a1, .ref a2, .ref a3, .ref a4, .ref a5, .ref a6, .null, .null, .int 0, .int 0, .int 0])), (a0, .inl (jcs C 0, 5, .inl (fun _ => 0))), (a1, .inl (jcs C 0, 5, .inl (fun _ => 0))), (a2, .inl (jcs C 0, 12, .inl (fun _ => 0))), (a3, .inl (jcs C 0, 12, .inl (fun _ => 0))), (a4, .inl (jcs C 0, 12, .inl (fun _ => 0))), (a5, .inl (jcs C 0, 6, .inl (fun _ => 0))), (a6, .inl (jcs C 0, 36, .inl (fun _ => 0)))]) rfl ?_
  refine jg_aload_n hm (i := 0) (q := h) rfl rfl dX3_init_58 ?_
  refine jg_new hm (ty := tyX8) (fs := [.null, .null, .null, .null, .null, .int 0, .int 0]) (ci := 10) jin_X8 tyX8_ok jw_466 jw_467 jw_52 rfl df_X8 (Nat.le_of_ble_eq_true rfl) (Nat.le_of_ble_eq_true rfl) dX3_init_59 (fun w7 => ?_)
  refine jg_dup hm dX3_init_62 ?_
  refine jg_initN hm (as := []) (st := [jR w7 false, jR h false]) (k_X8 w7) (by decide) (Nat.le_of_ble_eq_true rfl) (Nat.le_of_ble_eq_true rfl) jw_468 jw_469 jw_52 jw_470 jn_X8_init rfl rfl rfl (Nat.le_of_ble_eq_true rfl) rfl dX3_init_63 (fun Y0 gY0 => ?_)
  refine jg_putF hm hi (ty0 := tyX3) 0 7 rfl rfl jin_X3 tyX3_ok nmX3 (by decide) jw_554 rfl rfl rfl rfl (Nat.le_of_ble_eq_true rfl) dX3_init_66 ?_
  refine jg_eq (X2 := ([(h, .inr (5, [.ref a0, .ref a1, .ref a2, .ref a3, .ref a4, .ref a5, .ref a6, .ref w7, .null, .int 0, .int 0, .int 0])), (a0, .inl (jcs C 0, 5, .inl (fun _ => 0))), (a1, .inl (jcs C 0, 5, .inl (fun _ => 0))), (a2, .inl (jcs C 0, 12, .inl (fun _ => 0))), (a3, .inl (jcs C 0, 12, .inl (fun _ => 0))), (a4, .inl (jcs C 0, 12, .inl (fun _ => 0))), (a5, .inl (jcs C 0, 6, .inl (fun _ => 0))), (a6, .inl (jcs C 0, 36, .inl (fun _ => 0)))] ++ Y0)) rfl ?_
  refine jg_aload_n hm (i := 0) (q := h) rfl rfl dX3_init_69 ?_
  refine jg_new hm (ty := tyX2) (fs := [.null, .null, .null, .null, .null, .null, .int 0, .int 0]) (ci := 4) jin_X2 tyX2_ok jw_498 jw_499 jw_53 rfl df_X2 (Nat.le_of_ble_eq_true rfl) (Nat.le_of_ble_eq_true rfl) dX3_init_70 (fun w8 => ?_)
  refine jg_dup hm dX3_init_73 ?_
  refine jg_initN hm (as := []) (st := [jR w8 false, jR h false]) (k_X2 w8) (by decide) (Nat.le_of_ble_eq_true rfl) (Nat.le_of_ble_eq_true rfl) jw_500 jw_501 jw_53 jw_502 jn_X2_init rfl rfl rfl (Nat.le_of_ble_eq_true rfl) rfl dX3_init_74 (fun Y1 gY1 => ?_)
  refine jg_putF hm hi (ty0 := tyX3) 0 8 rfl rfl jin_X3 tyX3_ok nmX3 (by decide) jw_558 rfl rfl rfl rfl (Nat.le_of_ble_eq_true rfl) dX3_init_77 ?_
  refine jg_eq (X2 := (([(h, .inr (5, [.ref a0, .ref a1, .ref a2, .ref a3, .ref a4, .ref a5, .ref a6, .ref w7, .ref w8, .int 0, .int 0, .int 0])), (a0, .inl (jcs C 0, 5, .inl (fun _ => 0))), (a1, .inl (jcs C 0, 5, .inl (fun _ => 0))), (a2, .inl (jcs C 0, 12, .inl (fun _ => 0))), (a3, .inl (jcs C 0, 12, .inl (fun _ => 0))), (a4, .inl (jcs C 0, 12, .inl (fun _ => 0))), (a5, .inl (jcs C 0, 6, .inl (fun _ => 0))), (a6, .inl (jcs C 0, 36, .inl (fun _ => 0)))] ++ Y0) ++ Y1)) rfl ?_
  exact jg_return hm rfl (Nat.le_of_ble_eq_true rfl) (Nat.le_of_ble_eq_true rfl) dX3_init_80 ⟨a0, a1, a2, a3, a4, a5, a6, w7, w8, Y0, Y1, gY0, gY1, rfl⟩
def kP4 (h : Nat) (cs : Nat → ClassId) (X : va_W) : Prop := ∃ (w0 : Nat) (Y0 : va_W), kP0 w0 cs Y0 ∧ X = ([(h, .inr (6, [.ref w0]))] ++ Y0)
set_option maxRecDepth 20000 in
theorem k_X4 (h : Nat) : jSN MX4_init 2 2 402 h [] (.inr (6, [.null])) (kP4 h) := by
  refine jSN_of jp_X4_init rfl rfl (Nat.le_of_ble_eq_true rfl) (fun C hm hi => ?_)
  refine jg_aload_n hm (i := 0) (q := h) rfl rfl dX4_init_0 ?_
  refine jg_objInit hm jw_629 jw_104 jw_105 (by decide) (Nat.le_of_ble_eq_true rfl) rfl dX4_init_1 ?_
  refine jg_aload_n hm (i := 0) (q := h) rfl rfl dX4_init_4 ?_
  refine jg_new hm (ty := tyX0) (fs := [.null, .int 0]) (ci := 2) jin_X0 tyX0_ok jw_630 jw_218 jw_55 rfl df_X0 (Nat.le_of_ble_eq_true rfl) (Nat.le_of_ble_eq_true rfl) dX4_init_5 (fun w0 => ?_)
  refine jg_dup hm dX4_init_8 ?_
  refine jg_initN hm (as := []) (st := [jR w0 false, jR h false]) (k_X0 w0) (by decide) (Nat.le_of_ble_eq_true rfl) (Nat.le_of_ble_eq_true rfl) jw_631 jw_632 jw_55 jw_633 jn_X0_init rfl rfl rfl (Nat.le_of_ble_eq_true rfl) rfl dX4_init_9 (fun Y0 gY0 => ?_)
  refine jg_putF hm hi (ty0 := tyX4) 0 0 rfl rfl jin_X4 tyX4_ok nmX4 (by decide) jw_642 rfl rfl rfl rfl (Nat.le_of_ble_eq_true rfl) dX4_init_12 ?_
  refine jg_eq (X2 := ([(h, .inr (6, [.ref w0]))] ++ Y0)) rfl ?_
  exact jg_return hm rfl (Nat.le_of_ble_eq_true rfl) (Nat.le_of_ble_eq_true rfl) dX4_init_15 ⟨w0, Y0, gY0, rfl⟩
def kP5 (h : Nat) (tok : Nat) (cs : Nat → ClassId) (X : va_W) : Prop := ∃ (a0 : Nat) (a1 : Nat) (a2 : Nat) (w3 : Nat) (Y0 : va_W), kP3 w3 cs Y0 ∧ X = ([(h, .inr (7, [.ref tok, .ref a0, .ref a1, .ref a2, .ref w3, .int 0, .int 0, .int 0])), (a0, .inl (cs 0, 5, .inl (fun _ => 0))), (a1, .inl (cs 0, 12, .inl (fun _ => 0))), (a2, .inl (cs 0, 6, .inl (fun _ => 0)))] ++ Y0)
set_option maxRecDepth 20000 in
theorem k_X5 (h tok : Nat) : jSN MX5_init 3 24 1023 h [jR tok false] (.inr (7, [.null, .null, .null, .null, .null, .int 0, .int 0, .int 0])) (kP5 h tok) := by
  refine jSN_of jp_X5_init rfl rfl (Nat.le_of_ble_eq_true rfl) (fun C hm hi => ?_)
  refine jg_aload_n hm (i := 0) (q := h) rfl rfl dX5_init_0 ?_
  refine jg_objInit hm jw_459 jw_104 jw_105 (by decide) (Nat.le_of_ble_eq_true rfl) rfl dX5_init_1 ?_
  refine jg_aload_n hm (i := 0) (q := h) rfl rfl dX5_init_4 ?_
  refine jg_iconst hm (v := 5) (by decide) dX5_init_5 ?_
  refine jg_newi hm (N := 5) (by decide) (by decide +kernel) (Nat.le_of_ble_eq_true rfl) (Nat.le_of_ble_eq_true rfl) (Nat.le_of_ble_eq_true rfl) dX5_init_6 (fun a0 => ?_)
  refine jg_putF hm hi (ty0 := tyX5) 0 1 rfl rfl jin_X5 tyX5_ok nmX5 (by decide) jw_600 rfl rfl rfl rfl (Nat.le_of_ble_eq_true rfl) dX5_init_8 ?_
  refine jg_eq (X2 := [(h, .inr (7, [.null, .ref a0, .null, .null, .null, .int 0, .int 0, .int 0])), (a0, .inl (jcs C 0, 5, .inl (fun _ => 0)))]) rfl ?_
  refine jg_aload_n hm (i := 0) (q := h) rfl rfl dX5_init_11 ?_
  refine jg_bipush hm (v := 12) (by decide) dX5_init_12 ?_
  refine jg_newi hm (N := 12) (by decide) (by decide +kernel) (Nat.le_of_ble_eq_true rfl) (Nat.le_of_ble_eq_true rfl) (Nat.le_of_ble_eq_true rfl) dX5_init_14 (fun a1 => ?_)
  refine jg_putF hm hi (ty0 := tyX5) 0 2 rfl rfl jin_X5 tyX5_ok nmX5 (by decide) jw_601 rfl rfl rfl rfl (Nat.le_of_ble_eq_true rfl) dX5_init_16 ?_
  refine jg_eq (X2 := [(h, .inr (7, [.null, .ref a0, .ref a1, .null, .null, .int 0, .int 0, .int 0])), (a0, .inl (jcs C 0, 5, .inl (fun _ => 0))), (a1, .inl (jcs C 0, 12, .inl (fun _ => 0)))]) rfl ?_
  refine jg_aload_n hm (i := 0) (q := h) rfl rfl dX5_init_19 ?_
  refine jg_bipush hm (v := 6) (by decide) dX5_init_20 ?_
  refine jg_newi hm (N := 6) (by decide) (by decide +kernel) (Nat.le_of_ble_eq_true rfl) (Nat.le_of_ble_eq_true rfl) (Nat.le_of_ble_eq_true rfl) dX5_init_22 (fun a2 => ?_)
  refine jg_putF hm hi (ty0 := tyX5) 0 3 rfl rfl jin_X5 tyX5_ok nmX5 (by decide) jw_602 rfl rfl rfl rfl (Nat.le_of_ble_eq_true rfl) dX5_init_24 ?_
  refine jg_eq (X2 := [(h, .inr (7, [.null, .ref a0, .ref a1, .ref a2, .null, .int 0, .int 0, .int 0])), (a0, .inl (jcs C 0, 5, .inl (fun _ => 0))), (a1, .inl (jcs C 0, 12, .inl (fun _ => 0))), (a2, .inl (jcs C 0, 6, .inl (fun _ => 0)))]) rfl ?_
  refine jg_aload_n hm (i := 0) (q := h) rfl rfl dX5_init_27 ?_
  refine jg_new hm (ty := tyX3) (fs := [.null, .null, .null, .null, .null, .null, .null, .null, .null, .int 0, .int 0, .int 0]) (ci := 5) jin_X3 tyX3_ok jw_460 jw_461 jw_51 rfl df_X3 (Nat.le_of_ble_eq_true rfl) (Nat.le_of_ble_eq_true rfl) dX5_init_28 (fun w3 => ?_)
  refine jg_dup hm dX5_init_31 ?_
  refine jg_initN hm (as := []) (st := [jR w3 false, jR h false]) (k_X3 w3) (by decide) (Nat.le_of_ble_eq_true rfl) (Nat.le_of_ble_eq_true rfl) jw_462 jw_463 jw_51 jw_464 jn_X3_init rfl rfl rfl (Nat.le_of_ble_eq_true rfl) rfl dX5_init_32 (fun Y0 gY0 => ?_)
  refine jg_put hm (ty0 := tyX5) 0 4 rfl rfl jin_X5 tyX5_ok nmX5 (by decide) jw_603 rfl rfl rfl rfl (Nat.le_of_ble_eq_true rfl) dX5_init_35 ?_
  refine jg_eq (X2 := ([(h, .inr (7, [.null, .ref a0, .ref a1, .ref a2, .ref w3, .int 0, .int 0, .int 0])), (a0, .inl (jcs C 0, 5, .inl (fun _ => 0))), (a1, .inl (jcs C 0, 12, .inl (fun _ => 0))), (a2, .inl (jcs C 0, 6, .inl (fun _ => 0)))] ++ Y0)) rfl ?_
  refine jg_aload_n hm (i := 0) (q := h) rfl rfl dX5_init_38 ?_
  refine jg_aload_n hm (i := 1) (q := tok) rfl rfl dX5_init_39 ?_
  refine jg_putF hm hi (ty0 := tyX5) 0 0 rfl rfl jin_X5 tyX5_ok nmX5 (by decide) jw_599 rfl rfl rfl rfl (Nat.le_of_ble_eq_true rfl) dX5_init_40 ?_
  refine jg_eq (X2 := ([(h, .inr (7, [.ref tok, .ref a0, .ref a1, .ref a2, .ref w3, .int 0, .int 0, .int 0])), (a0, .inl (jcs C 0, 5, .inl (fun _ => 0))), (a1, .inl (jcs C 0, 12, .inl (fun _ => 0))), (a2, .inl (jcs C 0, 6, .inl (fun _ => 0)))] ++ Y0)) rfl ?_
  exact jg_return hm rfl (Nat.le_of_ble_eq_true rfl) (Nat.le_of_ble_eq_true rfl) dX5_init_43 ⟨a0, a1, a2, w3, Y0, gY0, rfl⟩
def kP6 (h : Nat) (cs : Nat → ClassId) (X : va_W) : Prop := ∃ (a0 : Nat), X = [(h, .inr (8, [.ref a0, .int 0])), (a0, .inl (cs 1, 2000, .inl (fun _ => 0)))]
set_option maxRecDepth 20000 in
theorem k_X6 (h : Nat) : jSN MX6_init 1 1 2000 h [] (.inr (8, [.null, .int 0])) (kP6 h) := by
  refine jSN_of jp_X6_init rfl rfl (Nat.le_of_ble_eq_true rfl) (fun C hm hi => ?_)
  refine jg_aload_n hm (i := 0) (q := h) rfl rfl dX6_init_0 ?_
  refine jg_objInit hm jw_427 jw_104 jw_105 (by decide) (Nat.le_of_ble_eq_true rfl) rfl dX6_init_1 ?_
  refine jg_aload_n hm (i := 0) (q := h) rfl rfl dX6_init_4 ?_
  refine jg_sipush hm (v := 2000) (by decide) dX6_init_5 ?_
  refine jg_newb hm (N := 2000) (by decide) (by decide +kernel) (Nat.le_of_ble_eq_true rfl) (Nat.le_of_ble_eq_true rfl) (Nat.le_of_ble_eq_true rfl) dX6_init_8 (fun a0 => ?_)
  refine jg_putF hm hi (ty0 := tyX6) 0 0 rfl rfl jin_X6 tyX6_ok nmX6 (by decide) jw_428 rfl rfl rfl rfl (Nat.le_of_ble_eq_true rfl) dX6_init_10 ?_
  refine jg_eq (X2 := [(h, .inr (8, [.ref a0, .int 0])), (a0, .inl (jcs C 1, 2000, .inl (fun _ => 0)))]) rfl ?_
  exact jg_return hm rfl (Nat.le_of_ble_eq_true rfl) (Nat.le_of_ble_eq_true rfl) dX6_init_13 ⟨a0, rfl⟩
def kP7 (h : Nat) (cs : Nat → ClassId) (X : va_W) : Prop := ∃ (a0 : Nat) (a1 : Nat) (a2 : Nat), X = [(h, .inr (9, [.ref a0, .ref a1, .ref a2])), (a0, .inl (cs 0, 401, .inl (fun _ => 0))), (a1, .inl (cs 0, 401, .inl (fun _ => 0))), (a2, .inl (cs 2, 401, .inr (.inl (fun _ => 0))))]
set_option maxRecDepth 20000 in
theorem k_X7 (h : Nat) : jSN MX7_init 1 3 1203 h [] (.inr (9, [.null, .null, .null])) (kP7 h) := by
  refine jSN_of jp_X7_init rfl rfl (Nat.le_of_ble_eq_true rfl) (fun C hm hi => ?_)
  refine jg_aload_n hm (i := 0) (q := h) rfl rfl dX7_init_0 ?_
  refine jg_objInit hm jw_441 jw_104 jw_105 (by decide) (Nat.le_of_ble_eq_true rfl) rfl dX7_init_1 ?_
  refine jg_aload_n hm (i := 0) (q := h) rfl rfl dX7_init_4 ?_
  refine jg_sipush hm (v := 401) (by decide) dX7_init_5 ?_
  refine jg_newi hm (N := 401) (by decide) (by decide +kernel) (Nat.le_of_ble_eq_true rfl) (Nat.le_of_ble_eq_true rfl) (Nat.le_of_ble_eq_true rfl) dX7_init_8 (fun a0 => ?_)
  refine jg_putF hm hi (ty0 := tyX7) 0 0 rfl rfl jin_X7 tyX7_ok nmX7 (by decide) jw_442 rfl rfl rfl rfl (Nat.le_of_ble_eq_true rfl) dX7_init_10 ?_
  refine jg_eq (X2 := [(h, .inr (9, [.ref a0, .null, .null])), (a0, .inl (jcs C 0, 401, .inl (fun _ => 0)))]) rfl ?_
  refine jg_aload_n hm (i := 0) (q := h) rfl rfl dX7_init_13 ?_
  refine jg_sipush hm (v := 401) (by decide) dX7_init_14 ?_
  refine jg_newi hm (N := 401) (by decide) (by decide +kernel) (Nat.le_of_ble_eq_true rfl) (Nat.le_of_ble_eq_true rfl) (Nat.le_of_ble_eq_true rfl) dX7_init_17 (fun a1 => ?_)
  refine jg_putF hm hi (ty0 := tyX7) 0 1 rfl rfl jin_X7 tyX7_ok nmX7 (by decide) jw_443 rfl rfl rfl rfl (Nat.le_of_ble_eq_true rfl) dX7_init_19 ?_
  refine jg_eq (X2 := [(h, .inr (9, [.ref a0, .ref a1, .null])), (a0, .inl (jcs C 0, 401, .inl (fun _ => 0))), (a1, .inl (jcs C 0, 401, .inl (fun _ => 0)))]) rfl ?_
  refine jg_aload_n hm (i := 0) (q := h) rfl rfl dX7_init_22 ?_
  refine jg_sipush hm (v := 401) (by decide) dX7_init_23 ?_
  refine jg_newl hm (N := 401) (by decide) (by decide +kernel) (Nat.le_of_ble_eq_true rfl) (Nat.le_of_ble_eq_true rfl) (Nat.le_of_ble_eq_true rfl) dX7_init_26 (fun a2 => ?_)
  refine jg_putF hm hi (ty0 := tyX7) 0 2 rfl rfl jin_X7 tyX7_ok nmX7 (by decide) jw_444 rfl rfl rfl rfl (Nat.le_of_ble_eq_true rfl) dX7_init_28 ?_
  refine jg_eq (X2 := [(h, .inr (9, [.ref a0, .ref a1, .ref a2])), (a0, .inl (jcs C 0, 401, .inl (fun _ => 0))), (a1, .inl (jcs C 0, 401, .inl (fun _ => 0))), (a2, .inl (jcs C 2, 401, .inr (.inl (fun _ => 0))))]) rfl ?_
  exact jg_return hm rfl (Nat.le_of_ble_eq_true rfl) (Nat.le_of_ble_eq_true rfl) dX7_init_31 ⟨a0, a1, a2, rfl⟩
def kP9 (h : Nat) (cs : Nat → ClassId) (X : va_W) : Prop := ∃ (w0 : Nat) (w1 : Nat) (w2 : Nat) (w3 : Nat) (w4 : Nat) (w5 : Nat) (w6 : Nat) (Y0 : va_W) (Y1 : va_W) (Y2 : va_W) (Y3 : va_W) (Y4 : va_W) (Y5 : va_W) (Y6 : va_W), kP6 w0 cs Y0 ∧ kP7 w1 cs Y1 ∧ kP5 w2 w1 cs Y2 ∧ kP4 w3 cs Y3 ∧ kP1 w4 cs Y4 ∧ kP1 w5 cs Y5 ∧ kP3 w6 cs Y6 ∧ X = ((((((([(h, .inr (11, [.ref w0, .ref w1, .ref w2, .ref w3, .ref w4, .ref w5, .ref w6, .int (-1)]))] ++ Y0) ++ Y1) ++ Y2) ++ Y3) ++ Y4) ++ Y5) ++ Y6)
set_option maxRecDepth 20000 in
theorem k_X9 (h : Nat) : jSN MX9_init 4 67 5754 h [] (.inr (11, [.null, .null, .null, .null, .null, .null, .null, .int 0])) (kP9 h) := by
  refine jSN_of jp_X9_init rfl rfl (Nat.le_of_ble_eq_true rfl) (fun C hm hi => ?_)
  refine jg_aload_n hm (i := 0) (q := h) rfl rfl dX9_init_0 ?_
  refine jg_objInit hm jw_421 jw_104 jw_105 (by decide) (Nat.le_of_ble_eq_true rfl) rfl dX9_init_1 ?_
  refine jg_aload_n hm (i := 0) (q := h) rfl rfl dX9_init_4 ?_
  refine jg_new hm (ty := tyX6) (fs := [.null, .int 0]) (ci := 8) jin_X6 tyX6_ok jw_422 jw_423 jw_48 rfl df_X6 (Nat.le_of_ble_eq_true rfl) (Nat.le_of_ble_eq_true rfl) dX9_init_5 (fun w0 => ?_)
  refine jg_dup hm dX9_init_8 ?_
  refine jg_initN hm (as := []) (st := [jR w0 false, jR h false]) (k_X6 w0) (by decide) (Nat.le_of_ble_eq_true rfl) (Nat.le_of_ble_eq_true rfl) jw_424 jw_425 jw_48 jw_426 jn_X6_init rfl rfl rfl (Nat.le_of_ble_eq_true rfl) rfl dX9_init_9 (fun Y0 gY0 => ?_)
  refine jg_putF hm hi (ty0 := tyX9) 0 0 rfl rfl jin_X9 tyX9_ok nmX9 (by decide) jw_705 rfl rfl rfl rfl (Nat.le_of_ble_eq_true rfl) dX9_init_12 ?_
  refine jg_eq (X2 := ([(h, .inr (11, [.ref w0, .null, .null, .null, .null, .null, .null, .int 0]))] ++ Y0)) rfl ?_
  refine jg_aload_n hm (i := 0) (q := h) rfl rfl dX9_init_15 ?_
  refine jg_new hm (ty := tyX7) (fs := [.null, .null, .null]) (ci := 9) jin_X7 tyX7_ok jw_436 jw_437 jw_49 rfl df_X7 (Nat.le_of_ble_eq_true rfl) (Nat.le_of_ble_eq_true rfl) dX9_init_16 (fun w1 => ?_)
  refine jg_dup hm dX9_init_19 ?_
  refine jg_initN hm (as := []) (st := [jR w1 false, jR h false]) (k_X7 w1) (by decide) (Nat.le_of_ble_eq_true rfl) (Nat.le_of_ble_eq_true rfl) jw_438 jw_439 jw_49 jw_440 jn_X7_init rfl rfl rfl (Nat.le_of_ble_eq_true rfl) rfl dX9_init_20 (fun Y1 gY1 => ?_)
  refine jg_putF hm hi (ty0 := tyX9) 0 1 rfl rfl jin_X9 tyX9_ok nmX9 (by decide) jw_706 rfl rfl rfl rfl (Nat.le_of_ble_eq_true rfl) dX9_init_23 ?_
  refine jg_eq (X2 := (([(h, .inr (11, [.ref w0, .ref w1, .null, .null, .null, .null, .null, .int 0]))] ++ Y0) ++ Y1)) rfl ?_
  refine jg_aload_n hm (i := 0) (q := h) rfl rfl dX9_init_26 ?_
  refine jg_new hm (ty := tyX5) (fs := [.null, .null, .null, .null, .null, .int 0, .int 0, .int 0]) (ci := 7) jin_X5 tyX5_ok jw_454 jw_455 jw_50 rfl df_X5 (Nat.le_of_ble_eq_true rfl) (Nat.le_of_ble_eq_true rfl) dX9_init_27 (fun w2 => ?_)
  refine jg_dup hm dX9_init_30 ?_
  refine jg_aload_n hm (i := 0) (q := h) rfl rfl dX9_init_31 ?_
  refine jg_get hm (v := jR w1 false) 0 1 rfl rfl jin_X9 (by decide) jw_706 rfl rfl dX9_init_32 ?_
  refine jg_initP hm (as := [jR w1 false]) (st := [jR w2 false, jR h false]) (k_X5 w2 w1) (by decide) (Nat.le_of_ble_eq_true rfl) (Nat.le_of_ble_eq_true rfl) jw_456 jw_457 jw_50 jw_458 jn_X5_init rfl rfl rfl (Nat.le_of_ble_eq_true rfl) rfl dX9_init_35 (fun Y2 gY2 => ?_)
  refine jg_putF hm hi (ty0 := tyX9) 0 2 rfl rfl jin_X9 tyX9_ok nmX9 (by decide) jw_707 rfl rfl rfl rfl (Nat.le_of_ble_eq_true rfl) dX9_init_38 ?_
  refine jg_eq (X2 := ((([(h, .inr (11, [.ref w0, .ref w1, .ref w2, .null, .null, .null, .null, .int 0]))] ++ Y0) ++ Y1) ++ Y2)) rfl ?_
  refine jg_aload_n hm (i := 0) (q := h) rfl rfl dX9_init_41 ?_
  refine jg_new hm (ty := tyX4) (fs := [.null]) (ci := 6) jin_X4 tyX4_ok jw_625 jw_335 jw_54 rfl df_X4 (Nat.le_of_ble_eq_true rfl) (Nat.le_of_ble_eq_true rfl) dX9_init_42 (fun w3 => ?_)
  refine jg_dup hm dX9_init_45 ?_
  refine jg_initN hm (as := []) (st := [jR w3 false, jR h false]) (k_X4 w3) (by decide) (Nat.le_of_ble_eq_true rfl) (Nat.le_of_ble_eq_true rfl) jw_626 jw_627 jw_54 jw_628 jn_X4_init rfl rfl rfl (Nat.le_of_ble_eq_true rfl) rfl dX9_init_46 (fun Y3 gY3 => ?_)
  refine jg_putF hm hi (ty0 := tyX9) 0 3 rfl rfl jin_X9 tyX9_ok nmX9 (by decide) jw_708 rfl rfl rfl rfl (Nat.le_of_ble_eq_true rfl) dX9_init_49 ?_
  refine jg_eq (X2 := (((([(h, .inr (11, [.ref w0, .ref w1, .ref w2, .ref w3, .null, .null, .null, .int 0]))] ++ Y0) ++ Y1) ++ Y2) ++ Y3)) rfl ?_
  refine jg_aload_n hm (i := 0) (q := h) rfl rfl dX9_init_52 ?_
  refine jg_new hm (ty := tyX1) (fs := [.null, .null, .null, .null, .null, .int 0, .int 0, .int 0, .int 0]) (ci := 3) jin_X1 tyX1_ok jw_646 jw_647 jw_56 rfl df_X1 (Nat.le_of_ble_eq_true rfl) (Nat.le_of_ble_eq_true rfl) dX9_init_53 (fun w4 => ?_)
  refine jg_dup hm dX9_init_56 ?_
  refine jg_initN hm (as := []) (st := [jR w4 false, jR h false]) (k_X1 w4) (by decide) (Nat.le_of_ble_eq_true rfl) (Nat.le_of_ble_eq_true rfl) jw_648 jw_649 jw_56 jw_650 jn_X1_init rfl rfl rfl (Nat.le_of_ble_eq_true rfl) rfl dX9_init_57 (fun Y4 gY4 => ?_)
  refine jg_putF hm hi (ty0 := tyX9) 0 4 rfl rfl jin_X9 tyX9_ok nmX9 (by decide) jw_709 rfl rfl rfl rfl (Nat.le_of_ble_eq_true rfl) dX9_init_60 ?_
  refine jg_eq (X2 := ((((([(h, .inr (11, [.ref w0, .ref w1, .ref w2, .ref w3, .ref w4, .null, .null, .int 0]))] ++ Y0) ++ Y1) ++ Y2) ++ Y3) ++ Y4)) rfl ?_
  refine jg_aload_n hm (i := 0) (q := h) rfl rfl dX9_init_63 ?_
  refine jg_new hm (ty := tyX1) (fs := [.null, .null, .null, .null, .null, .int 0, .int 0, .int 0, .int 0]) (ci := 3) jin_X1 tyX1_ok jw_646 jw_647 jw_56 rfl df_X1 (Nat.le_of_ble_eq_true rfl) (Nat.le_of_ble_eq_true rfl) dX9_init_64 (fun w5 => ?_)
  refine jg_dup hm dX9_init_67 ?_
  refine jg_initN hm (as := []) (st := [jR w5 false, jR h false]) (k_X1 w5) (by decide) (Nat.le_of_ble_eq_true rfl) (Nat.le_of_ble_eq_true rfl) jw_648 jw_649 jw_56 jw_650 jn_X1_init rfl rfl rfl (Nat.le_of_ble_eq_true rfl) rfl dX9_init_68 (fun Y5 gY5 => ?_)
  refine jg_putF hm hi (ty0 := tyX9) 0 5 rfl rfl jin_X9 tyX9_ok nmX9 (by decide) jw_710 rfl rfl rfl rfl (Nat.le_of_ble_eq_true rfl) dX9_init_71 ?_
  refine jg_eq (X2 := (((((([(h, .inr (11, [.ref w0, .ref w1, .ref w2, .ref w3, .ref w4, .ref w5, .null, .int 0]))] ++ Y0) ++ Y1) ++ Y2) ++ Y3) ++ Y4) ++ Y5)) rfl ?_
  refine jg_aload_n hm (i := 0) (q := h) rfl rfl dX9_init_74 ?_
  refine jg_new hm (ty := tyX3) (fs := [.null, .null, .null, .null, .null, .null, .null, .null, .null, .int 0, .int 0, .int 0]) (ci := 5) jin_X3 tyX3_ok jw_703 jw_461 jw_51 rfl df_X3 (Nat.le_of_ble_eq_true rfl) (Nat.le_of_ble_eq_true rfl) dX9_init_75 (fun w6 => ?_)
  refine jg_dup hm dX9_init_78 ?_
  refine jg_initN hm (as := []) (st := [jR w6 false, jR h false]) (k_X3 w6) (by decide) (Nat.le_of_ble_eq_true rfl) (Nat.le_of_ble_eq_true rfl) jw_704 jw_463 jw_51 jw_464 jn_X3_init rfl rfl rfl (Nat.le_of_ble_eq_true rfl) rfl dX9_init_79 (fun Y6 gY6 => ?_)
  refine jg_put hm (ty0 := tyX9) 0 6 rfl rfl jin_X9 tyX9_ok nmX9 (by decide) jw_711 rfl rfl rfl rfl (Nat.le_of_ble_eq_true rfl) dX9_init_82 ?_
  refine jg_eq (X2 := ((((((([(h, .inr (11, [.ref w0, .ref w1, .ref w2, .ref w3, .ref w4, .ref w5, .ref w6, .int 0]))] ++ Y0) ++ Y1) ++ Y2) ++ Y3) ++ Y4) ++ Y5) ++ Y6)) rfl ?_
  refine jg_aload_n hm (i := 0) (q := h) rfl rfl dX9_init_85 ?_
  refine jg_iconst hm (v := (-1)) (by decide) dX9_init_86 ?_
  refine jg_put hm (ty0 := tyX9) 0 7 rfl rfl jin_X9 tyX9_ok nmX9 (by decide) jw_712 rfl rfl rfl rfl (Nat.le_of_ble_eq_true rfl) dX9_init_87 ?_
  refine jg_eq (X2 := ((((((([(h, .inr (11, [.ref w0, .ref w1, .ref w2, .ref w3, .ref w4, .ref w5, .ref w6, .int (-1)]))] ++ Y0) ++ Y1) ++ Y2) ++ Y3) ++ Y4) ++ Y5) ++ Y6)) rfl ?_
  exact jg_return hm rfl (Nat.le_of_ble_eq_true rfl) (Nat.le_of_ble_eq_true rfl) dX9_init_90 ⟨w0, w1, w2, w3, w4, w5, w6, Y0, Y1, Y2, Y3, Y4, Y5, Y6, gY0, gY1, gY2, gY3, gY4, gY5, gY6, rfl⟩
