theorem dX0_init_0 : decode cX0_init 0 = .ok (.aload_n 0, 1) := by decide +kernel
theorem dX0_init_1 : decode cX0_init 1 = .ok (.invokespecial 3, 3) := by decide +kernel
theorem dX0_init_4 : decode cX0_init 4 = .ok (.aload_n 0, 1) := by decide +kernel
theorem dX0_init_5 : decode cX0_init 5 = .ok (.sipush 400, 3) := by decide +kernel
theorem dX0_init_8 : decode cX0_init 8 = .ok (.newarray .int, 2) := by decide +kernel
theorem dX0_init_10 : decode cX0_init 10 = .ok (.putfield 9, 3) := by decide +kernel
theorem dX0_init_13 : decode cX0_init 13 = .ok (.return_, 1) := by decide +kernel
abbrev MX0_init : JM := (cX0_init, 1, RX0, none, yX0_init)
theorem jn_X0_init : jnm MX0_init 0 := by decide +kernel
theorem jp_X0_init : plainName MX0_init.2.2.2.2.cls = true := by decide +kernel
theorem df_X0 : ∀ j, j < 2 → defaultValue (tyX0 j) = vp_V [.null, .int 0] j := by
  intro j hj
  rcases (show j = 0 ∨ j = 1 by omega) with rfl | rfl <;> rfl
theorem dX1_init_0 : decode cX1_init 0 = .ok (.aload_n 0, 1) := by decide +kernel
theorem dX1_init_1 : decode cX1_init 1 = .ok (.invokespecial 3, 3) := by decide +kernel
theorem dX1_init_4 : decode cX1_init 4 = .ok (.aload_n 0, 1) := by decide +kernel
theorem dX1_init_5 : decode cX1_init 5 = .ok (.iconst 5, 1) := by decide +kernel
theorem dX1_init_6 : decode cX1_init 6 = .ok (.newarray .int, 2) := by decide +kernel
theorem dX1_init_8 : decode cX1_init 8 = .ok (.putfield 9, 3) := by decide +kernel
theorem dX1_init_11 : decode cX1_init 11 = .ok (.aload_n 0, 1) := by decide +kernel
theorem dX1_init_12 : decode cX1_init 12 = .ok (.bipush 12, 2) := by decide +kernel
theorem dX1_init_14 : decode cX1_init 14 = .ok (.newarray .int, 2) := by decide +kernel
theorem dX1_init_16 : decode cX1_init 16 = .ok (.putfield 15, 3) := by decide +kernel
theorem dX1_init_19 : decode cX1_init 19 = .ok (.aload_n 0, 1) := by decide +kernel
theorem dX1_init_20 : decode cX1_init 20 = .ok (.bipush 12, 2) := by decide +kernel
theorem dX1_init_22 : decode cX1_init 22 = .ok (.newarray .int, 2) := by decide +kernel
theorem dX1_init_24 : decode cX1_init 24 = .ok (.putfield 18, 3) := by decide +kernel
theorem dX1_init_27 : decode cX1_init 27 = .ok (.aload_n 0, 1) := by decide +kernel
theorem dX1_init_28 : decode cX1_init 28 = .ok (.bipush 12, 2) := by decide +kernel
theorem dX1_init_30 : decode cX1_init 30 = .ok (.newarray .int, 2) := by decide +kernel
theorem dX1_init_32 : decode cX1_init 32 = .ok (.putfield 21, 3) := by decide +kernel
theorem dX1_init_35 : decode cX1_init 35 = .ok (.aload_n 0, 1) := by decide +kernel
theorem dX1_init_36 : decode cX1_init 36 = .ok (.bipush 6, 2) := by decide +kernel
theorem dX1_init_38 : decode cX1_init 38 = .ok (.newarray .int, 2) := by decide +kernel
theorem dX1_init_40 : decode cX1_init 40 = .ok (.putfield 24, 3) := by decide +kernel
theorem dX1_init_43 : decode cX1_init 43 = .ok (.aload_n 0, 1) := by decide +kernel
theorem dX1_init_44 : decode cX1_init 44 = .ok (.iconst 4, 1) := by decide +kernel
theorem dX1_init_45 : decode cX1_init 45 = .ok (.putfield 27, 3) := by decide +kernel
theorem dX1_init_48 : decode cX1_init 48 = .ok (.return_, 1) := by decide +kernel
abbrev MX1_init : JM := (cX1_init, 1, RX1, none, yX1_init)
theorem jn_X1_init : jnm MX1_init 0 := by decide +kernel
theorem jp_X1_init : plainName MX1_init.2.2.2.2.cls = true := by decide +kernel
theorem df_X1 : ∀ j, j < 9 → defaultValue (tyX1 j) = vp_V [.null, .null, .null, .null, .null, .int 0, .int 0, .int 0, .int 0] j := by
  intro j hj
  rcases (show j = 0 ∨ j = 1 ∨ j = 2 ∨ j = 3 ∨ j = 4 ∨ j = 5 ∨ j = 6 ∨ j = 7 ∨ j = 8 by omega) with rfl | rfl | rfl | rfl | rfl | rfl | rfl | rfl | rfl <;> rfl
theorem dX2_init_0 : decode cX2_init 0 = .ok (.aload_n 0, 1) := by decide +kernel
theorem dX2_init_1 : decode cX2_init 1 = .ok (.invokespecial 3, 3) := by decide +kernel
theorem dX2_init_4 : decode cX2_init 4 = .ok (.aload_n 0, 1) := by decide +kernel
theorem dX2_init_5 : decode cX2_init 5 = .ok (.bipush 16, 2) := by decide +kernel
theorem dX2_init_7 : decode cX2_init 7 = .ok (.newarray .int, 2) := by decide +kernel
theorem dX2_init_9 : decode cX2_init 9 = .ok (.putfield 9, 3) := by decide +kernel
theorem dX2_init_12 : decode cX2_init 12 = .ok (.aload_n 0, 1) := by decide +kernel
theorem dX2_init_13 : decode cX2_init 13 = .ok (.bipush 16, 2) := by decide +kernel
theorem dX2_init_15 : decode cX2_init 15 = .ok (.newarray .int, 2) := by decide +kernel
theorem dX2_init_17 : decode cX2_init 17 = .ok (.putfield 15, 3) := by decide +kernel
theorem dX2_init_20 : decode cX2_init 20 = .ok (.aload_n 0, 1) := by decide +kernel
theorem dX2_init_21 : decode cX2_init 21 = .ok (.bipush 16, 2) := by decide +kernel
theorem dX2_init_23 : decode cX2_init 23 = .ok (.newarray .int, 2) := by decide +kernel
theorem dX2_init_25 : decode cX2_init 25 = .ok (.putfield 18, 3) := by decide +kernel
theorem dX2_init_28 : decode cX2_init 28 = .ok (.aload_n 0, 1) := by decide +kernel
theorem dX2_init_29 : decode cX2_init 29 = .ok (.bipush 16, 2) := by decide +kernel
theorem dX2_init_31 : decode cX2_init 31 = .ok (.newarray .int, 2) := by decide +kernel
theorem dX2_init_33 : decode cX2_init 33 = .ok (.putfield 21, 3) := by decide +kernel
theorem dX2_init_36 : decode cX2_init 36 = .ok (.aload_n 0, 1) := by decide +kernel
theorem dX2_init_37 : decode cX2_init 37 = .ok (.sipush 400, 3) := by decide +kernel
theorem dX2_init_40 : decode cX2_init 40 = .ok (.newarray .int, 2) := by decide +kernel
theorem dX2_init_42 : decode cX2_init 42 = .ok (.putfield 24, 3) := by decide +kernel
theorem dX2_init_45 : decode cX2_init 45 = .ok (.aload_n 0, 1) := by decide +kernel
theorem dX2_init_46 : decode cX2_init 46 = .ok (.sipush 400, 3) := by decide +kernel
theorem dX2_init_49 : decode cX2_init 49 = .ok (.newarray .int, 2) := by decide +kernel
theorem dX2_init_51 : decode cX2_init 51 = .ok (.putfield 27, 3) := by decide +kernel
theorem dX2_init_54 : decode cX2_init 54 = .ok (.return_, 1) := by decide +kernel
abbrev MX2_init : JM := (cX2_init, 1, RX2, none, yX2_init)
theorem jn_X2_init : jnm MX2_init 0 := by decide +kernel
theorem jp_X2_init : plainName MX2_init.2.2.2.2.cls = true := by decide +kernel
theorem df_X2 : ∀ j, j < 8 → defaultValue (tyX2 j) = vp_V [.null, .null, .null, .null, .null, .null, .int 0, .int 0] j := by
  intro j hj
  rcases (show j = 0 ∨ j = 1 ∨ j = 2 ∨ j = 3 ∨ j = 4 ∨ j = 5 ∨ j = 6 ∨ j = 7 by omega) with rfl | rfl | rfl | rfl | rfl | rfl | rfl | rfl <;> rfl
theorem dX8_init_0 : decode cX8_init 0 = .ok (.aload_n 0, 1) := by decide +kernel
theorem dX8_init_1 : decode cX8_init 1 = .ok (.invokespecial 3, 3) := by decide +kernel
theorem dX8_init_4 : decode cX8_init 4 = .ok (.aload_n 0, 1) := by decide +kernel
theorem dX8_init_5 : decode cX8_init 5 = .ok (.iconst 5, 1) := by decide +kernel
theorem dX8_init_6 : decode cX8_init 6 = .ok (.newarray .int, 2) := by decide +kernel
theorem dX8_init_8 : decode cX8_init 8 = .ok (.putfield 9, 3) := by decide +kernel
theorem dX8_init_11 : decode cX8_init 11 = .ok (.aload_n 0, 1) := by decide +kernel
theorem dX8_init_12 : decode cX8_init 12 = .ok (.iconst 5, 1) := by decide +kernel
theorem dX8_init_13 : decode cX8_init 13 = .ok (.newarray .int, 2) := by decide +kernel
theorem dX8_init_15 : decode cX8_init 15 = .ok (.putfield 15, 3) := by decide +kernel
theorem dX8_init_18 : decode cX8_init 18 = .ok (.aload_n 0, 1) := by decide +kernel
theorem dX8_init_19 : decode cX8_init 19 = .ok (.iconst 5, 1) := by decide +kernel
theorem dX8_init_20 : decode cX8_init 20 = .ok (.newarray .int, 2) := by decide +kernel
theorem dX8_init_22 : decode cX8_init 22 = .ok (.putfield 18, 3) := by decide +kernel
theorem dX8_init_25 : decode cX8_init 25 = .ok (.aload_n 0, 1) := by decide +kernel
theorem dX8_init_26 : decode cX8_init 26 = .ok (.iconst 3, 1) := by decide +kernel
theorem dX8_init_27 : decode cX8_init 27 = .ok (.newarray .int, 2) := by decide +kernel
theorem dX8_init_29 : decode cX8_init 29 = .ok (.putfield 21, 3) := by decide +kernel
theorem dX8_init_32 : decode cX8_init 32 = .ok (.aload_n 0, 1) := by decide +kernel
theorem dX8_init_33 : decode cX8_init 33 = .ok (.iconst 3, 1) := by decide +kernel
theorem dX8_init_34 : decode cX8_init 34 = .ok (.newarray .int, 2) := by decide +kernel
theorem dX8_init_36 : decode cX8_init 36 = .ok (.putfield 24, 3) := by decide +kernel
theorem dX8_init_39 : decode cX8_init 39 = .ok (.return_, 1) := by decide +kernel
abbrev MX8_init : JM := (cX8_init, 1, RX8, none, yX8_init)
theorem jn_X8_init : jnm MX8_init 0 := by decide +kernel
theorem jp_X8_init : plainName MX8_init.2.2.2.2.cls = true := by decide +kernel
theorem df_X8 : ∀ j, j < 7 → defaultValue (tyX8 j) = vp_V [.null, .null, .null, .null, .null, .int 0, .int 0] j := by
  intro j hj
  rcases (show j = 0 ∨ j = 1 ∨ j = 2 ∨ j = 3 ∨ j = 4 ∨ j = 5 ∨ j = 6 by omega) with rfl | rfl | rfl | rfl | rfl | rfl | rfl <;> rfl
theorem dX3_init_0 : decode cX3_init 0 = .ok (.aload_n 0, 1) := by decide +kernel
theorem dX3_init_1 : decode cX3_init 1 = .ok (.invokespecial 3, 3) := by decide +kernel
theorem dX3_init_4 : decode cX3_init 4 = .ok (.aload_n 0, 1) := by decide +kernel
theorem dX3_init_5 : decode cX3_init 5 = .ok (.iconst 5, 1) := by decide +kernel
theorem dX3_init_6 : decode cX3_init 6 = .ok (.newarray .int, 2) := by decide +kernel
theorem dX3_init_8 : decode cX3_init 8 = .ok (.putfield 9, 3) := by decide +kernel
theorem dX3_init_11 : decode cX3_init 11 = .ok (.aload_n 0, 1) := by decide +kernel
theorem dX3_init_12 : decode cX3_init 12 = .ok (.iconst 5, 1) := by decide +kernel
theorem dX3_init_13 : decode cX3_init 13 = .ok (.newarray .int, 2) := by decide +kernel
theorem dX3_init_15 : decode cX3_init 15 = .ok (.putfield 15, 3) := by decide +kernel
theorem dX3_init_18 : decode cX3_init 18 = .ok (.aload_n 0, 1) := by decide +kernel
theorem dX3_init_19 : decode cX3_init 19 = .ok (.bipush 12, 2) := by decide +kernel
theorem dX3_init_21 : decode cX3_init 21 = .ok (.newarray .int, 2) := by decide +kernel
theorem dX3_init_23 : decode cX3_init 23 = .ok (.putfield 18, 3) := by decide +kernel
theorem dX3_init_26 : decode cX3_init 26 = .ok (.aload_n 0, 1) := by decide +kernel
theorem dX3_init_27 : decode cX3_init 27 = .ok (.bipush 12, 2) := by decide +kernel
theorem dX3_init_29 : decode cX3_init 29 = .ok (.newarray .int, 2) := by decide +kernel
theorem dX3_init_31 : decode cX3_init 31 = .ok (.putfield 21, 3) := by decide +kernel
theorem dX3_init_34 : decode cX3_init 34 = .ok (.aload_n 0, 1) := by decide +kernel
theorem dX3_init_35 : decode cX3_init 35 = .ok (.bipush 12, 2) := by decide +kernel
theorem dX3_init_37 : decode cX3_init 37 = .ok (.newarray .int, 2) := by decide +kernel
theorem dX3_init_39 : decode cX3_init 39 = .ok (.putfield 24, 3) := by decide +kernel
theorem dX3_init_42 : decode cX3_init 42 = .ok (.aload_n 0, 1) := by decide +kernel
theorem dX3_init_43 : decode cX3_init 43 = .ok (.bipush 6, 2) := by decide +kernel
theorem dX3_init_45 : decode cX3_init 45 = .ok (.newarray .int, 2) := by decide +kernel
theorem dX3_init_47 : decode cX3_init 47 = .ok (.putfield 27, 3) := by decide +kernel
theorem dX3_init_50 : decode cX3_init 50 = .ok (.aload_n 0, 1) := by decide +kernel
theorem dX3_init_51 : decode cX3_init 51 = .ok (.bipush 36, 2) := by decide +kernel
theorem dX3_init_53 : decode cX3_init 53 = .ok (.newarray .int, 2) := by decide +kernel
theorem dX3_init_55 : decode cX3_init 55 = .ok (.putfield 30, 3) := by decide +kernel
theorem dX3_init_58 : decode cX3_init 58 = .ok (.aload_n 0, 1) := by decide +kernel
theorem dX3_init_59 : decode cX3_init 59 = .ok (.new 33, 3) := by decide +kernel
theorem dX3_init_62 : decode cX3_init 62 = .ok (.dup, 1) := by decide +kernel
theorem dX3_init_63 : decode cX3_init 63 = .ok (.invokespecial 35, 3) := by decide +kernel
theorem dX3_init_66 : decode cX3_init 66 = .ok (.putfield 36, 3) := by decide +kernel
theorem dX3_init_69 : decode cX3_init 69 = .ok (.aload_n 0, 1) := by decide +kernel
theorem dX3_init_70 : decode cX3_init 70 = .ok (.new 40, 3) := by decide +kernel
theorem dX3_init_73 : decode cX3_init 73 = .ok (.dup, 1) := by decide +kernel
theorem dX3_init_74 : decode cX3_init 74 = .ok (.invokespecial 42, 3) := by decide +kernel
theorem dX3_init_77 : decode cX3_init 77 = .ok (.putfield 43, 3) := by decide +kernel
theorem dX3_init_80 : decode cX3_init 80 = .ok (.return_, 1) := by decide +kernel
abbrev MX3_init : JM := (cX3_init, 1, RX3, none, yX3_init)
theorem jn_X3_init : jnm MX3_init 0 := by decide +kernel
theorem jp_X3_init : plainName MX3_init.2.2.2.2.cls = true := by decide +kernel
theorem df_X3 : ∀ j, j < 12 → defaultValue (tyX3 j) = vp_V [.null, .null, .null, .null, .null, .null, .null, .null, .null, .int 0, .int 0, .int 0] j := by
  intro j hj
  rcases (show j = 0 ∨ j = 1 ∨ j = 2 ∨ j = 3 ∨ j = 4 ∨ j = 5 ∨ j = 6 ∨ j = 7 ∨ j = 8 ∨ j = 9 ∨ j = 10 ∨ j = 11 by omega) with rfl | rfl | rfl | rfl | rfl | rfl | rfl | rfl | rfl | rfl | rfl | rfl <;> rfl
theorem dX4_init_0 : decode cX4_init 0 = .ok (.aload_n 0, 1) := by decide +kernel
theorem dX4_init_1 : decode cX4_init 1 = .ok (.invokespecial 3, 3) := by decide +kernel
theorem dX4_init_4 : decode cX4_init 4 = .ok (.aload_n 0, 1) := by decide +kernel
theorem dX4_init_5 : decode cX4_init 5 = .ok (.new 9, 3) := by decide +kernel
theorem dX4_init_8 : decode cX4_init 8 = .ok (.dup, 1) := by decide +kernel
theorem dX4_init_9 : decode cX4_init 9 = .ok (.invokespecial 11, 3) := by decide +kernel
theorem dX4_init_12 : decode cX4_init 12 = .ok (.putfield 12, 3) := by decide +kernel
theorem dX4_init_15 : decode cX4_init 15 = .ok (.return_, 1) := by decide +kernel
abbrev MX4_init : JM := (cX4_init, 1, RX4, none, yX4_init)
theorem jn_X4_init : jnm MX4_init 0 := by decide +kernel
theorem jp_X4_init : plainName MX4_init.2.2.2.2.cls = true := by decide +kernel
theorem df_X4 : ∀ j, j < 1 → defaultValue (tyX4 j) = vp_V [.null] j := by
  intro j hj
  rcases (show j = 0 by omega) with rfl <;> rfl
theorem dX5_init_0 : decode cX5_init 0 = .ok (.aload_n 0, 1) := by decide +kernel
theorem dX5_init_1 : decode cX5_init 1 = .ok (.invokespecial 3, 3) := by decide +kernel
theorem dX5_init_4 : decode cX5_init 4 = .ok (.aload_n 0, 1) := by decide +kernel
theorem dX5_init_5 : decode cX5_init 5 = .ok (.iconst 5, 1) := by decide +kernel
theorem dX5_init_6 : decode cX5_init 6 = .ok (.newarray .int, 2) := by decide +kernel
theorem dX5_init_8 : decode cX5_init 8 = .ok (.putfield 9, 3) := by decide +kernel
theorem dX5_init_11 : decode cX5_init 11 = .ok (.aload_n 0, 1) := by decide +kernel
theorem dX5_init_12 : decode cX5_init 12 = .ok (.bipush 12, 2) := by decide +kernel
theorem dX5_init_14 : decode cX5_init 14 = .ok (.newarray .int, 2) := by decide +kernel
theorem dX5_init_16 : decode cX5_init 16 = .ok (.putfield 15, 3) := by decide +kernel
theorem dX5_init_19 : decode cX5_init 19 = .ok (.aload_n 0, 1) := by decide +kernel
theorem dX5_init_20 : decode cX5_init 20 = .ok (.bipush 6, 2) := by decide +kernel
theorem dX5_init_22 : decode cX5_init 22 = .ok (.newarray .int, 2) := by decide +kernel
theorem dX5_init_24 : decode cX5_init 24 = .ok (.putfield 18, 3) := by decide +kernel
theorem dX5_init_27 : decode cX5_init 27 = .ok (.aload_n 0, 1) := by decide +kernel
theorem dX5_init_28 : decode cX5_init 28 = .ok (.new 21, 3) := by decide +kernel
theorem dX5_init_31 : decode cX5_init 31 = .ok (.dup, 1) := by decide +kernel
theorem dX5_init_32 : decode cX5_init 32 = .ok (.invokespecial 23, 3) := by decide +kernel
theorem dX5_init_35 : decode cX5_init 35 = .ok (.putfield 24, 3) := by decide +kernel
theorem dX5_init_38 : decode cX5_init 38 = .ok (.aload_n 0, 1) := by decide +kernel
theorem dX5_init_39 : decode cX5_init 39 = .ok (.aload_n 1, 1) := by decide +kernel
theorem dX5_init_40 : decode cX5_init 40 = .ok (.putfield 28, 3) := by decide +kernel
theorem dX5_init_43 : decode cX5_init 43 = .ok (.return_, 1) := by decide +kernel
abbrev MX5_init : JM := (cX5_init, 2, RX5, none, yX5_init)
theorem jn_X5_init : jnm MX5_init 1 := by decide +kernel
theorem jp_X5_init : plainName MX5_init.2.2.2.2.cls = true := by decide +kernel
theorem df_X5 : ∀ j, j < 8 → defaultValue (tyX5 j) = vp_V [.null, .null, .null, .null, .null, .int 0, .int 0, .int 0] j := by
  intro j hj
  rcases (show j = 0 ∨ j = 1 ∨ j = 2 ∨ j = 3 ∨ j = 4 ∨ j = 5 ∨ j = 6 ∨ j = 7 by omega) with rfl | rfl | rfl | rfl | rfl | rfl | rfl | rfl <;> rfl
theorem dX6_init_0 : decode cX6_init 0 = .ok (.aload_n 0, 1) := by decide +kernel
theorem dX6_init_1 : decode cX6_init 1 = .ok (.invokespecial 3, 3) := by decide +kernel
theorem dX6_init_4 : decode cX6_init 4 = .ok (.aload_n 0, 1) := by decide +kernel
theorem dX6_init_5 : decode cX6_init 5 = .ok (.sipush 2000, 3) := by decide +kernel
theorem dX6_init_8 : decode cX6_init 8 = .ok (.newarray .byte, 2) := by decide +kernel
theorem dX6_init_10 : decode cX6_init 10 = .ok (.putfield 9, 3) := by decide +kernel
theorem dX6_init_13 : decode cX6_init 13 = .ok (.return_, 1) := by decide +kernel
abbrev MX6_init : JM := (cX6_init, 1, RX6, none, yX6_init)
theorem jn_X6_init : jnm MX6_init 0 := by decide +kernel
theorem jp_X6_init : plainName MX6_init.2.2.2.2.cls = true := by decide +kernel
theorem df_X6 : ∀ j, j < 2 → defaultValue (tyX6 j) = vp_V [.null, .int 0] j := by
  intro j hj
  rcases (show j = 0 ∨ j = 1 by omega) with rfl | rfl <;> rfl
theorem dX7_init_0 : decode cX7_init 0 = .ok (.aload_n 0, 1) := by decide +kernel
theorem dX7_init_1 : decode cX7_init 1 = .ok (.invokespecial 3, 3) := by decide +kernel
theorem dX7_init_4 : decode cX7_init 4 = .ok (.aload_n 0, 1) := by decide +kernel
theorem dX7_init_5 : decode cX7_init 5 = .ok (.sipush 401, 3) := by decide +kernel
theorem dX7_init_8 : decode cX7_init 8 = .ok (.newarray .int, 2) := by decide +kernel
theorem dX7_init_10 : decode cX7_init 10 = .ok (.putfield 9, 3) := by decide +kernel
theorem dX7_init_13 : decode cX7_init 13 = .ok (.aload_n 0, 1) := by decide +kernel
theorem dX7_init_14 : decode cX7_init 14 = .ok (.sipush 401, 3) := by decide +kernel
theorem dX7_init_17 : decode cX7_init 17 = .ok (.newarray .int, 2) := by decide +kernel
theorem dX7_init_19 : decode cX7_init 19 = .ok (.putfield 15, 3) := by decide +kernel
theorem dX7_init_22 : decode cX7_init 22 = .ok (.aload_n 0, 1) := by decide +kernel
theorem dX7_init_23 : decode cX7_init 23 = .ok (.sipush 401, 3) := by decide +kernel
theorem dX7_init_26 : decode cX7_init 26 = .ok (.newarray .long, 2) := by decide +kernel
theorem dX7_init_28 : decode cX7_init 28 = .ok (.putfield 18, 3) := by decide +kernel
theorem dX7_init_31 : decode cX7_init 31 = .ok (.return_, 1) := by decide +kernel
abbrev MX7_init : JM := (cX7_init, 1, RX7, none, yX7_init)
theorem jn_X7_init : jnm MX7_init 0 := by decide +kernel
theorem jp_X7_init : plainName MX7_init.2.2.2.2.cls = true := by decide +kernel
theorem df_X7 : ∀ j, j < 3 → defaultValue (tyX7 j) = vp_V [.null, .null, .null] j := by
  intro j hj
  rcases (show j = 0 ∨ j = 1 ∨ j = 2 by omega) with rfl | rfl | rfl <;> rfl
theorem dX9_init_0 : decode cX9_init 0 = .ok (.aload_n 0, 1) := by decide +kernel
theorem dX9_init_1 : decode cX9_init 1 = .ok (.invokespecial 1, 3) := by decide +kernel
theorem dX9_init_4 : decode cX9_init 4 = .ok (.aload_n 0, 1) := by decide +kernel
theorem dX9_init_5 : decode cX9_init 5 = .ok (.new 7, 3) := by decide +kernel
theorem dX9_init_8 : decode cX9_init 8 = .ok (.dup, 1) := by decide +kernel
theorem dX9_init_9 : decode cX9_init 9 = .ok (.invokespecial 9, 3) := by decide +kernel
theorem dX9_init_12 : decode cX9_init 12 = .ok (.putfield 10, 3) := by decide +kernel
theorem dX9_init_15 : decode cX9_init 15 = .ok (.aload_n 0, 1) := by decide +kernel
theorem dX9_init_16 : decode cX9_init 16 = .ok (.new 16, 3) := by decide +kernel
theorem dX9_init_19 : decode cX9_init 19 = .ok (.dup, 1) := by decide +kernel
theorem dX9_init_20 : decode cX9_init 20 = .ok (.invokespecial 18, 3) := by decide +kernel
theorem dX9_init_23 : decode cX9_init 23 = .ok (.putfield 19, 3) := by decide +kernel
theorem dX9_init_26 : decode cX9_init 26 = .ok (.aload_n 0, 1) := by decide +kernel
theorem dX9_init_27 : decode cX9_init 27 = .ok (.new 23, 3) := by decide +kernel
theorem dX9_init_30 : decode cX9_init 30 = .ok (.dup, 1) := by decide +kernel
theorem dX9_init_31 : decode cX9_init 31 = .ok (.aload_n 0, 1) := by decide +kernel
theorem dX9_init_32 : decode cX9_init 32 = .ok (.getfield 19, 3) := by decide +kernel
theorem dX9_init_35 : decode cX9_init 35 = .ok (.invokespecial 25, 3) := by decide +kernel
theorem dX9_init_38 : decode cX9_init 38 = .ok (.putfield 28, 3) := by decide +kernel
theorem dX9_init_41 : decode cX9_init 41 = .ok (.aload_n 0, 1) := by decide +kernel
theorem dX9_init_42 : decode cX9_init 42 = .ok (.new 32, 3) := by decide +kernel
theorem dX9_init_45 : decode cX9_init 45 = .ok (.dup, 1) := by decide +kernel
theorem dX9_init_46 : decode cX9_init 46 = .ok (.invokespecial 34, 3) := by decide +kernel
theorem dX9_init_49 : decode cX9_init 49 = .ok (.putfield 35, 3) := by decide +kernel
theorem dX9_init_52 : decode cX9_init 52 = .ok (.aload_n 0, 1) := by decide +kernel
theorem dX9_init_53 : decode cX9_init 53 = .ok (.new 39, 3) := by decide +kernel
theorem dX9_init_56 : decode cX9_init 56 = .ok (.dup, 1) := by decide +kernel
theorem dX9_init_57 : decode cX9_init 57 = .ok (.invokespecial 41, 3) := by decide +kernel
theorem dX9_init_60 : decode cX9_init 60 = .ok (.putfield 42, 3) := by decide +kernel
theorem dX9_init_63 : decode cX9_init 63 = .ok (.aload_n 0, 1) := by decide +kernel
theorem dX9_init_64 : decode cX9_init 64 = .ok (.new 39, 3) := by decide +kernel
theorem dX9_init_67 : decode cX9_init 67 = .ok (.dup, 1) := by decide +kernel
theorem dX9_init_68 : decode cX9_init 68 = .ok (.invokespecial 41, 3) := by decide +kernel
theorem dX9_init_71 : decode cX9_init 71 = .ok (.putfield 46, 3) := by decide +kernel
theorem dX9_init_74 : decode cX9_init 74 = .ok (.aload_n 0, 1) := by decide +kernel
theorem dX9_init_75 : decode cX9_init 75 = .ok (.new 49, 3) := by decide +kernel
theorem dX9_init_78 : decode cX9_init 78 = .ok (.dup, 1) := by decide +kernel
theorem dX9_init_79 : decode cX9_init 79 = .ok (.invokespecial 51, 3) := by decide +kernel
theorem dX9_init_82 : decode cX9_init 82 = .ok (.putfield 52, 3) := by decide +kernel
theorem dX9_init_85 : decode cX9_init 85 = .ok (.aload_n 0, 1) := by decide +kernel
theorem dX9_init_86 : decode cX9_init 86 = .ok (.iconst (-1), 1) := by decide +kernel
theorem dX9_init_87 : decode cX9_init 87 = .ok (.putfield 56, 3) := by decide +kernel
theorem dX9_init_90 : decode cX9_init 90 = .ok (.return_, 1) := by decide +kernel
abbrev MX9_init : JM := (cX9_init, 1, RX9, none, yX9_init)
theorem jn_X9_init : jnm MX9_init 0 := by decide +kernel
theorem jp_X9_init : plainName MX9_init.2.2.2.2.cls = true := by decide +kernel
theorem df_X9 : ∀ j, j < 8 → defaultValue (tyX9 j) = vp_V [.null, .null, .null, .null, .null, .null, .null, .int 0] j := by
  intro j hj
  rcases (show j = 0 ∨ j = 1 ∨ j = 2 ∨ j = 3 ∨ j = 4 ∨ j = 5 ∨ j = 6 ∨ j = 7 by omega) with rfl | rfl | rfl | rfl | rfl | rfl | rfl | rfl <;> rfl
theorem dX10_init_0 : decode cX10_init 0 = .ok (.aload_n 0, 1) := by decide +kernel
theorem dX10_init_1 : decode cX10_init 1 = .ok (.invokespecial 3, 3) := by decide +kernel
theorem dX10_init_4 : decode cX10_init 4 = .ok (.aload_n 0, 1) := by decide +kernel
theorem dX10_init_5 : decode cX10_init 5 = .ok (.bipush 10, 2) := by decide +kernel
theorem dX10_init_7 : decode cX10_init 7 = .ok (.newarray .int, 2) := by decide +kernel
theorem dX10_init_9 : decode cX10_init 9 = .ok (.putfield 9, 3) := by decide +kernel
theorem dX10_init_12 : decode cX10_init 12 = .ok (.aload_n 0, 1) := by decide +kernel
theorem dX10_init_13 : decode cX10_init 13 = .ok (.bipush 36, 2) := by decide +kernel
theorem dX10_init_15 : decode cX10_init 15 = .ok (.newarray .int, 2) := by decide +kernel
theorem dX10_init_17 : decode cX10_init 17 = .ok (.putfield 15, 3) := by decide +kernel
theorem dX10_init_20 : decode cX10_init 20 = .ok (.aload_n 0, 1) := by decide +kernel
theorem dX10_init_21 : decode cX10_init 21 = .ok (.bipush 15, 2) := by decide +kernel
theorem dX10_init_23 : decode cX10_init 23 = .ok (.newarray .int, 2) := by decide +kernel
theorem dX10_init_25 : decode cX10_init 25 = .ok (.putfield 18, 3) := by decide +kernel
theorem dX10_init_28 : decode cX10_init 28 = .ok (.aload_n 0, 1) := by decide +kernel
theorem dX10_init_29 : decode cX10_init 29 = .ok (.bipush 6, 2) := by decide +kernel
theorem dX10_init_31 : decode cX10_init 31 = .ok (.newarray .int, 2) := by decide +kernel
theorem dX10_init_33 : decode cX10_init 33 = .ok (.putfield 21, 3) := by decide +kernel
theorem dX10_init_36 : decode cX10_init 36 = .ok (.aload_n 0, 1) := by decide +kernel
theorem dX10_init_37 : decode cX10_init 37 = .ok (.bipush 42, 2) := by decide +kernel
theorem dX10_init_39 : decode cX10_init 39 = .ok (.newarray .int, 2) := by decide +kernel
theorem dX10_init_41 : decode cX10_init 41 = .ok (.putfield 24, 3) := by decide +kernel
theorem dX10_init_44 : decode cX10_init 44 = .ok (.aload_n 0, 1) := by decide +kernel
theorem dX10_init_45 : decode cX10_init 45 = .ok (.bipush 48, 2) := by decide +kernel
theorem dX10_init_47 : decode cX10_init 47 = .ok (.newarray .int, 2) := by decide +kernel
theorem dX10_init_49 : decode cX10_init 49 = .ok (.putfield 27, 3) := by decide +kernel
theorem dX10_init_52 : decode cX10_init 52 = .ok (.aload_n 0, 1) := by decide +kernel
theorem dX10_init_53 : decode cX10_init 53 = .ok (.sipush 401, 3) := by decide +kernel
theorem dX10_init_56 : decode cX10_init 56 = .ok (.newarray .int, 2) := by decide +kernel
theorem dX10_init_58 : decode cX10_init 58 = .ok (.putfield 30, 3) := by decide +kernel
theorem dX10_init_61 : decode cX10_init 61 = .ok (.aload_n 0, 1) := by decide +kernel
theorem dX10_init_62 : decode cX10_init 62 = .ok (.sipush 401, 3) := by decide +kernel
theorem dX10_init_65 : decode cX10_init 65 = .ok (.newarray .int, 2) := by decide +kernel
theorem dX10_init_67 : decode cX10_init 67 = .ok (.putfield 33, 3) := by decide +kernel
theorem dX10_init_70 : decode cX10_init 70 = .ok (.aload_n 0, 1) := by decide +kernel
theorem dX10_init_71 : decode cX10_init 71 = .ok (.sipush 401, 3) := by decide +kernel
theorem dX10_init_74 : decode cX10_init 74 = .ok (.newarray .int, 2) := by decide +kernel
theorem dX10_init_76 : decode cX10_init 76 = .ok (.putfield 36, 3) := by decide +kernel
theorem dX10_init_79 : decode cX10_init 79 = .ok (.return_, 1) := by decide +kernel
abbrev MX10_init : JM := (cX10_init, 1, RX10, none, yX10_init)
theorem jn_X10_init : jnm MX10_init 0 := by decide +kernel
theorem jp_X10_init : plainName MX10_init.2.2.2.2.cls = true := by decide +kernel
theorem df_X10 : ∀ j, j < 16 → defaultValue (tyX10 j) = vp_V [.int 0, .int 0, .int 0, .int 0, .int 0, .int 0, .null, .null, .null, .null, .null, .null, .int 0, .null, .null, .null] j := by
  intro j hj
  rcases (show j = 0 ∨ j = 1 ∨ j = 2 ∨ j = 3 ∨ j = 4 ∨ j = 5 ∨ j = 6 ∨ j = 7 ∨ j = 8 ∨ j = 9 ∨ j = 10 ∨ j = 11 ∨ j = 12 ∨ j = 13 ∨ j = 14 ∨ j = 15 by omega) with rfl | rfl | rfl | rfl | rfl | rfl | rfl | rfl | rfl | rfl | rfl | rfl | rfl | rfl | rfl | rfl <;> rfl
theorem dX11_init_0 : decode cX11_init 0 = .ok (.aload_n 0, 1) := by decide +kernel
theorem dX11_init_1 : decode cX11_init 1 = .ok (.invokespecial 75, 3) := by decide +kernel
theorem dX11_init_4 : decode cX11_init 4 = .ok (.aload_n 0, 1) := by decide +kernel
theorem dX11_init_5 : decode cX11_init 5 = .ok (.sipush 2000, 3) := by decide +kernel
theorem dX11_init_8 : decode cX11_init 8 = .ok (.newarray .int, 2) := by decide +kernel
theorem dX11_init_10 : decode cX11_init 10 = .ok (.putfield 18, 3) := by decide +kernel
theorem dX11_init_13 : decode cX11_init 13 = .ok (.aload_n 0, 1) := by decide +kernel
theorem dX11_init_14 : decode cX11_init 14 = .ok (.iconst (-1), 1) := by decide +kernel
theorem dX11_init_15 : decode cX11_init 15 = .ok (.putfield 81, 3) := by decide +kernel
theorem dX11_init_18 : decode cX11_init 18 = .ok (.aload_n 0, 1) := by decide +kernel
theorem dX11_init_19 : decode cX11_init 19 = .ok (.sipush 402, 3) := by decide +kernel
theorem dX11_init_22 : decode cX11_init 22 = .ok (.newarray .int, 2) := by decide +kernel
theorem dX11_init_24 : decode cX11_init 24 = .ok (.putfield 36, 3) := by decide +kernel
theorem dX11_init_27 : decode cX11_init 27 = .ok (.aload_n 0, 1) := by decide +kernel
theorem dX11_init_28 : decode cX11_init 28 = .ok (.sipush 402, 3) := by decide +kernel
theorem dX11_init_31 : decode cX11_init 31 = .ok (.newarray .int, 2) := by decide +kernel
theorem dX11_init_33 : decode cX11_init 33 = .ok (.putfield 42, 3) := by decide +kernel
theorem dX11_init_36 : decode cX11_init 36 = .ok (.aload_n 0, 1) := by decide +kernel
theorem dX11_init_37 : decode cX11_init 37 = .ok (.sipush 402, 3) := by decide +kernel
theorem dX11_init_40 : decode cX11_init 40 = .ok (.newarray .int, 2) := by decide +kernel
theorem dX11_init_42 : decode cX11_init 42 = .ok (.putfield 29, 3) := by decide +kernel
theorem dX11_init_45 : decode cX11_init 45 = .ok (.aload_n 0, 1) := by decide +kernel
theorem dX11_init_46 : decode cX11_init 46 = .ok (.sipush 402, 3) := by decide +kernel
theorem dX11_init_49 : decode cX11_init 49 = .ok (.newarray .int, 2) := by decide +kernel
theorem dX11_init_51 : decode cX11_init 51 = .ok (.putfield 39, 3) := by decide +kernel
theorem dX11_init_54 : decode cX11_init 54 = .ok (.aload_n 0, 1) := by decide +kernel
theorem dX11_init_55 : decode cX11_init 55 = .ok (.new 84, 3) := by decide +kernel
theorem dX11_init_58 : decode cX11_init 58 = .ok (.dup, 1) := by decide +kernel
theorem dX11_init_59 : decode cX11_init 59 = .ok (.invokespecial 86, 3) := by decide +kernel
theorem dX11_init_62 : decode cX11_init 62 = .ok (.putfield 87, 3) := by decide +kernel
theorem dX11_init_65 : decode cX11_init 65 = .ok (.aload_n 0, 1) := by decide +kernel
theorem dX11_init_66 : decode cX11_init 66 = .ok (.new 84, 3) := by decide +kernel
theorem dX11_init_69 : decode cX11_init 69 = .ok (.dup, 1) := by decide +kernel
theorem dX11_init_70 : decode cX11_init 70 = .ok (.invokespecial 86, 3) := by decide +kernel
theorem dX11_init_73 : decode cX11_init 73 = .ok (.putfield 91, 3) := by decide +kernel
theorem dX11_init_76 : decode cX11_init 76 = .ok (.aload_n 0, 1) := by decide +kernel
theorem dX11_init_77 : decode cX11_init 77 = .ok (.iconst 5, 1) := by decide +kernel
theorem dX11_init_78 : decode cX11_init 78 = .ok (.newarray .int, 2) := by decide +kernel
theorem dX11_init_80 : decode cX11_init 80 = .ok (.putfield 94, 3) := by decide +kernel
theorem dX11_init_83 : decode cX11_init 83 = .ok (.aload_n 0, 1) := by decide +kernel
theorem dX11_init_84 : decode cX11_init 84 = .ok (.bipush 12, 2) := by decide +kernel
theorem dX11_init_86 : decode cX11_init 86 = .ok (.newarray .int, 2) := by decide +kernel
theorem dX11_init_88 : decode cX11_init 88 = .ok (.putfield 97, 3) := by decide +kernel
theorem dX11_init_91 : decode cX11_init 91 = .ok (.aload_n 0, 1) := by decide +kernel
theorem dX11_init_92 : decode cX11_init 92 = .ok (.bipush 6, 2) := by decide +kernel
theorem dX11_init_94 : decode cX11_init 94 = .ok (.newarray .int, 2) := by decide +kernel
theorem dX11_init_96 : decode cX11_init 96 = .ok (.putfield 100, 3) := by decide +kernel
theorem dX11_init_99 : decode cX11_init 99 = .ok (.aload_n 0, 1) := by decide +kernel
theorem dX11_init_100 : decode cX11_init 100 = .ok (.bipush 7, 2) := by decide +kernel
theorem dX11_init_102 : decode cX11_init 102 = .ok (.newarray .int, 2) := by decide +kernel
theorem dX11_init_104 : decode cX11_init 104 = .ok (.putfield 103, 3) := by decide +kernel
theorem dX11_init_107 : decode cX11_init 107 = .ok (.aload_n 0, 1) := by decide +kernel
theorem dX11_init_108 : decode cX11_init 108 = .ok (.bipush 51, 2) := by decide +kernel
theorem dX11_init_110 : decode cX11_init 110 = .ok (.newarray .int, 2) := by decide +kernel
theorem dX11_init_112 : decode cX11_init 112 = .ok (.putfield 106, 3) := by decide +kernel
theorem dX11_init_115 : decode cX11_init 115 = .ok (.aload_n 0, 1) := by decide +kernel
theorem dX11_init_116 : decode cX11_init 116 = .ok (.bipush 51, 2) := by decide +kernel
theorem dX11_init_118 : decode cX11_init 118 = .ok (.newarray .int, 2) := by decide +kernel
theorem dX11_init_120 : decode cX11_init 120 = .ok (.putfield 109, 3) := by decide +kernel
theorem dX11_init_123 : decode cX11_init 123 = .ok (.aload_n 0, 1) := by decide +kernel
theorem dX11_init_124 : decode cX11_init 124 = .ok (.getfield 106, 3) := by decide +kernel
theorem dX11_init_127 : decode cX11_init 127 = .ok (.iconst 1, 1) := by decide +kernel
theorem dX11_init_128 : decode cX11_init 128 = .ok (.iconst 4, 1) := by decide +kernel
theorem dX11_init_129 : decode cX11_init 129 = .ok (.iastore, 1) := by decide +kernel
theorem dX11_init_130 : decode cX11_init 130 = .ok (.return_, 1) := by decide +kernel
abbrev MX11_init : JM := (cX11_init, 1, RX11, none, yX11_init)
theorem jn_X11_init : jnm MX11_init 0 := by decide +kernel
theorem jp_X11_init : plainName MX11_init.2.2.2.2.cls = true := by decide +kernel
theorem df_X11 : ∀ j, j < 21 → defaultValue (tyX11 j) = vp_V [.int 0, .null, .int 0, .int 0, .null, .null, .null, .null, .null, .null, .null, .null, .null, .int 0, .int 0, .int 0, .int 0, .int 0, .null, .null, .null] j := by
  intro j hj
  rcases (show j = 0 ∨ j = 1 ∨ j = 2 ∨ j = 3 ∨ j = 4 ∨ j = 5 ∨ j = 6 ∨ j = 7 ∨ j = 8 ∨ j = 9 ∨ j = 10 ∨ j = 11 ∨ j = 12 ∨ j = 13 ∨ j = 14 ∨ j = 15 ∨ j = 16 ∨ j = 17 ∨ j = 18 ∨ j = 19 ∨ j = 20 by omega) with rfl | rfl | rfl | rfl | rfl | rfl | rfl | rfl | rfl | rfl | rfl | rfl | rfl | rfl | rfl | rfl | rfl | rfl | rfl | rfl | rfl <;> rfl
theorem jw_363 : Cond.methodLink RX0 3 Lib.objectInit ∈ jGL := jmem 363 (by decide +kernel) rfl
theorem jw_146 : Cond.instanceMethod Lib.objectInit ∈ jGL := jmem 146 (by decide +kernel) rfl
theorem jw_147 : Cond.code Lib.objectInit ⟨#[0xb1]⟩ 1 none ∈ jGL := jmem 147 (by decide +kernel) rfl
theorem jw_380 : Cond.methodLink RX1 3 Lib.objectInit ∈ jGL := jmem 380 (by decide +kernel) rfl
theorem jw_230 : Cond.methodLink RX2 3 Lib.objectInit ∈ jGL := jmem 230 (by decide +kernel) rfl
theorem jw_198 : Cond.methodLink RX8 3 Lib.objectInit ∈ jGL := jmem 198 (by decide +kernel) rfl
theorem jw_192 : Cond.methodLink RX3 3 Lib.objectInit ∈ jGL := jmem 192 (by decide +kernel) rfl
theorem jw_193 : Cond.classLink RX3 33 RX8 ∈ jGL := jmem 193 (by decide +kernel) rfl
theorem jw_194 : Cond.instantiable RX8 7 ∈ jGL := jmem 194 (by decide +kernel) rfl
theorem jw_195 : Cond.methodLinkNest RX3 35 yX8_init "DriftOrgan" ∈ jGL := jmem 195 (by decide +kernel) rfl
theorem jw_196 : Cond.instanceMethod yX8_init ∈ jGL := jmem 196 (by decide +kernel) rfl
theorem jw_197 : Cond.code yX8_init cX8_init 1 none ∈ jGL := jmem 197 (by decide +kernel) rfl
theorem jw_225 : Cond.classLink RX3 40 RX2 ∈ jGL := jmem 225 (by decide +kernel) rfl
theorem jw_226 : Cond.instantiable RX2 8 ∈ jGL := jmem 226 (by decide +kernel) rfl
theorem jw_227 : Cond.methodLinkNest RX3 42 yX2_init "DriftOrgan" ∈ jGL := jmem 227 (by decide +kernel) rfl
theorem jw_228 : Cond.instanceMethod yX2_init ∈ jGL := jmem 228 (by decide +kernel) rfl
theorem jw_229 : Cond.code yX2_init cX2_init 1 none ∈ jGL := jmem 229 (by decide +kernel) rfl
theorem jw_357 : Cond.methodLink RX4 3 Lib.objectInit ∈ jGL := jmem 357 (by decide +kernel) rfl
theorem jw_358 : Cond.classLink RX4 9 RX0 ∈ jGL := jmem 358 (by decide +kernel) rfl
theorem jw_359 : Cond.instantiable RX0 2 ∈ jGL := jmem 359 (by decide +kernel) rfl
theorem jw_360 : Cond.methodLinkNest RX4 11 yX0_init "DriftOrgan" ∈ jGL := jmem 360 (by decide +kernel) rfl
theorem jw_361 : Cond.instanceMethod yX0_init ∈ jGL := jmem 361 (by decide +kernel) rfl
theorem jw_362 : Cond.code yX0_init cX0_init 1 none ∈ jGL := jmem 362 (by decide +kernel) rfl
theorem jw_186 : Cond.methodLink RX5 3 Lib.objectInit ∈ jGL := jmem 186 (by decide +kernel) rfl
theorem jw_187 : Cond.classLink RX5 21 RX3 ∈ jGL := jmem 187 (by decide +kernel) rfl
theorem jw_188 : Cond.instantiable RX3 12 ∈ jGL := jmem 188 (by decide +kernel) rfl
theorem jw_189 : Cond.methodLinkNest RX5 23 yX3_init "DriftOrgan" ∈ jGL := jmem 189 (by decide +kernel) rfl
theorem jw_190 : Cond.instanceMethod yX3_init ∈ jGL := jmem 190 (by decide +kernel) rfl
theorem jw_191 : Cond.code yX3_init cX3_init 1 none ∈ jGL := jmem 191 (by decide +kernel) rfl
theorem jw_153 : Cond.methodLink RX6 3 Lib.objectInit ∈ jGL := jmem 153 (by decide +kernel) rfl
theorem jw_168 : Cond.methodLink RX7 3 Lib.objectInit ∈ jGL := jmem 168 (by decide +kernel) rfl
theorem jw_145 : Cond.methodLink RX9 1 Lib.objectInit ∈ jGL := jmem 145 (by decide +kernel) rfl
theorem jw_148 : Cond.classLink RX9 7 RX6 ∈ jGL := jmem 148 (by decide +kernel) rfl
theorem jw_149 : Cond.instantiable RX6 2 ∈ jGL := jmem 149 (by decide +kernel) rfl
theorem jw_150 : Cond.methodLinkNest RX9 9 yX6_init "DriftOrgan" ∈ jGL := jmem 150 (by decide +kernel) rfl
theorem jw_151 : Cond.instanceMethod yX6_init ∈ jGL := jmem 151 (by decide +kernel) rfl
theorem jw_152 : Cond.code yX6_init cX6_init 1 none ∈ jGL := jmem 152 (by decide +kernel) rfl
theorem jw_163 : Cond.classLink RX9 16 RX7 ∈ jGL := jmem 163 (by decide +kernel) rfl
theorem jw_164 : Cond.instantiable RX7 3 ∈ jGL := jmem 164 (by decide +kernel) rfl
theorem jw_165 : Cond.methodLinkNest RX9 18 yX7_init "DriftOrgan" ∈ jGL := jmem 165 (by decide +kernel) rfl
theorem jw_166 : Cond.instanceMethod yX7_init ∈ jGL := jmem 166 (by decide +kernel) rfl
theorem jw_167 : Cond.code yX7_init cX7_init 1 none ∈ jGL := jmem 167 (by decide +kernel) rfl
theorem jw_181 : Cond.classLink RX9 23 RX5 ∈ jGL := jmem 181 (by decide +kernel) rfl
theorem jw_182 : Cond.instantiable RX5 8 ∈ jGL := jmem 182 (by decide +kernel) rfl
theorem jw_183 : Cond.methodLink RX9 25 yX5_init ∈ jGL := jmem 183 (by decide +kernel) rfl
theorem jw_184 : Cond.instanceMethod yX5_init ∈ jGL := jmem 184 (by decide +kernel) rfl
theorem jw_185 : Cond.code yX5_init cX5_init 2 none ∈ jGL := jmem 185 (by decide +kernel) rfl
theorem jw_352 : Cond.classLink RX9 32 RX4 ∈ jGL := jmem 352 (by decide +kernel) rfl
theorem jw_353 : Cond.instantiable RX4 1 ∈ jGL := jmem 353 (by decide +kernel) rfl
theorem jw_354 : Cond.methodLinkNest RX9 34 yX4_init "DriftOrgan" ∈ jGL := jmem 354 (by decide +kernel) rfl
theorem jw_355 : Cond.instanceMethod yX4_init ∈ jGL := jmem 355 (by decide +kernel) rfl
theorem jw_356 : Cond.code yX4_init cX4_init 1 none ∈ jGL := jmem 356 (by decide +kernel) rfl
theorem jw_375 : Cond.classLink RX9 39 RX1 ∈ jGL := jmem 375 (by decide +kernel) rfl
theorem jw_376 : Cond.instantiable RX1 9 ∈ jGL := jmem 376 (by decide +kernel) rfl
theorem jw_377 : Cond.methodLinkNest RX9 41 yX1_init "DriftOrgan" ∈ jGL := jmem 377 (by decide +kernel) rfl
theorem jw_378 : Cond.instanceMethod yX1_init ∈ jGL := jmem 378 (by decide +kernel) rfl
theorem jw_379 : Cond.code yX1_init cX1_init 1 none ∈ jGL := jmem 379 (by decide +kernel) rfl
theorem jw_432 : Cond.classLink RX9 49 RX3 ∈ jGL := jmem 432 (by decide +kernel) rfl
theorem jw_433 : Cond.methodLinkNest RX9 51 yX3_init "DriftOrgan" ∈ jGL := jmem 433 (by decide +kernel) rfl
theorem jw_1287 : Cond.methodLink RX10 3 Lib.objectInit ∈ jGL := jmem 1287 (by decide +kernel) rfl
theorem jw_1300 : Cond.fieldLink RX10 9 "DriftOrganModel$Book" "cave" "[I" ∈ jGL := jmem 1300 (by decide +kernel) rfl
theorem jw_1302 : Cond.fieldLink RX10 15 "DriftOrganModel$Book" "pipe" "[I" ∈ jGL := jmem 1302 (by decide +kernel) rfl
theorem jw_1304 : Cond.fieldLink RX10 18 "DriftOrganModel$Book" "swell" "[I" ∈ jGL := jmem 1304 (by decide +kernel) rfl
theorem jw_1306 : Cond.fieldLink RX10 21 "DriftOrganModel$Book" "silence" "[I" ∈ jGL := jmem 1306 (by decide +kernel) rfl
theorem jw_1308 : Cond.fieldLink RX10 24 "DriftOrganModel$Book" "chord" "[I" ∈ jGL := jmem 1308 (by decide +kernel) rfl
theorem jw_1310 : Cond.fieldLink RX10 27 "DriftOrganModel$Book" "order" "[I" ∈ jGL := jmem 1310 (by decide +kernel) rfl
theorem jw_1281 : Cond.methodLink RX11 75 Lib.objectInit ∈ jGL := jmem 1281 (by decide +kernel) rfl
theorem jw_1282 : Cond.classLink RX11 84 RX10 ∈ jGL := jmem 1282 (by decide +kernel) rfl
theorem jw_1283 : Cond.instantiable RX10 16 ∈ jGL := jmem 1283 (by decide +kernel) rfl
theorem jw_1284 : Cond.methodLinkNest RX11 86 yX10_init "DriftOrganModel" ∈ jGL := jmem 1284 (by decide +kernel) rfl
theorem jw_1285 : Cond.instanceMethod yX10_init ∈ jGL := jmem 1285 (by decide +kernel) rfl
theorem jw_1286 : Cond.code yX10_init cX10_init 1 none ∈ jGL := jmem 1286 (by decide +kernel) rfl
def kP0 (h : Nat) (cs : Nat → ClassId) (X : va_W) : Prop := ∃ (a0 : Nat), X = [(h, .inr (0, [.ref a0, .int 0])), (a0, .inl (cs 0, 400, .inl (fun _ => 0)))]
set_option maxRecDepth 20000 in
theorem k_X0 (h : Nat) : jSN MX0_init 1 1 400 h [] (.inr (0, [.null, .int 0])) (kP0 h) := by
  refine jSN_of jp_X0_init rfl rfl (Nat.le_of_ble_eq_true rfl) (fun C hm hi => ?_)
  refine jg_aload_n hm (i := 0) (q := h) rfl rfl dX0_init_0 ?_
  refine jg_objInit hm jw_363 jw_146 jw_147 (by decide) (Nat.le_of_ble_eq_true rfl) rfl dX0_init_1 ?_
  refine jg_aload_n hm (i := 0) (q := h) rfl rfl dX0_init_4 ?_
  refine jg_sipush hm (v := 400) (by decide) dX0_init_5 ?_
  refine jg_newi hm (N := 400) (by decide) (by decide +kernel) (Nat.le_of_ble_eq_true rfl) (Nat.le_of_ble_eq_true rfl) (Nat.le_of_ble_eq_true rfl) dX0_init_8 (fun a0 => ?_)
  refine jg_putF hm hi (ty0 := tyX0) 0 0 rfl rfl jin_X0 tyX0_ok nmX0 (by decide) jw_364 rfl rfl rfl rfl (Nat.le_of_ble_eq_true rfl) dX0_init_10 ?_
  refine jg_eq (X2 := [(h, .inr (0, [.ref a0, .int 0])), (a0, .inl (jcs C 0, 400, .inl (fun _ => 0)))]) rfl ?_
  exact jg_return hm rfl (Nat.le_of_ble_eq_true rfl) (Nat.le_of_ble_eq_true rfl) dX0_init_13 ⟨a0, rfl⟩
def kP1 (h : Nat) (cs : Nat → ClassId) (X : va_W) : Prop := ∃ (a0 : Nat) (a1 : Nat) (a2 : Nat) (a3 : Nat) (a4 : Nat), X = [(h, .inr (1, [.ref a0, .ref a1, .ref a2, .ref a3, .ref a4, .int 0, .int 4, .int 0, .int 0])), (a0, .inl (cs 0, 5, .inl (fun _ => 0))), (a1, .inl (cs 0, 12, .inl (fun _ => 0))), (a2, .inl (cs 0, 12, .inl (fun _ => 0))), (a3, .inl (cs 0, 12, .inl (fun _ => 0))), (a4, .inl (cs 0, 6, .inl (fun _ => 0)))]
set_option maxRecDepth 20000 in
theorem k_X1 (h : Nat) : jSN MX1_init 1 5 47 h [] (.inr (1, [.null, .null, .null, .null, .null, .int 0, .int 0, .int 0, .int 0])) (kP1 h) := by
  refine jSN_of jp_X1_init rfl rfl (Nat.le_of_ble_eq_true rfl) (fun C hm hi => ?_)
  refine jg_aload_n hm (i := 0) (q := h) rfl rfl dX1_init_0 ?_
  refine jg_objInit hm jw_380 jw_146 jw_147 (by decide) (Nat.le_of_ble_eq_true rfl) rfl dX1_init_1 ?_
  refine jg_aload_n hm (i := 0) (q := h) rfl rfl dX1_init_4 ?_
  refine jg_iconst hm (v := 5) (by decide) dX1_init_5 ?_
  refine jg_newi hm (N := 5) (by decide) (by decide +kernel) (Nat.le_of_ble_eq_true rfl) (Nat.le_of_ble_eq_true rfl) (Nat.le_of_ble_eq_true rfl) dX1_init_6 (fun a0 => ?_)
  refine jg_putF hm hi (ty0 := tyX1) 0 0 rfl rfl jin_X1 tyX1_ok nmX1 (by decide) jw_381 rfl rfl rfl rfl (Nat.le_of_ble_eq_true rfl) dX1_init_8 ?_
  refine jg_eq (X2 := [(h, .inr (1, [.ref a0, .null, .null, .null, .null, .int 0, .int 0, .int 0, .int 0])), (a0, .inl (jcs C 0, 5, .inl (fun _ => 0)))]) rfl ?_
  refine jg_aload_n hm (i := 0) (q := h) rfl rfl dX1_init_11 ?_
  refine jg_bipush hm (v := 12) (by decide) dX1_init_12 ?_
  refine jg_newi hm (N := 12) (by decide) (by decide +kernel) (Nat.le_of_ble_eq_true rfl) (Nat.le_of_ble_eq_true rfl) (Nat.le_of_ble_eq_true rfl) dX1_init_14 (fun a1 => ?_)
  refine jg_putF hm hi (ty0 := tyX1) 0 1 rfl rfl jin_X1 tyX1_ok nmX1 (by decide) jw_385 rfl rfl rfl rfl (Nat.le_of_ble_eq_true rfl) dX1_init_16 ?_
  refine jg_eq (X2 := [(h, .inr (1, [.ref a0, .ref a1, .null, .null, .null, .int 0, .int 0, .int 0, .int 0])), (a0, .inl (jcs C 0, 5, .inl (fun _ => 0))), (a1, .inl (jcs C 0, 12, .inl (fun _ => 0)))]) rfl ?_
  refine jg_aload_n hm (i := 0) (q := h) rfl rfl dX1_init_19 ?_
  refine jg_bipush hm (v := 12) (by decide) dX1_init_20 ?_
  refine jg_newi hm (N := 12) (by decide) (by decide +kernel) (Nat.le_of_ble_eq_true rfl) (Nat.le_of_ble_eq_true rfl) (Nat.le_of_ble_eq_true rfl) dX1_init_22 (fun a2 => ?_)
  refine jg_putF hm hi (ty0 := tyX1) 0 2 rfl rfl jin_X1 tyX1_ok nmX1 (by decide) jw_389 rfl rfl rfl rfl (Nat.le_of_ble_eq_true rfl) dX1_init_24 ?_
  refine jg_eq (X2 := [(h, .inr (1, [.ref a0, .ref a1, .ref a2, .null, .null, .int 0, .int 0, .int 0, .int 0])), (a0, .inl (jcs C 0, 5, .inl (fun _ => 0))), (a1, .inl (jcs C 0, 12, .inl (fun _ => 0))), (a2, .inl (jcs C 0, 12, .inl (fun _ => 0)))]) rfl ?_
  refine jg_aload_n hm (i := 0) (q := h) rfl rfl dX1_init_27 ?_
  refine jg_bipush hm (v := 12) (by decide) dX1_init_28 ?_
  refine jg_newi hm (N := 12) (by decide) (by decide +kernel) (Nat.le_of_ble_eq_true rfl) (Nat.le_of_ble_eq_true rfl) (Nat.le_of_ble_eq_true rfl) dX1_init_30 (fun a3 => ?_)
  refine jg_putF hm hi (ty0 := tyX1) 0 3 rfl rfl jin_X1 tyX1_ok nmX1 (by decide) jw_393 rfl rfl rfl rfl (Nat.le_of_ble_eq_true rfl) dX1_init_32 ?_
  refine jg_eq (X2 := [(h, .inr (1, [.ref a0, .ref a1, .ref a2, .ref a3, .null, .int 0, .int 0, .int 0, .int 0])), (a0, .inl (jcs C 0, 5, .inl (fun _ => 0))), (a1, .inl (jcs C 0, 12, .inl (fun _ => 0))), (a2, .inl (jcs C 0, 12, .inl (fun _ => 0))), (a3, .inl (jcs C 0, 12, .inl (fun _ => 0)))]) rfl ?_
  refine jg_aload_n hm (i := 0) (q := h) rfl rfl dX1_init_35 ?_
  refine jg_bipush hm (v := 6) (by decide) dX1_init_36 ?_
  refine jg_newi hm (N := 6) (by decide) (by decide +kernel) (Nat.le_of_ble_eq_true rfl) (Nat.le_of_ble_eq_true rfl) (Nat.le_of_ble_eq_true rfl) dX1_init_38 (fun a4 => ?_)
  refine jg_putF hm hi (ty0 := tyX1) 0 4 rfl rfl jin_X1 tyX1_ok nmX1 (by decide) jw_396 rfl rfl rfl rfl (Nat.le_of_ble_eq_true rfl) dX1_init_40 ?_
  refine jg_eq (X2 := [(h, .inr (1, [.ref a0, .ref a1, .ref a2, .ref a3, .ref a4, .int 0, .int 0, .int 0, .int 0])), (a0, .inl (jcs C 0, 5, .inl (fun _ => 0))), (a1, .inl (jcs C 0, 12, .inl (fun _ => 0))), (a2, .inl (jcs C 0, 12, .inl (fun _ => 0))), (a3, .inl (jcs C 0, 12, .inl (fun _ => 0))), (a4, .inl (jcs C 0, 6, .inl (fun _ => 0)))]) rfl ?_
  refine jg_aload_n hm (i := 0) (q := h) rfl rfl dX1_init_43 ?_
  refine jg_iconst hm (v := 4) (by decide) dX1_init_44 ?_
  refine jg_put hm (ty0 := tyX1) 0 6 rfl rfl jin_X1 tyX1_ok nmX1 (by decide) jw_402 rfl rfl rfl rfl (Nat.le_of_ble_eq_true rfl) dX1_init_45 ?_
  refine jg_eq (X2 := [(h, .inr (1, [.ref a0, .ref a1, .ref a2, .ref a3, .ref a4, .int 0, .int 4, .int 0, .int 0])), (a0, .inl (jcs C 0, 5, .inl (fun _ => 0))), (a1, .inl (jcs C 0, 12, .inl (fun _ => 0))), (a2, .inl (jcs C 0, 12, .inl (fun _ => 0))), (a3, .inl (jcs C 0, 12, .inl (fun _ => 0))), (a4, .inl (jcs C 0, 6, .inl (fun _ => 0)))]) rfl ?_
  exact jg_return hm rfl (Nat.le_of_ble_eq_true rfl) (Nat.le_of_ble_eq_true rfl) dX1_init_48 ⟨a0, a1, a2, a3, a4, rfl⟩
def kP2 (h : Nat) (cs : Nat → ClassId) (X : va_W) : Prop := ∃ (a0 : Nat) (a1 : Nat) (a2 : Nat) (a3 : Nat) (a4 : Nat) (a5 : Nat), X = [(h, .inr (2, [.ref a0, .ref a1, .ref a2, .ref a3, .ref a4, .ref a5, .int 0, .int 0])), (a0, .inl (cs 0, 16, .inl (fun _ => 0))), (a1, .inl (cs 0, 16, .inl (fun _ => 0))), (a2, .inl (cs 0, 16, .inl (fun _ => 0))), (a3, .inl (cs 0, 16, .inl (fun _ => 0))), (a4, .inl (cs 0, 400, .inl (fun _ => 0))), (a5, .inl (cs 0, 400, .inl (fun _ => 0)))]
set_option maxRecDepth 20000 in
theorem k_X2 (h : Nat) : jSN MX2_init 1 6 864 h [] (.inr (2, [.null, .null, .null, .null, .null, .null, .int 0, .int 0])) (kP2 h) := by
  refine jSN_of jp_X2_init rfl rfl (Nat.le_of_ble_eq_true rfl) (fun C hm hi => ?_)
  refine jg_aload_n hm (i := 0) (q := h) rfl rfl dX2_init_0 ?_
  refine jg_objInit hm jw_230 jw_146 jw_147 (by decide) (Nat.le_of_ble_eq_true rfl) rfl dX2_init_1 ?_
  refine jg_aload_n hm (i := 0) (q := h) rfl rfl dX2_init_4 ?_
  refine jg_bipush hm (v := 16) (by decide) dX2_init_5 ?_
  refine jg_newi hm (N := 16) (by decide) (by decide +kernel) (Nat.le_of_ble_eq_true rfl) (Nat.le_of_ble_eq_true rfl) (Nat.le_of_ble_eq_true rfl) dX2_init_7 (fun a0 => ?_)
  refine jg_putF hm hi (ty0 := tyX2) 0 0 rfl rfl jin_X2 tyX2_ok nmX2 (by decide) jw_231 rfl rfl rfl rfl (Nat.le_of_ble_eq_true rfl) dX2_init_9 ?_
  refine jg_eq (X2 := [(h, .inr (2, [.ref a0, .null, .null, .null, .null, .null, .int 0, .int 0])), (a0, .inl (jcs C 0, 16, .inl (fun _ => 0)))]) rfl ?_
  refine jg_aload_n hm (i := 0) (q := h) rfl rfl dX2_init_12 ?_
  refine jg_bipush hm (v := 16) (by decide) dX2_init_13 ?_
  refine jg_newi hm (N := 16) (by decide) (by decide +kernel) (Nat.le_of_ble_eq_true rfl) (Nat.le_of_ble_eq_true rfl) (Nat.le_of_ble_eq_true rfl) dX2_init_15 (fun a1 => ?_)
  refine jg_putF hm hi (ty0 := tyX2) 0 1 rfl rfl jin_X2 tyX2_ok nmX2 (by decide) jw_233 rfl rfl rfl rfl (Nat.le_of_ble_eq_true rfl) dX2_init_17 ?_
  refine jg_eq (X2 := [(h, .inr (2, [.ref a0, .ref a1, .null, .null, .null, .null, .int 0, .int 0])), (a0, .inl (jcs C 0, 16, .inl (fun _ => 0))), (a1, .inl (jcs C 0, 16, .inl (fun _ => 0)))]) rfl ?_
  refine jg_aload_n hm (i := 0) (q := h) rfl rfl dX2_init_20 ?_
  refine jg_bipush hm (v := 16) (by decide) dX2_init_21 ?_
  refine jg_newi hm (N := 16) (by decide) (by decide +kernel) (Nat.le_of_ble_eq_true rfl) (Nat.le_of_ble_eq_true rfl) (Nat.le_of_ble_eq_true rfl) dX2_init_23 (fun a2 => ?_)
  refine jg_putF hm hi (ty0 := tyX2) 0 2 rfl rfl jin_X2 tyX2_ok nmX2 (by decide) jw_235 rfl rfl rfl rfl (Nat.le_of_ble_eq_true rfl) dX2_init_25 ?_
  refine jg_eq (X2 := [(h, .inr (2, [.ref a0, .ref a1, .ref a2, .null, .null, .null, .int 0, .int 0])), (a0, .inl (jcs C 0, 16, .inl (fun _ => 0))), (a1, .inl (jcs C 0, 16, .inl (fun _ => 0))), (a2, .inl (jcs C 0, 16, .inl (fun _ => 0)))]) rfl ?_
  refine jg_aload_n hm (i := 0) (q := h) rfl rfl dX2_init_28 ?_
  refine jg_bipush hm (v := 16) (by decide) dX2_init_29 ?_
  refine jg_newi hm (N := 16) (by decide) (by decide +kernel) (Nat.le_of_ble_eq_true rfl) (Nat.le_of_ble_eq_true rfl) (Nat.le_of_ble_eq_true rfl) dX2_init_31 (fun a3 => ?_)
  refine jg_putF hm hi (ty0 := tyX2) 0 3 rfl rfl jin_X2 tyX2_ok nmX2 (by decide) jw_237 rfl rfl rfl rfl (Nat.le_of_ble_eq_true rfl) dX2_init_33 ?_
  refine jg_eq (X2 := [(h, .inr (2, [.ref a0, .ref a1, .ref a2, .ref a3, .null, .null, .int 0, .int 0])), (a0, .inl (jcs C 0, 16, .inl (fun _ => 0))), (a1, .inl (jcs C 0, 16, .inl (fun _ => 0))), (a2, .inl (jcs C 0, 16, .inl (fun _ => 0))), (a3, .inl (jcs C 0, 16, .inl (fun _ => 0)))]) rfl ?_
  refine jg_aload_n hm (i := 0) (q := h) rfl rfl dX2_init_36 ?_
  refine jg_sipush hm (v := 400) (by decide) dX2_init_37 ?_
  refine jg_newi hm (N := 400) (by decide) (by decide +kernel) (Nat.le_of_ble_eq_true rfl) (Nat.le_of_ble_eq_true rfl) (Nat.le_of_ble_eq_true rfl) dX2_init_40 (fun a4 => ?_)
  refine jg_putF hm hi (ty0 := tyX2) 0 4 rfl rfl jin_X2 tyX2_ok nmX2 (by decide) jw_239 rfl rfl rfl rfl (Nat.le_of_ble_eq_true rfl) dX2_init_42 ?_
  refine jg_eq (X2 := [(h, .inr (2, [.ref a0, .ref a1, .ref a2, .ref a3, .ref a4, .null, .int 0, .int 0])), (a0, .inl (jcs C 0, 16, .inl (fun _ => 0))), (a1, .inl (jcs C 0, 16, .inl (fun _ => 0))), (a2, .inl (jcs C 0, 16, .inl (fun _ => 0))), (a3, .inl (jcs C 0, 16, .inl (fun _ => 0))), (a4, .inl (jcs C 0, 400, .inl (fun _ => 0)))]) rfl ?_
  refine jg_aload_n hm (i := 0) (q := h) rfl rfl dX2_init_45 ?_
  refine jg_sipush hm (v := 400) (by decide) dX2_init_46 ?_
  refine jg_newi hm (N := 400) (by decide) (by decide +kernel) (Nat.le_of_ble_eq_true rfl) (Nat.le_of_ble_eq_true rfl) (Nat.le_of_ble_eq_true rfl) dX2_init_49 (fun a5 => ?_)
  refine jg_putF hm hi (ty0 := tyX2) 0 5 rfl rfl jin_X2 tyX2_ok nmX2 (by decide) jw_241 rfl rfl rfl rfl (Nat.le_of_ble_eq_true rfl) dX2_init_51 ?_
  refine jg_eq (X2 := [(h, .inr (2, [.ref a0, .ref a1, .ref a2, .ref a3, .ref a4, .ref a5, .int 0, .int 0])), (a0, .inl (jcs C 0, 16, .inl (fun _ => 0))), (a1, .inl (jcs C 0, 16, .inl (fun _ => 0))), (a2, .inl (jcs C 0, 16, .inl (fun _ => 0))), (a3, .inl (jcs C 0, 16, .inl (fun _ => 0))), (a4, .inl (jcs C 0, 400, .inl (fun _ => 0))), (a5, .inl (jcs C 0, 400, .inl (fun _ => 0)))]) rfl ?_
  exact jg_return hm rfl (Nat.le_of_ble_eq_true rfl) (Nat.le_of_ble_eq_true rfl) dX2_init_54 ⟨a0, a1, a2, a3, a4, a5, rfl⟩
def kP8 (h : Nat) (cs : Nat → ClassId) (X : va_W) : Prop := ∃ (a0 : Nat) (a1 : Nat) (a2 : Nat) (a3 : Nat) (a4 : Nat), X = [(h, .inr (8, [.ref a0, .ref a1, .ref a2, .ref a3, .ref a4, .int 0, .int 0])), (a0, .inl (cs 0, 5, .inl (fun _ => 0))), (a1, .inl (cs 0, 5, .inl (fun _ => 0))), (a2, .inl (cs 0, 5, .inl (fun _ => 0))), (a3, .inl (cs 0, 3, .inl (fun _ => 0))), (a4, .inl (cs 0, 3, .inl (fun _ => 0)))]
set_option maxRecDepth 20000 in
theorem k_X8 (h : Nat) : jSN MX8_init 1 5 21 h [] (.inr (8, [.null, .null, .null, .null, .null, .int 0, .int 0])) (kP8 h) := by
  refine jSN_of jp_X8_init rfl rfl (Nat.le_of_ble_eq_true rfl) (fun C hm hi => ?_)
  refine jg_aload_n hm (i := 0) (q := h) rfl rfl dX8_init_0 ?_
  refine jg_objInit hm jw_198 jw_146 jw_147 (by decide) (Nat.le_of_ble_eq_true rfl) rfl dX8_init_1 ?_
  refine jg_aload_n hm (i := 0) (q := h) rfl rfl dX8_init_4 ?_
  refine jg_iconst hm (v := 5) (by decide) dX8_init_5 ?_
  refine jg_newi hm (N := 5) (by decide) (by decide +kernel) (Nat.le_of_ble_eq_true rfl) (Nat.le_of_ble_eq_true rfl) (Nat.le_of_ble_eq_true rfl) dX8_init_6 (fun a0 => ?_)
  refine jg_putF hm hi (ty0 := tyX8) 0 0 rfl rfl jin_X8 tyX8_ok nmX8 (by decide) jw_199 rfl rfl rfl rfl (Nat.le_of_ble_eq_true rfl) dX8_init_8 ?_
  refine jg_eq (X2 := [(h, .inr (8, [.ref a0, .null, .null, .null, .null, .int 0, .int 0])), (a0, .inl (jcs C 0, 5, .inl (fun _ => 0)))]) rfl ?_
  refine jg_aload_n hm (i := 0) (q := h) rfl rfl dX8_init_11 ?_
  refine jg_iconst hm (v := 5) (by decide) dX8_init_12 ?_
  refine jg_newi hm (N := 5) (by decide) (by decide +kernel) (Nat.le_of_ble_eq_true rfl) (Nat.le_of_ble_eq_true rfl) (Nat.le_of_ble_eq_true rfl) dX8_init_13 (fun a1 => ?_)
  refine jg_putF hm hi (ty0 := tyX8) 0 1 rfl rfl jin_X8 tyX8_ok nmX8 (by decide) jw_200 rfl rfl rfl rfl (Nat.le_of_ble_eq_true rfl) dX8_init_15 ?_
  refine jg_eq (X2 := [(h, .inr (8, [.ref a0, .ref a1, .null, .null, .null, .int 0, .int 0])), (a0, .inl (jcs C 0, 5, .inl (fun _ => 0))), (a1, .inl (jcs C 0, 5, .inl (fun _ => 0)))]) rfl ?_
  refine jg_aload_n hm (i := 0) (q := h) rfl rfl dX8_init_18 ?_
  refine jg_iconst hm (v := 5) (by decide) dX8_init_19 ?_
  refine jg_newi hm (N := 5) (by decide) (by decide +kernel) (Nat.le_of_ble_eq_true rfl) (Nat.le_of_ble_eq_true rfl) (Nat.le_of_ble_eq_true rfl) dX8_init_20 (fun a2 => ?_)
  refine jg_putF hm hi (ty0 := tyX8) 0 2 rfl rfl jin_X8 tyX8_ok nmX8 (by decide) jw_201 rfl rfl rfl rfl (Nat.le_of_ble_eq_true rfl) dX8_init_22 ?_
  refine jg_eq (X2 := [(h, .inr (8, [.ref a0, .ref a1, .ref a2, .null, .null, .int 0, .int 0])), (a0, .inl (jcs C 0, 5, .inl (fun _ => 0))), (a1, .inl (jcs C 0, 5, .inl (fun _ => 0))), (a2, .inl (jcs C 0, 5, .inl (fun _ => 0)))]) rfl ?_
  refine jg_aload_n hm (i := 0) (q := h) rfl rfl dX8_init_25 ?_
  refine jg_iconst hm (v := 3) (by decide) dX8_init_26 ?_
  refine jg_newi hm (N := 3) (by decide) (by decide +kernel) (Nat.le_of_ble_eq_true rfl) (Nat.le_of_ble_eq_true rfl) (Nat.le_of_ble_eq_true rfl) dX8_init_27 (fun a3 => ?_)
  refine jg_putF hm hi (ty0 := tyX8) 0 3 rfl rfl jin_X8 tyX8_ok nmX8 (by decide) jw_202 rfl rfl rfl rfl (Nat.le_of_ble_eq_true rfl) dX8_init_29 ?_
  refine jg_eq (X2 := [(h, .inr (8, [.ref a0, .ref a1, .ref a2, .ref a3, .null, .int 0, .int 0])), (a0, .inl (jcs C 0, 5, .inl (fun _ => 0))), (a1, .inl (jcs C 0, 5, .inl (fun _ => 0))), (a2, .inl (jcs C 0, 5, .inl (fun _ => 0))), (a3, .inl (jcs C 0, 3, .inl (fun _ => 0)))]) rfl ?_
  refine jg_aload_n hm (i := 0) (q := h) rfl rfl dX8_init_32 ?_
  refine jg_iconst hm (v := 3) (by decide) dX8_init_33 ?_
  refine jg_newi hm (N := 3) (by decide) (by decide +kernel) (Nat.le_of_ble_eq_true rfl) (Nat.le_of_ble_eq_true rfl) (Nat.le_of_ble_eq_true rfl) dX8_init_34 (fun a4 => ?_)
  refine jg_putF hm hi (ty0 := tyX8) 0 4 rfl rfl jin_X8 tyX8_ok nmX8 (by decide) jw_203 rfl rfl rfl rfl (Nat.le_of_ble_eq_true rfl) dX8_init_36 ?_
  refine jg_eq (X2 := [(h, .inr (8, [.ref a0, .ref a1, .ref a2, .ref a3, .ref a4, .int 0, .int 0])), (a0, .inl (jcs C 0, 5, .inl (fun _ => 0))), (a1, .inl (jcs C 0, 5, .inl (fun _ => 0))), (a2, .inl (jcs C 0, 5, .inl (fun _ => 0))), (a3, .inl (jcs C 0, 3, .inl (fun _ => 0))), (a4, .inl (jcs C 0, 3, .inl (fun _ => 0)))]) rfl ?_
  exact jg_return hm rfl (Nat.le_of_ble_eq_true rfl) (Nat.le_of_ble_eq_true rfl) dX8_init_39 ⟨a0, a1, a2, a3, a4, rfl⟩
def kP3 (h : Nat) (cs : Nat → ClassId) (X : va_W) : Prop := ∃ (a0 : Nat) (a1 : Nat) (a2 : Nat) (a3 : Nat) (a4 : Nat) (a5 : Nat) (a6 : Nat) (w7 : Nat) (w8 : Nat) (Y0 : va_W) (Y1 : va_W), kP8 w7 cs Y0 ∧ kP2 w8 cs Y1 ∧ X = (([(h, .inr (3, [.ref a0, .ref a1, .ref a2, .ref a3, .ref a4, .ref a5, .ref a6, .ref w7, .ref w8, .int 0, .int 0, .int 0])), (a0, .inl (cs 0, 5, .inl (fun _ => 0))), (a1, .inl (cs 0, 5, .inl (fun _ => 0))), (a2, .inl (cs 0, 12, .inl (fun _ => 0))), (a3, .inl (cs 0, 12, .inl (fun _ => 0))), (a4, .inl (cs 0, 12, .inl (fun _ => 0))), (a5, .inl (cs 0, 6, .inl (fun _ => 0))), (a6, .inl (cs 0, 36, .inl (fun _ => 0)))] ++ Y0) ++ Y1)
set_option maxRecDepth 20000 in
theorem k_X3 (h : Nat) : jSN MX3_init 2 20 988 h [] (.inr (3, [.null, .null, .null, .null, .null, .null, .null, .null, .null, .int 0, .int 0, .int 0])) (kP3 h) := by
  refine jSN_of jp_X3_init rfl rfl (Nat.le_of_ble_eq_true rfl) (fun C hm hi => ?_)
  refine jg_aload_n hm (i := 0) (q := h) rfl rfl dX3_init_0 ?_
  refine jg_objInit hm jw_192 jw_146 jw_147 (by decide) (Nat.le_of_ble_eq_true rfl) rfl dX3_init_1 ?_
  refine jg_aload_n hm (i := 0) (q := h) rfl rfl dX3_init_4 ?_
  refine jg_iconst hm (v := 5) (by decide) dX3_init_5 ?_
  refine jg_newi hm (N := 5) (by decide) (by decide +kernel) (Nat.le_of_ble_eq_true rfl) (Nat.le_of_ble_eq_true rfl) (Nat.le_of_ble_eq_true rfl) dX3_init_6 (fun a0 => ?_)
  refine jg_putF hm hi (ty0 := tyX3) 0 0 rfl rfl jin_X3 tyX3_ok nmX3 (by decide) jw_265 rfl rfl rfl rfl (Nat.le_of_ble_eq_true rfl) dX3_init_8 ?_
  refine jg_eq (X2 := [(h, .inr (3, [.ref a0, .null, .null, .null, .null, .null, .null, .null, .null, .int 0, .int 0, .int 0])), (a0, .inl (jcs C 0, 5, .inl (fun _ => 0)))]) rfl ?_
  refine jg_aload_n hm (i := 0) (q := h) rfl rfl dX3_init_11 ?_
  refine jg_iconst hm (v := 5) (by decide) dX3_init_12 ?_
  refine jg_newi hm (N := 5) (by decide) (by decide +kernel) (Nat.le_of_ble_eq_true rfl) (Nat.le_of_ble_eq_true rfl) (Nat.le_of_ble_eq_true rfl) dX3_init_13 (fun a1 => ?_)
  refine jg_putF hm hi (ty0 := tyX3) 0 1 rfl rfl jin_X3 tyX3_ok nmX3 (by decide) jw_268 rfl rfl rfl rfl (Nat.le_of_ble_eq_true rfl) dX3_init_15 ?_
  refine jg_eq (X2 := [(h, .inr (3, [.ref a0, .ref a1, .null, .null, .null, .null, .null, .null, .null, .int 0, .int 0, .int 0])), (a0, .inl (jcs C 0, 5, .inl (fun _ => 0))), (a1, .inl (jcs C 0, 5, .inl (fun _ => 0)))]) rfl ?_
  refine jg_aload_n hm (i := 0) (q := h) rfl rfl dX3_init_18 ?_
  refine jg_bipush hm (v := 12) (by decide) dX3_init_19 ?_
  refine jg_newi hm (N := 12) (by decide) (by decide +kernel) (Nat.le_of_ble_eq_true rfl) (Nat.le_of_ble_eq_true rfl) (Nat.le_of_ble_eq_true rfl) dX3_init_21 (fun a2 => ?_)
  refine jg_putF hm hi (ty0 := tyX3) 0 2 rfl rfl jin_X3 tyX3_ok nmX3 (by decide) jw_271 rfl rfl rfl rfl (Nat.le_of_ble_eq_true rfl) dX3_init_23 ?_
  refine jg_eq (X2 := [(h, .inr (3, [.ref a0, .ref a1, .ref a2, .null, .null, .null, .null, .null, .null, .int 0, .int 0, .int 0])), (a0, .inl (jcs C 0, 5, .inl (fun _ => 0))), (a1, .inl (jcs C 0, 5, .inl (fun _ => 0))), (a2, .inl (jcs C 0, 12, .inl (fun _ => 0)))]) rfl ?_
  refine jg_aload_n hm (i := 0) (q := h) rfl rfl dX3_init_26 ?_
  refine jg_bipush hm (v := 12) (by decide) dX3_init_27 ?_
  refine jg_newi hm (N := 12) (by decide) (by decide +kernel) (Nat.le_of_ble_eq_true rfl) (Nat.le_of_ble_eq_true rfl) (Nat.le_of_ble_eq_true rfl) dX3_init_29 (fun a3 => ?_)
  refine jg_putF hm hi (ty0 := tyX3) 0 3 rfl rfl jin_X3 tyX3_ok nmX3 (by decide) jw_274 rfl rfl rfl rfl (Nat.le_of_ble_eq_true rfl) dX3_init_31 ?_
  refine jg_eq (X2 := [(h, .inr (3, [.ref a0, .ref a1, .ref a2, .ref a3, .null, .null, .null, .null, .null, .int 0, .int 0, .int 0])), (a0, .inl (jcs C 0, 5, .inl (fun _ => 0))), (a1, .inl (jcs C 0, 5, .inl (fun _ => 0))), (a2, .inl (jcs C 0, 12, .inl (fun _ => 0))), (a3, .inl (jcs C 0, 12, .inl (fun _ => 0)))]) rfl ?_
  refine jg_aload_n hm (i := 0) (q := h) rfl rfl dX3_init_34 ?_
  refine jg_bipush hm (v := 12) (by decide) dX3_init_35 ?_
  refine jg_newi hm (N := 12) (by decide) (by decide +kernel) (Nat.le_of_ble_eq_true rfl) (Nat.le_of_ble_eq_true rfl) (Nat.le_of_ble_eq_true rfl) dX3_init_37 (fun a4 => ?_)
  refine jg_putF hm hi (ty0 := tyX3) 0 4 rfl rfl jin_X3 tyX3_ok nmX3 (by decide) jw_276 rfl rfl rfl rfl (Nat.le_of_ble_eq_true rfl) dX3_init_39 ?_
  refine jg_eq (X2 := [(h, .inr (3, [.ref a0, .ref a1, .ref a2, .ref a3, .ref a4, .null, .null, .null, .null, .int 0, .int 0, .int 0])), (a0, .inl (jcs C 0, 5, .inl (fun _ => 0))), (a1, .inl (jcs C 0, 5, .inl (fun _ => 0))), (a2, .inl (jcs C 0, 12, .inl (fun _ => 0))), (a3, .inl (jcs C 0, 12, .inl (fun _ => 0))), (a4, .inl (jcs C 0, 12, .inl (fun _ => 0)))]) rfl ?_
  refine jg_aload_n hm (i := 0) (q := h) rfl rfl dX3_init_42 ?_
  refine jg_bipush hm (v := 6) (by decide) dX3_init_43 ?_
  refine jg_newi hm (N := 6) (by decide) (by decide +kernel) (Nat.le_of_ble_eq_true rfl) (Nat.le_of_ble_eq_true rfl) (Nat.le_of_ble_eq_true rfl) dX3_init_45 (fun a5 => ?_)
  refine jg_putF hm hi (ty0 := tyX3) 0 5 rfl rfl jin_X3 tyX3_ok nmX3 (by decide) jw_279 rfl rfl rfl rfl (Nat.le_of_ble_eq_true rfl) dX3_init_47 ?_
  refine jg_eq (X2 := [(h, .inr (3, [.ref a0, .ref a1, .ref a2, .ref a3, .ref a4, .ref a5, .null, .null, .null, .int 0, .int 0, .int 0])), (a0, .inl (jcs C 0, 5, .inl (fun _ => 0))), (a1, .inl (jcs C 0, 5, .inl (fun _ => 0))), (a2, .inl (jcs C 0, 12, .inl (fun _ => 0))), (a3, .inl (jcs C 0, 12, .inl (fun _ => 0))), (a4, .inl (jcs C 0, 12, .inl (fun _ => 0))), (a5, .inl (jcs C 0, 6, .inl (fun _ => 0)))]) rfl ?_
  refine jg_aload_n hm (i := 0) (q := h) rfl rfl dX3_init_50 ?_
  refine jg_bipush hm (v := 36) (by decide) dX3_init_51 ?_
  refine jg_newi hm (N := 36) (by decide) (by decide +kernel) (Nat.le_of_ble_eq_true rfl) (Nat.le_of_ble_eq_true rfl) (Nat.le_of_ble_eq_true rfl) dX3_init_53 (fun a6 => ?_)
  refine jg_putF hm hi (ty0 := tyX3) 0 6 rfl rfl jin_X3 tyX3_ok nmX3 (by decide) jw_280 rfl rfl rfl rfl (Nat.le_of_ble_eq_true rfl) dX3_init_55 ?_
  refine jg_eq (X2 := [(h, .inr (3, [.ref a0, .ref a1, .ref a2, .ref a3, .ref a4, .ref a5, .ref a6, .null, .null, .int 0, .int 0, .int 0])), (a0, .inl (jcs C 0, 5, .inl (fun _ => 0))), (a1, .inl (jcs C 0, 5, .inl (fun _ => 0))), (a2, .inl (jcs C 0, 12, .inl (fun _ => 0))), (a3, .inl (jcs C 0, 12, .inl (fun _ => 0))), (a4, .inl (jcs C 0, 12, .inl (fun _ => 0))), (a5, .inl (jcs C 0, 6, .inl (fun _ => 0))), (a6, .inl (jcs C 0, 36, .inl (fun _ => 0)))]) rfl ?_
  refine jg_aload_n hm (i := 0) (q := h) rfl rfl dX3_init_58 ?_
  refine jg_new hm (ty := tyX8) (fs := [.null, .null, .null, .null, .null, .int 0, .int 0]) (ci := 8) jin_X8 tyX8_ok jw_193 jw_194 jw_120 rfl df_X8 (Nat.le_of_ble_eq_true rfl) (Nat.le_of_ble_eq_true rfl) dX3_init_59 (fun w7 => ?_)
  refine jg_dup hm dX3_init_62 ?_
  refine jg_initN hm (as := []) (st := [jR w7 false, jR h false]) (k_X8 w7) (by decide) (Nat.le_of_ble_eq_true rfl) (Nat.le_of_ble_eq_true rfl) jw_195 jw_196 jw_120 jw_197 jn_X8_init rfl rfl rfl (Nat.le_of_ble_eq_true rfl) rfl dX3_init_63 (fun Y0 gY0 => ?_)
  refine jg_putF hm hi (ty0 := tyX3) 0 7 rfl rfl jin_X3 tyX3_ok nmX3 (by decide) jw_281 rfl rfl rfl rfl (Nat.le_of_ble_eq_true rfl) dX3_init_66 ?_
  refine jg_eq (X2 := ([(h, .inr (3, [.ref a0, .ref a1, .ref a2, .ref a3, .ref a4, .ref a5, .ref a6, .ref w7, .null, .int 0, .int 0, .int 0])), (a0, .inl (jcs C 0, 5, .inl (fun _ => 0))), (a1, .inl (jcs C 0, 5, .inl (fun _ => 0))), (a2, .inl (jcs C 0, 12, .inl (fun _ => 0))), (a3, .inl (jcs C 0, 12, .inl (fun _ => 0))), (a4, .inl (jcs C 0, 12, .inl (fun _ => 0))), (a5, .inl (jcs C 0, 6, .inl (fun _ => 0))), (a6, .inl (jcs C 0, 36, .inl (fun _ => 0)))] ++ Y0)) rfl ?_
  refine jg_aload_n hm (i := 0) (q := h) rfl rfl dX3_init_69 ?_
  refine jg_new hm (ty := tyX2) (fs := [.null, .null, .null, .null, .null, .null, .int 0, .int 0]) (ci := 2) jin_X2 tyX2_ok jw_225 jw_226 jw_121 rfl df_X2 (Nat.le_of_ble_eq_true rfl) (Nat.le_of_ble_eq_true rfl) dX3_init_70 (fun w8 => ?_)
  refine jg_dup hm dX3_init_73 ?_
  refine jg_initN hm (as := []) (st := [jR w8 false, jR h false]) (k_X2 w8) (by decide) (Nat.le_of_ble_eq_true rfl) (Nat.le_of_ble_eq_true rfl) jw_227 jw_228 jw_121 jw_229 jn_X2_init rfl rfl rfl (Nat.le_of_ble_eq_true rfl) rfl dX3_init_74 (fun Y1 gY1 => ?_)
  refine jg_putF hm hi (ty0 := tyX3) 0 8 rfl rfl jin_X3 tyX3_ok nmX3 (by decide) jw_285 rfl rfl rfl rfl (Nat.le_of_ble_eq_true rfl) dX3_init_77 ?_
  refine jg_eq (X2 := (([(h, .inr (3, [.ref a0, .ref a1, .ref a2, .ref a3, .ref a4, .ref a5, .ref a6, .ref w7, .ref w8, .int 0, .int 0, .int 0])), (a0, .inl (jcs C 0, 5, .inl (fun _ => 0))), (a1, .inl (jcs C 0, 5, .inl (fun _ => 0))), (a2, .inl (jcs C 0, 12, .inl (fun _ => 0))), (a3, .inl (jcs C 0, 12, .inl (fun _ => 0))), (a4, .inl (jcs C 0, 12, .inl (fun _ => 0))), (a5, .inl (jcs C 0, 6, .inl (fun _ => 0))), (a6, .inl (jcs C 0, 36, .inl (fun _ => 0)))] ++ Y0) ++ Y1)) rfl ?_
  exact jg_return hm rfl (Nat.le_of_ble_eq_true rfl) (Nat.le_of_ble_eq_true rfl) dX3_init_80 ⟨a0, a1, a2, a3, a4, a5, a6, w7, w8, Y0, Y1, gY0, gY1, rfl⟩
def kP4 (h : Nat) (cs : Nat → ClassId) (X : va_W) : Prop := ∃ (w0 : Nat) (Y0 : va_W), kP0 w0 cs Y0 ∧ X = ([(h, .inr (4, [.ref w0]))] ++ Y0)
set_option maxRecDepth 20000 in
theorem k_X4 (h : Nat) : jSN MX4_init 2 2 402 h [] (.inr (4, [.null])) (kP4 h) := by
  refine jSN_of jp_X4_init rfl rfl (Nat.le_of_ble_eq_true rfl) (fun C hm hi => ?_)
  refine jg_aload_n hm (i := 0) (q := h) rfl rfl dX4_init_0 ?_
  refine jg_objInit hm jw_357 jw_146 jw_147 (by decide) (Nat.le_of_ble_eq_true rfl) rfl dX4_init_1 ?_
  refine jg_aload_n hm (i := 0) (q := h) rfl rfl dX4_init_4 ?_
  refine jg_new hm (ty := tyX0) (fs := [.null, .int 0]) (ci := 0) jin_X0 tyX0_ok jw_358 jw_359 jw_123 rfl df_X0 (Nat.le_of_ble_eq_true rfl) (Nat.le_of_ble_eq_true rfl) dX4_init_5 (fun w0 => ?_)
  refine jg_dup hm dX4_init_8 ?_
  refine jg_initN hm (as := []) (st := [jR w0 false, jR h false]) (k_X0 w0) (by decide) (Nat.le_of_ble_eq_true rfl) (Nat.le_of_ble_eq_true rfl) jw_360 jw_361 jw_123 jw_362 jn_X0_init rfl rfl rfl (Nat.le_of_ble_eq_true rfl) rfl dX4_init_9 (fun Y0 gY0 => ?_)
  refine jg_putF hm hi (ty0 := tyX4) 0 0 rfl rfl jin_X4 tyX4_ok nmX4 (by decide) jw_371 rfl rfl rfl rfl (Nat.le_of_ble_eq_true rfl) dX4_init_12 ?_
  refine jg_eq (X2 := ([(h, .inr (4, [.ref w0]))] ++ Y0)) rfl ?_
  exact jg_return hm rfl (Nat.le_of_ble_eq_true rfl) (Nat.le_of_ble_eq_true rfl) dX4_init_15 ⟨w0, Y0, gY0, rfl⟩
def kP5 (h : Nat) (tok : Nat) (cs : Nat → ClassId) (X : va_W) : Prop := ∃ (a0 : Nat) (a1 : Nat) (a2 : Nat) (w3 : Nat) (Y0 : va_W), kP3 w3 cs Y0 ∧ X = ([(h, .inr (5, [.ref tok, .ref a0, .ref a1, .ref a2, .ref w3, .int 0, .int 0, .int 0])), (a0, .inl (cs 0, 5, .inl (fun _ => 0))), (a1, .inl (cs 0, 12, .inl (fun _ => 0))), (a2, .inl (cs 0, 6, .inl (fun _ => 0)))] ++ Y0)
set_option maxRecDepth 20000 in
theorem k_X5 (h tok : Nat) : jSN MX5_init 3 24 1023 h [jR tok false] (.inr (5, [.null, .null, .null, .null, .null, .int 0, .int 0, .int 0])) (kP5 h tok) := by
  refine jSN_of jp_X5_init rfl rfl (Nat.le_of_ble_eq_true rfl) (fun C hm hi => ?_)
  refine jg_aload_n hm (i := 0) (q := h) rfl rfl dX5_init_0 ?_
  refine jg_objInit hm jw_186 jw_146 jw_147 (by decide) (Nat.le_of_ble_eq_true rfl) rfl dX5_init_1 ?_
  refine jg_aload_n hm (i := 0) (q := h) rfl rfl dX5_init_4 ?_
  refine jg_iconst hm (v := 5) (by decide) dX5_init_5 ?_
  refine jg_newi hm (N := 5) (by decide) (by decide +kernel) (Nat.le_of_ble_eq_true rfl) (Nat.le_of_ble_eq_true rfl) (Nat.le_of_ble_eq_true rfl) dX5_init_6 (fun a0 => ?_)
  refine jg_putF hm hi (ty0 := tyX5) 0 1 rfl rfl jin_X5 tyX5_ok nmX5 (by decide) jw_327 rfl rfl rfl rfl (Nat.le_of_ble_eq_true rfl) dX5_init_8 ?_
  refine jg_eq (X2 := [(h, .inr (5, [.null, .ref a0, .null, .null, .null, .int 0, .int 0, .int 0])), (a0, .inl (jcs C 0, 5, .inl (fun _ => 0)))]) rfl ?_
  refine jg_aload_n hm (i := 0) (q := h) rfl rfl dX5_init_11 ?_
  refine jg_bipush hm (v := 12) (by decide) dX5_init_12 ?_
  refine jg_newi hm (N := 12) (by decide) (by decide +kernel) (Nat.le_of_ble_eq_true rfl) (Nat.le_of_ble_eq_true rfl) (Nat.le_of_ble_eq_true rfl) dX5_init_14 (fun a1 => ?_)
  refine jg_putF hm hi (ty0 := tyX5) 0 2 rfl rfl jin_X5 tyX5_ok nmX5 (by decide) jw_328 rfl rfl rfl rfl (Nat.le_of_ble_eq_true rfl) dX5_init_16 ?_
  refine jg_eq (X2 := [(h, .inr (5, [.null, .ref a0, .ref a1, .null, .null, .int 0, .int 0, .int 0])), (a0, .inl (jcs C 0, 5, .inl (fun _ => 0))), (a1, .inl (jcs C 0, 12, .inl (fun _ => 0)))]) rfl ?_
  refine jg_aload_n hm (i := 0) (q := h) rfl rfl dX5_init_19 ?_
  refine jg_bipush hm (v := 6) (by decide) dX5_init_20 ?_
  refine jg_newi hm (N := 6) (by decide) (by decide +kernel) (Nat.le_of_ble_eq_true rfl) (Nat.le_of_ble_eq_true rfl) (Nat.le_of_ble_eq_true rfl) dX5_init_22 (fun a2 => ?_)
  refine jg_putF hm hi (ty0 := tyX5) 0 3 rfl rfl jin_X5 tyX5_ok nmX5 (by decide) jw_329 rfl rfl rfl rfl (Nat.le_of_ble_eq_true rfl) dX5_init_24 ?_
  refine jg_eq (X2 := [(h, .inr (5, [.null, .ref a0, .ref a1, .ref a2, .null, .int 0, .int 0, .int 0])), (a0, .inl (jcs C 0, 5, .inl (fun _ => 0))), (a1, .inl (jcs C 0, 12, .inl (fun _ => 0))), (a2, .inl (jcs C 0, 6, .inl (fun _ => 0)))]) rfl ?_
  refine jg_aload_n hm (i := 0) (q := h) rfl rfl dX5_init_27 ?_
  refine jg_new hm (ty := tyX3) (fs := [.null, .null, .null, .null, .null, .null, .null, .null, .null, .int 0, .int 0, .int 0]) (ci := 3) jin_X3 tyX3_ok jw_187 jw_188 jw_119 rfl df_X3 (Nat.le_of_ble_eq_true rfl) (Nat.le_of_ble_eq_true rfl) dX5_init_28 (fun w3 => ?_)
  refine jg_dup hm dX5_init_31 ?_
  refine jg_initN hm (as := []) (st := [jR w3 false, jR h false]) (k_X3 w3) (by decide) (Nat.le_of_ble_eq_true rfl) (Nat.le_of_ble_eq_true rfl) jw_189 jw_190 jw_119 jw_191 jn_X3_init rfl rfl rfl (Nat.le_of_ble_eq_true rfl) rfl dX5_init_32 (fun Y0 gY0 => ?_)
  refine jg_put hm (ty0 := tyX5) 0 4 rfl rfl jin_X5 tyX5_ok nmX5 (by decide) jw_330 rfl rfl rfl rfl (Nat.le_of_ble_eq_true rfl) dX5_init_35 ?_
  refine jg_eq (X2 := ([(h, .inr (5, [.null, .ref a0, .ref a1, .ref a2, .ref w3, .int 0, .int 0, .int 0])), (a0, .inl (jcs C 0, 5, .inl (fun _ => 0))), (a1, .inl (jcs C 0, 12, .inl (fun _ => 0))), (a2, .inl (jcs C 0, 6, .inl (fun _ => 0)))] ++ Y0)) rfl ?_
  refine jg_aload_n hm (i := 0) (q := h) rfl rfl dX5_init_38 ?_
  refine jg_aload_n hm (i := 1) (q := tok) rfl rfl dX5_init_39 ?_
  refine jg_putF hm hi (ty0 := tyX5) 0 0 rfl rfl jin_X5 tyX5_ok nmX5 (by decide) jw_326 rfl rfl rfl rfl (Nat.le_of_ble_eq_true rfl) dX5_init_40 ?_
  refine jg_eq (X2 := ([(h, .inr (5, [.ref tok, .ref a0, .ref a1, .ref a2, .ref w3, .int 0, .int 0, .int 0])), (a0, .inl (jcs C 0, 5, .inl (fun _ => 0))), (a1, .inl (jcs C 0, 12, .inl (fun _ => 0))), (a2, .inl (jcs C 0, 6, .inl (fun _ => 0)))] ++ Y0)) rfl ?_
  exact jg_return hm rfl (Nat.le_of_ble_eq_true rfl) (Nat.le_of_ble_eq_true rfl) dX5_init_43 ⟨a0, a1, a2, w3, Y0, gY0, rfl⟩
def kP6 (h : Nat) (cs : Nat → ClassId) (X : va_W) : Prop := ∃ (a0 : Nat), X = [(h, .inr (6, [.ref a0, .int 0])), (a0, .inl (cs 1, 2000, .inl (fun _ => 0)))]
set_option maxRecDepth 20000 in
theorem k_X6 (h : Nat) : jSN MX6_init 1 1 2000 h [] (.inr (6, [.null, .int 0])) (kP6 h) := by
  refine jSN_of jp_X6_init rfl rfl (Nat.le_of_ble_eq_true rfl) (fun C hm hi => ?_)
  refine jg_aload_n hm (i := 0) (q := h) rfl rfl dX6_init_0 ?_
  refine jg_objInit hm jw_153 jw_146 jw_147 (by decide) (Nat.le_of_ble_eq_true rfl) rfl dX6_init_1 ?_
  refine jg_aload_n hm (i := 0) (q := h) rfl rfl dX6_init_4 ?_
  refine jg_sipush hm (v := 2000) (by decide) dX6_init_5 ?_
  refine jg_newb hm (N := 2000) (by decide) (by decide +kernel) (Nat.le_of_ble_eq_true rfl) (Nat.le_of_ble_eq_true rfl) (Nat.le_of_ble_eq_true rfl) dX6_init_8 (fun a0 => ?_)
  refine jg_putF hm hi (ty0 := tyX6) 0 0 rfl rfl jin_X6 tyX6_ok nmX6 (by decide) jw_154 rfl rfl rfl rfl (Nat.le_of_ble_eq_true rfl) dX6_init_10 ?_
  refine jg_eq (X2 := [(h, .inr (6, [.ref a0, .int 0])), (a0, .inl (jcs C 1, 2000, .inl (fun _ => 0)))]) rfl ?_
  exact jg_return hm rfl (Nat.le_of_ble_eq_true rfl) (Nat.le_of_ble_eq_true rfl) dX6_init_13 ⟨a0, rfl⟩
def kP7 (h : Nat) (cs : Nat → ClassId) (X : va_W) : Prop := ∃ (a0 : Nat) (a1 : Nat) (a2 : Nat), X = [(h, .inr (7, [.ref a0, .ref a1, .ref a2])), (a0, .inl (cs 0, 401, .inl (fun _ => 0))), (a1, .inl (cs 0, 401, .inl (fun _ => 0))), (a2, .inl (cs 2, 401, .inr (.inl (fun _ => 0))))]
set_option maxRecDepth 20000 in
theorem k_X7 (h : Nat) : jSN MX7_init 1 3 1203 h [] (.inr (7, [.null, .null, .null])) (kP7 h) := by
  refine jSN_of jp_X7_init rfl rfl (Nat.le_of_ble_eq_true rfl) (fun C hm hi => ?_)
  refine jg_aload_n hm (i := 0) (q := h) rfl rfl dX7_init_0 ?_
  refine jg_objInit hm jw_168 jw_146 jw_147 (by decide) (Nat.le_of_ble_eq_true rfl) rfl dX7_init_1 ?_
  refine jg_aload_n hm (i := 0) (q := h) rfl rfl dX7_init_4 ?_
  refine jg_sipush hm (v := 401) (by decide) dX7_init_5 ?_
  refine jg_newi hm (N := 401) (by decide) (by decide +kernel) (Nat.le_of_ble_eq_true rfl) (Nat.le_of_ble_eq_true rfl) (Nat.le_of_ble_eq_true rfl) dX7_init_8 (fun a0 => ?_)
  refine jg_putF hm hi (ty0 := tyX7) 0 0 rfl rfl jin_X7 tyX7_ok nmX7 (by decide) jw_169 rfl rfl rfl rfl (Nat.le_of_ble_eq_true rfl) dX7_init_10 ?_
  refine jg_eq (X2 := [(h, .inr (7, [.ref a0, .null, .null])), (a0, .inl (jcs C 0, 401, .inl (fun _ => 0)))]) rfl ?_
  refine jg_aload_n hm (i := 0) (q := h) rfl rfl dX7_init_13 ?_
  refine jg_sipush hm (v := 401) (by decide) dX7_init_14 ?_
  refine jg_newi hm (N := 401) (by decide) (by decide +kernel) (Nat.le_of_ble_eq_true rfl) (Nat.le_of_ble_eq_true rfl) (Nat.le_of_ble_eq_true rfl) dX7_init_17 (fun a1 => ?_)
  refine jg_putF hm hi (ty0 := tyX7) 0 1 rfl rfl jin_X7 tyX7_ok nmX7 (by decide) jw_170 rfl rfl rfl rfl (Nat.le_of_ble_eq_true rfl) dX7_init_19 ?_
  refine jg_eq (X2 := [(h, .inr (7, [.ref a0, .ref a1, .null])), (a0, .inl (jcs C 0, 401, .inl (fun _ => 0))), (a1, .inl (jcs C 0, 401, .inl (fun _ => 0)))]) rfl ?_
  refine jg_aload_n hm (i := 0) (q := h) rfl rfl dX7_init_22 ?_
  refine jg_sipush hm (v := 401) (by decide) dX7_init_23 ?_
  refine jg_newl hm (N := 401) (by decide) (by decide +kernel) (Nat.le_of_ble_eq_true rfl) (Nat.le_of_ble_eq_true rfl) (Nat.le_of_ble_eq_true rfl) dX7_init_26 (fun a2 => ?_)
  refine jg_putF hm hi (ty0 := tyX7) 0 2 rfl rfl jin_X7 tyX7_ok nmX7 (by decide) jw_171 rfl rfl rfl rfl (Nat.le_of_ble_eq_true rfl) dX7_init_28 ?_
  refine jg_eq (X2 := [(h, .inr (7, [.ref a0, .ref a1, .ref a2])), (a0, .inl (jcs C 0, 401, .inl (fun _ => 0))), (a1, .inl (jcs C 0, 401, .inl (fun _ => 0))), (a2, .inl (jcs C 2, 401, .inr (.inl (fun _ => 0))))]) rfl ?_
  exact jg_return hm rfl (Nat.le_of_ble_eq_true rfl) (Nat.le_of_ble_eq_true rfl) dX7_init_31 ⟨a0, a1, a2, rfl⟩
def kP9 (h : Nat) (cs : Nat → ClassId) (X : va_W) : Prop := ∃ (w0 : Nat) (w1 : Nat) (w2 : Nat) (w3 : Nat) (w4 : Nat) (w5 : Nat) (w6 : Nat) (Y0 : va_W) (Y1 : va_W) (Y2 : va_W) (Y3 : va_W) (Y4 : va_W) (Y5 : va_W) (Y6 : va_W), kP6 w0 cs Y0 ∧ kP7 w1 cs Y1 ∧ kP5 w2 w1 cs Y2 ∧ kP4 w3 cs Y3 ∧ kP1 w4 cs Y4 ∧ kP1 w5 cs Y5 ∧ kP3 w6 cs Y6 ∧ X = ((((((([(h, .inr (9, [.ref w0, .ref w1, .ref w2, .ref w3, .ref w4, .ref w5, .ref w6, .int (-1)]))] ++ Y0) ++ Y1) ++ Y2) ++ Y3) ++ Y4) ++ Y5) ++ Y6)
set_option maxRecDepth 20000 in
theorem k_X9 (h : Nat) : jSN MX9_init 4 67 5754 h [] (.inr (9, [.null, .null, .null, .null, .null, .null, .null, .int 0])) (kP9 h) := by
  refine jSN_of jp_X9_init rfl rfl (Nat.le_of_ble_eq_true rfl) (fun C hm hi => ?_)
  refine jg_aload_n hm (i := 0) (q := h) rfl rfl dX9_init_0 ?_
  refine jg_objInit hm jw_145 jw_146 jw_147 (by decide) (Nat.le_of_ble_eq_true rfl) rfl dX9_init_1 ?_
  refine jg_aload_n hm (i := 0) (q := h) rfl rfl dX9_init_4 ?_
  refine jg_new hm (ty := tyX6) (fs := [.null, .int 0]) (ci := 6) jin_X6 tyX6_ok jw_148 jw_149 jw_116 rfl df_X6 (Nat.le_of_ble_eq_true rfl) (Nat.le_of_ble_eq_true rfl) dX9_init_5 (fun w0 => ?_)
  refine jg_dup hm dX9_init_8 ?_
  refine jg_initN hm (as := []) (st := [jR w0 false, jR h false]) (k_X6 w0) (by decide) (Nat.le_of_ble_eq_true rfl) (Nat.le_of_ble_eq_true rfl) jw_150 jw_151 jw_116 jw_152 jn_X6_init rfl rfl rfl (Nat.le_of_ble_eq_true rfl) rfl dX9_init_9 (fun Y0 gY0 => ?_)
  refine jg_putF hm hi (ty0 := tyX9) 0 0 rfl rfl jin_X9 tyX9_ok nmX9 (by decide) jw_434 rfl rfl rfl rfl (Nat.le_of_ble_eq_true rfl) dX9_init_12 ?_
  refine jg_eq (X2 := ([(h, .inr (9, [.ref w0, .null, .null, .null, .null, .null, .null, .int 0]))] ++ Y0)) rfl ?_
  refine jg_aload_n hm (i := 0) (q := h) rfl rfl dX9_init_15 ?_
  refine jg_new hm (ty := tyX7) (fs := [.null, .null, .null]) (ci := 7) jin_X7 tyX7_ok jw_163 jw_164 jw_117 rfl df_X7 (Nat.le_of_ble_eq_true rfl) (Nat.le_of_ble_eq_true rfl) dX9_init_16 (fun w1 => ?_)
  refine jg_dup hm dX9_init_19 ?_
  refine jg_initN hm (as := []) (st := [jR w1 false, jR h false]) (k_X7 w1) (by decide) (Nat.le_of_ble_eq_true rfl) (Nat.le_of_ble_eq_true rfl) jw_165 jw_166 jw_117 jw_167 jn_X7_init rfl rfl rfl (Nat.le_of_ble_eq_true rfl) rfl dX9_init_20 (fun Y1 gY1 => ?_)
  refine jg_putF hm hi (ty0 := tyX9) 0 1 rfl rfl jin_X9 tyX9_ok nmX9 (by decide) jw_435 rfl rfl rfl rfl (Nat.le_of_ble_eq_true rfl) dX9_init_23 ?_
  refine jg_eq (X2 := (([(h, .inr (9, [.ref w0, .ref w1, .null, .null, .null, .null, .null, .int 0]))] ++ Y0) ++ Y1)) rfl ?_
  refine jg_aload_n hm (i := 0) (q := h) rfl rfl dX9_init_26 ?_
  refine jg_new hm (ty := tyX5) (fs := [.null, .null, .null, .null, .null, .int 0, .int 0, .int 0]) (ci := 5) jin_X5 tyX5_ok jw_181 jw_182 jw_118 rfl df_X5 (Nat.le_of_ble_eq_true rfl) (Nat.le_of_ble_eq_true rfl) dX9_init_27 (fun w2 => ?_)
  refine jg_dup hm dX9_init_30 ?_
  refine jg_aload_n hm (i := 0) (q := h) rfl rfl dX9_init_31 ?_
  refine jg_get hm (v := jR w1 false) 0 1 rfl rfl jin_X9 (by decide) jw_435 rfl rfl dX9_init_32 ?_
  refine jg_initP hm (as := [jR w1 false]) (st := [jR w2 false, jR h false]) (k_X5 w2 w1) (by decide) (Nat.le_of_ble_eq_true rfl) (Nat.le_of_ble_eq_true rfl) jw_183 jw_184 jw_118 jw_185 jn_X5_init rfl rfl rfl (Nat.le_of_ble_eq_true rfl) rfl dX9_init_35 (fun Y2 gY2 => ?_)
  refine jg_putF hm hi (ty0 := tyX9) 0 2 rfl rfl jin_X9 tyX9_ok nmX9 (by decide) jw_436 rfl rfl rfl rfl (Nat.le_of_ble_eq_true rfl) dX9_init_38 ?_
  refine jg_eq (X2 := ((([(h, .inr (9, [.ref w0, .ref w1, .ref w2, .null, .null, .null, .null, .int 0]))] ++ Y0) ++ Y1) ++ Y2)) rfl ?_
  refine jg_aload_n hm (i := 0) (q := h) rfl rfl dX9_init_41 ?_
  refine jg_new hm (ty := tyX4) (fs := [.null]) (ci := 4) jin_X4 tyX4_ok jw_352 jw_353 jw_122 rfl df_X4 (Nat.le_of_ble_eq_true rfl) (Nat.le_of_ble_eq_true rfl) dX9_init_42 (fun w3 => ?_)
  refine jg_dup hm dX9_init_45 ?_
  refine jg_initN hm (as := []) (st := [jR w3 false, jR h false]) (k_X4 w3) (by decide) (Nat.le_of_ble_eq_true rfl) (Nat.le_of_ble_eq_true rfl) jw_354 jw_355 jw_122 jw_356 jn_X4_init rfl rfl rfl (Nat.le_of_ble_eq_true rfl) rfl dX9_init_46 (fun Y3 gY3 => ?_)
  refine jg_putF hm hi (ty0 := tyX9) 0 3 rfl rfl jin_X9 tyX9_ok nmX9 (by decide) jw_437 rfl rfl rfl rfl (Nat.le_of_ble_eq_true rfl) dX9_init_49 ?_
  refine jg_eq (X2 := (((([(h, .inr (9, [.ref w0, .ref w1, .ref w2, .ref w3, .null, .null, .null, .int 0]))] ++ Y0) ++ Y1) ++ Y2) ++ Y3)) rfl ?_
  refine jg_aload_n hm (i := 0) (q := h) rfl rfl dX9_init_52 ?_
  refine jg_new hm (ty := tyX1) (fs := [.null, .null, .null, .null, .null, .int 0, .int 0, .int 0, .int 0]) (ci := 1) jin_X1 tyX1_ok jw_375 jw_376 jw_124 rfl df_X1 (Nat.le_of_ble_eq_true rfl) (Nat.le_of_ble_eq_true rfl) dX9_init_53 (fun w4 => ?_)
  refine jg_dup hm dX9_init_56 ?_
  refine jg_initN hm (as := []) (st := [jR w4 false, jR h false]) (k_X1 w4) (by decide) (Nat.le_of_ble_eq_true rfl) (Nat.le_of_ble_eq_true rfl) jw_377 jw_378 jw_124 jw_379 jn_X1_init rfl rfl rfl (Nat.le_of_ble_eq_true rfl) rfl dX9_init_57 (fun Y4 gY4 => ?_)
  refine jg_putF hm hi (ty0 := tyX9) 0 4 rfl rfl jin_X9 tyX9_ok nmX9 (by decide) jw_438 rfl rfl rfl rfl (Nat.le_of_ble_eq_true rfl) dX9_init_60 ?_
  refine jg_eq (X2 := ((((([(h, .inr (9, [.ref w0, .ref w1, .ref w2, .ref w3, .ref w4, .null, .null, .int 0]))] ++ Y0) ++ Y1) ++ Y2) ++ Y3) ++ Y4)) rfl ?_
  refine jg_aload_n hm (i := 0) (q := h) rfl rfl dX9_init_63 ?_
  refine jg_new hm (ty := tyX1) (fs := [.null, .null, .null, .null, .null, .int 0, .int 0, .int 0, .int 0]) (ci := 1) jin_X1 tyX1_ok jw_375 jw_376 jw_124 rfl df_X1 (Nat.le_of_ble_eq_true rfl) (Nat.le_of_ble_eq_true rfl) dX9_init_64 (fun w5 => ?_)
  refine jg_dup hm dX9_init_67 ?_
  refine jg_initN hm (as := []) (st := [jR w5 false, jR h false]) (k_X1 w5) (by decide) (Nat.le_of_ble_eq_true rfl) (Nat.le_of_ble_eq_true rfl) jw_377 jw_378 jw_124 jw_379 jn_X1_init rfl rfl rfl (Nat.le_of_ble_eq_true rfl) rfl dX9_init_68 (fun Y5 gY5 => ?_)
  refine jg_putF hm hi (ty0 := tyX9) 0 5 rfl rfl jin_X9 tyX9_ok nmX9 (by decide) jw_439 rfl rfl rfl rfl (Nat.le_of_ble_eq_true rfl) dX9_init_71 ?_
  refine jg_eq (X2 := (((((([(h, .inr (9, [.ref w0, .ref w1, .ref w2, .ref w3, .ref w4, .ref w5, .null, .int 0]))] ++ Y0) ++ Y1) ++ Y2) ++ Y3) ++ Y4) ++ Y5)) rfl ?_
  refine jg_aload_n hm (i := 0) (q := h) rfl rfl dX9_init_74 ?_
  refine jg_new hm (ty := tyX3) (fs := [.null, .null, .null, .null, .null, .null, .null, .null, .null, .int 0, .int 0, .int 0]) (ci := 3) jin_X3 tyX3_ok jw_432 jw_188 jw_119 rfl df_X3 (Nat.le_of_ble_eq_true rfl) (Nat.le_of_ble_eq_true rfl) dX9_init_75 (fun w6 => ?_)
  refine jg_dup hm dX9_init_78 ?_
  refine jg_initN hm (as := []) (st := [jR w6 false, jR h false]) (k_X3 w6) (by decide) (Nat.le_of_ble_eq_true rfl) (Nat.le_of_ble_eq_true rfl) jw_433 jw_190 jw_119 jw_191 jn_X3_init rfl rfl rfl (Nat.le_of_ble_eq_true rfl) rfl dX9_init_79 (fun Y6 gY6 => ?_)
  refine jg_put hm (ty0 := tyX9) 0 6 rfl rfl jin_X9 tyX9_ok nmX9 (by decide) jw_440 rfl rfl rfl rfl (Nat.le_of_ble_eq_true rfl) dX9_init_82 ?_
  refine jg_eq (X2 := ((((((([(h, .inr (9, [.ref w0, .ref w1, .ref w2, .ref w3, .ref w4, .ref w5, .ref w6, .int 0]))] ++ Y0) ++ Y1) ++ Y2) ++ Y3) ++ Y4) ++ Y5) ++ Y6)) rfl ?_
  refine jg_aload_n hm (i := 0) (q := h) rfl rfl dX9_init_85 ?_
  refine jg_iconst hm (v := (-1)) (by decide) dX9_init_86 ?_
  refine jg_put hm (ty0 := tyX9) 0 7 rfl rfl jin_X9 tyX9_ok nmX9 (by decide) jw_441 rfl rfl rfl rfl (Nat.le_of_ble_eq_true rfl) dX9_init_87 ?_
  refine jg_eq (X2 := ((((((([(h, .inr (9, [.ref w0, .ref w1, .ref w2, .ref w3, .ref w4, .ref w5, .ref w6, .int (-1)]))] ++ Y0) ++ Y1) ++ Y2) ++ Y3) ++ Y4) ++ Y5) ++ Y6)) rfl ?_
  exact jg_return hm rfl (Nat.le_of_ble_eq_true rfl) (Nat.le_of_ble_eq_true rfl) dX9_init_90 ⟨w0, w1, w2, w3, w4, w5, w6, Y0, Y1, Y2, Y3, Y4, Y5, Y6, gY0, gY1, gY2, gY3, gY4, gY5, gY6, rfl⟩
def kP10 (h : Nat) (cs : Nat → ClassId) (X : va_W) : Prop := ∃ (a0 : Nat) (a1 : Nat) (a2 : Nat) (a3 : Nat) (a4 : Nat) (a5 : Nat) (a6 : Nat) (a7 : Nat) (a8 : Nat), X = [(h, .inr (10, [.int 0, .int 0, .int 0, .int 0, .int 0, .int 0, .ref a0, .ref a1, .ref a2, .ref a3, .ref a4, .ref a5, .int 0, .ref a6, .ref a7, .ref a8])), (a0, .inl (cs 0, 10, .inl (fun _ => 0))), (a1, .inl (cs 0, 36, .inl (fun _ => 0))), (a2, .inl (cs 0, 15, .inl (fun _ => 0))), (a3, .inl (cs 0, 6, .inl (fun _ => 0))), (a4, .inl (cs 0, 42, .inl (fun _ => 0))), (a5, .inl (cs 0, 48, .inl (fun _ => 0))), (a6, .inl (cs 0, 401, .inl (fun _ => 0))), (a7, .inl (cs 0, 401, .inl (fun _ => 0))), (a8, .inl (cs 0, 401, .inl (fun _ => 0)))]
set_option maxRecDepth 20000 in
theorem k_X10 (h : Nat) : jSN MX10_init 1 9 1360 h [] (.inr (10, [.int 0, .int 0, .int 0, .int 0, .int 0, .int 0, .null, .null, .null, .null, .null, .null, .int 0, .null, .null, .null])) (kP10 h) := by
  refine jSN_of jp_X10_init rfl rfl (Nat.le_of_ble_eq_true rfl) (fun C hm hi => ?_)
  refine jg_aload_n hm (i := 0) (q := h) rfl rfl dX10_init_0 ?_
  refine jg_objInit hm jw_1287 jw_146 jw_147 (by decide) (Nat.le_of_ble_eq_true rfl) rfl dX10_init_1 ?_
  refine jg_aload_n hm (i := 0) (q := h) rfl rfl dX10_init_4 ?_
  refine jg_bipush hm (v := 10) (by decide) dX10_init_5 ?_
  refine jg_newi hm (N := 10) (by decide) (by decide +kernel) (Nat.le_of_ble_eq_true rfl) (Nat.le_of_ble_eq_true rfl) (Nat.le_of_ble_eq_true rfl) dX10_init_7 (fun a0 => ?_)
  refine jg_putF hm hi (ty0 := tyX10) 0 6 rfl rfl jin_X10 tyX10_ok nmX10 (by decide) jw_1300 rfl rfl rfl rfl (Nat.le_of_ble_eq_true rfl) dX10_init_9 ?_
  refine jg_eq (X2 := [(h, .inr (10, [.int 0, .int 0, .int 0, .int 0, .int 0, .int 0, .ref a0, .null, .null, .null, .null, .null, .int 0, .null, .null, .null])), (a0, .inl (jcs C 0, 10, .inl (fun _ => 0)))]) rfl ?_
  refine jg_aload_n hm (i := 0) (q := h) rfl rfl dX10_init_12 ?_
  refine jg_bipush hm (v := 36) (by decide) dX10_init_13 ?_
  refine jg_newi hm (N := 36) (by decide) (by decide +kernel) (Nat.le_of_ble_eq_true rfl) (Nat.le_of_ble_eq_true rfl) (Nat.le_of_ble_eq_true rfl) dX10_init_15 (fun a1 => ?_)
  refine jg_putF hm hi (ty0 := tyX10) 0 7 rfl rfl jin_X10 tyX10_ok nmX10 (by decide) jw_1302 rfl rfl rfl rfl (Nat.le_of_ble_eq_true rfl) dX10_init_17 ?_
  refine jg_eq (X2 := [(h, .inr (10, [.int 0, .int 0, .int 0, .int 0, .int 0, .int 0, .ref a0, .ref a1, .null, .null, .null, .null, .int 0, .null, .null, .null])), (a0, .inl (jcs C 0, 10, .inl (fun _ => 0))), (a1, .inl (jcs C 0, 36, .inl (fun _ => 0)))]) rfl ?_
  refine jg_aload_n hm (i := 0) (q := h) rfl rfl dX10_init_20 ?_
  refine jg_bipush hm (v := 15) (by decide) dX10_init_21 ?_
  refine jg_newi hm (N := 15) (by decide) (by decide +kernel) (Nat.le_of_ble_eq_true rfl) (Nat.le_of_ble_eq_true rfl) (Nat.le_of_ble_eq_true rfl) dX10_init_23 (fun a2 => ?_)
  refine jg_putF hm hi (ty0 := tyX10) 0 8 rfl rfl jin_X10 tyX10_ok nmX10 (by decide) jw_1304 rfl rfl rfl rfl (Nat.le_of_ble_eq_true rfl) dX10_init_25 ?_
  refine jg_eq (X2 := [(h, .inr (10, [.int 0, .int 0, .int 0, .int 0, .int 0, .int 0, .ref a0, .ref a1, .ref a2, .null, .null, .null, .int 0, .null, .null, .null])), (a0, .inl (jcs C 0, 10, .inl (fun _ => 0))), (a1, .inl (jcs C 0, 36, .inl (fun _ => 0))), (a2, .inl (jcs C 0, 15, .inl (fun _ => 0)))]) rfl ?_
  refine jg_aload_n hm (i := 0) (q := h) rfl rfl dX10_init_28 ?_
  refine jg_bipush hm (v := 6) (by decide) dX10_init_29 ?_
  refine jg_newi hm (N := 6) (by decide) (by decide +kernel) (Nat.le_of_ble_eq_true rfl) (Nat.le_of_ble_eq_true rfl) (Nat.le_of_ble_eq_true rfl) dX10_init_31 (fun a3 => ?_)
  refine jg_putF hm hi (ty0 := tyX10) 0 9 rfl rfl jin_X10 tyX10_ok nmX10 (by decide) jw_1306 rfl rfl rfl rfl (Nat.le_of_ble_eq_true rfl) dX10_init_33 ?_
  refine jg_eq (X2 := [(h, .inr (10, [.int 0, .int 0, .int 0, .int 0, .int 0, .int 0, .ref a0, .ref a1, .ref a2, .ref a3, .null, .null, .int 0, .null, .null, .null])), (a0, .inl (jcs C 0, 10, .inl (fun _ => 0))), (a1, .inl (jcs C 0, 36, .inl (fun _ => 0))), (a2, .inl (jcs C 0, 15, .inl (fun _ => 0))), (a3, .inl (jcs C 0, 6, .inl (fun _ => 0)))]) rfl ?_
  refine jg_aload_n hm (i := 0) (q := h) rfl rfl dX10_init_36 ?_
  refine jg_bipush hm (v := 42) (by decide) dX10_init_37 ?_
  refine jg_newi hm (N := 42) (by decide) (by decide +kernel) (Nat.le_of_ble_eq_true rfl) (Nat.le_of_ble_eq_true rfl) (Nat.le_of_ble_eq_true rfl) dX10_init_39 (fun a4 => ?_)
  refine jg_putF hm hi (ty0 := tyX10) 0 10 rfl rfl jin_X10 tyX10_ok nmX10 (by decide) jw_1308 rfl rfl rfl rfl (Nat.le_of_ble_eq_true rfl) dX10_init_41 ?_
  refine jg_eq (X2 := [(h, .inr (10, [.int 0, .int 0, .int 0, .int 0, .int 0, .int 0, .ref a0, .ref a1, .ref a2, .ref a3, .ref a4, .null, .int 0, .null, .null, .null])), (a0, .inl (jcs C 0, 10, .inl (fun _ => 0))), (a1, .inl (jcs C 0, 36, .inl (fun _ => 0))), (a2, .inl (jcs C 0, 15, .inl (fun _ => 0))), (a3, .inl (jcs C 0, 6, .inl (fun _ => 0))), (a4, .inl (jcs C 0, 42, .inl (fun _ => 0)))]) rfl ?_
  refine jg_aload_n hm (i := 0) (q := h) rfl rfl dX10_init_44 ?_
  refine jg_bipush hm (v := 48) (by decide) dX10_init_45 ?_
  refine jg_newi hm (N := 48) (by decide) (by decide +kernel) (Nat.le_of_ble_eq_true rfl) (Nat.le_of_ble_eq_true rfl) (Nat.le_of_ble_eq_true rfl) dX10_init_47 (fun a5 => ?_)
  refine jg_putF hm hi (ty0 := tyX10) 0 11 rfl rfl jin_X10 tyX10_ok nmX10 (by decide) jw_1310 rfl rfl rfl rfl (Nat.le_of_ble_eq_true rfl) dX10_init_49 ?_
  refine jg_eq (X2 := [(h, .inr (10, [.int 0, .int 0, .int 0, .int 0, .int 0, .int 0, .ref a0, .ref a1, .ref a2, .ref a3, .ref a4, .ref a5, .int 0, .null, .null, .null])), (a0, .inl (jcs C 0, 10, .inl (fun _ => 0))), (a1, .inl (jcs C 0, 36, .inl (fun _ => 0))), (a2, .inl (jcs C 0, 15, .inl (fun _ => 0))), (a3, .inl (jcs C 0, 6, .inl (fun _ => 0))), (a4, .inl (jcs C 0, 42, .inl (fun _ => 0))), (a5, .inl (jcs C 0, 48, .inl (fun _ => 0)))]) rfl ?_
  refine jg_aload_n hm (i := 0) (q := h) rfl rfl dX10_init_52 ?_
  refine jg_sipush hm (v := 401) (by decide) dX10_init_53 ?_
  refine jg_newi hm (N := 401) (by decide) (by decide +kernel) (Nat.le_of_ble_eq_true rfl) (Nat.le_of_ble_eq_true rfl) (Nat.le_of_ble_eq_true rfl) dX10_init_56 (fun a6 => ?_)
  refine jg_putF hm hi (ty0 := tyX10) 0 13 rfl rfl jin_X10 tyX10_ok nmX10 (by decide) jw_1313 rfl rfl rfl rfl (Nat.le_of_ble_eq_true rfl) dX10_init_58 ?_
  refine jg_eq (X2 := [(h, .inr (10, [.int 0, .int 0, .int 0, .int 0, .int 0, .int 0, .ref a0, .ref a1, .ref a2, .ref a3, .ref a4, .ref a5, .int 0, .ref a6, .null, .null])), (a0, .inl (jcs C 0, 10, .inl (fun _ => 0))), (a1, .inl (jcs C 0, 36, .inl (fun _ => 0))), (a2, .inl (jcs C 0, 15, .inl (fun _ => 0))), (a3, .inl (jcs C 0, 6, .inl (fun _ => 0))), (a4, .inl (jcs C 0, 42, .inl (fun _ => 0))), (a5, .inl (jcs C 0, 48, .inl (fun _ => 0))), (a6, .inl (jcs C 0, 401, .inl (fun _ => 0)))]) rfl ?_
  refine jg_aload_n hm (i := 0) (q := h) rfl rfl dX10_init_61 ?_
  refine jg_sipush hm (v := 401) (by decide) dX10_init_62 ?_
  refine jg_newi hm (N := 401) (by decide) (by decide +kernel) (Nat.le_of_ble_eq_true rfl) (Nat.le_of_ble_eq_true rfl) (Nat.le_of_ble_eq_true rfl) dX10_init_65 (fun a7 => ?_)
  refine jg_putF hm hi (ty0 := tyX10) 0 14 rfl rfl jin_X10 tyX10_ok nmX10 (by decide) jw_1315 rfl rfl rfl rfl (Nat.le_of_ble_eq_true rfl) dX10_init_67 ?_
  refine jg_eq (X2 := [(h, .inr (10, [.int 0, .int 0, .int 0, .int 0, .int 0, .int 0, .ref a0, .ref a1, .ref a2, .ref a3, .ref a4, .ref a5, .int 0, .ref a6, .ref a7, .null])), (a0, .inl (jcs C 0, 10, .inl (fun _ => 0))), (a1, .inl (jcs C 0, 36, .inl (fun _ => 0))), (a2, .inl (jcs C 0, 15, .inl (fun _ => 0))), (a3, .inl (jcs C 0, 6, .inl (fun _ => 0))), (a4, .inl (jcs C 0, 42, .inl (fun _ => 0))), (a5, .inl (jcs C 0, 48, .inl (fun _ => 0))), (a6, .inl (jcs C 0, 401, .inl (fun _ => 0))), (a7, .inl (jcs C 0, 401, .inl (fun _ => 0)))]) rfl ?_
  refine jg_aload_n hm (i := 0) (q := h) rfl rfl dX10_init_70 ?_
  refine jg_sipush hm (v := 401) (by decide) dX10_init_71 ?_
  refine jg_newi hm (N := 401) (by decide) (by decide +kernel) (Nat.le_of_ble_eq_true rfl) (Nat.le_of_ble_eq_true rfl) (Nat.le_of_ble_eq_true rfl) dX10_init_74 (fun a8 => ?_)
  refine jg_putF hm hi (ty0 := tyX10) 0 15 rfl rfl jin_X10 tyX10_ok nmX10 (by decide) jw_1317 rfl rfl rfl rfl (Nat.le_of_ble_eq_true rfl) dX10_init_76 ?_
  refine jg_eq (X2 := [(h, .inr (10, [.int 0, .int 0, .int 0, .int 0, .int 0, .int 0, .ref a0, .ref a1, .ref a2, .ref a3, .ref a4, .ref a5, .int 0, .ref a6, .ref a7, .ref a8])), (a0, .inl (jcs C 0, 10, .inl (fun _ => 0))), (a1, .inl (jcs C 0, 36, .inl (fun _ => 0))), (a2, .inl (jcs C 0, 15, .inl (fun _ => 0))), (a3, .inl (jcs C 0, 6, .inl (fun _ => 0))), (a4, .inl (jcs C 0, 42, .inl (fun _ => 0))), (a5, .inl (jcs C 0, 48, .inl (fun _ => 0))), (a6, .inl (jcs C 0, 401, .inl (fun _ => 0))), (a7, .inl (jcs C 0, 401, .inl (fun _ => 0))), (a8, .inl (jcs C 0, 401, .inl (fun _ => 0)))]) rfl ?_
  exact jg_return hm rfl (Nat.le_of_ble_eq_true rfl) (Nat.le_of_ble_eq_true rfl) dX10_init_79 ⟨a0, a1, a2, a3, a4, a5, a6, a7, a8, rfl⟩
def kP11 (h : Nat) (cs : Nat → ClassId) (X : va_W) : Prop := ∃ (a0 : Nat) (a1 : Nat) (a2 : Nat) (a3 : Nat) (a4 : Nat) (w5 : Nat) (w6 : Nat) (a7 : Nat) (a8 : Nat) (a9 : Nat) (a10 : Nat) (a11 : Nat) (a12 : Nat) (Y0 : va_W) (Y1 : va_W), kP10 w5 cs Y0 ∧ kP10 w6 cs Y1 ∧ X = (((((((([(h, .inr (11, [.int 0, .ref a0, .int 0, .int (-1), .ref a1, .ref a2, .ref a3, .ref a4, .ref w5, .ref w6, .ref a7, .ref a8, .ref a9, .int 0, .int 0, .int 0, .int 0, .int 0, .ref a10, .ref a11, .ref a12])), (a0, .inl (cs 0, 2000, .inl (fun _ => 0))), (a1, .inl (cs 0, 402, .inl (fun _ => 0))), (a2, .inl (cs 0, 402, .inl (fun _ => 0))), (a3, .inl (cs 0, 402, .inl (fun _ => 0))), (a4, .inl (cs 0, 402, .inl (fun _ => 0)))] ++ Y0) ++ Y1) ++ [(a7, .inl (cs 0, 5, .inl (fun _ => 0)))]) ++ [(a8, .inl (cs 0, 12, .inl (fun _ => 0)))]) ++ [(a9, .inl (cs 0, 6, .inl (fun _ => 0)))]) ++ [(a10, .inl (cs 0, 7, .inl (fun _ => 0)))]) ++ [(a11, .inl (cs 0, 51, .inl (upd (fun _ => 0) 1 4)))]) ++ [(a12, .inl (cs 0, 51, .inl (fun _ => 0)))])
set_option maxRecDepth 20000 in
theorem k_X11 (h : Nat) : jSN MX11_init 2 31 6492 h [] (.inr (11, [.int 0, .null, .int 0, .int 0, .null, .null, .null, .null, .null, .null, .null, .null, .null, .int 0, .int 0, .int 0, .int 0, .int 0, .null, .null, .null])) (kP11 h) := by
  refine jSN_of jp_X11_init rfl rfl (Nat.le_of_ble_eq_true rfl) (fun C hm hi => ?_)
  refine jg_aload_n hm (i := 0) (q := h) rfl rfl dX11_init_0 ?_
  refine jg_objInit hm jw_1281 jw_146 jw_147 (by decide) (Nat.le_of_ble_eq_true rfl) rfl dX11_init_1 ?_
  refine jg_aload_n hm (i := 0) (q := h) rfl rfl dX11_init_4 ?_
  refine jg_sipush hm (v := 2000) (by decide) dX11_init_5 ?_
  refine jg_newi hm (N := 2000) (by decide) (by decide +kernel) (Nat.le_of_ble_eq_true rfl) (Nat.le_of_ble_eq_true rfl) (Nat.le_of_ble_eq_true rfl) dX11_init_8 (fun a0 => ?_)
  refine jg_putF hm hi (ty0 := tyX11) 0 1 rfl rfl jin_X11 tyX11_ok nmX11 (by decide) jw_1353 rfl rfl rfl rfl (Nat.le_of_ble_eq_true rfl) dX11_init_10 ?_
  refine jg_eq (X2 := [(h, .inr (11, [.int 0, .ref a0, .int 0, .int 0, .null, .null, .null, .null, .null, .null, .null, .null, .null, .int 0, .int 0, .int 0, .int 0, .int 0, .null, .null, .null])), (a0, .inl (jcs C 0, 2000, .inl (fun _ => 0)))]) rfl ?_
  refine jg_aload_n hm (i := 0) (q := h) rfl rfl dX11_init_13 ?_
  refine jg_iconst hm (v := (-1)) (by decide) dX11_init_14 ?_
  refine jg_put hm (ty0 := tyX11) 0 3 rfl rfl jin_X11 tyX11_ok nmX11 (by decide) jw_1355 rfl rfl rfl rfl (Nat.le_of_ble_eq_true rfl) dX11_init_15 ?_
  refine jg_eq (X2 := [(h, .inr (11, [.int 0, .ref a0, .int 0, .int (-1), .null, .null, .null, .null, .null, .null, .null, .null, .null, .int 0, .int 0, .int 0, .int 0, .int 0, .null, .null, .null])), (a0, .inl (jcs C 0, 2000, .inl (fun _ => 0)))]) rfl ?_
  refine jg_aload_n hm (i := 0) (q := h) rfl rfl dX11_init_18 ?_
  refine jg_sipush hm (v := 402) (by decide) dX11_init_19 ?_
  refine jg_newi hm (N := 402) (by decide) (by decide +kernel) (Nat.le_of_ble_eq_true rfl) (Nat.le_of_ble_eq_true rfl) (Nat.le_of_ble_eq_true rfl) dX11_init_22 (fun a1 => ?_)
  refine jg_putF hm hi (ty0 := tyX11) 0 4 rfl rfl jin_X11 tyX11_ok nmX11 (by decide) jw_1356 rfl rfl rfl rfl (Nat.le_of_ble_eq_true rfl) dX11_init_24 ?_
  refine jg_eq (X2 := [(h, .inr (11, [.int 0, .ref a0, .int 0, .int (-1), .ref a1, .null, .null, .null, .null, .null, .null, .null, .null, .int 0, .int 0, .int 0, .int 0, .int 0, .null, .null, .null])), (a0, .inl (jcs C 0, 2000, .inl (fun _ => 0))), (a1, .inl (jcs C 0, 402, .inl (fun _ => 0)))]) rfl ?_
  refine jg_aload_n hm (i := 0) (q := h) rfl rfl dX11_init_27 ?_
  refine jg_sipush hm (v := 402) (by decide) dX11_init_28 ?_
  refine jg_newi hm (N := 402) (by decide) (by decide +kernel) (Nat.le_of_ble_eq_true rfl) (Nat.le_of_ble_eq_true rfl) (Nat.le_of_ble_eq_true rfl) dX11_init_31 (fun a2 => ?_)
  refine jg_putF hm hi (ty0 := tyX11) 0 5 rfl rfl jin_X11 tyX11_ok nmX11 (by decide) jw_1357 rfl rfl rfl rfl (Nat.le_of_ble_eq_true rfl) dX11_init_33 ?_
  refine jg_eq (X2 := [(h, .inr (11, [.int 0, .ref a0, .int 0, .int (-1), .ref a1, .ref a2, .null, .null, .null, .null, .null, .null, .null, .int 0, .int 0, .int 0, .int 0, .int 0, .null, .null, .null])), (a0, .inl (jcs C 0, 2000, .inl (fun _ => 0))), (a1, .inl (jcs C 0, 402, .inl (fun _ => 0))), (a2, .inl (jcs C 0, 402, .inl (fun _ => 0)))]) rfl ?_
  refine jg_aload_n hm (i := 0) (q := h) rfl rfl dX11_init_36 ?_
  refine jg_sipush hm (v := 402) (by decide) dX11_init_37 ?_
  refine jg_newi hm (N := 402) (by decide) (by decide +kernel) (Nat.le_of_ble_eq_true rfl) (Nat.le_of_ble_eq_true rfl) (Nat.le_of_ble_eq_true rfl) dX11_init_40 (fun a3 => ?_)
  refine jg_putF hm hi (ty0 := tyX11) 0 6 rfl rfl jin_X11 tyX11_ok nmX11 (by decide) jw_1358 rfl rfl rfl rfl (Nat.le_of_ble_eq_true rfl) dX11_init_42 ?_
  refine jg_eq (X2 := [(h, .inr (11, [.int 0, .ref a0, .int 0, .int (-1), .ref a1, .ref a2, .ref a3, .null, .null, .null, .null, .null, .null, .int 0, .int 0, .int 0, .int 0, .int 0, .null, .null, .null])), (a0, .inl (jcs C 0, 2000, .inl (fun _ => 0))), (a1, .inl (jcs C 0, 402, .inl (fun _ => 0))), (a2, .inl (jcs C 0, 402, .inl (fun _ => 0))), (a3, .inl (jcs C 0, 402, .inl (fun _ => 0)))]) rfl ?_
  refine jg_aload_n hm (i := 0) (q := h) rfl rfl dX11_init_45 ?_
  refine jg_sipush hm (v := 402) (by decide) dX11_init_46 ?_
  refine jg_newi hm (N := 402) (by decide) (by decide +kernel) (Nat.le_of_ble_eq_true rfl) (Nat.le_of_ble_eq_true rfl) (Nat.le_of_ble_eq_true rfl) dX11_init_49 (fun a4 => ?_)
  refine jg_putF hm hi (ty0 := tyX11) 0 7 rfl rfl jin_X11 tyX11_ok nmX11 (by decide) jw_1359 rfl rfl rfl rfl (Nat.le_of_ble_eq_true rfl) dX11_init_51 ?_
  refine jg_eq (X2 := [(h, .inr (11, [.int 0, .ref a0, .int 0, .int (-1), .ref a1, .ref a2, .ref a3, .ref a4, .null, .null, .null, .null, .null, .int 0, .int 0, .int 0, .int 0, .int 0, .null, .null, .null])), (a0, .inl (jcs C 0, 2000, .inl (fun _ => 0))), (a1, .inl (jcs C 0, 402, .inl (fun _ => 0))), (a2, .inl (jcs C 0, 402, .inl (fun _ => 0))), (a3, .inl (jcs C 0, 402, .inl (fun _ => 0))), (a4, .inl (jcs C 0, 402, .inl (fun _ => 0)))]) rfl ?_
  refine jg_aload_n hm (i := 0) (q := h) rfl rfl dX11_init_54 ?_
  refine jg_new hm (ty := tyX10) (fs := [.int 0, .int 0, .int 0, .int 0, .int 0, .int 0, .null, .null, .null, .null, .null, .null, .int 0, .null, .null, .null]) (ci := 10) jin_X10 tyX10_ok jw_1282 jw_1283 jw_126 rfl df_X10 (Nat.le_of_ble_eq_true rfl) (Nat.le_of_ble_eq_true rfl) dX11_init_55 (fun w5 => ?_)
  refine jg_dup hm dX11_init_58 ?_
  refine jg_initN hm (as := []) (st := [jR w5 false, jR h false]) (k_X10 w5) (by decide) (Nat.le_of_ble_eq_true rfl) (Nat.le_of_ble_eq_true rfl) jw_1284 jw_1285 jw_126 jw_1286 jn_X10_init rfl rfl rfl (Nat.le_of_ble_eq_true rfl) rfl dX11_init_59 (fun Y0 gY0 => ?_)
  refine jg_put hm (ty0 := tyX11) 0 8 rfl rfl jin_X11 tyX11_ok nmX11 (by decide) jw_1360 rfl rfl rfl rfl (Nat.le_of_ble_eq_true rfl) dX11_init_62 ?_
  refine jg_eq (X2 := ([(h, .inr (11, [.int 0, .ref a0, .int 0, .int (-1), .ref a1, .ref a2, .ref a3, .ref a4, .ref w5, .null, .null, .null, .null, .int 0, .int 0, .int 0, .int 0, .int 0, .null, .null, .null])), (a0, .inl (jcs C 0, 2000, .inl (fun _ => 0))), (a1, .inl (jcs C 0, 402, .inl (fun _ => 0))), (a2, .inl (jcs C 0, 402, .inl (fun _ => 0))), (a3, .inl (jcs C 0, 402, .inl (fun _ => 0))), (a4, .inl (jcs C 0, 402, .inl (fun _ => 0)))] ++ Y0)) rfl ?_
  refine jg_aload_n hm (i := 0) (q := h) rfl rfl dX11_init_65 ?_
  refine jg_new hm (ty := tyX10) (fs := [.int 0, .int 0, .int 0, .int 0, .int 0, .int 0, .null, .null, .null, .null, .null, .null, .int 0, .null, .null, .null]) (ci := 10) jin_X10 tyX10_ok jw_1282 jw_1283 jw_126 rfl df_X10 (Nat.le_of_ble_eq_true rfl) (Nat.le_of_ble_eq_true rfl) dX11_init_66 (fun w6 => ?_)
  refine jg_dup hm dX11_init_69 ?_
  refine jg_initN hm (as := []) (st := [jR w6 false, jR h false]) (k_X10 w6) (by decide) (Nat.le_of_ble_eq_true rfl) (Nat.le_of_ble_eq_true rfl) jw_1284 jw_1285 jw_126 jw_1286 jn_X10_init rfl rfl rfl (Nat.le_of_ble_eq_true rfl) rfl dX11_init_70 (fun Y1 gY1 => ?_)
  refine jg_put hm (ty0 := tyX11) 0 9 rfl rfl jin_X11 tyX11_ok nmX11 (by decide) jw_1361 rfl rfl rfl rfl (Nat.le_of_ble_eq_true rfl) dX11_init_73 ?_
  refine jg_eq (X2 := (([(h, .inr (11, [.int 0, .ref a0, .int 0, .int (-1), .ref a1, .ref a2, .ref a3, .ref a4, .ref w5, .ref w6, .null, .null, .null, .int 0, .int 0, .int 0, .int 0, .int 0, .null, .null, .null])), (a0, .inl (jcs C 0, 2000, .inl (fun _ => 0))), (a1, .inl (jcs C 0, 402, .inl (fun _ => 0))), (a2, .inl (jcs C 0, 402, .inl (fun _ => 0))), (a3, .inl (jcs C 0, 402, .inl (fun _ => 0))), (a4, .inl (jcs C 0, 402, .inl (fun _ => 0)))] ++ Y0) ++ Y1)) rfl ?_
  refine jg_aload_n hm (i := 0) (q := h) rfl rfl dX11_init_76 ?_
  refine jg_iconst hm (v := 5) (by decide) dX11_init_77 ?_
  refine jg_newi hm (N := 5) (by decide) (by decide +kernel) (Nat.le_of_ble_eq_true rfl) (Nat.le_of_ble_eq_true rfl) (Nat.le_of_ble_eq_true rfl) dX11_init_78 (fun a7 => ?_)
  refine jg_putF hm hi (ty0 := tyX11) 0 10 rfl rfl jin_X11 tyX11_ok nmX11 (by decide) jw_1362 rfl rfl rfl rfl (Nat.le_of_ble_eq_true rfl) dX11_init_80 ?_
  refine jg_eq (X2 := ((([(h, .inr (11, [.int 0, .ref a0, .int 0, .int (-1), .ref a1, .ref a2, .ref a3, .ref a4, .ref w5, .ref w6, .ref a7, .null, .null, .int 0, .int 0, .int 0, .int 0, .int 0, .null, .null, .null])), (a0, .inl (jcs C 0, 2000, .inl (fun _ => 0))), (a1, .inl (jcs C 0, 402, .inl (fun _ => 0))), (a2, .inl (jcs C 0, 402, .inl (fun _ => 0))), (a3, .inl (jcs C 0, 402, .inl (fun _ => 0))), (a4, .inl (jcs C 0, 402, .inl (fun _ => 0)))] ++ Y0) ++ Y1) ++ [(a7, .inl (jcs C 0, 5, .inl (fun _ => 0)))])) rfl ?_
  refine jg_aload_n hm (i := 0) (q := h) rfl rfl dX11_init_83 ?_
  refine jg_bipush hm (v := 12) (by decide) dX11_init_84 ?_
  refine jg_newi hm (N := 12) (by decide) (by decide +kernel) (Nat.le_of_ble_eq_true rfl) (Nat.le_of_ble_eq_true rfl) (Nat.le_of_ble_eq_true rfl) dX11_init_86 (fun a8 => ?_)
  refine jg_putF hm hi (ty0 := tyX11) 0 11 rfl rfl jin_X11 tyX11_ok nmX11 (by decide) jw_1363 rfl rfl rfl rfl (Nat.le_of_ble_eq_true rfl) dX11_init_88 ?_
  refine jg_eq (X2 := (((([(h, .inr (11, [.int 0, .ref a0, .int 0, .int (-1), .ref a1, .ref a2, .ref a3, .ref a4, .ref w5, .ref w6, .ref a7, .ref a8, .null, .int 0, .int 0, .int 0, .int 0, .int 0, .null, .null, .null])), (a0, .inl (jcs C 0, 2000, .inl (fun _ => 0))), (a1, .inl (jcs C 0, 402, .inl (fun _ => 0))), (a2, .inl (jcs C 0, 402, .inl (fun _ => 0))), (a3, .inl (jcs C 0, 402, .inl (fun _ => 0))), (a4, .inl (jcs C 0, 402, .inl (fun _ => 0)))] ++ Y0) ++ Y1) ++ [(a7, .inl (jcs C 0, 5, .inl (fun _ => 0)))]) ++ [(a8, .inl (jcs C 0, 12, .inl (fun _ => 0)))])) rfl ?_
  refine jg_aload_n hm (i := 0) (q := h) rfl rfl dX11_init_91 ?_
  refine jg_bipush hm (v := 6) (by decide) dX11_init_92 ?_
  refine jg_newi hm (N := 6) (by decide) (by decide +kernel) (Nat.le_of_ble_eq_true rfl) (Nat.le_of_ble_eq_true rfl) (Nat.le_of_ble_eq_true rfl) dX11_init_94 (fun a9 => ?_)
  refine jg_putF hm hi (ty0 := tyX11) 0 12 rfl rfl jin_X11 tyX11_ok nmX11 (by decide) jw_1364 rfl rfl rfl rfl (Nat.le_of_ble_eq_true rfl) dX11_init_96 ?_
  refine jg_eq (X2 := ((((([(h, .inr (11, [.int 0, .ref a0, .int 0, .int (-1), .ref a1, .ref a2, .ref a3, .ref a4, .ref w5, .ref w6, .ref a7, .ref a8, .ref a9, .int 0, .int 0, .int 0, .int 0, .int 0, .null, .null, .null])), (a0, .inl (jcs C 0, 2000, .inl (fun _ => 0))), (a1, .inl (jcs C 0, 402, .inl (fun _ => 0))), (a2, .inl (jcs C 0, 402, .inl (fun _ => 0))), (a3, .inl (jcs C 0, 402, .inl (fun _ => 0))), (a4, .inl (jcs C 0, 402, .inl (fun _ => 0)))] ++ Y0) ++ Y1) ++ [(a7, .inl (jcs C 0, 5, .inl (fun _ => 0)))]) ++ [(a8, .inl (jcs C 0, 12, .inl (fun _ => 0)))]) ++ [(a9, .inl (jcs C 0, 6, .inl (fun _ => 0)))])) rfl ?_
  refine jg_aload_n hm (i := 0) (q := h) rfl rfl dX11_init_99 ?_
  refine jg_bipush hm (v := 7) (by decide) dX11_init_100 ?_
  refine jg_newi hm (N := 7) (by decide) (by decide +kernel) (Nat.le_of_ble_eq_true rfl) (Nat.le_of_ble_eq_true rfl) (Nat.le_of_ble_eq_true rfl) dX11_init_102 (fun a10 => ?_)
  refine jg_putF hm hi (ty0 := tyX11) 0 18 rfl rfl jin_X11 tyX11_ok nmX11 (by decide) jw_1370 rfl rfl rfl rfl (Nat.le_of_ble_eq_true rfl) dX11_init_104 ?_
  refine jg_eq (X2 := (((((([(h, .inr (11, [.int 0, .ref a0, .int 0, .int (-1), .ref a1, .ref a2, .ref a3, .ref a4, .ref w5, .ref w6, .ref a7, .ref a8, .ref a9, .int 0, .int 0, .int 0, .int 0, .int 0, .ref a10, .null, .null])), (a0, .inl (jcs C 0, 2000, .inl (fun _ => 0))), (a1, .inl (jcs C 0, 402, .inl (fun _ => 0))), (a2, .inl (jcs C 0, 402, .inl (fun _ => 0))), (a3, .inl (jcs C 0, 402, .inl (fun _ => 0))), (a4, .inl (jcs C 0, 402, .inl (fun _ => 0)))] ++ Y0) ++ Y1) ++ [(a7, .inl (jcs C 0, 5, .inl (fun _ => 0)))]) ++ [(a8, .inl (jcs C 0, 12, .inl (fun _ => 0)))]) ++ [(a9, .inl (jcs C 0, 6, .inl (fun _ => 0)))]) ++ [(a10, .inl (jcs C 0, 7, .inl (fun _ => 0)))])) rfl ?_
  refine jg_aload_n hm (i := 0) (q := h) rfl rfl dX11_init_107 ?_
  refine jg_bipush hm (v := 51) (by decide) dX11_init_108 ?_
  refine jg_newi hm (N := 51) (by decide) (by decide +kernel) (Nat.le_of_ble_eq_true rfl) (Nat.le_of_ble_eq_true rfl) (Nat.le_of_ble_eq_true rfl) dX11_init_110 (fun a11 => ?_)
  refine jg_putF hm hi (ty0 := tyX11) 0 19 rfl rfl jin_X11 tyX11_ok nmX11 (by decide) jw_1371 rfl rfl rfl rfl (Nat.le_of_ble_eq_true rfl) dX11_init_112 ?_
  refine jg_eq (X2 := ((((((([(h, .inr (11, [.int 0, .ref a0, .int 0, .int (-1), .ref a1, .ref a2, .ref a3, .ref a4, .ref w5, .ref w6, .ref a7, .ref a8, .ref a9, .int 0, .int 0, .int 0, .int 0, .int 0, .ref a10, .ref a11, .null])), (a0, .inl (jcs C 0, 2000, .inl (fun _ => 0))), (a1, .inl (jcs C 0, 402, .inl (fun _ => 0))), (a2, .inl (jcs C 0, 402, .inl (fun _ => 0))), (a3, .inl (jcs C 0, 402, .inl (fun _ => 0))), (a4, .inl (jcs C 0, 402, .inl (fun _ => 0)))] ++ Y0) ++ Y1) ++ [(a7, .inl (jcs C 0, 5, .inl (fun _ => 0)))]) ++ [(a8, .inl (jcs C 0, 12, .inl (fun _ => 0)))]) ++ [(a9, .inl (jcs C 0, 6, .inl (fun _ => 0)))]) ++ [(a10, .inl (jcs C 0, 7, .inl (fun _ => 0)))]) ++ [(a11, .inl (jcs C 0, 51, .inl (fun _ => 0)))])) rfl ?_
  refine jg_aload_n hm (i := 0) (q := h) rfl rfl dX11_init_115 ?_
  refine jg_bipush hm (v := 51) (by decide) dX11_init_116 ?_
  refine jg_newi hm (N := 51) (by decide) (by decide +kernel) (Nat.le_of_ble_eq_true rfl) (Nat.le_of_ble_eq_true rfl) (Nat.le_of_ble_eq_true rfl) dX11_init_118 (fun a12 => ?_)
  refine jg_putF hm hi (ty0 := tyX11) 0 20 rfl rfl jin_X11 tyX11_ok nmX11 (by decide) jw_1372 rfl rfl rfl rfl (Nat.le_of_ble_eq_true rfl) dX11_init_120 ?_
  refine jg_eq (X2 := (((((((([(h, .inr (11, [.int 0, .ref a0, .int 0, .int (-1), .ref a1, .ref a2, .ref a3, .ref a4, .ref w5, .ref w6, .ref a7, .ref a8, .ref a9, .int 0, .int 0, .int 0, .int 0, .int 0, .ref a10, .ref a11, .ref a12])), (a0, .inl (jcs C 0, 2000, .inl (fun _ => 0))), (a1, .inl (jcs C 0, 402, .inl (fun _ => 0))), (a2, .inl (jcs C 0, 402, .inl (fun _ => 0))), (a3, .inl (jcs C 0, 402, .inl (fun _ => 0))), (a4, .inl (jcs C 0, 402, .inl (fun _ => 0)))] ++ Y0) ++ Y1) ++ [(a7, .inl (jcs C 0, 5, .inl (fun _ => 0)))]) ++ [(a8, .inl (jcs C 0, 12, .inl (fun _ => 0)))]) ++ [(a9, .inl (jcs C 0, 6, .inl (fun _ => 0)))]) ++ [(a10, .inl (jcs C 0, 7, .inl (fun _ => 0)))]) ++ [(a11, .inl (jcs C 0, 51, .inl (fun _ => 0)))]) ++ [(a12, .inl (jcs C 0, 51, .inl (fun _ => 0)))])) rfl ?_
  refine jg_aload_n hm (i := 0) (q := h) rfl rfl dX11_init_123 ?_
  refine jg_get hm (v := jR a11 false) 0 19 rfl rfl jin_X11 (by decide) jw_1371 rfl rfl dX11_init_124 ?_
  refine jg_iconst hm (v := 1) (by decide) dX11_init_127 ?_
  refine jg_iconst hm (v := 4) (by decide) dX11_init_128 ?_
  obtain ⟨b0, b1, b2, b3, b4, b5, b6, b7, b8, rfl⟩ := gY0
  obtain ⟨c0, c1, c2, c3, c4, c5, c6, c7, c8, rfl⟩ := gY1
  refine jg_iast hm (j := 1) 30 (by decide) rfl (show vp_in (nI 1) 51 from vp_in_nI (by omega) (by omega)) dX11_init_129 ?_
  exact jg_return hm rfl (Nat.le_of_ble_eq_true rfl) (Nat.le_of_ble_eq_true rfl) dX11_init_130 ⟨a0, a1, a2, a3, a4, w5, w6, a7, a8, a9, a10, a11, a12, _, _, ⟨b0, b1, b2, b3, b4, b5, b6, b7, b8, rfl⟩, ⟨c0, c1, c2, c3, c4, c5, c6, c7, c8, rfl⟩, rfl⟩
