theorem dJ1_canEncode_9a6ad_0 : decode cJ1_canEncode_9a6ad 0 = .ok (.iload_n 0, 1) := by decide +kernel
theorem dJ1_canEncode_9a6ad_1 : decode cJ1_canEncode_9a6ad 1 = .ok (.ifCond .lt 14, 3) := by decide +kernel
theorem dJ1_canEncode_9a6ad_4 : decode cJ1_canEncode_9a6ad 4 = .ok (.iload_n 0, 1) := by decide +kernel
theorem dJ1_canEncode_9a6ad_5 : decode cJ1_canEncode_9a6ad 5 = .ok (.sipush 255, 3) := by decide +kernel
theorem dJ1_canEncode_9a6ad_8 : decode cJ1_canEncode_9a6ad 8 = .ok (.if_icmp .gt 7, 3) := by decide +kernel
theorem dJ1_canEncode_9a6ad_11 : decode cJ1_canEncode_9a6ad 11 = .ok (.iconst 1, 1) := by decide +kernel
theorem dJ1_canEncode_9a6ad_12 : decode cJ1_canEncode_9a6ad 12 = .ok (.goto 4, 3) := by decide +kernel
theorem dJ1_canEncode_9a6ad_15 : decode cJ1_canEncode_9a6ad 15 = .ok (.iconst 0, 1) := by decide +kernel
theorem dJ1_canEncode_9a6ad_16 : decode cJ1_canEncode_9a6ad 16 = .ok (.ireturn, 1) := by decide +kernel
abbrev MJ1_canEncode_9a6ad : JM := (cJ1_canEncode_9a6ad, 1, RJ1, (some .boolean), yJ1_canEncode_9a6ad)
theorem jn_J1_canEncode_9a6ad : jnm MJ1_canEncode_9a6ad 1 := by decide +kernel
theorem jp_J1_canEncode_9a6ad : plainName MJ1_canEncode_9a6ad.2.2.2.2.cls = true := by decide +kernel
theorem dJ1_indexOf_4cfef_0 : decode cJ1_indexOf_4cfef 0 = .ok (.iload_n 1, 1) := by decide +kernel
theorem dJ1_indexOf_4cfef_1 : decode cJ1_indexOf_4cfef 1 = .ok (.invokestatic 88, 3) := by decide +kernel
theorem dJ1_indexOf_4cfef_4 : decode cJ1_indexOf_4cfef 4 = .ok (.ifCond .ne 5, 3) := by decide +kernel
theorem dJ1_indexOf_4cfef_7 : decode cJ1_indexOf_4cfef 7 = .ok (.iconst (-1), 1) := by decide +kernel
theorem dJ1_indexOf_4cfef_8 : decode cJ1_indexOf_4cfef 8 = .ok (.ireturn, 1) := by decide +kernel
theorem dJ1_indexOf_4cfef_9 : decode cJ1_indexOf_4cfef 9 = .ok (.iload_n 2, 1) := by decide +kernel
theorem dJ1_indexOf_4cfef_10 : decode cJ1_indexOf_4cfef 10 = .ok (.iconst 0, 1) := by decide +kernel
theorem dJ1_indexOf_4cfef_11 : decode cJ1_indexOf_4cfef 11 = .ok (.invokestatic 92, 3) := by decide +kernel
theorem dJ1_indexOf_4cfef_14 : decode cJ1_indexOf_4cfef 14 = .ok (.istore_n 2, 1) := by decide +kernel
theorem dJ1_indexOf_4cfef_15 : decode cJ1_indexOf_4cfef 15 = .ok (.iload_n 3, 1) := by decide +kernel
theorem dJ1_indexOf_4cfef_16 : decode cJ1_indexOf_4cfef 16 = .ok (.aload_n 0, 1) := by decide +kernel
theorem dJ1_indexOf_4cfef_17 : decode cJ1_indexOf_4cfef 17 = .ok (.arraylength, 1) := by decide +kernel
theorem dJ1_indexOf_4cfef_18 : decode cJ1_indexOf_4cfef 18 = .ok (.invokestatic 38, 3) := by decide +kernel
theorem dJ1_indexOf_4cfef_21 : decode cJ1_indexOf_4cfef 21 = .ok (.istore_n 3, 1) := by decide +kernel
theorem dJ1_indexOf_4cfef_22 : decode cJ1_indexOf_4cfef 22 = .ok (.iload_n 2, 1) := by decide +kernel
theorem dJ1_indexOf_4cfef_23 : decode cJ1_indexOf_4cfef 23 = .ok (.iload_n 3, 1) := by decide +kernel
theorem dJ1_indexOf_4cfef_24 : decode cJ1_indexOf_4cfef 24 = .ok (.if_icmp .lt 5, 3) := by decide +kernel
theorem dJ1_indexOf_4cfef_27 : decode cJ1_indexOf_4cfef 27 = .ok (.iconst (-1), 1) := by decide +kernel
theorem dJ1_indexOf_4cfef_28 : decode cJ1_indexOf_4cfef 28 = .ok (.ireturn, 1) := by decide +kernel
theorem dJ1_indexOf_4cfef_29 : decode cJ1_indexOf_4cfef 29 = .ok (.aload_n 0, 1) := by decide +kernel
theorem dJ1_indexOf_4cfef_30 : decode cJ1_indexOf_4cfef 30 = .ok (.iload_n 1, 1) := by decide +kernel
theorem dJ1_indexOf_4cfef_31 : decode cJ1_indexOf_4cfef 31 = .ok (.iload_n 2, 1) := by decide +kernel
theorem dJ1_indexOf_4cfef_32 : decode cJ1_indexOf_4cfef 32 = .ok (.iload_n 3, 1) := by decide +kernel
theorem dJ1_indexOf_4cfef_33 : decode cJ1_indexOf_4cfef 33 = .ok (.invokestatic 95, 3) := by decide +kernel
theorem dJ1_indexOf_4cfef_36 : decode cJ1_indexOf_4cfef 36 = .ok (.ireturn, 1) := by decide +kernel
abbrev MJ1_indexOf_4cfef : JM := (cJ1_indexOf_4cfef, 4, RJ1, (some .int), yJ1_indexOf_4cfef)
theorem jn_J1_indexOf_4cfef : jnm MJ1_indexOf_4cfef 4 := by decide +kernel
theorem jp_J1_indexOf_4cfef : plainName MJ1_indexOf_4cfef.2.2.2.2.cls = true := by decide +kernel
theorem dJ0_indexOf_7cf53_0 : decode cJ0_indexOf_7cf53 0 = .ok (.aload_n 0, 1) := by decide +kernel
theorem dJ0_indexOf_7cf53_1 : decode cJ0_indexOf_7cf53 1 = .ok (.invokevirtual 492, 3) := by decide +kernel
theorem dJ0_indexOf_7cf53_4 : decode cJ0_indexOf_7cf53 4 = .ok (.ifCond .eq 19, 3) := by decide +kernel
theorem dJ0_indexOf_7cf53_7 : decode cJ0_indexOf_7cf53 7 = .ok (.aload_n 0, 1) := by decide +kernel
theorem dJ0_indexOf_7cf53_8 : decode cJ0_indexOf_7cf53 8 = .ok (.getfield 9, 3) := by decide +kernel
theorem dJ0_indexOf_7cf53_11 : decode cJ0_indexOf_7cf53 11 = .ok (.iload_n 1, 1) := by decide +kernel
theorem dJ0_indexOf_7cf53_12 : decode cJ0_indexOf_7cf53 12 = .ok (.iload_n 2, 1) := by decide +kernel
theorem dJ0_indexOf_7cf53_13 : decode cJ0_indexOf_7cf53 13 = .ok (.aload_n 0, 1) := by decide +kernel
theorem dJ0_indexOf_7cf53_14 : decode cJ0_indexOf_7cf53 14 = .ok (.invokevirtual 505, 3) := by decide +kernel
theorem dJ0_indexOf_7cf53_17 : decode cJ0_indexOf_7cf53 17 = .ok (.invokestatic 637, 3) := by decide +kernel
theorem dJ0_indexOf_7cf53_20 : decode cJ0_indexOf_7cf53 20 = .ok (.goto 16, 3) := by decide +kernel
theorem dJ0_indexOf_7cf53_23 : decode cJ0_indexOf_7cf53 23 = .ok (.aload_n 0, 1) := by decide +kernel
theorem dJ0_indexOf_7cf53_24 : decode cJ0_indexOf_7cf53 24 = .ok (.getfield 9, 3) := by decide +kernel
theorem dJ0_indexOf_7cf53_27 : decode cJ0_indexOf_7cf53 27 = .ok (.iload_n 1, 1) := by decide +kernel
theorem dJ0_indexOf_7cf53_28 : decode cJ0_indexOf_7cf53 28 = .ok (.iload_n 2, 1) := by decide +kernel
theorem dJ0_indexOf_7cf53_29 : decode cJ0_indexOf_7cf53 29 = .ok (.aload_n 0, 1) := by decide +kernel
theorem dJ0_indexOf_7cf53_30 : decode cJ0_indexOf_7cf53 30 = .ok (.invokevirtual 505, 3) := by decide +kernel
theorem dJ0_indexOf_7cf53_33 : decode cJ0_indexOf_7cf53 33 = .ok (.invokestatic 640, 3) := by decide +kernel
theorem dJ0_indexOf_7cf53_36 : decode cJ0_indexOf_7cf53 36 = .ok (.ireturn, 1) := by decide +kernel
abbrev MJ0_indexOf_7cf53 : JM := (cJ0_indexOf_7cf53, 3, RJ0, (some .int), yJ0_indexOf_7cf53)
theorem jn_J0_indexOf_7cf53 : jnm MJ0_indexOf_7cf53 2 := by decide +kernel
theorem jp_J0_indexOf_7cf53 : plainName MJ0_indexOf_7cf53.2.2.2.2.cls = true := by decide +kernel
theorem dJ0_indexOf_0f7a4_0 : decode cJ0_indexOf_0f7a4 0 = .ok (.aload_n 0, 1) := by decide +kernel
theorem dJ0_indexOf_0f7a4_1 : decode cJ0_indexOf_0f7a4 1 = .ok (.iload_n 1, 1) := by decide +kernel
theorem dJ0_indexOf_0f7a4_2 : decode cJ0_indexOf_0f7a4 2 = .ok (.iconst 0, 1) := by decide +kernel
theorem dJ0_indexOf_0f7a4_3 : decode cJ0_indexOf_0f7a4 3 = .ok (.invokevirtual 633, 3) := by decide +kernel
theorem dJ0_indexOf_0f7a4_6 : decode cJ0_indexOf_0f7a4 6 = .ok (.ireturn, 1) := by decide +kernel
abbrev MJ0_indexOf_0f7a4 : JM := (cJ0_indexOf_0f7a4, 2, RJ0, (some .int), yJ0_indexOf_0f7a4)
theorem jn_J0_indexOf_0f7a4 : jnm MJ0_indexOf_0f7a4 1 := by decide +kernel
theorem jp_J0_indexOf_0f7a4 : plainName MJ0_indexOf_0f7a4.2.2.2.2.cls = true := by decide +kernel
theorem jw_1142 : Cond.methodLink RJ1 88 yJ1_canEncode_9a6ad ∈ jGL := jmem 1142 (by decide +kernel) rfl
theorem jw_1143 : Cond.static yJ1_canEncode_9a6ad ∈ jGL := jmem 1143 (by decide +kernel) rfl
theorem jw_1144 : Cond.code yJ1_canEncode_9a6ad cJ1_canEncode_9a6ad 1 (some .boolean) ∈ jGL := jmem 1144 (by decide +kernel) rfl
theorem jw_1145 : Cond.methodLink RJ1 92 Lib.Math.max.name ∈ jGL := jmem 1145 (by decide +kernel) rfl
theorem jw_1146 : Cond.methodLink RJ1 38 Lib.Math.min.name ∈ jGL := jmem 1146 (by decide +kernel) rfl
theorem jw_1147 : Cond.methodLink RJ1 95 yJ1_indexOfChar_4cfef ∈ jGL := jmem 1147 (by decide +kernel) rfl
theorem jw_1148 : Cond.static yJ1_indexOfChar_4cfef ∈ jGL := jmem 1148 (by decide +kernel) rfl
theorem jw_1149 : Cond.code yJ1_indexOfChar_4cfef cJ1_indexOfChar_4cfef 6 (some .int) ∈ jGL := jmem 1149 (by decide +kernel) rfl
theorem jw_892 : Cond.methodLink RJ0 505 yJ0_length_8abf5 ∈ jGL := jmem 892 (by decide +kernel) rfl
theorem jw_839 : Cond.instanceMethod yJ0_length_8abf5 ∈ jGL := jmem 839 (by decide +kernel) rfl
theorem jw_840 : Cond.selects RJ0 yJ0_length_8abf5 yJ0_length_8abf5 ∈ jGL := jmem 840 (by decide +kernel) rfl
theorem jw_841 : Cond.code yJ0_length_8abf5 cJ0_length_8abf5 1 (some .int) ∈ jGL := jmem 841 (by decide +kernel) rfl
theorem jw_1139 : Cond.methodLink RJ0 637 yJ1_indexOf_4cfef ∈ jGL := jmem 1139 (by decide +kernel) rfl
theorem jw_1140 : Cond.static yJ1_indexOf_4cfef ∈ jGL := jmem 1140 (by decide +kernel) rfl
theorem jw_1141 : Cond.code yJ1_indexOf_4cfef cJ1_indexOf_4cfef 4 (some .int) ∈ jGL := jmem 1141 (by decide +kernel) rfl
theorem jw_1135 : Cond.methodLink RJ0 633 yJ0_indexOf_7cf53 ∈ jGL := jmem 1135 (by decide +kernel) rfl
theorem jw_1136 : Cond.instanceMethod yJ0_indexOf_7cf53 ∈ jGL := jmem 1136 (by decide +kernel) rfl
theorem jw_1137 : Cond.selects RJ0 yJ0_indexOf_7cf53 yJ0_indexOf_7cf53 ∈ jGL := jmem 1137 (by decide +kernel) rfl
theorem jw_1138 : Cond.code yJ0_indexOf_7cf53 cJ0_indexOf_7cf53 3 (some .int) ∈ jGL := jmem 1138 (by decide +kernel) rfl
theorem jw_1131 : Cond.methodLink RX7 70 yJ0_indexOf_0f7a4 ∈ jGL := jmem 1131 (by decide +kernel) rfl
theorem jw_1132 : Cond.instanceMethod yJ0_indexOf_0f7a4 ∈ jGL := jmem 1132 (by decide +kernel) rfl
theorem jw_1133 : Cond.selects RJ0 yJ0_indexOf_0f7a4 yJ0_indexOf_0f7a4 ∈ jGL := jmem 1133 (by decide +kernel) rfl
theorem jw_1134 : Cond.code yJ0_indexOf_0f7a4 cJ0_indexOf_0f7a4 2 (some .int) ∈ jGL := jmem 1134 (by decide +kernel) rfl
theorem jw_1128 : Cond.methodLink RX7 77 yJ0_length_8abf5 ∈ jGL := jmem 1128 (by decide +kernel) rfl
theorem jw_1129 : Cond.methodLink RX7 81 yJ0_charAt_5068e ∈ jGL := jmem 1129 (by decide +kernel) rfl
theorem jw_1038 : Cond.instanceMethod yJ0_charAt_5068e ∈ jGL := jmem 1038 (by decide +kernel) rfl
theorem jw_1039 : Cond.selects RJ0 yJ0_charAt_5068e yJ0_charAt_5068e ∈ jGL := jmem 1039 (by decide +kernel) rfl
theorem jw_1040 : Cond.code yJ0_charAt_5068e cJ0_charAt_5068e 2 (some .char) ∈ jGL := jmem 1040 (by decide +kernel) rfl
/-! the kinds of the class's tokens -/
theorem c_canEncode (w : JW) {z : Nat} (hz : z < 256) : jF MJ1_canEncode_9a6ad 0 [jI (nI z)] w (jI 1) w := by
  refine jF_of jp_J1_canEncode_9a6ad rfl (Nat.le_of_ble_eq_true rfl) (fun C hm => ?_)
  refine jr_iload_n hm (i := 0) rfl rfl dJ1_canEncode_9a6ad_0 ?_
  refine jr_if_lt hm (tgt := 15) dJ1_canEncode_9a6ad_1 (by decide) (fun h => absurd h (nI_pos (by omega))) (fun _ => ?_)
  refine jr_iload_n hm (i := 0) rfl rfl dJ1_canEncode_9a6ad_4 ?_
  refine jr_sipush hm (v := 255) (by decide) dJ1_canEncode_9a6ad_5 ?_
  refine jr_icmp_gt hm (tgt := 15) dJ1_canEncode_9a6ad_8 (by decide) (fun h => absurd ((nI_ltI (a := 255) (by omega) (by omega)).mp h) (by omega)) (fun _ => ?_)
  refine jr_iconst hm (v := 1) (by decide) dJ1_canEncode_9a6ad_11 ?_
  refine jr_goto hm (tgt := 16) dJ1_canEncode_9a6ad_12 (by decide) ?_
  exact jr_zreturn hm rfl rfl dJ1_canEncode_9a6ad_16 ⟨rfl, rfl⟩
theorem c_ixchar (w : JW) {i z : Nat} (hi : i < 23) (hz : z < 256) : jF MJ1_indexOfChar_4cfef 0 [jR (200 + i) false, jI (nI z), jI 0, jI (nI (jn_len.getD i 0))] w (jI (jix i (nI z) (jn_len.getD i 0) 0)) w := by
  refine jF_of jp_J1_indexOfChar_4cfef rfl (Nat.le_of_ble_eq_true rfl) (fun C hm => ?_)
  refine jr_iload_n hm (i := 1) rfl rfl dJ1_indexOfChar_4cfef_0 ?_
  refine jr_i2b hm dJ1_indexOfChar_4cfef_1 ?_
  refine jr_istore hm (i := 4) (Nat.le_of_ble_eq_true rfl) rfl dJ1_indexOfChar_4cfef_2 ?_
  refine jr_iload_n hm (i := 2) rfl rfl dJ1_indexOfChar_4cfef_4 ?_
  refine jr_istore hm (i := 5) (Nat.le_of_ble_eq_true rfl) rfl dJ1_indexOfChar_4cfef_5 ?_
  exact l_ixchar hm hi hz (jn_len.getD i 0) 0 (Nat.zero_add _)
theorem c_lindexOf (w : JW) {i z : Nat} (hi : i < 23) (h0 : 0 < jn_len.getD i 0) (hz : z < 256) : jF MJ1_indexOf_4cfef 1 [jR (200 + i) false, jI (nI z), jI 0, jI (nI (jn_len.getD i 0))] w (jI (jix i (nI z) (jn_len.getD i 0) 0)) w := by
  have hl := jn_lens i (by omega)
  refine jF_of jp_J1_indexOf_4cfef rfl (Nat.le_of_ble_eq_true rfl) (fun C hm => ?_)
  refine jr_iload_n hm (i := 1) rfl rfl dJ1_indexOf_4cfef_0 ?_
  refine jr_callS (mc := 0) (ms := 0) (as := [jI (nI z)]) (st := []) hm (c_canEncode w hz) (by omega) jw_1142 jw_1143 jw_66 jw_1144 jn_J1_canEncode_9a6ad rfl rfl (Nat.le_of_ble_eq_true rfl) rfl dJ1_indexOf_4cfef_1 (jkF ?_)
  refine jr_if_ne hm (tgt := 9) dJ1_indexOf_4cfef_4 (by decide) (fun _ => ?_) (fun h => absurd h (by decide))
  refine jr_iload_n hm (i := 2) rfl rfl dJ1_indexOf_4cfef_9 ?_
  refine jr_iconst hm (v := 0) (by decide) dJ1_indexOf_4cfef_10 ?_
  refine jr_mmax hm jw_1145 jw_244 jw_62 jw_245 (by omega) (Nat.le_of_ble_eq_true rfl) rfl dJ1_indexOf_4cfef_11 ?_
  rw [if_neg (by decide)]
  refine jr_istore_n hm (i := 2) rfl (Nat.le_of_ble_eq_true rfl) rfl dJ1_indexOf_4cfef_14 ?_
  refine jr_iload_n hm (i := 3) rfl rfl dJ1_indexOf_4cfef_15 ?_
  refine jr_aload_n hm (i := 0) rfl rfl dJ1_indexOf_4cfef_16 ?_
  refine jr_slen hm hi dJ1_indexOf_4cfef_17 ?_
  refine jr_mmin hm jw_1146 jw_241 jw_62 jw_242 (by omega) (Nat.le_of_ble_eq_true rfl) rfl dJ1_indexOf_4cfef_18 ?_
  rw [ite_self]
  refine jr_istore_n hm (i := 3) rfl (Nat.le_of_ble_eq_true rfl) rfl dJ1_indexOf_4cfef_21 ?_
  refine jr_iload_n hm (i := 2) rfl rfl dJ1_indexOf_4cfef_22 ?_
  refine jr_iload_n hm (i := 3) rfl rfl dJ1_indexOf_4cfef_23 ?_
  refine jr_icmp_lt hm (tgt := 29) dJ1_indexOf_4cfef_24 (by decide) (fun _ => ?_) (fun h => absurd (nI_lt (a := 0) h0 (by omega)) h)
  refine jr_aload_n hm (i := 0) rfl rfl dJ1_indexOf_4cfef_29 ?_
  refine jr_iload_n hm (i := 1) rfl rfl dJ1_indexOf_4cfef_30 ?_
  refine jr_iload_n hm (i := 2) rfl rfl dJ1_indexOf_4cfef_31 ?_
  refine jr_iload_n hm (i := 3) rfl rfl dJ1_indexOf_4cfef_32 ?_
  refine jr_callS (mc := 0) (ms := 0) (as := [jR (200 + i) false, jI (nI z), jI 0, jI (nI (jn_len.getD i 0))]) (st := []) hm (c_ixchar w hi hz) (by omega) jw_1147 jw_1148 jw_66 jw_1149 jn_J1_indexOfChar_4cfef rfl rfl (Nat.le_of_ble_eq_true rfl) rfl dJ1_indexOf_4cfef_33 (jkF ?_)
  exact jr_ireturn hm rfl dJ1_indexOf_4cfef_36 ⟨rfl, rfl⟩
theorem c_indexOf2 (w : JW) {i z : Nat} (hi : i < 23) (h0 : 0 < jn_len.getD i 0) (hz : z < 256) : jF MJ0_indexOf_7cf53 2 [jR (100 + i) false, jI (nI z), jI 0] w (jI (jix i (nI z) (jn_len.getD i 0) 0)) w := by
  refine jF_of jp_J0_indexOf_7cf53 rfl (Nat.le_of_ble_eq_true rfl) (fun C hm => ?_)
  refine jr_aload_n hm (i := 0) rfl rfl dJ0_indexOf_7cf53_0 ?_
  refine jr_callK (mc := 0) (ms := 0) (as := []) (st := []) hm hi (c_isLatin1 w hi) (by omega) jw_894 jw_895 jw_896 jw_59 jw_897 jn_J0_isLatin1_aae02 rfl rfl rfl (Nat.le_of_ble_eq_true rfl) rfl dJ0_indexOf_7cf53_1 (jkF ?_)
  refine jr_if_eq hm (tgt := 23) dJ0_indexOf_7cf53_4 (by decide) (fun h => absurd h (by decide)) (fun _ => ?_)
  refine jr_aload_n hm (i := 0) rfl rfl dJ0_indexOf_7cf53_7 ?_
  refine jr_sval hm hi jw_917 dJ0_indexOf_7cf53_8 ?_
  refine jr_iload_n hm (i := 1) rfl rfl dJ0_indexOf_7cf53_11 ?_
  refine jr_iload_n hm (i := 2) rfl rfl dJ0_indexOf_7cf53_12 ?_
  refine jr_aload_n hm (i := 0) rfl rfl dJ0_indexOf_7cf53_13 ?_
  refine jr_callK (mc := 0) (ms := 0) (as := []) hm hi (c_slength w hi) (by omega) jw_892 jw_839 jw_840 jw_59 jw_841 jn_J0_length_8abf5 rfl rfl rfl (Nat.le_of_ble_eq_true rfl) rfl dJ0_indexOf_7cf53_14 (jkF ?_)
  refine jr_callS (mc := 0) (ms := 0) (as := [jR (200 + i) false, jI (nI z), jI 0, jI (nI (jn_len.getD i 0))]) (st := []) hm (c_lindexOf w hi h0 hz) (by omega) jw_1139 jw_1140 jw_66 jw_1141 jn_J1_indexOf_4cfef rfl rfl (Nat.le_of_ble_eq_true rfl) rfl dJ0_indexOf_7cf53_17 (jkF ?_)
  refine jr_goto hm (tgt := 36) dJ0_indexOf_7cf53_20 (by decide) ?_
  exact jr_ireturn hm rfl dJ0_indexOf_7cf53_36 ⟨rfl, rfl⟩
theorem c_indexOf (w : JW) {i z : Nat} (hi : i < 23) (h0 : 0 < jn_len.getD i 0) (hz : z < 256) : jF MJ0_indexOf_0f7a4 3 [jR (100 + i) false, jI (nI z)] w (jI (jix i (nI z) (jn_len.getD i 0) 0)) w := by
  refine jF_of jp_J0_indexOf_0f7a4 rfl (Nat.le_of_ble_eq_true rfl) (fun C hm => ?_)
  refine jr_aload_n hm (i := 0) rfl rfl dJ0_indexOf_0f7a4_0 ?_
  refine jr_iload_n hm (i := 1) rfl rfl dJ0_indexOf_0f7a4_1 ?_
  refine jr_iconst hm (v := 0) (by decide) dJ0_indexOf_0f7a4_2 ?_
  refine jr_callK (mc := 0) (ms := 0) (as := [jI (nI z), jI 0]) (st := []) hm hi (c_indexOf2 w hi h0 hz) (by omega) jw_1135 jw_1136 jw_1137 jw_59 jw_1138 jn_J0_indexOf_7cf53 rfl rfl rfl (Nat.le_of_ble_eq_true rfl) rfl dJ0_indexOf_0f7a4_3 (jkF ?_)
  exact jr_ireturn hm rfl dJ0_indexOf_0f7a4_6 ⟨rfl, rfl⟩
theorem jsym_ix : ∀ z : Nat, z < 256 → jix 1 (nI z) 13 0 = (if jsym z = 48 then -1 else nI (jsym z - 32)) := by decide +kernel
theorem jcast : ∀ z : Nat, z < 256 → ((nI z).toUInt32 % 65536).toInt32 = nI z := by decide +kernel
theorem l_kind85 {C : JC} {d : Nat} {P : JV → JW → Prop} {w : JW} (hm : jok C MX7_kindOf d 0 0) (hd : 4 ≤ d) {z : Nat} (hz : z < 256) (hp : P (jI (nI (jsym z))) w) : jW C 0 0 (jQQ C 0 0 P) 85 [jU, jU, jU, jI (nI z), jU] [] w := by
  have hr := jsym_in z
  refine jr_ldcS hm 1 (by omega) rfl rfl dX7_kindOf_85 ?_
  refine jr_iload_n hm (i := 3) rfl rfl dX7_kindOf_87 ?_
  refine jr_i2c hm dX7_kindOf_88 ?_
  rw [jcast z hz]
  refine jr_callK (mc := 0) (ms := 0) (i := 1) (as := [jI (nI z)]) (st := []) hm (by omega) (c_indexOf w (i := 1) (by omega) (by decide) hz) (by omega) jw_1131 jw_1132 jw_1133 jw_59 jw_1134 jn_J0_indexOf_0f7a4 rfl rfl rfl (Nat.le_of_ble_eq_true rfl) rfl dX7_kindOf_89 (jkF ?_)
  rw [show jn_len.getD 1 0 = 13 from rfl, jsym_ix z hz]
  refine jr_istore hm (i := 4) (Nat.le_of_ble_eq_true rfl) rfl dX7_kindOf_92 ?_
  refine jr_iload hm (i := 4) rfl dX7_kindOf_94 ?_
  refine jr_if_ge hm (tgt := 104) dX7_kindOf_96 (by decide) (fun h => ?_) (fun h => ?_)
  · by_cases q : jsym z = 48
    · rw [if_pos q] at h
      exact absurd h (by decide)
    · refine jr_bipush hm (v := 32) (by decide) dX7_kindOf_104 ?_
      refine jr_iload hm (i := 4) rfl dX7_kindOf_106 ?_
      refine jr_iadd hm dX7_kindOf_108 ?_
      rw [if_neg q, nI_lit, nI_add, show 32 + (jsym z - 32) = jsym z by omega]
      exact jr_ireturn hm rfl dX7_kindOf_109 hp
  · by_cases q : jsym z = 48
    · rw [q] at hp
      refine jr_bipush hm (v := 48) (by decide) dX7_kindOf_99 ?_
      refine jr_goto hm (tgt := 109) dX7_kindOf_101 (by decide) ?_
      exact jr_ireturn hm rfl dX7_kindOf_109 hp
    · rw [if_neg q] at h
      exact absurd (nI_le (a := 0) (by omega) (by omega)) h
def jof (k : Nat) : Nat := ([0, 5, 11, 16, 21, 24, 31, 36, 42, 47, 53, 58, 66, 69, 75, 78, 83, 89, 94, 99, 104, 113, 118, 123, 133, 140, 144, 148, 151, 155, 159] : List Nat).getD k 0
theorem jof_ok : ∀ k, k < 30 → (jof (k + 1) = jof k + jn_len.getD (k + 23) 0 + 1 ∧ jof (k + 1) ≤ 159 ∧ jtx 0 (jof k + jn_len.getD (k + 23) 0) = 32 ∧ ∀ j, j < jn_len.getD (k + 23) 0 → (jtx 0 (jof k + j) = jtx (k + 23) j ∧ ¬ jtx (k + 23) j = 32)) := by decide +kernel
theorem jkey_len : ∀ k, k < 30 → jn_len.getD (k + 23) 0 ≤ 9 := by decide +kernel
/-- the j signs from a on are the first of text i -/
def jalB (s : Nat → Nat) (a i j : Nat) : Bool := (List.range j).all (fun k => decide (nI (s (a + k)) = jtx i k))
theorem jalB_succ {s : Nat → Nat} {a i j : Nat} : jalB s a i (j + 1) = (jalB s a i j && decide (nI (s (a + j)) = jtx i j)) := by
  unfold jalB
  rw [List.range_succ, List.all_append]
  simp
theorem jmtB_all {s : Nat → Nat} {a n i : Nat} : jmtB s a n i = (decide (n = jn_len.getD i 0) && jalB s a i n) := rfl
theorem jc1_tx {s : Nat → Nat} {L : Nat} (h : jTS s L) {p i j : Nat} (hi : i < 53) (hj : j < jn_len.getD i 0) : jc1 (s p) = jtx i j ↔ nI (s p) = jtx i j := by
  obtain ⟨y, hy, e⟩ := jtx_c (by omega) hj
  have hs : s p ≤ 300 := by
    rcases Nat.lt_or_ge p L with q | q
    · have := h.2.1 p q
      omega
    · rw [h.2.2 p q]
      omega
  rw [e, jc1_eq (by omega), nI_eqi (by omega) (by omega)]
theorem l_wk {C : JC} {s : Nat → Nat} {L : Nat} {w : JW} (h : jC1 s L w) (hm : jok C MX7_wordKind 4 0 0) {a e : Nat} (hae : a ≤ e) (he : e ≤ L) : ∀ m k : Nat, m + k = 30 → jW C 0 0 (jQQ C 0 0 (fun v w' => v = jI (nI (jkw s a (e - a) m k)) ∧ w' = w)) 11 [jR 1 false, jI (nI a), jI (nI e), jI (nI k), jI (nI a), jI 1, jI (nI (jof k)), jU] [] w := by
  have hL := h.1.1
  intro m
  induction m with
  | zero =>
    intro k hk
    obtain rfl : k = 30 := by omega
    refine bk_X7_wordKind_11 hm ?_
    refine jr_ldcS hm 0 (by omega) rfl rfl dX7_wordKind_13 ?_
    refine jr_callK (mc := 0) (ms := 0) (i := 0) (as := []) hm (by omega) (c_slength w (i := 0) (by omega)) (by omega) jw_1128 jw_839 jw_840 jw_59 jw_841 jn_J0_length_8abf5 rfl rfl rfl (Nat.le_of_ble_eq_true rfl) rfl dX7_wordKind_15 (jkF ?_)
    refine jr_icmp_ge hm (tgt := 94) dX7_wordKind_18 (by decide) (fun _ => ?_) (fun q => absurd (by decide) q)
    refine jr_bipush hm (v := 30) (by decide) dX7_wordKind_94 ?_
    exact jr_ireturn hm rfl dX7_wordKind_96 ⟨rfl, rfl⟩
  | succ m ih =>
    intro k hk
    obtain ⟨o1, o2, o3, o4⟩ := jof_ok k (by omega)
    have hle := jkey_len k (by omega)
    have hlen := (jn_lens (k + 23) (by omega)).1
    have next : ∀ (x1 x2 x3 : Int32), ¬ jmtB s a (e - a) (k + 23) = true → jW C 0 0 (jQQ C 0 0 (fun v w' => v = jI (nI (jkw s a (e - a) (m + 1) k)) ∧ w' = w)) 79 [jR 1 false, jI (nI a), jI (nI e), jI (nI k), jI x1, jI x2, jI (nI (jof k + jn_len.getD (k + 23) 0)), jI x3] [] w := by
      intro x1 x2 x3 q
      refine jr_iinc hm (i := 3) rfl (nI_inc _) rfl dX7_wordKind_79 ?_
      refine jr_iload_n hm (i := 1) rfl rfl dX7_wordKind_82 ?_
      refine jr_istore hm (i := 4) (Nat.le_of_ble_eq_true rfl) rfl dX7_wordKind_83 ?_
      refine jr_iconst hm (v := 1) (by decide) dX7_wordKind_85 ?_
      refine jr_istore hm (i := 5) (Nat.le_of_ble_eq_true rfl) rfl dX7_wordKind_86 ?_
      refine jr_iinc hm (i := 6) rfl (nI_inc _) rfl dX7_wordKind_88 ?_
      refine jr_goto hm (tgt := 11) dX7_wordKind_91 (by decide) ?_
      rw [jkw, if_neg q]
      have := ih (k + 1) (by omega)
      rw [o1] at this
      exact jr_drop (jle_same (jle_same (jle_same (jle_same (jle_same (jle_same (jle_same (jle_drop jle_nil)))))))) this
    have inner : ∀ q j : Nat, j + q = jn_len.getD (k + 23) 0 → jW C 0 0 (jQQ C 0 0 (fun v w' => v = jI (nI (jkw s a (e - a) (m + 1) k)) ∧ w' = w)) 11 [jR 1 false, jI (nI a), jI (nI e), jI (nI k), jI (nI (a + j)), jI (if jalB s a (k + 23) j = true then 1 else 0), jI (nI (jof k + j)), jU] [] w := by
      intro q
      induction q with
      | zero =>
        intro j hj
        have ej : j = jn_len.getD (k + 23) 0 := by omega
        have hlt : jof k + j < jn_len.getD 0 0 := by
          rw [show jn_len.getD 0 0 = 159 from rfl]
          omega
        refine bk_X7_wordKind_11 hm ?_
        refine jr_ldcS hm 0 (by omega) rfl rfl dX7_wordKind_13 ?_
        refine jr_callK (mc := 0) (ms := 0) (i := 0) (as := []) hm (by omega) (c_slength w (i := 0) (by omega)) (by omega) jw_1128 jw_839 jw_840 jw_59 jw_841 jn_J0_length_8abf5 rfl rfl rfl (Nat.le_of_ble_eq_true rfl) rfl dX7_wordKind_15 (jkF ?_)
        refine jr_icmp_ge hm (tgt := 94) dX7_wordKind_18 (by decide) (fun z => absurd z (nI_ge hlt (by decide))) (fun _ => ?_)
        refine jr_ldcS hm 0 (by omega) rfl rfl dX7_wordKind_21 ?_
        refine jr_iload hm (i := 6) rfl dX7_wordKind_23 ?_
        refine jr_callK (mc := 0) (ms := 0) (i := 0) (as := [jI (nI (jof k + j))]) (st := []) hm (by omega) (c_charAt w (i := 0) (by omega) hlt) (by omega) jw_1129 jw_1038 jw_1039 jw_59 jw_1040 jn_J0_charAt_5068e rfl rfl rfl (Nat.le_of_ble_eq_true rfl) rfl dX7_wordKind_25 (jkF ?_)
        rw [ej, o3]
        refine jr_istore hm (i := 7) (Nat.le_of_ble_eq_true rfl) rfl dX7_wordKind_28 ?_
        refine jr_iload hm (i := 7) rfl dX7_wordKind_30 ?_
        refine jr_bipush hm (v := 32) (by decide) dX7_wordKind_32 ?_
        refine jr_icmp_eq hm (tgt := 66) dX7_wordKind_34 (by decide) (fun _ => ?_) (fun z => absurd rfl z)
        refine jr_iload hm (i := 5) rfl dX7_wordKind_66 ?_
        refine jr_if_eq hm (tgt := 79) dX7_wordKind_68 (by decide) (fun z => ?_) (fun z => ?_)
        · rw [jif0] at z
          refine next _ _ _ (fun y => z ?_)
          rw [jmtB_all, Bool.and_eq_true, decide_eq_true_eq] at y
          rw [← y.1]
          exact y.2
        · rw [jif0, Decidable.not_not] at z
          refine jr_iload hm (i := 4) rfl dX7_wordKind_71 ?_
          refine jr_iload_n hm (i := 2) rfl rfl dX7_wordKind_73 ?_
          refine jr_icmp_ne hm (tgt := 79) dX7_wordKind_74 (by decide) (fun y => ?_) (fun y => ?_)
          · refine next _ _ _ (fun x => y ?_)
            rw [jmtB_all, Bool.and_eq_true, decide_eq_true_eq] at x
            rw [← x.1, show a + (e - a) = e by omega]
          · rw [nI_eqi (by omega) (by omega)] at y
            have ht : jmtB s a (e - a) (k + 23) = true := by
              rw [jmtB_all, Bool.and_eq_true, decide_eq_true_eq]
              have : e - a = jn_len.getD (k + 23) 0 := by omega
              rw [this]
              exact ⟨rfl, z⟩
            rw [jkw, if_pos ht]
            refine jr_iload_n hm (i := 3) rfl rfl dX7_wordKind_77 ?_
            exact jr_ireturn hm rfl dX7_wordKind_78 ⟨rfl, rfl⟩
      | succ q ihq =>
        intro j hj
        have hjl : j < jn_len.getD (k + 23) 0 := by omega
        obtain ⟨p1, p2⟩ := o4 j hjl
        have hlt : jof k + j < jn_len.getD 0 0 := by
          rw [show jn_len.getD 0 0 = 159 from rfl]
          omega
        have step : ∀ x : Int32, x = (if jalB s a (k + 23) (j + 1) = true then 1 else 0) → ∀ x5 : Int32, jW C 0 0 (jQQ C 0 0 (fun v w' => v = jI (nI (jkw s a (e - a) (m + 1) k)) ∧ w' = w)) 58 [jR 1 false, jI (nI a), jI (nI e), jI (nI k), jI (nI (a + j)), jI x5, jI (nI (jof k + j)), jI (jtx (k + 23) j)] [jI x] w := by
          intro x hx x5
          refine jr_istore hm (i := 5) (Nat.le_of_ble_eq_true rfl) rfl dX7_wordKind_58 ?_
          refine jr_iinc hm (i := 4) rfl (nI_inc _) rfl dX7_wordKind_60 ?_
          refine jr_goto hm (tgt := 88) dX7_wordKind_63 (by decide) ?_
          refine jr_iinc hm (i := 6) rfl (nI_inc _) rfl dX7_wordKind_88 ?_
          refine jr_goto hm (tgt := 11) dX7_wordKind_91 (by decide) ?_
          rw [hx]
          exact jr_drop (jle_same (jle_same (jle_same (jle_same (jle_same (jle_same (jle_same (jle_drop jle_nil)))))))) (ihq (j + 1) (by omega))
        refine bk_X7_wordKind_11 hm ?_
        refine jr_ldcS hm 0 (by omega) rfl rfl dX7_wordKind_13 ?_
        refine jr_callK (mc := 0) (ms := 0) (i := 0) (as := []) hm (by omega) (c_slength w (i := 0) (by omega)) (by omega) jw_1128 jw_839 jw_840 jw_59 jw_841 jn_J0_length_8abf5 rfl rfl rfl (Nat.le_of_ble_eq_true rfl) rfl dX7_wordKind_15 (jkF ?_)
        refine jr_icmp_ge hm (tgt := 94) dX7_wordKind_18 (by decide) (fun z => absurd z (nI_ge hlt (by decide))) (fun _ => ?_)
        refine jr_ldcS hm 0 (by omega) rfl rfl dX7_wordKind_21 ?_
        refine jr_iload hm (i := 6) rfl dX7_wordKind_23 ?_
        refine jr_callK (mc := 0) (ms := 0) (i := 0) (as := [jI (nI (jof k + j))]) (st := []) hm (by omega) (c_charAt w (i := 0) (by omega) hlt) (by omega) jw_1129 jw_1038 jw_1039 jw_59 jw_1040 jn_J0_charAt_5068e rfl rfl rfl (Nat.le_of_ble_eq_true rfl) rfl dX7_wordKind_25 (jkF ?_)
        rw [p1]
        refine jr_istore hm (i := 7) (Nat.le_of_ble_eq_true rfl) rfl dX7_wordKind_28 ?_
        refine jr_iload hm (i := 7) rfl dX7_wordKind_30 ?_
        refine jr_bipush hm (v := 32) (by decide) dX7_wordKind_32 ?_
        refine jr_icmp_eq hm (tgt := 66) dX7_wordKind_34 (by decide) (fun z => absurd z p2) (fun _ => ?_)
        refine jr_iload hm (i := 5) rfl dX7_wordKind_37 ?_
        refine jr_if_eq hm (tgt := 57) dX7_wordKind_39 (by decide) (fun z => ?_) (fun z => ?_)
        · rw [jif0] at z
          refine jr_iconst hm (v := 0) (by decide) dX7_wordKind_57 ?_
          refine step 0 ?_ _
          rw [if_neg]
          intro y
          rw [jalB_succ, Bool.and_eq_true] at y
          exact z y.1
        · rw [jif0, Decidable.not_not] at z
          refine jr_aload_n hm (i := 0) rfl rfl dX7_wordKind_42 ?_
          refine jr_iload hm (i := 4) rfl dX7_wordKind_43 ?_
          refine jr_callV (mc := 0) (ms := 0) (as := [jI (nI (a + j))]) (st := []) hm (c_byteAt h (i := a + j) (by omega)) (by omega) jw_1105 jw_1106 jw_1107 jw_48 jw_1108 jn_X6_byteAt rfl jo_1 (fun _ _ _ _ _ => ⟨_, rfl⟩) rfl rfl (Nat.le_of_ble_eq_true rfl) rfl dX7_wordKind_45 (jkF ?_)
          refine jr_iload hm (i := 7) rfl dX7_wordKind_48 ?_
          refine jr_icmp_ne hm (tgt := 57) dX7_wordKind_50 (by decide) (fun y => ?_) (fun y => ?_)
          · refine jr_iconst hm (v := 0) (by decide) dX7_wordKind_57 ?_
            refine step 0 ?_ _
            rw [if_neg]
            intro x
            rw [jalB_succ, Bool.and_eq_true, decide_eq_true_eq] at x
            exact y ((jc1_tx h.1 (by omega) hjl).mpr x.2)
          · refine jr_iconst hm (v := 1) (by decide) dX7_wordKind_53 ?_
            refine jr_goto hm (tgt := 58) dX7_wordKind_54 (by decide) ?_
            refine step 1 ?_ _
            rw [if_pos]
            rw [jalB_succ, Bool.and_eq_true, decide_eq_true_eq]
            exact ⟨z, (jc1_tx h.1 (by omega) hjl).mp y⟩
    exact inner (jn_len.getD (k + 23) 0) 0 (Nat.zero_add _)
theorem c_wordKind {s : Nat → Nat} {L : Nat} {w : JW} (h : jC1 s L w) {a e : Nat} (hae : a ≤ e) (he : e ≤ L) : jF MX7_wordKind 4 [jR 1 false, jI (nI a), jI (nI e)] w (jI (nI (jkw s a (e - a) 30 0))) w := by
  refine jF_of jp_X7_wordKind rfl (Nat.le_of_ble_eq_true rfl) (fun C hm => ?_)
  exact bk_X7_wordKind_0 hm (l_wk h hm hae he 30 0 rfl)

