theorem dX9_feed_0 : decode cX9_feed 0 = .ok (.aload_n 0, 1) := by decide +kernel
theorem dX9_feed_1 : decode cX9_feed 1 = .ok (.getfield 10, 3) := by decide +kernel
theorem dX9_feed_4 : decode cX9_feed 4 = .ok (.bipush 20, 2) := by decide +kernel
theorem dX9_feed_6 : decode cX9_feed 6 = .ok (.invokevirtual 60, 3) := by decide +kernel
theorem dX9_feed_9 : decode cX9_feed 9 = .ok (.ifCond .ne 13, 3) := by decide +kernel
theorem dX9_feed_12 : decode cX9_feed 12 = .ok (.new 64, 3) := by decide +kernel
theorem dX9_feed_15 : decode cX9_feed 15 = .ok (.dup, 1) := by decide +kernel
theorem dX9_feed_16 : decode cX9_feed 16 = .ok (.ldc 66, 2) := by decide +kernel
theorem dX9_feed_18 : decode cX9_feed 18 = .ok (.invokespecial 68, 3) := by decide +kernel
theorem dX9_feed_21 : decode cX9_feed 21 = .ok (.athrow, 1) := by decide +kernel
theorem dX9_feed_22 : decode cX9_feed 22 = .ok (.aload_n 0, 1) := by decide +kernel
theorem dX9_feed_23 : decode cX9_feed 23 = .ok (.getfield 10, 3) := by decide +kernel
theorem dX9_feed_26 : decode cX9_feed 26 = .ok (.iload_n 1, 1) := by decide +kernel
theorem dX9_feed_27 : decode cX9_feed 27 = .ok (.invokevirtual 71, 3) := by decide +kernel
theorem dX9_feed_30 : decode cX9_feed 30 = .ok (.aload_n 0, 1) := by decide +kernel
theorem dX9_feed_31 : decode cX9_feed 31 = .ok (.getfield 10, 3) := by decide +kernel
theorem dX9_feed_34 : decode cX9_feed 34 = .ok (.iload_n 2, 1) := by decide +kernel
theorem dX9_feed_35 : decode cX9_feed 35 = .ok (.invokevirtual 71, 3) := by decide +kernel
theorem dX9_feed_38 : decode cX9_feed 38 = .ok (.aload_n 0, 1) := by decide +kernel
theorem dX9_feed_39 : decode cX9_feed 39 = .ok (.getfield 10, 3) := by decide +kernel
theorem dX9_feed_42 : decode cX9_feed 42 = .ok (.iload_n 3, 1) := by decide +kernel
theorem dX9_feed_43 : decode cX9_feed 43 = .ok (.invokevirtual 71, 3) := by decide +kernel
theorem dX9_feed_46 : decode cX9_feed 46 = .ok (.aload_n 0, 1) := by decide +kernel
theorem dX9_feed_47 : decode cX9_feed 47 = .ok (.getfield 10, 3) := by decide +kernel
theorem dX9_feed_50 : decode cX9_feed 50 = .ok (.iload 4, 2) := by decide +kernel
theorem dX9_feed_52 : decode cX9_feed 52 = .ok (.invokevirtual 71, 3) := by decide +kernel
theorem dX9_feed_55 : decode cX9_feed 55 = .ok (.aload_n 0, 1) := by decide +kernel
theorem dX9_feed_56 : decode cX9_feed 56 = .ok (.getfield 10, 3) := by decide +kernel
theorem dX9_feed_59 : decode cX9_feed 59 = .ok (.iload 5, 2) := by decide +kernel
theorem dX9_feed_61 : decode cX9_feed 61 = .ok (.invokevirtual 71, 3) := by decide +kernel
theorem dX9_feed_64 : decode cX9_feed 64 = .ok (.aload_n 0, 1) := by decide +kernel
theorem dX9_feed_65 : decode cX9_feed 65 = .ok (.getfield 10, 3) := by decide +kernel
theorem dX9_feed_68 : decode cX9_feed 68 = .ok (.getfield 75, 3) := by decide +kernel
theorem dX9_feed_71 : decode cX9_feed 71 = .ok (.ireturn, 1) := by decide +kernel
theorem bk_X9_feed_0 {C : JC} {d cl sl : Nat} {Q : State → Prop} {w : JW} {x1 : Int32} {x2 : Int32} {x3 : Int32} {x4 : Int32} {x5 : Int32} {d2 : Nat} {r : Int32} {w2 : JW} (hm : jok C MX9_feed d cl sl) (hs : jF MX6_hasRoomFor d2 [jR 1 false, jI 20] w (jI r) w2) (hd2 : d2 + 1 ≤ d) (k : jW C cl sl Q 9 [jR 0 false, jI x1, jI x2, jI x3, jI x4, jI x5] [jI r] w2) : jW C cl sl Q 0 [jR 0 false, jI x1, jI x2, jI x3, jI x4, jI x5] [] w := jr_aload_n hm (i := 0) rfl rfl dX9_feed_0 (fg_X9_10 hm dX9_feed_1 (jr_bipush hm (v := 20) (by decide) dX9_feed_4 (jr_callV (mc := 0) (ms := 0) hm hs hd2 jw_1061 jw_1062 jw_1063 jw_48 jw_1064 jn_X6_hasRoomFor rfl jo_1 (fun _ _ _ _ _ => ⟨_, rfl⟩) rfl rfl (Nat.le_of_ble_eq_true rfl) rfl dX9_feed_6 (jkF (jr_drop (jle_same (jle_same (jle_same (jle_same (jle_same (jle_same jle_nil)))))) k)))))
theorem bk_X9_feed_9 {C : JC} {d cl sl : Nat} {Q : State → Prop} {w : JW} {x1 : Int32} {x2 : Int32} {x3 : Int32} {x4 : Int32} {x5 : Int32} {xs0 : Int32} (hm : jok C MX9_feed d cl sl) (kt : ¬ xs0 = 0 → jW C cl sl Q 22 [jR 0 false, jI x1, jI x2, jI x3, jI x4, jI x5] [] w) (kf : xs0 = 0 → jW C cl sl Q 12 [jU, jU, jU, jU, jU, jU] [] w) : jW C cl sl Q 9 [jR 0 false, jI x1, jI x2, jI x3, jI x4, jI x5] [jI xs0] w := jr_if_ne hm dX9_feed_9 (by decide) (fun h => jr_drop (jle_same (jle_same (jle_same (jle_same (jle_same (jle_same jle_nil)))))) (kt h)) (fun h => jr_drop (jle_drop (jle_drop (jle_drop (jle_drop (jle_drop (jle_drop jle_nil)))))) (kf h))
theorem bk_X9_feed_22 {C : JC} {d cl sl : Nat} {Q : State → Prop} {w : JW} {x1 : Int32} {x2 : Int32} {x3 : Int32} {x4 : Int32} {x5 : Int32} {d2 : Nat} {w2 : JW} (hm : jok C MX9_feed d cl sl) (hs : jF MX6_append d2 [jR 1 false, jI x1] w (jU) w2) (hd2 : d2 + 1 ≤ d) (k : jW C cl sl Q 30 [jR 0 false, jU, jI x2, jI x3, jI x4, jI x5] [] w2) : jW C cl sl Q 22 [jR 0 false, jI x1, jI x2, jI x3, jI x4, jI x5] [] w := jr_aload_n hm (i := 0) rfl rfl dX9_feed_22 (fg_X9_10 hm dX9_feed_23 (jr_iload_n hm (i := 1) rfl rfl dX9_feed_26 (jr_callV (mc := 0) (ms := 0) hm hs hd2 jw_1081 jw_1082 jw_1083 jw_48 jw_1084 jn_X6_append rfl jo_1 (fun _ _ _ _ _ => ⟨_, rfl⟩) rfl rfl (Nat.le_of_ble_eq_true rfl) rfl dX9_feed_27 (jkF (jr_drop (jle_same (jle_drop (jle_same (jle_same (jle_same (jle_same jle_nil)))))) k)))))
theorem bk_X9_feed_30 {C : JC} {d cl sl : Nat} {Q : State → Prop} {w : JW} {x2 : Int32} {x3 : Int32} {x4 : Int32} {x5 : Int32} {d2 : Nat} {w2 : JW} (hm : jok C MX9_feed d cl sl) (hs : jF MX6_append d2 [jR 1 false, jI x2] w (jU) w2) (hd2 : d2 + 1 ≤ d) (k : jW C cl sl Q 38 [jR 0 false, jU, jU, jI x3, jI x4, jI x5] [] w2) : jW C cl sl Q 30 [jR 0 false, jU, jI x2, jI x3, jI x4, jI x5] [] w := jr_aload_n hm (i := 0) rfl rfl dX9_feed_30 (fg_X9_10 hm dX9_feed_31 (jr_iload_n hm (i := 2) rfl rfl dX9_feed_34 (jr_callV (mc := 0) (ms := 0) hm hs hd2 jw_1081 jw_1082 jw_1083 jw_48 jw_1084 jn_X6_append rfl jo_1 (fun _ _ _ _ _ => ⟨_, rfl⟩) rfl rfl (Nat.le_of_ble_eq_true rfl) rfl dX9_feed_35 (jkF (jr_drop (jle_same (jle_same (jle_drop (jle_same (jle_same (jle_same jle_nil)))))) k)))))
theorem bk_X9_feed_38 {C : JC} {d cl sl : Nat} {Q : State → Prop} {w : JW} {x3 : Int32} {x4 : Int32} {x5 : Int32} {d2 : Nat} {w2 : JW} (hm : jok C MX9_feed d cl sl) (hs : jF MX6_append d2 [jR 1 false, jI x3] w (jU) w2) (hd2 : d2 + 1 ≤ d) (k : jW C cl sl Q 46 [jR 0 false, jU, jU, jU, jI x4, jI x5] [] w2) : jW C cl sl Q 38 [jR 0 false, jU, jU, jI x3, jI x4, jI x5] [] w := jr_aload_n hm (i := 0) rfl rfl dX9_feed_38 (fg_X9_10 hm dX9_feed_39 (jr_iload_n hm (i := 3) rfl rfl dX9_feed_42 (jr_callV (mc := 0) (ms := 0) hm hs hd2 jw_1081 jw_1082 jw_1083 jw_48 jw_1084 jn_X6_append rfl jo_1 (fun _ _ _ _ _ => ⟨_, rfl⟩) rfl rfl (Nat.le_of_ble_eq_true rfl) rfl dX9_feed_43 (jkF (jr_drop (jle_same (jle_same (jle_same (jle_drop (jle_same (jle_same jle_nil)))))) k)))))
theorem bk_X9_feed_46 {C : JC} {d cl sl : Nat} {Q : State → Prop} {w : JW} {x4 : Int32} {x5 : Int32} {d2 : Nat} {w2 : JW} (hm : jok C MX9_feed d cl sl) (hs : jF MX6_append d2 [jR 1 false, jI x4] w (jU) w2) (hd2 : d2 + 1 ≤ d) (k : jW C cl sl Q 55 [jR 0 false, jU, jU, jU, jU, jI x5] [] w2) : jW C cl sl Q 46 [jR 0 false, jU, jU, jU, jI x4, jI x5] [] w := jr_aload_n hm (i := 0) rfl rfl dX9_feed_46 (fg_X9_10 hm dX9_feed_47 (jr_iload hm (i := 4) rfl dX9_feed_50 (jr_callV (mc := 0) (ms := 0) hm hs hd2 jw_1081 jw_1082 jw_1083 jw_48 jw_1084 jn_X6_append rfl jo_1 (fun _ _ _ _ _ => ⟨_, rfl⟩) rfl rfl (Nat.le_of_ble_eq_true rfl) rfl dX9_feed_52 (jkF (jr_drop (jle_same (jle_same (jle_same (jle_same (jle_drop (jle_same jle_nil)))))) k)))))
theorem bk_X9_feed_55 {C : JC} {d cl sl : Nat} {Q : State → Prop} {w : JW} {x5 : Int32} {d2 : Nat} {w2 : JW} (hm : jok C MX9_feed d cl sl) (hs : jF MX6_append d2 [jR 1 false, jI x5] w (jU) w2) (hd2 : d2 + 1 ≤ d) (k : jW C cl sl Q 64 [jR 0 false, jU, jU, jU, jU, jU] [] w2) : jW C cl sl Q 55 [jR 0 false, jU, jU, jU, jU, jI x5] [] w := jr_aload_n hm (i := 0) rfl rfl dX9_feed_55 (fg_X9_10 hm dX9_feed_56 (jr_iload hm (i := 5) rfl dX9_feed_59 (jr_callV (mc := 0) (ms := 0) hm hs hd2 jw_1081 jw_1082 jw_1083 jw_48 jw_1084 jn_X6_append rfl jo_1 (fun _ _ _ _ _ => ⟨_, rfl⟩) rfl rfl (Nat.le_of_ble_eq_true rfl) rfl dX9_feed_61 (jkF (jr_drop (jle_same (jle_same (jle_same (jle_same (jle_same (jle_drop jle_nil)))))) k)))))
theorem bk_X9_feed_64 {C : JC} {d cl sl : Nat} {w : JW} {P : JV → JW → Prop} (hm : jok C MX9_feed d cl sl) (hp : P (jI (w.1 1 false 1)) w) : jW C cl sl (jQQ C cl sl P) 64 [jR 0 false, jU, jU, jU, jU, jU] [] w := jr_aload_n hm (i := 0) rfl rfl dX9_feed_64 (fg_X9_10 hm dX9_feed_65 (fg_X9_75 hm dX9_feed_68 (jr_ireturn hm rfl dX9_feed_71 hp)))
theorem dX9_trim_0 : decode cX9_trim 0 = .ok (.iload_n 1, 1) := by decide +kernel
theorem dX9_trim_1 : decode cX9_trim 1 = .ok (.ifCond .lt 14, 3) := by decide +kernel
theorem dX9_trim_4 : decode cX9_trim 4 = .ok (.iload_n 1, 1) := by decide +kernel
theorem dX9_trim_5 : decode cX9_trim 5 = .ok (.aload_n 0, 1) := by decide +kernel
theorem dX9_trim_6 : decode cX9_trim 6 = .ok (.getfield 10, 3) := by decide +kernel
theorem dX9_trim_9 : decode cX9_trim 9 = .ok (.getfield 75, 3) := by decide +kernel
theorem dX9_trim_12 : decode cX9_trim 12 = .ok (.if_icmp .le 13, 3) := by decide +kernel
theorem dX9_trim_15 : decode cX9_trim 15 = .ok (.new 78, 3) := by decide +kernel
theorem dX9_trim_18 : decode cX9_trim 18 = .ok (.dup, 1) := by decide +kernel
theorem dX9_trim_19 : decode cX9_trim 19 = .ok (.ldc 80, 2) := by decide +kernel
theorem dX9_trim_21 : decode cX9_trim 21 = .ok (.invokespecial 82, 3) := by decide +kernel
theorem dX9_trim_24 : decode cX9_trim 24 = .ok (.athrow, 1) := by decide +kernel
theorem dX9_trim_25 : decode cX9_trim 25 = .ok (.aload_n 0, 1) := by decide +kernel
theorem dX9_trim_26 : decode cX9_trim 26 = .ok (.getfield 10, 3) := by decide +kernel
theorem dX9_trim_29 : decode cX9_trim 29 = .ok (.iload_n 1, 1) := by decide +kernel
theorem dX9_trim_30 : decode cX9_trim 30 = .ok (.invokevirtual 83, 3) := by decide +kernel
theorem dX9_trim_33 : decode cX9_trim 33 = .ok (.iload_n 1, 1) := by decide +kernel
theorem dX9_trim_34 : decode cX9_trim 34 = .ok (.ireturn, 1) := by decide +kernel
theorem bk_X9_trim_0 {C : JC} {d cl sl : Nat} {Q : State → Prop} {w : JW} {x1 : Int32} (hm : jok C MX9_trim d cl sl) (kt : x1 < 0 → jW C cl sl Q 15 [jU, jU] [] w) (kf : ¬ x1 < 0 → jW C cl sl Q 4 [jR 0 false, jI x1] [] w) : jW C cl sl Q 0 [jR 0 false, jI x1] [] w := jr_iload_n hm (i := 1) rfl rfl dX9_trim_0 (jr_if_lt hm dX9_trim_1 (by decide) (fun h => jr_drop (jle_drop (jle_drop jle_nil)) (kt h)) (fun h => jr_drop (jle_same (jle_same jle_nil)) (kf h)))
theorem bk_X9_trim_4 {C : JC} {d cl sl : Nat} {Q : State → Prop} {w : JW} {x1 : Int32} (hm : jok C MX9_trim d cl sl) (kt : x1 ≤ (w.1 1 false 1) → jW C cl sl Q 25 [jR 0 false, jI x1] [] w) (kf : ¬ x1 ≤ (w.1 1 false 1) → jW C cl sl Q 15 [jU, jU] [] w) : jW C cl sl Q 4 [jR 0 false, jI x1] [] w := jr_iload_n hm (i := 1) rfl rfl dX9_trim_4 (jr_aload_n hm (i := 0) rfl rfl dX9_trim_5 (fg_X9_10 hm dX9_trim_6 (fg_X9_75 hm dX9_trim_9 (jr_icmp_le hm dX9_trim_12 (by decide) (fun h => jr_drop (jle_same (jle_same jle_nil)) (kt h)) (fun h => jr_drop (jle_drop (jle_drop jle_nil)) (kf h))))))
theorem bk_X9_trim_25 {C : JC} {d cl sl : Nat} {Q : State → Prop} {w : JW} {x1 : Int32} {d2 : Nat} {w2 : JW} (hm : jok C MX9_trim d cl sl) (hs : jF MX6_shorten d2 [jR 1 false, jI x1] w (jU) w2) (hd2 : d2 + 1 ≤ d) (k : jW C cl sl Q 33 [jU, jI x1] [] w2) : jW C cl sl Q 25 [jR 0 false, jI x1] [] w := jr_aload_n hm (i := 0) rfl rfl dX9_trim_25 (fg_X9_10 hm dX9_trim_26 (jr_iload_n hm (i := 1) rfl rfl dX9_trim_29 (jr_callV (mc := 0) (ms := 0) hm hs hd2 jw_1090 jw_1091 jw_1092 jw_48 jw_1093 jn_X6_shorten rfl jo_1 (fun _ _ _ _ _ => ⟨_, rfl⟩) rfl rfl (Nat.le_of_ble_eq_true rfl) rfl dX9_trim_30 (jkF (jr_drop (jle_drop (jle_same jle_nil)) k)))))
theorem bk_X9_trim_33 {C : JC} {d cl sl : Nat} {w : JW} {x1 : Int32} {P : JV → JW → Prop} (hm : jok C MX9_trim d cl sl) (hp : P (jI x1) w) : jW C cl sl (jQQ C cl sl P) 33 [jU, jI x1] [] w := jr_iload_n hm (i := 1) rfl rfl dX9_trim_33 (jr_ireturn hm rfl dX9_trim_34 hp)
theorem dX9_teach_0 : decode cX9_teach 0 = .ok (.aload_n 0, 1) := by decide +kernel
theorem dX9_teach_1 : decode cX9_teach 1 = .ok (.getfield 19, 3) := by decide +kernel
theorem dX9_teach_4 : decode cX9_teach 4 = .ok (.aload_n 0, 1) := by decide +kernel
theorem dX9_teach_5 : decode cX9_teach 5 = .ok (.getfield 10, 3) := by decide +kernel
theorem dX9_teach_8 : decode cX9_teach 8 = .ok (.invokevirtual 86, 3) := by decide +kernel
theorem dX9_teach_11 : decode cX9_teach 11 = .ok (.aload_n 0, 1) := by decide +kernel
theorem dX9_teach_12 : decode cX9_teach 12 = .ok (.getfield 10, 3) := by decide +kernel
theorem dX9_teach_15 : decode cX9_teach 15 = .ok (.iconst 0, 1) := by decide +kernel
theorem dX9_teach_16 : decode cX9_teach 16 = .ok (.invokevirtual 83, 3) := by decide +kernel
theorem dX9_teach_19 : decode cX9_teach 19 = .ok (.aload_n 0, 1) := by decide +kernel
theorem dX9_teach_20 : decode cX9_teach 20 = .ok (.getfield 28, 3) := by decide +kernel
theorem dX9_teach_23 : decode cX9_teach 23 = .ok (.invokevirtual 90, 3) := by decide +kernel
theorem dX9_teach_26 : decode cX9_teach 26 = .ok (.istore_n 1, 1) := by decide +kernel
theorem dX9_teach_27 : decode cX9_teach 27 = .ok (.iload_n 1, 1) := by decide +kernel
theorem dX9_teach_28 : decode cX9_teach 28 = .ok (.ifCond .eq 23, 3) := by decide +kernel
theorem dX9_teach_31 : decode cX9_teach 31 = .ok (.aload_n 0, 1) := by decide +kernel
theorem dX9_teach_32 : decode cX9_teach 32 = .ok (.aload_n 0, 1) := by decide +kernel
theorem dX9_teach_33 : decode cX9_teach 33 = .ok (.getfield 19, 3) := by decide +kernel
theorem dX9_teach_36 : decode cX9_teach 36 = .ok (.aload_n 0, 1) := by decide +kernel
theorem dX9_teach_37 : decode cX9_teach 37 = .ok (.getfield 28, 3) := by decide +kernel
theorem dX9_teach_40 : decode cX9_teach 40 = .ok (.getfield 94, 3) := by decide +kernel
theorem dX9_teach_43 : decode cX9_teach 43 = .ok (.invokevirtual 97, 3) := by decide +kernel
theorem dX9_teach_46 : decode cX9_teach 46 = .ok (.putfield 56, 3) := by decide +kernel
theorem dX9_teach_49 : decode cX9_teach 49 = .ok (.iload_n 1, 1) := by decide +kernel
theorem dX9_teach_50 : decode cX9_teach 50 = .ok (.ireturn, 1) := by decide +kernel
theorem dX9_teach_51 : decode cX9_teach 51 = .ok (.aload_n 0, 1) := by decide +kernel
theorem dX9_teach_52 : decode cX9_teach 52 = .ok (.iconst (-1), 1) := by decide +kernel
theorem dX9_teach_53 : decode cX9_teach 53 = .ok (.putfield 56, 3) := by decide +kernel
theorem dX9_teach_56 : decode cX9_teach 56 = .ok (.aload_n 0, 1) := by decide +kernel
theorem dX9_teach_57 : decode cX9_teach 57 = .ok (.aload_n 0, 1) := by decide +kernel
theorem dX9_teach_58 : decode cX9_teach 58 = .ok (.getfield 28, 3) := by decide +kernel
theorem dX9_teach_61 : decode cX9_teach 61 = .ok (.aload_n 0, 1) := by decide +kernel
theorem dX9_teach_62 : decode cX9_teach 62 = .ok (.getfield 52, 3) := by decide +kernel
theorem dX9_teach_65 : decode cX9_teach 65 = .ok (.invokevirtual 101, 3) := by decide +kernel
theorem dX9_teach_68 : decode cX9_teach 68 = .ok (.putfield 52, 3) := by decide +kernel
theorem dX9_teach_71 : decode cX9_teach 71 = .ok (.aload_n 0, 1) := by decide +kernel
theorem dX9_teach_72 : decode cX9_teach 72 = .ok (.getfield 42, 3) := by decide +kernel
theorem dX9_teach_75 : decode cX9_teach 75 = .ok (.invokevirtual 105, 3) := by decide +kernel
theorem dX9_teach_78 : decode cX9_teach 78 = .ok (.iconst 0, 1) := by decide +kernel
theorem dX9_teach_79 : decode cX9_teach 79 = .ok (.ireturn, 1) := by decide +kernel
theorem bk_X9_teach_0 {C : JC} {d cl sl : Nat} {Q : State → Prop} {w : JW} {d2 : Nat} {w2 : JW} (hm : jok C MX9_teach d cl sl) (hs : jF MX7_scan d2 [jR 3 false, jR 1 false] w (jU) w2) (hd2 : d2 + 1 ≤ d) (k : jW C cl sl Q 11 [jR 0 false, jU] [] w2) : jW C cl sl Q 0 [jR 0 false, jU] [] w := jr_aload_n hm (i := 0) rfl rfl dX9_teach_0 (fg_X9_19 hm dX9_teach_1 (jr_aload_n hm (i := 0) rfl rfl dX9_teach_4 (fg_X9_10 hm dX9_teach_5 (jr_callV (mc := 0) (ms := 0) hm hs hd2 jw_1098 jw_1099 jw_1100 jw_49 jw_1101 jn_X7_scan rfl jo_3 (fun _ _ _ _ _ => ⟨_, rfl⟩) rfl rfl (Nat.le_of_ble_eq_true rfl) rfl dX9_teach_8 (jkF (jr_drop (jle_same (jle_same jle_nil)) k))))))
theorem bk_X9_teach_11 {C : JC} {d cl sl : Nat} {Q : State → Prop} {w : JW} {d2 : Nat} {w2 : JW} (hm : jok C MX9_teach d cl sl) (hs : jF MX6_shorten d2 [jR 1 false, jI 0] w (jU) w2) (hd2 : d2 + 1 ≤ d) (k : jW C cl sl Q 19 [jR 0 false, jU] [] w2) : jW C cl sl Q 11 [jR 0 false, jU] [] w := jr_aload_n hm (i := 0) rfl rfl dX9_teach_11 (fg_X9_10 hm dX9_teach_12 (jr_iconst hm (v := 0) (by decide) dX9_teach_15 (jr_callV (mc := 0) (ms := 0) hm hs hd2 jw_1090 jw_1091 jw_1092 jw_48 jw_1093 jn_X6_shorten rfl jo_1 (fun _ _ _ _ _ => ⟨_, rfl⟩) rfl rfl (Nat.le_of_ble_eq_true rfl) rfl dX9_teach_16 (jkF (jr_drop (jle_same (jle_same jle_nil)) k)))))
theorem bk_X9_teach_19 {C : JC} {d cl sl : Nat} {Q : State → Prop} {w : JW} {d2 : Nat} {r : Int32} {w2 : JW} (hm : jok C MX9_teach d cl sl) (hs : jF MX5_read d2 [jR 7 false] w (jI r) w2) (hd2 : d2 + 1 ≤ d) (k : jW C cl sl Q 26 [jR 0 false, jU] [jI r] w2) : jW C cl sl Q 19 [jR 0 false, jU] [] w := jr_aload_n hm (i := 0) rfl rfl dX9_teach_19 (fg_X9_28 hm dX9_teach_20 (jr_callV (mc := 0) (ms := 0) hm hs hd2 jw_1180 jw_1181 jw_1182 jw_50 jw_1183 jn_X5_read rfl jo_7 (fun _ _ _ _ _ => ⟨_, rfl⟩) rfl rfl (Nat.le_of_ble_eq_true rfl) rfl dX9_teach_23 (jkF (jr_drop (jle_same (jle_same jle_nil)) k))))
theorem bk_X9_teach_26 {C : JC} {d cl sl : Nat} {Q : State → Prop} {w : JW} {xs0 : Int32} (hm : jok C MX9_teach d cl sl) (kt : xs0 = 0 → jW C cl sl Q 51 [jR 0 false, jU] [] w) (kf : ¬ xs0 = 0 → jW C cl sl Q 31 [jR 0 false, jI xs0] [] w) : jW C cl sl Q 26 [jR 0 false, jU] [jI xs0] w := jr_istore_n hm (i := 1) rfl (Nat.le_of_ble_eq_true rfl) rfl dX9_teach_26 (jr_iload_n hm (i := 1) rfl rfl dX9_teach_27 (jr_if_eq hm dX9_teach_28 (by decide) (fun h => jr_drop (jle_same (jle_drop jle_nil)) (kt h)) (fun h => jr_drop (jle_same (jle_same jle_nil)) (kf h))))
theorem bk_X9_teach_31 {C : JC} {d cl sl : Nat} {Q : State → Prop} {w : JW} {x1 : Int32} {d2 : Nat} {r : Int32} {w2 : JW} (hm : jok C MX9_teach d cl sl) (hs : jF MX7_startOf d2 [jR 3 false, jI (w.1 7 false 7)] w (jI r) w2) (hd2 : d2 + 1 ≤ d) (k : jW C cl sl Q 46 [jU, jI x1] [jI r, jR 0 false] w2) : jW C cl sl Q 31 [jR 0 false, jI x1] [] w := jr_aload_n hm (i := 0) rfl rfl dX9_teach_31 (jr_aload_n hm (i := 0) rfl rfl dX9_teach_32 (fg_X9_19 hm dX9_teach_33 (jr_aload_n hm (i := 0) rfl rfl dX9_teach_36 (fg_X9_28 hm dX9_teach_37 (fg_X9_94 hm dX9_teach_40 (jr_callV (mc := 0) (ms := 0) hm hs hd2 jw_1378 jw_1379 jw_1380 jw_49 jw_1381 jn_X7_startOf rfl jo_3 (fun _ _ _ _ _ => ⟨_, rfl⟩) rfl rfl (Nat.le_of_ble_eq_true rfl) rfl dX9_teach_43 (jkF (jr_drop (jle_drop (jle_same jle_nil)) k))))))))
theorem bk_X9_teach_46 {C : JC} {d cl sl : Nat} {w : JW} {x1 : Int32} {xs0 : Int32} {P : JV → JW → Prop} (hm : jok C MX9_teach d cl sl) (hp : P (jI x1) (jset w 0 false 7 xs0)) : jW C cl sl (jQQ C cl sl P) 46 [jU, jI x1] [jI xs0, jR 0 false] w := fp_X9_56 hm dX9_teach_46 (jr_iload_n hm (i := 1) rfl rfl dX9_teach_49 (jr_ireturn hm rfl dX9_teach_50 hp))
theorem bk_X9_teach_51 {C : JC} {d cl sl : Nat} {Q : State → Prop} {w : JW} {d2 : Nat} {r : Bool} {w2 : JW} (hm : jok C MX9_teach d cl sl) (hs : jF MX5_exchange d2 [jR 7 false, jR 20 ((jset w 0 false 7 (-1)).2.2 0 6)] (jset w 0 false 7 (-1)) (jR 20 r) w2) (hd2 : d2 + 1 ≤ d) (k : jW C cl sl Q 68 [jR 0 false, jU] [jR 20 r, jR 0 false] w2) : jW C cl sl Q 51 [jR 0 false, jU] [] w := jr_aload_n hm (i := 0) rfl rfl dX9_teach_51 (jr_iconst hm (v := (-1)) (by decide) dX9_teach_52 (fp_X9_56 hm dX9_teach_53 (jr_aload_n hm (i := 0) rfl rfl dX9_teach_56 (jr_aload_n hm (i := 0) rfl rfl dX9_teach_57 (fg_X9_28 hm dX9_teach_58 (jr_aload_n hm (i := 0) rfl rfl dX9_teach_61 (fg_X9_52 hm dX9_teach_62 (jr_callV (mc := 0) (ms := 0) hm hs hd2 jw_1383 jw_1384 jw_1385 jw_50 jw_1386 jn_X5_exchange rfl jo_7 (fun _ _ _ _ _ => ⟨_, rfl⟩) rfl rfl (Nat.le_of_ble_eq_true rfl) rfl dX9_teach_65 (jkF (jr_drop (jle_same (jle_same jle_nil)) k))))))))))
theorem bk_X9_teach_68 {C : JC} {d cl sl : Nat} {Q : State → Prop} {w : JW} {bs0 : Bool} {d2 : Nat} {w2 : JW} (hm : jok C MX9_teach d cl sl) (hs : jF MX1_begin d2 [jR 14 false] (jsetR w 0 6 bs0) (jU) w2) (hd2 : d2 + 1 ≤ d) (k : jW C cl sl Q 78 [jU, jU] [] w2) : jW C cl sl Q 68 [jR 0 false, jU] [jR 20 bs0, jR 0 false] w := fp_X9_52 hm dX9_teach_68 (jr_aload_n hm (i := 0) rfl rfl dX9_teach_71 (fg_X9_42 hm dX9_teach_72 (jr_callV (mc := 0) (ms := 0) hm hs hd2 jw_1387 jw_1388 jw_1389 jw_56 jw_1390 jn_X1_begin rfl (jo_14 false) (fun _ _ _ _ _ => ⟨_, rfl⟩) rfl rfl (Nat.le_of_ble_eq_true rfl) rfl dX9_teach_75 (jkF (jr_drop (jle_drop (jle_same jle_nil)) k)))))
theorem bk_X9_teach_78 {C : JC} {d cl sl : Nat} {w : JW} {P : JV → JW → Prop} (hm : jok C MX9_teach d cl sl) (hp : P (jI 0) w) : jW C cl sl (jQQ C cl sl P) 78 [jU, jU] [] w := jr_iconst hm (v := 0) (by decide) dX9_teach_78 (jr_ireturn hm rfl dX9_teach_79 hp)
theorem dX9_count_0 : decode cX9_count 0 = .ok (.iload_n 1, 1) := by decide +kernel
theorem dX9_count_1 : decode cX9_count 1 = .ok (.ifCond .lt 9, 3) := by decide +kernel
theorem dX9_count_4 : decode cX9_count 4 = .ok (.iload_n 1, 1) := by decide +kernel
theorem dX9_count_5 : decode cX9_count 5 = .ok (.bipush 14, 2) := by decide +kernel
theorem dX9_count_7 : decode cX9_count 7 = .ok (.if_icmp .lt 13, 3) := by decide +kernel
theorem dX9_count_10 : decode cX9_count 10 = .ok (.new 108, 3) := by decide +kernel
theorem dX9_count_13 : decode cX9_count 13 = .ok (.dup, 1) := by decide +kernel
theorem dX9_count_14 : decode cX9_count 14 = .ok (.ldc 110, 2) := by decide +kernel
theorem dX9_count_16 : decode cX9_count 16 = .ok (.invokespecial 112, 3) := by decide +kernel
theorem dX9_count_19 : decode cX9_count 19 = .ok (.athrow, 1) := by decide +kernel
theorem dX9_count_20 : decode cX9_count 20 = .ok (.aload_n 0, 1) := by decide +kernel
theorem dX9_count_21 : decode cX9_count 21 = .ok (.iload_n 1, 1) := by decide +kernel
theorem dX9_count_22 : decode cX9_count 22 = .ok (.invokevirtual 113, 3) := by decide +kernel
theorem dX9_count_25 : decode cX9_count 25 = .ok (.ireturn, 1) := by decide +kernel
theorem bk_X9_count_0 {C : JC} {d cl sl : Nat} {Q : State → Prop} {w : JW} {x1 : Int32} (hm : jok C MX9_count d cl sl) (kt : x1 < 0 → jW C cl sl Q 10 [jU, jU] [] w) (kf : ¬ x1 < 0 → jW C cl sl Q 4 [jR 0 false, jI x1] [] w) : jW C cl sl Q 0 [jR 0 false, jI x1] [] w := jr_iload_n hm (i := 1) rfl rfl dX9_count_0 (jr_if_lt hm dX9_count_1 (by decide) (fun h => jr_drop (jle_drop (jle_drop jle_nil)) (kt h)) (fun h => jr_drop (jle_same (jle_same jle_nil)) (kf h)))
theorem bk_X9_count_4 {C : JC} {d cl sl : Nat} {Q : State → Prop} {w : JW} {x1 : Int32} (hm : jok C MX9_count d cl sl) (kt : x1 < 14 → jW C cl sl Q 20 [jR 0 false, jI x1] [] w) (kf : ¬ x1 < 14 → jW C cl sl Q 10 [jU, jU] [] w) : jW C cl sl Q 4 [jR 0 false, jI x1] [] w := jr_iload_n hm (i := 1) rfl rfl dX9_count_4 (jr_bipush hm (v := 14) (by decide) dX9_count_5 (jr_icmp_lt hm dX9_count_7 (by decide) (fun h => jr_drop (jle_same (jle_same jle_nil)) (kt h)) (fun h => jr_drop (jle_drop (jle_drop jle_nil)) (kf h))))
theorem bk_X9_count_20 {C : JC} {d cl sl : Nat} {Q : State → Prop} {w : JW} {x1 : Int32} {d2 : Nat} {r : Int32} {w2 : JW} (hm : jok C MX9_count d cl sl) (hs : jF MX9_countFact d2 [jR 0 false, jI x1] w (jI r) w2) (hd2 : d2 + 1 ≤ d) (k : jW C cl sl Q 25 [jU, jU] [jI r] w2) : jW C cl sl Q 20 [jR 0 false, jI x1] [] w := jr_aload_n hm (i := 0) rfl rfl dX9_count_20 (jr_iload_n hm (i := 1) rfl rfl dX9_count_21 (jr_callV (mc := 0) (ms := 0) hm hs hd2 jw_148 jw_150 jw_1 jw_47 jw_152 jn_X9_countFact rfl jo_0 (fun _ _ _ _ _ => ⟨_, rfl⟩) rfl rfl (Nat.le_of_ble_eq_true rfl) rfl dX9_count_22 (jkF (jr_drop (jle_drop (jle_drop jle_nil)) k))))
theorem bk_X9_count_25 {C : JC} {d cl sl : Nat} {w : JW} {xs0 : Int32} {P : JV → JW → Prop} (hm : jok C MX9_count d cl sl) (hp : P (jI xs0) w) : jW C cl sl (jQQ C cl sl P) 25 [jU, jU] [jI xs0] w := jr_ireturn hm rfl dX9_count_25 hp
theorem dX9_cave_0 : decode cX9_cave 0 = .ok (.iload_n 1, 1) := by decide +kernel
theorem dX9_cave_1 : decode cX9_cave 1 = .ok (.ifCond .lt 23, 3) := by decide +kernel
theorem dX9_cave_4 : decode cX9_cave 4 = .ok (.iload_n 1, 1) := by decide +kernel
theorem dX9_cave_5 : decode cX9_cave 5 = .ok (.aload_n 0, 1) := by decide +kernel
theorem dX9_cave_6 : decode cX9_cave 6 = .ok (.getfield 52, 3) := by decide +kernel
theorem dX9_cave_9 : decode cX9_cave 9 = .ok (.getfield 116, 3) := by decide +kernel
theorem dX9_cave_12 : decode cX9_cave 12 = .ok (.if_icmp .ge 12, 3) := by decide +kernel
theorem dX9_cave_15 : decode cX9_cave 15 = .ok (.iload_n 2, 1) := by decide +kernel
theorem dX9_cave_16 : decode cX9_cave 16 = .ok (.ifCond .lt 8, 3) := by decide +kernel
theorem dX9_cave_19 : decode cX9_cave 19 = .ok (.iload_n 2, 1) := by decide +kernel
theorem dX9_cave_20 : decode cX9_cave 20 = .ok (.iconst 5, 1) := by decide +kernel
theorem dX9_cave_21 : decode cX9_cave 21 = .ok (.if_icmp .lt 13, 3) := by decide +kernel
theorem dX9_cave_24 : decode cX9_cave 24 = .ok (.new 108, 3) := by decide +kernel
theorem dX9_cave_27 : decode cX9_cave 27 = .ok (.dup, 1) := by decide +kernel
theorem dX9_cave_28 : decode cX9_cave 28 = .ok (.ldc 119, 2) := by decide +kernel
theorem dX9_cave_30 : decode cX9_cave 30 = .ok (.invokespecial 112, 3) := by decide +kernel
theorem dX9_cave_33 : decode cX9_cave 33 = .ok (.athrow, 1) := by decide +kernel
theorem dX9_cave_34 : decode cX9_cave 34 = .ok (.aload_n 0, 1) := by decide +kernel
theorem dX9_cave_35 : decode cX9_cave 35 = .ok (.iload_n 1, 1) := by decide +kernel
theorem dX9_cave_36 : decode cX9_cave 36 = .ok (.iload_n 2, 1) := by decide +kernel
theorem dX9_cave_37 : decode cX9_cave 37 = .ok (.invokevirtual 121, 3) := by decide +kernel
theorem dX9_cave_40 : decode cX9_cave 40 = .ok (.ireturn, 1) := by decide +kernel
theorem bk_X9_cave_0 {C : JC} {d cl sl : Nat} {Q : State → Prop} {w : JW} {x1 : Int32} {x2 : Int32} (hm : jok C MX9_cave d cl sl) (kt : x1 < 0 → jW C cl sl Q 24 [jU, jU, jU] [] w) (kf : ¬ x1 < 0 → jW C cl sl Q 4 [jR 0 false, jI x1, jI x2] [] w) : jW C cl sl Q 0 [jR 0 false, jI x1, jI x2] [] w := jr_iload_n hm (i := 1) rfl rfl dX9_cave_0 (jr_if_lt hm dX9_cave_1 (by decide) (fun h => jr_drop (jle_drop (jle_drop (jle_drop jle_nil))) (kt h)) (fun h => jr_drop (jle_same (jle_same (jle_same jle_nil))) (kf h)))
theorem bk_X9_cave_4 {C : JC} {d cl sl : Nat} {Q : State → Prop} {w : JW} {x1 : Int32} {x2 : Int32} (hm : jok C MX9_cave d cl sl) (kt : (w.1 20 (w.2.2 0 6) 9) ≤ x1 → jW C cl sl Q 24 [jU, jU, jU] [] w) (kf : ¬ (w.1 20 (w.2.2 0 6) 9) ≤ x1 → jW C cl sl Q 15 [jR 0 false, jI x1, jI x2] [] w) : jW C cl sl Q 4 [jR 0 false, jI x1, jI x2] [] w := jr_iload_n hm (i := 1) rfl rfl dX9_cave_4 (jr_aload_n hm (i := 0) rfl rfl dX9_cave_5 (fg_X9_52 hm dX9_cave_6 (fg_X9_116 hm dX9_cave_9 (jr_icmp_ge hm dX9_cave_12 (by decide) (fun h => jr_drop (jle_drop (jle_drop (jle_drop jle_nil))) (kt h)) (fun h => jr_drop (jle_same (jle_same (jle_same jle_nil))) (kf h))))))
theorem bk_X9_cave_15 {C : JC} {d cl sl : Nat} {Q : State → Prop} {w : JW} {x1 : Int32} {x2 : Int32} (hm : jok C MX9_cave d cl sl) (kt : x2 < 0 → jW C cl sl Q 24 [jU, jU, jU] [] w) (kf : ¬ x2 < 0 → jW C cl sl Q 19 [jR 0 false, jI x1, jI x2] [] w) : jW C cl sl Q 15 [jR 0 false, jI x1, jI x2] [] w := jr_iload_n hm (i := 2) rfl rfl dX9_cave_15 (jr_if_lt hm dX9_cave_16 (by decide) (fun h => jr_drop (jle_drop (jle_drop (jle_drop jle_nil))) (kt h)) (fun h => jr_drop (jle_same (jle_same (jle_same jle_nil))) (kf h)))
theorem bk_X9_cave_19 {C : JC} {d cl sl : Nat} {Q : State → Prop} {w : JW} {x1 : Int32} {x2 : Int32} (hm : jok C MX9_cave d cl sl) (kt : x2 < 5 → jW C cl sl Q 34 [jR 0 false, jI x1, jI x2] [] w) (kf : ¬ x2 < 5 → jW C cl sl Q 24 [jU, jU, jU] [] w) : jW C cl sl Q 19 [jR 0 false, jI x1, jI x2] [] w := jr_iload_n hm (i := 2) rfl rfl dX9_cave_19 (jr_iconst hm (v := 5) (by decide) dX9_cave_20 (jr_icmp_lt hm dX9_cave_21 (by decide) (fun h => jr_drop (jle_same (jle_same (jle_same jle_nil))) (kt h)) (fun h => jr_drop (jle_drop (jle_drop (jle_drop jle_nil))) (kf h))))
theorem bk_X9_cave_34 {C : JC} {d cl sl : Nat} {Q : State → Prop} {w : JW} {x1 : Int32} {x2 : Int32} {d2 : Nat} {r : Int32} {w2 : JW} (hm : jok C MX9_cave d cl sl) (hs : jF MX9_caveFact d2 [jR 0 false, jI x1, jI x2] w (jI r) w2) (hd2 : d2 + 1 ≤ d) (k : jW C cl sl Q 40 [jU, jU, jU] [jI r] w2) : jW C cl sl Q 34 [jR 0 false, jI x1, jI x2] [] w := jr_aload_n hm (i := 0) rfl rfl dX9_cave_34 (jr_iload_n hm (i := 1) rfl rfl dX9_cave_35 (jr_iload_n hm (i := 2) rfl rfl dX9_cave_36 (jr_callV (mc := 0) (ms := 0) hm hs hd2 jw_191 jw_193 jw_3 jw_47 jw_194 jn_X9_caveFact rfl jo_0 (fun _ _ _ _ _ => ⟨_, rfl⟩) rfl rfl (Nat.le_of_ble_eq_true rfl) rfl dX9_cave_37 (jkF (jr_drop (jle_drop (jle_drop (jle_drop jle_nil))) k)))))
theorem bk_X9_cave_40 {C : JC} {d cl sl : Nat} {w : JW} {xs0 : Int32} {P : JV → JW → Prop} (hm : jok C MX9_cave d cl sl) (hp : P (jI xs0) w) : jW C cl sl (jQQ C cl sl P) 40 [jU, jU, jU] [jI xs0] w := jr_ireturn hm rfl dX9_cave_40 hp
theorem dX9_pipe_0 : decode cX9_pipe 0 = .ok (.aload_n 0, 1) := by decide +kernel
theorem dX9_pipe_1 : decode cX9_pipe 1 = .ok (.iload_n 1, 1) := by decide +kernel
theorem dX9_pipe_2 : decode cX9_pipe 2 = .ok (.invokevirtual 125, 3) := by decide +kernel
theorem dX9_pipe_5 : decode cX9_pipe 5 = .ok (.ifCond .ne 13, 3) := by decide +kernel
theorem dX9_pipe_8 : decode cX9_pipe 8 = .ok (.iload_n 2, 1) := by decide +kernel
theorem dX9_pipe_9 : decode cX9_pipe 9 = .ok (.ifCond .lt 9, 3) := by decide +kernel
theorem dX9_pipe_12 : decode cX9_pipe 12 = .ok (.iload_n 2, 1) := by decide +kernel
theorem dX9_pipe_13 : decode cX9_pipe 13 = .ok (.bipush 7, 2) := by decide +kernel
theorem dX9_pipe_15 : decode cX9_pipe 15 = .ok (.if_icmp .lt 13, 3) := by decide +kernel
theorem dX9_pipe_18 : decode cX9_pipe 18 = .ok (.new 108, 3) := by decide +kernel
theorem dX9_pipe_21 : decode cX9_pipe 21 = .ok (.dup, 1) := by decide +kernel
theorem dX9_pipe_22 : decode cX9_pipe 22 = .ok (.ldc 128, 2) := by decide +kernel
theorem dX9_pipe_24 : decode cX9_pipe 24 = .ok (.invokespecial 112, 3) := by decide +kernel
theorem dX9_pipe_27 : decode cX9_pipe 27 = .ok (.athrow, 1) := by decide +kernel
theorem dX9_pipe_28 : decode cX9_pipe 28 = .ok (.aload_n 0, 1) := by decide +kernel
theorem dX9_pipe_29 : decode cX9_pipe 29 = .ok (.iload_n 1, 1) := by decide +kernel
theorem dX9_pipe_30 : decode cX9_pipe 30 = .ok (.iload_n 2, 1) := by decide +kernel
theorem dX9_pipe_31 : decode cX9_pipe 31 = .ok (.invokevirtual 130, 3) := by decide +kernel
theorem dX9_pipe_34 : decode cX9_pipe 34 = .ok (.ireturn, 1) := by decide +kernel
theorem bk_X9_pipe_0 {C : JC} {d cl sl : Nat} {Q : State → Prop} {w : JW} {x1 : Int32} {x2 : Int32} {d2 : Nat} {r : Int32} {w2 : JW} (hm : jok C MX9_pipe d cl sl) (hs : jF MX9_isNoPipe d2 [jR 0 false, jI x1] w (jI r) w2) (hd2 : d2 + 1 ≤ d) (k : jW C cl sl Q 5 [jR 0 false, jI x1, jI x2] [jI r] w2) : jW C cl sl Q 0 [jR 0 false, jI x1, jI x2] [] w := jr_aload_n hm (i := 0) rfl rfl dX9_pipe_0 (jr_iload_n hm (i := 1) rfl rfl dX9_pipe_1 (jr_callV (mc := 0) (ms := 0) hm hs hd2 jw_250 jw_252 jw_6 jw_47 jw_253 jn_X9_isNoPipe rfl jo_0 (fun _ _ _ _ _ => ⟨_, rfl⟩) rfl rfl (Nat.le_of_ble_eq_true rfl) rfl dX9_pipe_2 (jkF (jr_drop (jle_same (jle_same (jle_same jle_nil))) k))))
theorem bk_X9_pipe_5 {C : JC} {d cl sl : Nat} {Q : State → Prop} {w : JW} {x1 : Int32} {x2 : Int32} {xs0 : Int32} (hm : jok C MX9_pipe d cl sl) (kt : ¬ xs0 = 0 → jW C cl sl Q 18 [jU, jU, jU] [] w) (kf : xs0 = 0 → jW C cl sl Q 8 [jR 0 false, jI x1, jI x2] [] w) : jW C cl sl Q 5 [jR 0 false, jI x1, jI x2] [jI xs0] w := jr_if_ne hm dX9_pipe_5 (by decide) (fun h => jr_drop (jle_drop (jle_drop (jle_drop jle_nil))) (kt h)) (fun h => jr_drop (jle_same (jle_same (jle_same jle_nil))) (kf h))
theorem bk_X9_pipe_8 {C : JC} {d cl sl : Nat} {Q : State → Prop} {w : JW} {x1 : Int32} {x2 : Int32} (hm : jok C MX9_pipe d cl sl) (kt : x2 < 0 → jW C cl sl Q 18 [jU, jU, jU] [] w) (kf : ¬ x2 < 0 → jW C cl sl Q 12 [jR 0 false, jI x1, jI x2] [] w) : jW C cl sl Q 8 [jR 0 false, jI x1, jI x2] [] w := jr_iload_n hm (i := 2) rfl rfl dX9_pipe_8 (jr_if_lt hm dX9_pipe_9 (by decide) (fun h => jr_drop (jle_drop (jle_drop (jle_drop jle_nil))) (kt h)) (fun h => jr_drop (jle_same (jle_same (jle_same jle_nil))) (kf h)))
theorem bk_X9_pipe_12 {C : JC} {d cl sl : Nat} {Q : State → Prop} {w : JW} {x1 : Int32} {x2 : Int32} (hm : jok C MX9_pipe d cl sl) (kt : x2 < 7 → jW C cl sl Q 28 [jR 0 false, jI x1, jI x2] [] w) (kf : ¬ x2 < 7 → jW C cl sl Q 18 [jU, jU, jU] [] w) : jW C cl sl Q 12 [jR 0 false, jI x1, jI x2] [] w := jr_iload_n hm (i := 2) rfl rfl dX9_pipe_12 (jr_bipush hm (v := 7) (by decide) dX9_pipe_13 (jr_icmp_lt hm dX9_pipe_15 (by decide) (fun h => jr_drop (jle_same (jle_same (jle_same jle_nil))) (kt h)) (fun h => jr_drop (jle_drop (jle_drop (jle_drop jle_nil))) (kf h))))
theorem bk_X9_pipe_28 {C : JC} {d cl sl : Nat} {Q : State → Prop} {w : JW} {x1 : Int32} {x2 : Int32} {d2 : Nat} {r : Int32} {w2 : JW} (hm : jok C MX9_pipe d cl sl) (hs : jF MX9_pipeFact d2 [jR 0 false, jI x1, jI x2] w (jI r) w2) (hd2 : d2 + 1 ≤ d) (k : jW C cl sl Q 34 [jU, jU, jU] [jI r] w2) : jW C cl sl Q 28 [jR 0 false, jI x1, jI x2] [] w := jr_aload_n hm (i := 0) rfl rfl dX9_pipe_28 (jr_iload_n hm (i := 1) rfl rfl dX9_pipe_29 (jr_iload_n hm (i := 2) rfl rfl dX9_pipe_30 (jr_callV (mc := 0) (ms := 0) hm hs hd2 jw_255 jw_257 jw_7 jw_47 jw_258 jn_X9_pipeFact rfl jo_0 (fun _ _ _ _ _ => ⟨_, rfl⟩) rfl rfl (Nat.le_of_ble_eq_true rfl) rfl dX9_pipe_31 (jkF (jr_drop (jle_drop (jle_drop (jle_drop jle_nil))) k)))))
theorem bk_X9_pipe_34 {C : JC} {d cl sl : Nat} {w : JW} {xs0 : Int32} {P : JV → JW → Prop} (hm : jok C MX9_pipe d cl sl) (hp : P (jI xs0) w) : jW C cl sl (jQQ C cl sl P) 34 [jU, jU, jU] [jI xs0] w := jr_ireturn hm rfl dX9_pipe_34 hp
theorem dX9_chord_0 : decode cX9_chord 0 = .ok (.iload_n 1, 1) := by decide +kernel
theorem dX9_chord_1 : decode cX9_chord 1 = .ok (.ifCond .lt 23, 3) := by decide +kernel
theorem dX9_chord_4 : decode cX9_chord 4 = .ok (.iload_n 1, 1) := by decide +kernel
theorem dX9_chord_5 : decode cX9_chord 5 = .ok (.aload_n 0, 1) := by decide +kernel
theorem dX9_chord_6 : decode cX9_chord 6 = .ok (.getfield 52, 3) := by decide +kernel
theorem dX9_chord_9 : decode cX9_chord 9 = .ok (.getfield 133, 3) := by decide +kernel
theorem dX9_chord_12 : decode cX9_chord 12 = .ok (.if_icmp .ge 12, 3) := by decide +kernel
theorem dX9_chord_15 : decode cX9_chord 15 = .ok (.iload_n 2, 1) := by decide +kernel
theorem dX9_chord_16 : decode cX9_chord 16 = .ok (.ifCond .lt 8, 3) := by decide +kernel
theorem dX9_chord_19 : decode cX9_chord 19 = .ok (.iload_n 2, 1) := by decide +kernel
theorem dX9_chord_20 : decode cX9_chord 20 = .ok (.iconst 4, 1) := by decide +kernel
theorem dX9_chord_21 : decode cX9_chord 21 = .ok (.if_icmp .lt 13, 3) := by decide +kernel
theorem dX9_chord_24 : decode cX9_chord 24 = .ok (.new 108, 3) := by decide +kernel
theorem dX9_chord_27 : decode cX9_chord 27 = .ok (.dup, 1) := by decide +kernel
theorem dX9_chord_28 : decode cX9_chord 28 = .ok (.ldc 136, 2) := by decide +kernel
theorem dX9_chord_30 : decode cX9_chord 30 = .ok (.invokespecial 112, 3) := by decide +kernel
theorem dX9_chord_33 : decode cX9_chord 33 = .ok (.athrow, 1) := by decide +kernel
theorem dX9_chord_34 : decode cX9_chord 34 = .ok (.aload_n 0, 1) := by decide +kernel
theorem dX9_chord_35 : decode cX9_chord 35 = .ok (.iload_n 1, 1) := by decide +kernel
theorem dX9_chord_36 : decode cX9_chord 36 = .ok (.iload_n 2, 1) := by decide +kernel
theorem dX9_chord_37 : decode cX9_chord 37 = .ok (.invokevirtual 138, 3) := by decide +kernel
theorem dX9_chord_40 : decode cX9_chord 40 = .ok (.ireturn, 1) := by decide +kernel
theorem bk_X9_chord_0 {C : JC} {d cl sl : Nat} {Q : State → Prop} {w : JW} {x1 : Int32} {x2 : Int32} (hm : jok C MX9_chord d cl sl) (kt : x1 < 0 → jW C cl sl Q 24 [jU, jU, jU] [] w) (kf : ¬ x1 < 0 → jW C cl sl Q 4 [jR 0 false, jI x1, jI x2] [] w) : jW C cl sl Q 0 [jR 0 false, jI x1, jI x2] [] w := jr_iload_n hm (i := 1) rfl rfl dX9_chord_0 (jr_if_lt hm dX9_chord_1 (by decide) (fun h => jr_drop (jle_drop (jle_drop (jle_drop jle_nil))) (kt h)) (fun h => jr_drop (jle_same (jle_same (jle_same jle_nil))) (kf h)))
theorem bk_X9_chord_4 {C : JC} {d cl sl : Nat} {Q : State → Prop} {w : JW} {x1 : Int32} {x2 : Int32} (hm : jok C MX9_chord d cl sl) (kt : (w.1 20 (w.2.2 0 6) 11) ≤ x1 → jW C cl sl Q 24 [jU, jU, jU] [] w) (kf : ¬ (w.1 20 (w.2.2 0 6) 11) ≤ x1 → jW C cl sl Q 15 [jR 0 false, jI x1, jI x2] [] w) : jW C cl sl Q 4 [jR 0 false, jI x1, jI x2] [] w := jr_iload_n hm (i := 1) rfl rfl dX9_chord_4 (jr_aload_n hm (i := 0) rfl rfl dX9_chord_5 (fg_X9_52 hm dX9_chord_6 (fg_X9_133 hm dX9_chord_9 (jr_icmp_ge hm dX9_chord_12 (by decide) (fun h => jr_drop (jle_drop (jle_drop (jle_drop jle_nil))) (kt h)) (fun h => jr_drop (jle_same (jle_same (jle_same jle_nil))) (kf h))))))
theorem bk_X9_chord_15 {C : JC} {d cl sl : Nat} {Q : State → Prop} {w : JW} {x1 : Int32} {x2 : Int32} (hm : jok C MX9_chord d cl sl) (kt : x2 < 0 → jW C cl sl Q 24 [jU, jU, jU] [] w) (kf : ¬ x2 < 0 → jW C cl sl Q 19 [jR 0 false, jI x1, jI x2] [] w) : jW C cl sl Q 15 [jR 0 false, jI x1, jI x2] [] w := jr_iload_n hm (i := 2) rfl rfl dX9_chord_15 (jr_if_lt hm dX9_chord_16 (by decide) (fun h => jr_drop (jle_drop (jle_drop (jle_drop jle_nil))) (kt h)) (fun h => jr_drop (jle_same (jle_same (jle_same jle_nil))) (kf h)))
theorem bk_X9_chord_19 {C : JC} {d cl sl : Nat} {Q : State → Prop} {w : JW} {x1 : Int32} {x2 : Int32} (hm : jok C MX9_chord d cl sl) (kt : x2 < 4 → jW C cl sl Q 34 [jR 0 false, jI x1, jI x2] [] w) (kf : ¬ x2 < 4 → jW C cl sl Q 24 [jU, jU, jU] [] w) : jW C cl sl Q 19 [jR 0 false, jI x1, jI x2] [] w := jr_iload_n hm (i := 2) rfl rfl dX9_chord_19 (jr_iconst hm (v := 4) (by decide) dX9_chord_20 (jr_icmp_lt hm dX9_chord_21 (by decide) (fun h => jr_drop (jle_same (jle_same (jle_same jle_nil))) (kt h)) (fun h => jr_drop (jle_drop (jle_drop (jle_drop jle_nil))) (kf h))))
theorem bk_X9_chord_34 {C : JC} {d cl sl : Nat} {Q : State → Prop} {w : JW} {x1 : Int32} {x2 : Int32} {d2 : Nat} {r : Int32} {w2 : JW} (hm : jok C MX9_chord d cl sl) (hs : jF MX9_chordFact d2 [jR 0 false, jI x1, jI x2] w (jI r) w2) (hd2 : d2 + 1 ≤ d) (k : jW C cl sl Q 40 [jU, jU, jU] [jI r] w2) : jW C cl sl Q 34 [jR 0 false, jI x1, jI x2] [] w := jr_aload_n hm (i := 0) rfl rfl dX9_chord_34 (jr_iload_n hm (i := 1) rfl rfl dX9_chord_35 (jr_iload_n hm (i := 2) rfl rfl dX9_chord_36 (jr_callV (mc := 0) (ms := 0) hm hs hd2 jw_268 jw_270 jw_8 jw_47 jw_271 jn_X9_chordFact rfl jo_0 (fun _ _ _ _ _ => ⟨_, rfl⟩) rfl rfl (Nat.le_of_ble_eq_true rfl) rfl dX9_chord_37 (jkF (jr_drop (jle_drop (jle_drop (jle_drop jle_nil))) k)))))
theorem bk_X9_chord_40 {C : JC} {d cl sl : Nat} {w : JW} {xs0 : Int32} {P : JV → JW → Prop} (hm : jok C MX9_chord d cl sl) (hp : P (jI xs0) w) : jW C cl sl (jQQ C cl sl P) 40 [jU, jU, jU] [jI xs0] w := jr_ireturn hm rfl dX9_chord_40 hp
theorem dX9_note_0 : decode cX9_note 0 = .ok (.iload_n 1, 1) := by decide +kernel
theorem dX9_note_1 : decode cX9_note 1 = .ok (.ifCond .lt 30, 3) := by decide +kernel
theorem dX9_note_4 : decode cX9_note 4 = .ok (.iload_n 1, 1) := by decide +kernel
theorem dX9_note_5 : decode cX9_note 5 = .ok (.aload_n 0, 1) := by decide +kernel
theorem dX9_note_6 : decode cX9_note 6 = .ok (.getfield 52, 3) := by decide +kernel
theorem dX9_note_9 : decode cX9_note 9 = .ok (.getfield 133, 3) := by decide +kernel
theorem dX9_note_12 : decode cX9_note 12 = .ok (.if_icmp .ge 19, 3) := by decide +kernel
theorem dX9_note_15 : decode cX9_note 15 = .ok (.iload_n 2, 1) := by decide +kernel
theorem dX9_note_16 : decode cX9_note 16 = .ok (.ifCond .lt 15, 3) := by decide +kernel
theorem dX9_note_19 : decode cX9_note 19 = .ok (.iload_n 2, 1) := by decide +kernel
theorem dX9_note_20 : decode cX9_note 20 = .ok (.aload_n 0, 1) := by decide +kernel
theorem dX9_note_21 : decode cX9_note 21 = .ok (.getfield 52, 3) := by decide +kernel
theorem dX9_note_24 : decode cX9_note 24 = .ok (.iload_n 1, 1) := by decide +kernel
theorem dX9_note_25 : decode cX9_note 25 = .ok (.invokevirtual 141, 3) := by decide +kernel
theorem dX9_note_28 : decode cX9_note 28 = .ok (.if_icmp .lt 13, 3) := by decide +kernel
theorem dX9_note_31 : decode cX9_note 31 = .ok (.new 108, 3) := by decide +kernel
theorem dX9_note_34 : decode cX9_note 34 = .ok (.dup, 1) := by decide +kernel
theorem dX9_note_35 : decode cX9_note 35 = .ok (.ldc 144, 2) := by decide +kernel
theorem dX9_note_37 : decode cX9_note 37 = .ok (.invokespecial 112, 3) := by decide +kernel
theorem dX9_note_40 : decode cX9_note 40 = .ok (.athrow, 1) := by decide +kernel
theorem dX9_note_41 : decode cX9_note 41 = .ok (.aload_n 0, 1) := by decide +kernel
theorem dX9_note_42 : decode cX9_note 42 = .ok (.getfield 52, 3) := by decide +kernel
theorem dX9_note_45 : decode cX9_note 45 = .ok (.iload_n 1, 1) := by decide +kernel
theorem dX9_note_46 : decode cX9_note 46 = .ok (.iload_n 2, 1) := by decide +kernel
theorem dX9_note_47 : decode cX9_note 47 = .ok (.invokevirtual 146, 3) := by decide +kernel
theorem dX9_note_50 : decode cX9_note 50 = .ok (.ireturn, 1) := by decide +kernel
theorem bk_X9_note_0 {C : JC} {d cl sl : Nat} {Q : State → Prop} {w : JW} {x1 : Int32} {x2 : Int32} (hm : jok C MX9_note d cl sl) (kt : x1 < 0 → jW C cl sl Q 31 [jU, jU, jU] [] w) (kf : ¬ x1 < 0 → jW C cl sl Q 4 [jR 0 false, jI x1, jI x2] [] w) : jW C cl sl Q 0 [jR 0 false, jI x1, jI x2] [] w := jr_iload_n hm (i := 1) rfl rfl dX9_note_0 (jr_if_lt hm dX9_note_1 (by decide) (fun h => jr_drop (jle_drop (jle_drop (jle_drop jle_nil))) (kt h)) (fun h => jr_drop (jle_same (jle_same (jle_same jle_nil))) (kf h)))
theorem bk_X9_note_4 {C : JC} {d cl sl : Nat} {Q : State → Prop} {w : JW} {x1 : Int32} {x2 : Int32} (hm : jok C MX9_note d cl sl) (kt : (w.1 20 (w.2.2 0 6) 11) ≤ x1 → jW C cl sl Q 31 [jU, jU, jU] [] w) (kf : ¬ (w.1 20 (w.2.2 0 6) 11) ≤ x1 → jW C cl sl Q 15 [jR 0 false, jI x1, jI x2] [] w) : jW C cl sl Q 4 [jR 0 false, jI x1, jI x2] [] w := jr_iload_n hm (i := 1) rfl rfl dX9_note_4 (jr_aload_n hm (i := 0) rfl rfl dX9_note_5 (fg_X9_52 hm dX9_note_6 (fg_X9_133 hm dX9_note_9 (jr_icmp_ge hm dX9_note_12 (by decide) (fun h => jr_drop (jle_drop (jle_drop (jle_drop jle_nil))) (kt h)) (fun h => jr_drop (jle_same (jle_same (jle_same jle_nil))) (kf h))))))
theorem bk_X9_note_15 {C : JC} {d cl sl : Nat} {Q : State → Prop} {w : JW} {x1 : Int32} {x2 : Int32} (hm : jok C MX9_note d cl sl) (kt : x2 < 0 → jW C cl sl Q 31 [jU, jU, jU] [] w) (kf : ¬ x2 < 0 → jW C cl sl Q 19 [jR 0 false, jI x1, jI x2] [] w) : jW C cl sl Q 15 [jR 0 false, jI x1, jI x2] [] w := jr_iload_n hm (i := 2) rfl rfl dX9_note_15 (jr_if_lt hm dX9_note_16 (by decide) (fun h => jr_drop (jle_drop (jle_drop (jle_drop jle_nil))) (kt h)) (fun h => jr_drop (jle_same (jle_same (jle_same jle_nil))) (kf h)))
theorem bk_X9_note_19 {C : JC} {d cl sl : Nat} {Q : State → Prop} {w : JW} {x1 : Int32} {x2 : Int32} {d2 : Nat} {r : Int32} {w2 : JW} (hm : jok C MX9_note d cl sl) (hs : jF MX3_sizeOf d2 [jR 20 (w.2.2 0 6), jI x1] w (jI r) w2) (hd2 : d2 + 1 ≤ d) (k : jW C cl sl Q 28 [jR 0 false, jI x1, jI x2] [jI r, jI x2] w2) : jW C cl sl Q 19 [jR 0 false, jI x1, jI x2] [] w := jr_iload_n hm (i := 2) rfl rfl dX9_note_19 (jr_aload_n hm (i := 0) rfl rfl dX9_note_20 (fg_X9_52 hm dX9_note_21 (jr_iload_n hm (i := 1) rfl rfl dX9_note_24 (jr_callV (mc := 0) (ms := 0) hm hs hd2 jw_272 jw_173 jw_174 jw_51 jw_175 jn_X3_sizeOf rfl (jo_20 (w.2.2 0 6)) (fun _ _ _ _ _ => ⟨_, rfl⟩) rfl rfl (Nat.le_of_ble_eq_true rfl) rfl dX9_note_25 (jkF (jr_drop (jle_same (jle_same (jle_same jle_nil))) k))))))
theorem bk_X9_note_28 {C : JC} {d cl sl : Nat} {Q : State → Prop} {w : JW} {x1 : Int32} {x2 : Int32} {xs0 : Int32} {xs1 : Int32} (hm : jok C MX9_note d cl sl) (kt : xs1 < xs0 → jW C cl sl Q 41 [jR 0 false, jI x1, jI x2] [] w) (kf : ¬ xs1 < xs0 → jW C cl sl Q 31 [jU, jU, jU] [] w) : jW C cl sl Q 28 [jR 0 false, jI x1, jI x2] [jI xs0, jI xs1] w := jr_icmp_lt hm dX9_note_28 (by decide) (fun h => jr_drop (jle_same (jle_same (jle_same jle_nil))) (kt h)) (fun h => jr_drop (jle_drop (jle_drop (jle_drop jle_nil))) (kf h))
theorem bk_X9_note_41 {C : JC} {d cl sl : Nat} {Q : State → Prop} {w : JW} {x1 : Int32} {x2 : Int32} {d2 : Nat} {r : Int32} {w2 : JW} (hm : jok C MX9_note d cl sl) (hs : jF MX3_noteAt d2 [jR 20 (w.2.2 0 6), jI x1, jI x2] w (jI r) w2) (hd2 : d2 + 1 ≤ d) (k : jW C cl sl Q 50 [jU, jU, jU] [jI r] w2) : jW C cl sl Q 41 [jR 0 false, jI x1, jI x2] [] w := jr_aload_n hm (i := 0) rfl rfl dX9_note_41 (fg_X9_52 hm dX9_note_42 (jr_iload_n hm (i := 1) rfl rfl dX9_note_45 (jr_iload_n hm (i := 2) rfl rfl dX9_note_46 (jr_callV (mc := 0) (ms := 0) hm hs hd2 jw_284 jw_178 jw_179 jw_51 jw_180 jn_X3_noteAt rfl (jo_20 (w.2.2 0 6)) (fun _ _ _ _ _ => ⟨_, rfl⟩) rfl rfl (Nat.le_of_ble_eq_true rfl) rfl dX9_note_47 (jkF (jr_drop (jle_drop (jle_drop (jle_drop jle_nil))) k))))))
theorem bk_X9_note_50 {C : JC} {d cl sl : Nat} {w : JW} {xs0 : Int32} {P : JV → JW → Prop} (hm : jok C MX9_note d cl sl) (hp : P (jI xs0) w) : jW C cl sl (jQQ C cl sl P) 50 [jU, jU, jU] [jI xs0] w := jr_ireturn hm rfl dX9_note_50 hp
theorem dX9_apart_0 : decode cX9_apart 0 = .ok (.aload_n 0, 1) := by decide +kernel
theorem dX9_apart_1 : decode cX9_apart 1 = .ok (.iload_n 1, 1) := by decide +kernel
theorem dX9_apart_2 : decode cX9_apart 2 = .ok (.invokevirtual 125, 3) := by decide +kernel
theorem dX9_apart_5 : decode cX9_apart 5 = .ok (.ifCond .ne 11, 3) := by decide +kernel
theorem dX9_apart_8 : decode cX9_apart 8 = .ok (.aload_n 0, 1) := by decide +kernel
theorem dX9_apart_9 : decode cX9_apart 9 = .ok (.iload_n 2, 1) := by decide +kernel
theorem dX9_apart_10 : decode cX9_apart 10 = .ok (.invokevirtual 125, 3) := by decide +kernel
theorem dX9_apart_13 : decode cX9_apart 13 = .ok (.ifCond .eq 13, 3) := by decide +kernel
theorem dX9_apart_16 : decode cX9_apart 16 = .ok (.new 108, 3) := by decide +kernel
theorem dX9_apart_19 : decode cX9_apart 19 = .ok (.dup, 1) := by decide +kernel
theorem dX9_apart_20 : decode cX9_apart 20 = .ok (.ldc 149, 2) := by decide +kernel
theorem dX9_apart_22 : decode cX9_apart 22 = .ok (.invokespecial 112, 3) := by decide +kernel
theorem dX9_apart_25 : decode cX9_apart 25 = .ok (.athrow, 1) := by decide +kernel
theorem dX9_apart_26 : decode cX9_apart 26 = .ok (.aload_n 0, 1) := by decide +kernel
theorem dX9_apart_27 : decode cX9_apart 27 = .ok (.getfield 52, 3) := by decide +kernel
theorem dX9_apart_30 : decode cX9_apart 30 = .ok (.getfield 151, 3) := by decide +kernel
theorem dX9_apart_33 : decode cX9_apart 33 = .ok (.iload_n 1, 1) := by decide +kernel
theorem dX9_apart_34 : decode cX9_apart 34 = .ok (.invokestatic 155, 3) := by decide +kernel
theorem dX9_apart_37 : decode cX9_apart 37 = .ok (.aload_n 0, 1) := by decide +kernel
theorem dX9_apart_38 : decode cX9_apart 38 = .ok (.getfield 52, 3) := by decide +kernel
theorem dX9_apart_41 : decode cX9_apart 41 = .ok (.getfield 151, 3) := by decide +kernel
theorem dX9_apart_44 : decode cX9_apart 44 = .ok (.iload_n 2, 1) := by decide +kernel
theorem dX9_apart_45 : decode cX9_apart 45 = .ok (.invokestatic 155, 3) := by decide +kernel
theorem dX9_apart_48 : decode cX9_apart 48 = .ok (.invokestatic 159, 3) := by decide +kernel
theorem dX9_apart_51 : decode cX9_apart 51 = .ok (.ireturn, 1) := by decide +kernel
theorem bk_X9_apart_0 {C : JC} {d cl sl : Nat} {Q : State → Prop} {w : JW} {x1 : Int32} {x2 : Int32} {d2 : Nat} {r : Int32} {w2 : JW} (hm : jok C MX9_apart d cl sl) (hs : jF MX9_isNoPipe d2 [jR 0 false, jI x1] w (jI r) w2) (hd2 : d2 + 1 ≤ d) (k : jW C cl sl Q 5 [jR 0 false, jI x1, jI x2] [jI r] w2) : jW C cl sl Q 0 [jR 0 false, jI x1, jI x2] [] w := jr_aload_n hm (i := 0) rfl rfl dX9_apart_0 (jr_iload_n hm (i := 1) rfl rfl dX9_apart_1 (jr_callV (mc := 0) (ms := 0) hm hs hd2 jw_250 jw_252 jw_6 jw_47 jw_253 jn_X9_isNoPipe rfl jo_0 (fun _ _ _ _ _ => ⟨_, rfl⟩) rfl rfl (Nat.le_of_ble_eq_true rfl) rfl dX9_apart_2 (jkF (jr_drop (jle_same (jle_same (jle_same jle_nil))) k))))
theorem bk_X9_apart_5 {C : JC} {d cl sl : Nat} {Q : State → Prop} {w : JW} {x1 : Int32} {x2 : Int32} {xs0 : Int32} (hm : jok C MX9_apart d cl sl) (kt : ¬ xs0 = 0 → jW C cl sl Q 16 [jU, jU, jU] [] w) (kf : xs0 = 0 → jW C cl sl Q 8 [jR 0 false, jI x1, jI x2] [] w) : jW C cl sl Q 5 [jR 0 false, jI x1, jI x2] [jI xs0] w := jr_if_ne hm dX9_apart_5 (by decide) (fun h => jr_drop (jle_drop (jle_drop (jle_drop jle_nil))) (kt h)) (fun h => jr_drop (jle_same (jle_same (jle_same jle_nil))) (kf h))
theorem bk_X9_apart_8 {C : JC} {d cl sl : Nat} {Q : State → Prop} {w : JW} {x1 : Int32} {x2 : Int32} {d2 : Nat} {r : Int32} {w2 : JW} (hm : jok C MX9_apart d cl sl) (hs : jF MX9_isNoPipe d2 [jR 0 false, jI x2] w (jI r) w2) (hd2 : d2 + 1 ≤ d) (k : jW C cl sl Q 13 [jR 0 false, jI x1, jI x2] [jI r] w2) : jW C cl sl Q 8 [jR 0 false, jI x1, jI x2] [] w := jr_aload_n hm (i := 0) rfl rfl dX9_apart_8 (jr_iload_n hm (i := 2) rfl rfl dX9_apart_9 (jr_callV (mc := 0) (ms := 0) hm hs hd2 jw_250 jw_252 jw_6 jw_47 jw_253 jn_X9_isNoPipe rfl jo_0 (fun _ _ _ _ _ => ⟨_, rfl⟩) rfl rfl (Nat.le_of_ble_eq_true rfl) rfl dX9_apart_10 (jkF (jr_drop (jle_same (jle_same (jle_same jle_nil))) k))))
theorem bk_X9_apart_13 {C : JC} {d cl sl : Nat} {Q : State → Prop} {w : JW} {x1 : Int32} {x2 : Int32} {xs0 : Int32} (hm : jok C MX9_apart d cl sl) (kt : xs0 = 0 → jW C cl sl Q 26 [jR 0 false, jI x1, jI x2] [] w) (kf : ¬ xs0 = 0 → jW C cl sl Q 16 [jU, jU, jU] [] w) : jW C cl sl Q 13 [jR 0 false, jI x1, jI x2] [jI xs0] w := jr_if_eq hm dX9_apart_13 (by decide) (fun h => jr_drop (jle_same (jle_same (jle_same jle_nil))) (kt h)) (fun h => jr_drop (jle_drop (jle_drop (jle_drop jle_nil))) (kf h))
theorem bk_X9_apart_26 {C : JC} {d cl sl : Nat} {Q : State → Prop} {w : JW} {x1 : Int32} {x2 : Int32} {d2 : Nat} {r : Int32} {w2 : JW} (hm : jok C MX9_apart d cl sl) (hs : jF MX9_at d2 [jR 24 (w.2.2 0 6), jI x1] w (jI r) w2) (hd2 : d2 + 1 ≤ d) (k : jW C cl sl Q 37 [jR 0 false, jU, jI x2] [jI r] w2) : jW C cl sl Q 26 [jR 0 false, jI x1, jI x2] [] w := jr_aload_n hm (i := 0) rfl rfl dX9_apart_26 (fg_X9_52 hm dX9_apart_27 (fg_X9_151 hm dX9_apart_30 (jr_iload_n hm (i := 1) rfl rfl dX9_apart_33 (jr_callS (mc := 0) (ms := 0) hm hs hd2 jw_195 jw_162 jw_47 jw_163 jn_X9_at rfl rfl (Nat.le_of_ble_eq_true rfl) rfl dX9_apart_34 (jkF (jr_drop (jle_same (jle_drop (jle_same jle_nil))) k))))))
theorem bk_X9_apart_37 {C : JC} {d cl sl : Nat} {Q : State → Prop} {w : JW} {x2 : Int32} {xs0 : Int32} {d2 : Nat} {r : Int32} {w2 : JW} (hm : jok C MX9_apart d cl sl) (hs : jF MX9_at d2 [jR 24 (w.2.2 0 6), jI x2] w (jI r) w2) (hd2 : d2 + 1 ≤ d) (k : jW C cl sl Q 48 [jU, jU, jU] [jI r, jI xs0] w2) : jW C cl sl Q 37 [jR 0 false, jU, jI x2] [jI xs0] w := jr_aload_n hm (i := 0) rfl rfl dX9_apart_37 (fg_X9_52 hm dX9_apart_38 (fg_X9_151 hm dX9_apart_41 (jr_iload_n hm (i := 2) rfl rfl dX9_apart_44 (jr_callS (mc := 0) (ms := 0) hm hs hd2 jw_195 jw_162 jw_47 jw_163 jn_X9_at rfl rfl (Nat.le_of_ble_eq_true rfl) rfl dX9_apart_45 (jkF (jr_drop (jle_drop (jle_same (jle_drop jle_nil))) k))))))
theorem bk_X9_apart_48 {C : JC} {d cl sl : Nat} {Q : State → Prop} {w : JW} {xs0 : Int32} {xs1 : Int32} {d2 : Nat} {r : Int32} {w2 : JW} (hm : jok C MX9_apart d cl sl) (hs : jF MX9_stepsBetween d2 [jI xs1, jI xs0] w (jI r) w2) (hd2 : d2 + 1 ≤ d) (k : jW C cl sl Q 51 [jU, jU, jU] [jI r] w2) : jW C cl sl Q 48 [jU, jU, jU] [jI xs0, jI xs1] w := jr_callS (mc := 0) (ms := 0) hm hs hd2 jw_290 jw_291 jw_47 jw_292 jn_X9_stepsBetween rfl rfl (Nat.le_of_ble_eq_true rfl) rfl dX9_apart_48 (jkF (jr_drop (jle_same (jle_same (jle_same jle_nil))) k))
theorem bk_X9_apart_51 {C : JC} {d cl sl : Nat} {w : JW} {xs0 : Int32} {P : JV → JW → Prop} (hm : jok C MX9_apart d cl sl) (hp : P (jI xs0) w) : jW C cl sl (jQQ C cl sl P) 51 [jU, jU, jU] [jI xs0] w := jr_ireturn hm rfl dX9_apart_51 hp
theorem dX9_setTide_0 : decode cX9_setTide 0 = .ok (.iload_n 1, 1) := by decide +kernel
theorem dX9_setTide_1 : decode cX9_setTide 1 = .ok (.ifCond .lt 9, 3) := by decide +kernel
theorem dX9_setTide_4 : decode cX9_setTide 4 = .ok (.iload_n 1, 1) := by decide +kernel
theorem dX9_setTide_5 : decode cX9_setTide 5 = .ok (.bipush 9, 2) := by decide +kernel
theorem dX9_setTide_7 : decode cX9_setTide 7 = .ok (.if_icmp .le 13, 3) := by decide +kernel
theorem dX9_setTide_10 : decode cX9_setTide 10 = .ok (.new 78, 3) := by decide +kernel
theorem dX9_setTide_13 : decode cX9_setTide 13 = .ok (.dup, 1) := by decide +kernel
theorem dX9_setTide_14 : decode cX9_setTide 14 = .ok (.ldc 179, 2) := by decide +kernel
theorem dX9_setTide_16 : decode cX9_setTide 16 = .ok (.invokespecial 82, 3) := by decide +kernel
theorem dX9_setTide_19 : decode cX9_setTide 19 = .ok (.athrow, 1) := by decide +kernel
theorem dX9_setTide_20 : decode cX9_setTide 20 = .ok (.aload_n 0, 1) := by decide +kernel
theorem dX9_setTide_21 : decode cX9_setTide 21 = .ok (.getfield 42, 3) := by decide +kernel
theorem dX9_setTide_24 : decode cX9_setTide 24 = .ok (.getfield 168, 3) := by decide +kernel
theorem dX9_setTide_27 : decode cX9_setTide 27 = .ok (.istore_n 2, 1) := by decide +kernel
theorem dX9_setTide_28 : decode cX9_setTide 28 = .ok (.aload_n 0, 1) := by decide +kernel
theorem dX9_setTide_29 : decode cX9_setTide 29 = .ok (.getfield 42, 3) := by decide +kernel
theorem dX9_setTide_32 : decode cX9_setTide 32 = .ok (.iload_n 1, 1) := by decide +kernel
theorem dX9_setTide_33 : decode cX9_setTide 33 = .ok (.putfield 168, 3) := by decide +kernel
theorem dX9_setTide_36 : decode cX9_setTide 36 = .ok (.iload_n 2, 1) := by decide +kernel
theorem dX9_setTide_37 : decode cX9_setTide 37 = .ok (.ireturn, 1) := by decide +kernel
theorem bk_X9_setTide_0 {C : JC} {d cl sl : Nat} {Q : State → Prop} {w : JW} {x1 : Int32} (hm : jok C MX9_setTide d cl sl) (kt : x1 < 0 → jW C cl sl Q 10 [jU, jU, jU] [] w) (kf : ¬ x1 < 0 → jW C cl sl Q 4 [jR 0 false, jI x1, jU] [] w) : jW C cl sl Q 0 [jR 0 false, jI x1, jU] [] w := jr_iload_n hm (i := 1) rfl rfl dX9_setTide_0 (jr_if_lt hm dX9_setTide_1 (by decide) (fun h => jr_drop (jle_drop (jle_drop (jle_same jle_nil))) (kt h)) (fun h => jr_drop (jle_same (jle_same (jle_same jle_nil))) (kf h)))
theorem bk_X9_setTide_4 {C : JC} {d cl sl : Nat} {Q : State → Prop} {w : JW} {x1 : Int32} (hm : jok C MX9_setTide d cl sl) (kt : x1 ≤ 9 → jW C cl sl Q 20 [jR 0 false, jI x1, jU] [] w) (kf : ¬ x1 ≤ 9 → jW C cl sl Q 10 [jU, jU, jU] [] w) : jW C cl sl Q 4 [jR 0 false, jI x1, jU] [] w := jr_iload_n hm (i := 1) rfl rfl dX9_setTide_4 (jr_bipush hm (v := 9) (by decide) dX9_setTide_5 (jr_icmp_le hm dX9_setTide_7 (by decide) (fun h => jr_drop (jle_same (jle_same (jle_same jle_nil))) (kt h)) (fun h => jr_drop (jle_drop (jle_drop (jle_same jle_nil))) (kf h))))
theorem bk_X9_setTide_20 {C : JC} {d cl sl : Nat} {w : JW} {x1 : Int32} {P : JV → JW → Prop} (hm : jok C MX9_setTide d cl sl) (hp : P (jI (w.1 14 false 6)) (jset w 14 false 6 x1)) : jW C cl sl (jQQ C cl sl P) 20 [jR 0 false, jI x1, jU] [] w := jr_aload_n hm (i := 0) rfl rfl dX9_setTide_20 (fg_X9_42 hm dX9_setTide_21 (fg_X9_168 hm dX9_setTide_24 (jr_istore_n hm (i := 2) rfl (Nat.le_of_ble_eq_true rfl) rfl dX9_setTide_27 (jr_aload_n hm (i := 0) rfl rfl dX9_setTide_28 (fg_X9_42 hm dX9_setTide_29 (jr_iload_n hm (i := 1) rfl rfl dX9_setTide_32 (fp_X9_168 hm dX9_setTide_33 (jr_iload_n hm (i := 2) rfl rfl dX9_setTide_36 (jr_ireturn hm rfl dX9_setTide_37 hp)))))))))
theorem dX9_clean_0 : decode cX9_clean 0 = .ok (.aload_n 0, 1) := by decide +kernel
theorem dX9_clean_1 : decode cX9_clean 1 = .ok (.iload_n 1, 1) := by decide +kernel
theorem dX9_clean_2 : decode cX9_clean 2 = .ok (.invokevirtual 125, 3) := by decide +kernel
theorem dX9_clean_5 : decode cX9_clean 5 = .ok (.ifCond .eq 13, 3) := by decide +kernel
theorem dX9_clean_8 : decode cX9_clean 8 = .ok (.new 108, 3) := by decide +kernel
theorem dX9_clean_11 : decode cX9_clean 11 = .ok (.dup, 1) := by decide +kernel
theorem dX9_clean_12 : decode cX9_clean 12 = .ok (.ldc 149, 2) := by decide +kernel
theorem dX9_clean_14 : decode cX9_clean 14 = .ok (.invokespecial 112, 3) := by decide +kernel
theorem dX9_clean_17 : decode cX9_clean 17 = .ok (.athrow, 1) := by decide +kernel
theorem dX9_clean_18 : decode cX9_clean 18 = .ok (.aload_n 0, 1) := by decide +kernel
theorem dX9_clean_19 : decode cX9_clean 19 = .ok (.getfield 42, 3) := by decide +kernel
theorem dX9_clean_22 : decode cX9_clean 22 = .ok (.getfield 181, 3) := by decide +kernel
theorem dX9_clean_25 : decode cX9_clean 25 = .ok (.iload_n 1, 1) := by decide +kernel
theorem dX9_clean_26 : decode cX9_clean 26 = .ok (.invokestatic 155, 3) := by decide +kernel
theorem dX9_clean_29 : decode cX9_clean 29 = .ok (.istore_n 2, 1) := by decide +kernel
theorem dX9_clean_30 : decode cX9_clean 30 = .ok (.aload_n 0, 1) := by decide +kernel
theorem dX9_clean_31 : decode cX9_clean 31 = .ok (.getfield 42, 3) := by decide +kernel
theorem dX9_clean_34 : decode cX9_clean 34 = .ok (.getfield 181, 3) := by decide +kernel
theorem dX9_clean_37 : decode cX9_clean 37 = .ok (.iload_n 1, 1) := by decide +kernel
theorem dX9_clean_38 : decode cX9_clean 38 = .ok (.iconst 0, 1) := by decide +kernel
theorem dX9_clean_39 : decode cX9_clean 39 = .ok (.invokestatic 184, 3) := by decide +kernel
theorem dX9_clean_42 : decode cX9_clean 42 = .ok (.iload_n 2, 1) := by decide +kernel
theorem dX9_clean_43 : decode cX9_clean 43 = .ok (.ireturn, 1) := by decide +kernel
theorem bk_X9_clean_0 {C : JC} {d cl sl : Nat} {Q : State → Prop} {w : JW} {x1 : Int32} {d2 : Nat} {r : Int32} {w2 : JW} (hm : jok C MX9_clean d cl sl) (hs : jF MX9_isNoPipe d2 [jR 0 false, jI x1] w (jI r) w2) (hd2 : d2 + 1 ≤ d) (k : jW C cl sl Q 5 [jR 0 false, jI x1, jU] [jI r] w2) : jW C cl sl Q 0 [jR 0 false, jI x1, jU] [] w := jr_aload_n hm (i := 0) rfl rfl dX9_clean_0 (jr_iload_n hm (i := 1) rfl rfl dX9_clean_1 (jr_callV (mc := 0) (ms := 0) hm hs hd2 jw_250 jw_252 jw_6 jw_47 jw_253 jn_X9_isNoPipe rfl jo_0 (fun _ _ _ _ _ => ⟨_, rfl⟩) rfl rfl (Nat.le_of_ble_eq_true rfl) rfl dX9_clean_2 (jkF (jr_drop (jle_same (jle_same (jle_same jle_nil))) k))))
theorem bk_X9_clean_5 {C : JC} {d cl sl : Nat} {Q : State → Prop} {w : JW} {x1 : Int32} {xs0 : Int32} (hm : jok C MX9_clean d cl sl) (kt : xs0 = 0 → jW C cl sl Q 18 [jR 0 false, jI x1, jU] [] w) (kf : ¬ xs0 = 0 → jW C cl sl Q 8 [jU, jU, jU] [] w) : jW C cl sl Q 5 [jR 0 false, jI x1, jU] [jI xs0] w := jr_if_eq hm dX9_clean_5 (by decide) (fun h => jr_drop (jle_same (jle_same (jle_same jle_nil))) (kt h)) (fun h => jr_drop (jle_drop (jle_drop (jle_same jle_nil))) (kf h))
theorem bk_X9_clean_18 {C : JC} {d cl sl : Nat} {Q : State → Prop} {w : JW} {x1 : Int32} {d2 : Nat} {r : Int32} {w2 : JW} (hm : jok C MX9_clean d cl sl) (hs : jF MX9_at d2 [jR 16 false, jI x1] w (jI r) w2) (hd2 : d2 + 1 ≤ d) (k : jW C cl sl Q 29 [jR 0 false, jI x1, jU] [jI r] w2) : jW C cl sl Q 18 [jR 0 false, jI x1, jU] [] w := jr_aload_n hm (i := 0) rfl rfl dX9_clean_18 (fg_X9_42 hm dX9_clean_19 (fg_X9_181 hm dX9_clean_22 (jr_iload_n hm (i := 1) rfl rfl dX9_clean_25 (jr_callS (mc := 0) (ms := 0) hm hs hd2 jw_195 jw_162 jw_47 jw_163 jn_X9_at rfl rfl (Nat.le_of_ble_eq_true rfl) rfl dX9_clean_26 (jkF (jr_drop (jle_same (jle_same (jle_same jle_nil))) k))))))
theorem bk_X9_clean_29 {C : JC} {d cl sl : Nat} {Q : State → Prop} {w : JW} {x1 : Int32} {xs0 : Int32} {d2 : Nat} {w2 : JW} (hm : jok C MX9_clean d cl sl) (hs : jF MX9_put d2 [jR 16 false, jI x1, jI 0] w (jU) w2) (hd2 : d2 + 1 ≤ d) (k : jW C cl sl Q 42 [jU, jU, jI xs0] [] w2) : jW C cl sl Q 29 [jR 0 false, jI x1, jU] [jI xs0] w := jr_istore_n hm (i := 2) rfl (Nat.le_of_ble_eq_true rfl) rfl dX9_clean_29 (jr_aload_n hm (i := 0) rfl rfl dX9_clean_30 (fg_X9_42 hm dX9_clean_31 (fg_X9_181 hm dX9_clean_34 (jr_iload_n hm (i := 1) rfl rfl dX9_clean_37 (jr_iconst hm (v := 0) (by decide) dX9_clean_38 (jr_callS (mc := 0) (ms := 0) hm hs hd2 jw_317 jw_225 jw_47 jw_226 jn_X9_put rfl rfl (Nat.le_of_ble_eq_true rfl) rfl dX9_clean_39 (jkF (jr_drop (jle_drop (jle_drop (jle_same jle_nil))) k))))))))
theorem bk_X9_clean_42 {C : JC} {d cl sl : Nat} {w : JW} {x2 : Int32} {P : JV → JW → Prop} (hm : jok C MX9_clean d cl sl) (hp : P (jI x2) w) : jW C cl sl (jQQ C cl sl P) 42 [jU, jU, jI x2] [] w := jr_iload_n hm (i := 2) rfl rfl dX9_clean_42 (jr_ireturn hm rfl dX9_clean_43 hp)
theorem dX9_cut_0 : decode cX9_cut 0 = .ok (.aload_n 0, 1) := by decide +kernel
theorem dX9_cut_1 : decode cX9_cut 1 = .ok (.iload_n 1, 1) := by decide +kernel
theorem dX9_cut_2 : decode cX9_cut 2 = .ok (.invokevirtual 125, 3) := by decide +kernel
theorem dX9_cut_5 : decode cX9_cut 5 = .ok (.ifCond .eq 13, 3) := by decide +kernel
theorem dX9_cut_8 : decode cX9_cut 8 = .ok (.new 108, 3) := by decide +kernel
theorem dX9_cut_11 : decode cX9_cut 11 = .ok (.dup, 1) := by decide +kernel
theorem dX9_cut_12 : decode cX9_cut 12 = .ok (.ldc 149, 2) := by decide +kernel
theorem dX9_cut_14 : decode cX9_cut 14 = .ok (.invokespecial 112, 3) := by decide +kernel
theorem dX9_cut_17 : decode cX9_cut 17 = .ok (.athrow, 1) := by decide +kernel
theorem dX9_cut_18 : decode cX9_cut 18 = .ok (.aload_n 0, 1) := by decide +kernel
theorem dX9_cut_19 : decode cX9_cut 19 = .ok (.getfield 52, 3) := by decide +kernel
theorem dX9_cut_22 : decode cX9_cut 22 = .ok (.getfield 151, 3) := by decide +kernel
theorem dX9_cut_25 : decode cX9_cut 25 = .ok (.iload_n 1, 1) := by decide +kernel
theorem dX9_cut_26 : decode cX9_cut 26 = .ok (.invokestatic 155, 3) := by decide +kernel
theorem dX9_cut_29 : decode cX9_cut 29 = .ok (.istore_n 3, 1) := by decide +kernel
theorem dX9_cut_30 : decode cX9_cut 30 = .ok (.iload_n 2, 1) := by decide +kernel
theorem dX9_cut_31 : decode cX9_cut 31 = .ok (.iconst 1, 1) := by decide +kernel
theorem dX9_cut_32 : decode cX9_cut 32 = .ok (.if_icmp .lt 8, 3) := by decide +kernel
theorem dX9_cut_35 : decode cX9_cut 35 = .ok (.iload_n 2, 1) := by decide +kernel
theorem dX9_cut_36 : decode cX9_cut 36 = .ok (.iload_n 3, 1) := by decide +kernel
theorem dX9_cut_37 : decode cX9_cut 37 = .ok (.if_icmp .lt 13, 3) := by decide +kernel
theorem dX9_cut_40 : decode cX9_cut 40 = .ok (.new 78, 3) := by decide +kernel
theorem dX9_cut_43 : decode cX9_cut 43 = .ok (.dup, 1) := by decide +kernel
theorem dX9_cut_44 : decode cX9_cut 44 = .ok (.ldc 188, 2) := by decide +kernel
theorem dX9_cut_46 : decode cX9_cut 46 = .ok (.invokespecial 82, 3) := by decide +kernel
theorem dX9_cut_49 : decode cX9_cut 49 = .ok (.athrow, 1) := by decide +kernel
theorem dX9_cut_50 : decode cX9_cut 50 = .ok (.aload_n 0, 1) := by decide +kernel
theorem dX9_cut_51 : decode cX9_cut 51 = .ok (.getfield 52, 3) := by decide +kernel
theorem dX9_cut_54 : decode cX9_cut 54 = .ok (.getfield 151, 3) := by decide +kernel
theorem dX9_cut_57 : decode cX9_cut 57 = .ok (.iload_n 1, 1) := by decide +kernel
theorem dX9_cut_58 : decode cX9_cut 58 = .ok (.iload_n 3, 1) := by decide +kernel
theorem dX9_cut_59 : decode cX9_cut 59 = .ok (.iload_n 2, 1) := by decide +kernel
theorem dX9_cut_60 : decode cX9_cut 60 = .ok (.isub, 1) := by decide +kernel
theorem dX9_cut_61 : decode cX9_cut 61 = .ok (.invokestatic 184, 3) := by decide +kernel
theorem dX9_cut_64 : decode cX9_cut 64 = .ok (.iload_n 3, 1) := by decide +kernel
theorem dX9_cut_65 : decode cX9_cut 65 = .ok (.iload_n 2, 1) := by decide +kernel
theorem dX9_cut_66 : decode cX9_cut 66 = .ok (.isub, 1) := by decide +kernel
theorem dX9_cut_67 : decode cX9_cut 67 = .ok (.ireturn, 1) := by decide +kernel
theorem bk_X9_cut_0 {C : JC} {d cl sl : Nat} {Q : State → Prop} {w : JW} {x1 : Int32} {x2 : Int32} {d2 : Nat} {r : Int32} {w2 : JW} (hm : jok C MX9_cut d cl sl) (hs : jF MX9_isNoPipe d2 [jR 0 false, jI x1] w (jI r) w2) (hd2 : d2 + 1 ≤ d) (k : jW C cl sl Q 5 [jR 0 false, jI x1, jI x2, jU] [jI r] w2) : jW C cl sl Q 0 [jR 0 false, jI x1, jI x2, jU] [] w := jr_aload_n hm (i := 0) rfl rfl dX9_cut_0 (jr_iload_n hm (i := 1) rfl rfl dX9_cut_1 (jr_callV (mc := 0) (ms := 0) hm hs hd2 jw_250 jw_252 jw_6 jw_47 jw_253 jn_X9_isNoPipe rfl jo_0 (fun _ _ _ _ _ => ⟨_, rfl⟩) rfl rfl (Nat.le_of_ble_eq_true rfl) rfl dX9_cut_2 (jkF (jr_drop (jle_same (jle_same (jle_same (jle_same jle_nil)))) k))))
theorem bk_X9_cut_5 {C : JC} {d cl sl : Nat} {Q : State → Prop} {w : JW} {x1 : Int32} {x2 : Int32} {xs0 : Int32} (hm : jok C MX9_cut d cl sl) (kt : xs0 = 0 → jW C cl sl Q 18 [jR 0 false, jI x1, jI x2, jU] [] w) (kf : ¬ xs0 = 0 → jW C cl sl Q 8 [jU, jU, jU, jU] [] w) : jW C cl sl Q 5 [jR 0 false, jI x1, jI x2, jU] [jI xs0] w := jr_if_eq hm dX9_cut_5 (by decide) (fun h => jr_drop (jle_same (jle_same (jle_same (jle_same jle_nil)))) (kt h)) (fun h => jr_drop (jle_drop (jle_drop (jle_drop (jle_same jle_nil)))) (kf h))
theorem bk_X9_cut_18 {C : JC} {d cl sl : Nat} {Q : State → Prop} {w : JW} {x1 : Int32} {x2 : Int32} {d2 : Nat} {r : Int32} {w2 : JW} (hm : jok C MX9_cut d cl sl) (hs : jF MX9_at d2 [jR 24 (w.2.2 0 6), jI x1] w (jI r) w2) (hd2 : d2 + 1 ≤ d) (k : jW C cl sl Q 29 [jR 0 false, jI x1, jI x2, jU] [jI r] w2) : jW C cl sl Q 18 [jR 0 false, jI x1, jI x2, jU] [] w := jr_aload_n hm (i := 0) rfl rfl dX9_cut_18 (fg_X9_52 hm dX9_cut_19 (fg_X9_151 hm dX9_cut_22 (jr_iload_n hm (i := 1) rfl rfl dX9_cut_25 (jr_callS (mc := 0) (ms := 0) hm hs hd2 jw_195 jw_162 jw_47 jw_163 jn_X9_at rfl rfl (Nat.le_of_ble_eq_true rfl) rfl dX9_cut_26 (jkF (jr_drop (jle_same (jle_same (jle_same (jle_same jle_nil)))) k))))))
theorem bk_X9_cut_29 {C : JC} {d cl sl : Nat} {Q : State → Prop} {w : JW} {x1 : Int32} {x2 : Int32} {xs0 : Int32} (hm : jok C MX9_cut d cl sl) (kt : x2 < 1 → jW C cl sl Q 40 [jU, jU, jU, jU] [] w) (kf : ¬ x2 < 1 → jW C cl sl Q 35 [jR 0 false, jI x1, jI x2, jI xs0] [] w) : jW C cl sl Q 29 [jR 0 false, jI x1, jI x2, jU] [jI xs0] w := jr_istore_n hm (i := 3) rfl (Nat.le_of_ble_eq_true rfl) rfl dX9_cut_29 (jr_iload_n hm (i := 2) rfl rfl dX9_cut_30 (jr_iconst hm (v := 1) (by decide) dX9_cut_31 (jr_icmp_lt hm dX9_cut_32 (by decide) (fun h => jr_drop (jle_drop (jle_drop (jle_drop (jle_drop jle_nil)))) (kt h)) (fun h => jr_drop (jle_same (jle_same (jle_same (jle_same jle_nil)))) (kf h)))))
theorem bk_X9_cut_35 {C : JC} {d cl sl : Nat} {Q : State → Prop} {w : JW} {x1 : Int32} {x2 : Int32} {x3 : Int32} (hm : jok C MX9_cut d cl sl) (kt : x2 < x3 → jW C cl sl Q 50 [jR 0 false, jI x1, jI x2, jI x3] [] w) (kf : ¬ x2 < x3 → jW C cl sl Q 40 [jU, jU, jU, jU] [] w) : jW C cl sl Q 35 [jR 0 false, jI x1, jI x2, jI x3] [] w := jr_iload_n hm (i := 2) rfl rfl dX9_cut_35 (jr_iload_n hm (i := 3) rfl rfl dX9_cut_36 (jr_icmp_lt hm dX9_cut_37 (by decide) (fun h => jr_drop (jle_same (jle_same (jle_same (jle_same jle_nil)))) (kt h)) (fun h => jr_drop (jle_drop (jle_drop (jle_drop (jle_drop jle_nil)))) (kf h))))
theorem bk_X9_cut_50 {C : JC} {d cl sl : Nat} {Q : State → Prop} {w : JW} {x1 : Int32} {x2 : Int32} {x3 : Int32} {d2 : Nat} {w2 : JW} (hm : jok C MX9_cut d cl sl) (hs : jF MX9_put d2 [jR 24 (w.2.2 0 6), jI x1, jI (x3 - x2)] w (jU) w2) (hd2 : d2 + 1 ≤ d) (k : jW C cl sl Q 64 [jU, jU, jI x2, jI x3] [] w2) : jW C cl sl Q 50 [jR 0 false, jI x1, jI x2, jI x3] [] w := jr_aload_n hm (i := 0) rfl rfl dX9_cut_50 (fg_X9_52 hm dX9_cut_51 (fg_X9_151 hm dX9_cut_54 (jr_iload_n hm (i := 1) rfl rfl dX9_cut_57 (jr_iload_n hm (i := 3) rfl rfl dX9_cut_58 (jr_iload_n hm (i := 2) rfl rfl dX9_cut_59 (jr_isub hm dX9_cut_60 (jr_callS (mc := 0) (ms := 0) hm hs hd2 jw_317 jw_225 jw_47 jw_226 jn_X9_put rfl rfl (Nat.le_of_ble_eq_true rfl) rfl dX9_cut_61 (jkF (jr_drop (jle_drop (jle_drop (jle_same (jle_same jle_nil)))) k)))))))))
theorem bk_X9_cut_64 {C : JC} {d cl sl : Nat} {w : JW} {x2 : Int32} {x3 : Int32} {P : JV → JW → Prop} (hm : jok C MX9_cut d cl sl) (hp : P (jI (x3 - x2)) w) : jW C cl sl (jQQ C cl sl P) 64 [jU, jU, jI x2, jI x3] [] w := jr_iload_n hm (i := 3) rfl rfl dX9_cut_64 (jr_iload_n hm (i := 2) rfl rfl dX9_cut_65 (jr_isub hm dX9_cut_66 (jr_ireturn hm rfl dX9_cut_67 hp)))
theorem dX9_pass_0 : decode cX9_pass 0 = .ok (.iload_n 1, 1) := by decide +kernel
theorem dX9_pass_1 : decode cX9_pass 1 = .ok (.iconst 1, 1) := by decide +kernel
theorem dX9_pass_2 : decode cX9_pass 2 = .ok (.if_icmp .lt 9, 3) := by decide +kernel
theorem dX9_pass_5 : decode cX9_pass 5 = .ok (.iload_n 1, 1) := by decide +kernel
theorem dX9_pass_6 : decode cX9_pass 6 = .ok (.bipush 120, 2) := by decide +kernel
theorem dX9_pass_8 : decode cX9_pass 8 = .ok (.if_icmp .le 13, 3) := by decide +kernel
theorem dX9_pass_11 : decode cX9_pass 11 = .ok (.new 78, 3) := by decide +kernel
theorem dX9_pass_14 : decode cX9_pass 14 = .ok (.dup, 1) := by decide +kernel
theorem dX9_pass_15 : decode cX9_pass 15 = .ok (.ldc 190, 2) := by decide +kernel
theorem dX9_pass_17 : decode cX9_pass 17 = .ok (.invokespecial 82, 3) := by decide +kernel
theorem dX9_pass_20 : decode cX9_pass 20 = .ok (.athrow, 1) := by decide +kernel
theorem dX9_pass_21 : decode cX9_pass 21 = .ok (.aload_n 0, 1) := by decide +kernel
theorem dX9_pass_22 : decode cX9_pass 22 = .ok (.getfield 42, 3) := by decide +kernel
theorem dX9_pass_25 : decode cX9_pass 25 = .ok (.getfield 192, 3) := by decide +kernel
theorem dX9_pass_28 : decode cX9_pass 28 = .ok (.istore_n 2, 1) := by decide +kernel
theorem dX9_pass_29 : decode cX9_pass 29 = .ok (.aload_n 0, 1) := by decide +kernel
theorem dX9_pass_30 : decode cX9_pass 30 = .ok (.getfield 35, 3) := by decide +kernel
theorem dX9_pass_33 : decode cX9_pass 33 = .ok (.aload_n 0, 1) := by decide +kernel
theorem dX9_pass_34 : decode cX9_pass 34 = .ok (.getfield 52, 3) := by decide +kernel
theorem dX9_pass_37 : decode cX9_pass 37 = .ok (.aload_n 0, 1) := by decide +kernel
theorem dX9_pass_38 : decode cX9_pass 38 = .ok (.getfield 42, 3) := by decide +kernel
theorem dX9_pass_41 : decode cX9_pass 41 = .ok (.iload_n 1, 1) := by decide +kernel
theorem dX9_pass_42 : decode cX9_pass 42 = .ok (.invokevirtual 195, 3) := by decide +kernel
theorem dX9_pass_45 : decode cX9_pass 45 = .ok (.aload_n 0, 1) := by decide +kernel
theorem dX9_pass_46 : decode cX9_pass 46 = .ok (.getfield 42, 3) := by decide +kernel
theorem dX9_pass_49 : decode cX9_pass 49 = .ok (.getfield 192, 3) := by decide +kernel
theorem dX9_pass_52 : decode cX9_pass 52 = .ok (.iload_n 2, 1) := by decide +kernel
theorem dX9_pass_53 : decode cX9_pass 53 = .ok (.isub, 1) := by decide +kernel
theorem dX9_pass_54 : decode cX9_pass 54 = .ok (.ireturn, 1) := by decide +kernel
theorem bk_X9_pass_0 {C : JC} {d cl sl : Nat} {Q : State → Prop} {w : JW} {x1 : Int32} (hm : jok C MX9_pass d cl sl) (kt : x1 < 1 → jW C cl sl Q 11 [jU, jU, jU] [] w) (kf : ¬ x1 < 1 → jW C cl sl Q 5 [jR 0 false, jI x1, jU] [] w) : jW C cl sl Q 0 [jR 0 false, jI x1, jU] [] w := jr_iload_n hm (i := 1) rfl rfl dX9_pass_0 (jr_iconst hm (v := 1) (by decide) dX9_pass_1 (jr_icmp_lt hm dX9_pass_2 (by decide) (fun h => jr_drop (jle_drop (jle_drop (jle_same jle_nil))) (kt h)) (fun h => jr_drop (jle_same (jle_same (jle_same jle_nil))) (kf h))))
theorem bk_X9_pass_5 {C : JC} {d cl sl : Nat} {Q : State → Prop} {w : JW} {x1 : Int32} (hm : jok C MX9_pass d cl sl) (kt : x1 ≤ 120 → jW C cl sl Q 21 [jR 0 false, jI x1, jU] [] w) (kf : ¬ x1 ≤ 120 → jW C cl sl Q 11 [jU, jU, jU] [] w) : jW C cl sl Q 5 [jR 0 false, jI x1, jU] [] w := jr_iload_n hm (i := 1) rfl rfl dX9_pass_5 (jr_bipush hm (v := 120) (by decide) dX9_pass_6 (jr_icmp_le hm dX9_pass_8 (by decide) (fun h => jr_drop (jle_same (jle_same (jle_same jle_nil))) (kt h)) (fun h => jr_drop (jle_drop (jle_drop (jle_same jle_nil))) (kf h))))
theorem bk_X9_pass_21 {C : JC} {d cl sl : Nat} {Q : State → Prop} {w : JW} {x1 : Int32} {d2 : Nat} {w2 : JW} (hm : jok C MX9_pass d cl sl) (hs : jF MX4_run d2 [jR 11 false, jR 20 (w.2.2 0 6), jR 14 false, jI x1] w (jU) w2) (hd2 : d2 + 1 ≤ d) (k : jW C cl sl Q 45 [jR 0 false, jU, jI (w.1 14 false 7)] [] w2) : jW C cl sl Q 21 [jR 0 false, jI x1, jU] [] w := jr_aload_n hm (i := 0) rfl rfl dX9_pass_21 (fg_X9_42 hm dX9_pass_22 (fg_X9_192 hm dX9_pass_25 (jr_istore_n hm (i := 2) rfl (Nat.le_of_ble_eq_true rfl) rfl dX9_pass_28 (jr_aload_n hm (i := 0) rfl rfl dX9_pass_29 (fg_X9_35 hm dX9_pass_30 (jr_aload_n hm (i := 0) rfl rfl dX9_pass_33 (fg_X9_52 hm dX9_pass_34 (jr_aload_n hm (i := 0) rfl rfl dX9_pass_37 (fg_X9_42 hm dX9_pass_38 (jr_iload_n hm (i := 1) rfl rfl dX9_pass_41 (jr_callV (mc := 0) (ms := 0) hm hs hd2 jw_328 jw_329 jw_330 jw_54 jw_331 jn_X4_run rfl jo_11 (fun _ _ _ _ _ => ⟨_, rfl⟩) rfl rfl (Nat.le_of_ble_eq_true rfl) rfl dX9_pass_42 (jkF (jr_drop (jle_same (jle_drop (jle_same jle_nil))) k)))))))))))))
theorem bk_X9_pass_45 {C : JC} {d cl sl : Nat} {w : JW} {x2 : Int32} {P : JV → JW → Prop} (hm : jok C MX9_pass d cl sl) (hp : P (jI ((w.1 14 false 7) - x2)) w) : jW C cl sl (jQQ C cl sl P) 45 [jR 0 false, jU, jI x2] [] w := jr_aload_n hm (i := 0) rfl rfl dX9_pass_45 (fg_X9_42 hm dX9_pass_46 (fg_X9_192 hm dX9_pass_49 (jr_iload_n hm (i := 2) rfl rfl dX9_pass_52 (jr_isub hm dX9_pass_53 (jr_ireturn hm rfl dX9_pass_54 hp)))))
theorem dX9_until_0 : decode cX9_until 0 = .ok (.aload_n 0, 1) := by decide +kernel
theorem dX9_until_1 : decode cX9_until 1 = .ok (.iload_n 1, 1) := by decide +kernel
theorem dX9_until_2 : decode cX9_until 2 = .ok (.invokevirtual 125, 3) := by decide +kernel
theorem dX9_until_5 : decode cX9_until 5 = .ok (.ifCond .eq 13, 3) := by decide +kernel
theorem dX9_until_8 : decode cX9_until 8 = .ok (.new 108, 3) := by decide +kernel
theorem dX9_until_11 : decode cX9_until 11 = .ok (.dup, 1) := by decide +kernel
theorem dX9_until_12 : decode cX9_until 12 = .ok (.ldc 149, 2) := by decide +kernel
theorem dX9_until_14 : decode cX9_until 14 = .ok (.invokespecial 112, 3) := by decide +kernel
theorem dX9_until_17 : decode cX9_until 17 = .ok (.athrow, 1) := by decide +kernel
theorem dX9_until_18 : decode cX9_until 18 = .ok (.aload_n 0, 1) := by decide +kernel
theorem dX9_until_19 : decode cX9_until 19 = .ok (.getfield 46, 3) := by decide +kernel
theorem dX9_until_22 : decode cX9_until 22 = .ok (.aload_n 0, 1) := by decide +kernel
theorem dX9_until_23 : decode cX9_until 23 = .ok (.getfield 42, 3) := by decide +kernel
theorem dX9_until_26 : decode cX9_until 26 = .ok (.invokevirtual 199, 3) := by decide +kernel
theorem dX9_until_29 : decode cX9_until 29 = .ok (.iconst 0, 1) := by decide +kernel
theorem dX9_until_30 : decode cX9_until 30 = .ok (.istore_n 2, 1) := by decide +kernel
theorem dX9_until_31 : decode cX9_until 31 = .ok (.iload_n 2, 1) := by decide +kernel
theorem dX9_until_32 : decode cX9_until 32 = .ok (.sipush 150, 3) := by decide +kernel
theorem dX9_until_35 : decode cX9_until 35 = .ok (.if_icmp .gt 38, 3) := by decide +kernel
theorem dX9_until_38 : decode cX9_until 38 = .ok (.aload_n 0, 1) := by decide +kernel
theorem dX9_until_39 : decode cX9_until 39 = .ok (.getfield 46, 3) := by decide +kernel
theorem dX9_until_42 : decode cX9_until 42 = .ok (.iload_n 1, 1) := by decide +kernel
theorem dX9_until_43 : decode cX9_until 43 = .ok (.invokevirtual 203, 3) := by decide +kernel
theorem dX9_until_46 : decode cX9_until 46 = .ok (.ifCond .eq 5, 3) := by decide +kernel
theorem dX9_until_49 : decode cX9_until 49 = .ok (.iload_n 2, 1) := by decide +kernel
theorem dX9_until_50 : decode cX9_until 50 = .ok (.ireturn, 1) := by decide +kernel
theorem dX9_until_51 : decode cX9_until 51 = .ok (.aload_n 0, 1) := by decide +kernel
theorem dX9_until_52 : decode cX9_until 52 = .ok (.getfield 35, 3) := by decide +kernel
theorem dX9_until_55 : decode cX9_until 55 = .ok (.aload_n 0, 1) := by decide +kernel
theorem dX9_until_56 : decode cX9_until 56 = .ok (.getfield 52, 3) := by decide +kernel
theorem dX9_until_59 : decode cX9_until 59 = .ok (.aload_n 0, 1) := by decide +kernel
theorem dX9_until_60 : decode cX9_until 60 = .ok (.getfield 46, 3) := by decide +kernel
theorem dX9_until_63 : decode cX9_until 63 = .ok (.iconst 1, 1) := by decide +kernel
theorem dX9_until_64 : decode cX9_until 64 = .ok (.invokevirtual 195, 3) := by decide +kernel
theorem dX9_until_67 : decode cX9_until 67 = .ok (.iinc 2 1, 3) := by decide +kernel
theorem dX9_until_70 : decode cX9_until 70 = .ok (.goto (-39), 3) := by decide +kernel
theorem dX9_until_73 : decode cX9_until 73 = .ok (.iconst (-1), 1) := by decide +kernel
theorem dX9_until_74 : decode cX9_until 74 = .ok (.ireturn, 1) := by decide +kernel
theorem bk_X9_until_0 {C : JC} {d cl sl : Nat} {Q : State → Prop} {w : JW} {x1 : Int32} {d2 : Nat} {r : Int32} {w2 : JW} (hm : jok C MX9_until d cl sl) (hs : jF MX9_isNoPipe d2 [jR 0 false, jI x1] w (jI r) w2) (hd2 : d2 + 1 ≤ d) (k : jW C cl sl Q 5 [jR 0 false, jI x1, jU] [jI r] w2) : jW C cl sl Q 0 [jR 0 false, jI x1, jU] [] w := jr_aload_n hm (i := 0) rfl rfl dX9_until_0 (jr_iload_n hm (i := 1) rfl rfl dX9_until_1 (jr_callV (mc := 0) (ms := 0) hm hs hd2 jw_250 jw_252 jw_6 jw_47 jw_253 jn_X9_isNoPipe rfl jo_0 (fun _ _ _ _ _ => ⟨_, rfl⟩) rfl rfl (Nat.le_of_ble_eq_true rfl) rfl dX9_until_2 (jkF (jr_drop (jle_same (jle_same (jle_same jle_nil))) k))))
theorem bk_X9_until_5 {C : JC} {d cl sl : Nat} {Q : State → Prop} {w : JW} {x1 : Int32} {xs0 : Int32} (hm : jok C MX9_until d cl sl) (kt : xs0 = 0 → jW C cl sl Q 18 [jR 0 false, jI x1, jU] [] w) (kf : ¬ xs0 = 0 → jW C cl sl Q 8 [jU, jU, jU] [] w) : jW C cl sl Q 5 [jR 0 false, jI x1, jU] [jI xs0] w := jr_if_eq hm dX9_until_5 (by decide) (fun h => jr_drop (jle_same (jle_same (jle_same jle_nil))) (kt h)) (fun h => jr_drop (jle_drop (jle_drop (jle_same jle_nil))) (kf h))
theorem bk_X9_until_18 {C : JC} {d cl sl : Nat} {Q : State → Prop} {w : JW} {x1 : Int32} {d2 : Nat} {w2 : JW} (hm : jok C MX9_until d cl sl) (hs : jF MX1_become d2 [jR 14 true, jR 14 false] w (jU) w2) (hd2 : d2 + 1 ≤ d) (k : jW C cl sl Q 29 [jR 0 false, jI x1, jU] [] w2) : jW C cl sl Q 18 [jR 0 false, jI x1, jU] [] w := jr_aload_n hm (i := 0) rfl rfl dX9_until_18 (fg_X9_46 hm dX9_until_19 (jr_aload_n hm (i := 0) rfl rfl dX9_until_22 (fg_X9_42 hm dX9_until_23 (jr_callV (mc := 0) (ms := 0) hm hs hd2 jw_370 jw_371 jw_372 jw_56 jw_373 jn_X1_become rfl (jo_14 true) (fun _ _ _ _ _ => ⟨_, rfl⟩) rfl rfl (Nat.le_of_ble_eq_true rfl) rfl dX9_until_26 (jkF (jr_drop (jle_same (jle_same (jle_same jle_nil))) k))))))
theorem bk_X9_until_29 {C : JC} {d cl sl : Nat} {Q : State → Prop} {w : JW} {x1 : Int32} (hm : jok C MX9_until d cl sl) (k : jW C cl sl Q 31 [jR 0 false, jI x1, jI 0] [] w) : jW C cl sl Q 29 [jR 0 false, jI x1, jU] [] w := jr_iconst hm (v := 0) (by decide) dX9_until_29 (jr_istore_n hm (i := 2) rfl (Nat.le_of_ble_eq_true rfl) rfl dX9_until_30 (jr_drop (jle_same (jle_same (jle_same jle_nil))) k))
theorem bk_X9_until_31 {C : JC} {d cl sl : Nat} {Q : State → Prop} {w : JW} {x1 : Int32} {x2 : Int32} (hm : jok C MX9_until d cl sl) (kt : 150 < x2 → jW C cl sl Q 73 [jU, jU, jU] [] w) (kf : ¬ 150 < x2 → jW C cl sl Q 38 [jR 0 false, jI x1, jI x2] [] w) : jW C cl sl Q 31 [jR 0 false, jI x1, jI x2] [] w := jr_iload_n hm (i := 2) rfl rfl dX9_until_31 (jr_sipush hm (v := 150) (by decide) dX9_until_32 (jr_icmp_gt hm dX9_until_35 (by decide) (fun h => jr_drop (jle_drop (jle_drop (jle_drop jle_nil))) (kt h)) (fun h => jr_drop (jle_same (jle_same (jle_same jle_nil))) (kf h))))
theorem bk_X9_until_38 {C : JC} {d cl sl : Nat} {Q : State → Prop} {w : JW} {x1 : Int32} {x2 : Int32} {d2 : Nat} {r : Int32} {w2 : JW} (hm : jok C MX9_until d cl sl) (hs : jF MX1_sounds d2 [jR 14 true, jI x1] w (jI r) w2) (hd2 : d2 + 1 ≤ d) (k : jW C cl sl Q 46 [jR 0 false, jI x1, jI x2] [jI r] w2) : jW C cl sl Q 38 [jR 0 false, jI x1, jI x2] [] w := jr_aload_n hm (i := 0) rfl rfl dX9_until_38 (fg_X9_46 hm dX9_until_39 (jr_iload_n hm (i := 1) rfl rfl dX9_until_42 (jr_callV (mc := 0) (ms := 0) hm hs hd2 jw_377 jw_158 jw_159 jw_56 jw_160 jn_X1_sounds rfl (jo_14 true) (fun _ _ _ _ _ => ⟨_, rfl⟩) rfl rfl (Nat.le_of_ble_eq_true rfl) rfl dX9_until_43 (jkF (jr_drop (jle_same (jle_same (jle_same jle_nil))) k)))))
theorem bk_X9_until_46 {C : JC} {d cl sl : Nat} {Q : State → Prop} {w : JW} {x1 : Int32} {x2 : Int32} {xs0 : Int32} (hm : jok C MX9_until d cl sl) (kt : xs0 = 0 → jW C cl sl Q 51 [jR 0 false, jI x1, jI x2] [] w) (kf : ¬ xs0 = 0 → jW C cl sl Q 49 [jU, jU, jI x2] [] w) : jW C cl sl Q 46 [jR 0 false, jI x1, jI x2] [jI xs0] w := jr_if_eq hm dX9_until_46 (by decide) (fun h => jr_drop (jle_same (jle_same (jle_same jle_nil))) (kt h)) (fun h => jr_drop (jle_drop (jle_drop (jle_same jle_nil))) (kf h))
theorem bk_X9_until_49 {C : JC} {d cl sl : Nat} {w : JW} {x2 : Int32} {P : JV → JW → Prop} (hm : jok C MX9_until d cl sl) (hp : P (jI x2) w) : jW C cl sl (jQQ C cl sl P) 49 [jU, jU, jI x2] [] w := jr_iload_n hm (i := 2) rfl rfl dX9_until_49 (jr_ireturn hm rfl dX9_until_50 hp)
theorem bk_X9_until_51 {C : JC} {d cl sl : Nat} {Q : State → Prop} {w : JW} {x1 : Int32} {x2 : Int32} {d2 : Nat} {w2 : JW} (hm : jok C MX9_until d cl sl) (hs : jF MX4_run d2 [jR 11 false, jR 20 (w.2.2 0 6), jR 14 true, jI 1] w (jU) w2) (hd2 : d2 + 1 ≤ d) (k : jW C cl sl Q 67 [jR 0 false, jI x1, jI x2] [] w2) : jW C cl sl Q 51 [jR 0 false, jI x1, jI x2] [] w := jr_aload_n hm (i := 0) rfl rfl dX9_until_51 (fg_X9_35 hm dX9_until_52 (jr_aload_n hm (i := 0) rfl rfl dX9_until_55 (fg_X9_52 hm dX9_until_56 (jr_aload_n hm (i := 0) rfl rfl dX9_until_59 (fg_X9_46 hm dX9_until_60 (jr_iconst hm (v := 1) (by decide) dX9_until_63 (jr_callV (mc := 0) (ms := 0) hm hs hd2 jw_328 jw_329 jw_330 jw_54 jw_331 jn_X4_run rfl jo_11 (fun _ _ _ _ _ => ⟨_, rfl⟩) rfl rfl (Nat.le_of_ble_eq_true rfl) rfl dX9_until_64 (jkF (jr_drop (jle_same (jle_same (jle_same jle_nil))) k)))))))))
theorem bk_X9_until_67 {C : JC} {d cl sl : Nat} {Q : State → Prop} {w : JW} {x1 : Int32} {x2 : Int32} (hm : jok C MX9_until d cl sl) (k : jW C cl sl Q 31 [jR 0 false, jI x1, jI (x2 + 1)] [] w) : jW C cl sl Q 67 [jR 0 false, jI x1, jI x2] [] w := jr_iinc hm (i := 2) (v := x2 + 1) rfl rfl rfl dX9_until_67 (jr_goto hm dX9_until_70 (by decide) (jr_drop (jle_same (jle_same (jle_same jle_nil))) k))
theorem bk_X9_until_73 {C : JC} {d cl sl : Nat} {w : JW} {P : JV → JW → Prop} (hm : jok C MX9_until d cl sl) (hp : P (jI (-1)) w) : jW C cl sl (jQQ C cl sl P) 73 [jU, jU, jU] [] w := jr_iconst hm (v := (-1)) (by decide) dX9_until_73 (jr_ireturn hm rfl dX9_until_74 hp)
theorem dX9_foresee_0 : decode cX9_foresee 0 = .ok (.iload_n 1, 1) := by decide +kernel
theorem dX9_foresee_1 : decode cX9_foresee 1 = .ok (.iconst 1, 1) := by decide +kernel
theorem dX9_foresee_2 : decode cX9_foresee 2 = .ok (.if_icmp .lt 9, 3) := by decide +kernel
theorem dX9_foresee_5 : decode cX9_foresee 5 = .ok (.iload_n 1, 1) := by decide +kernel
theorem dX9_foresee_6 : decode cX9_foresee 6 = .ok (.bipush 120, 2) := by decide +kernel
theorem dX9_foresee_8 : decode cX9_foresee 8 = .ok (.if_icmp .le 13, 3) := by decide +kernel
theorem dX9_foresee_11 : decode cX9_foresee 11 = .ok (.new 78, 3) := by decide +kernel
theorem dX9_foresee_14 : decode cX9_foresee 14 = .ok (.dup, 1) := by decide +kernel
theorem dX9_foresee_15 : decode cX9_foresee 15 = .ok (.ldc 190, 2) := by decide +kernel
theorem dX9_foresee_17 : decode cX9_foresee 17 = .ok (.invokespecial 82, 3) := by decide +kernel
theorem dX9_foresee_20 : decode cX9_foresee 20 = .ok (.athrow, 1) := by decide +kernel
theorem dX9_foresee_21 : decode cX9_foresee 21 = .ok (.iload_n 2, 1) := by decide +kernel
theorem dX9_foresee_22 : decode cX9_foresee 22 = .ok (.ifCond .lt 8, 3) := by decide +kernel
theorem dX9_foresee_25 : decode cX9_foresee 25 = .ok (.iload_n 2, 1) := by decide +kernel
theorem dX9_foresee_26 : decode cX9_foresee 26 = .ok (.iconst 4, 1) := by decide +kernel
theorem dX9_foresee_27 : decode cX9_foresee 27 = .ok (.if_icmp .lt 13, 3) := by decide +kernel
theorem dX9_foresee_30 : decode cX9_foresee 30 = .ok (.new 108, 3) := by decide +kernel
theorem dX9_foresee_33 : decode cX9_foresee 33 = .ok (.dup, 1) := by decide +kernel
theorem dX9_foresee_34 : decode cX9_foresee 34 = .ok (.ldc 206, 2) := by decide +kernel
theorem dX9_foresee_36 : decode cX9_foresee 36 = .ok (.invokespecial 112, 3) := by decide +kernel
theorem dX9_foresee_39 : decode cX9_foresee 39 = .ok (.athrow, 1) := by decide +kernel
theorem dX9_foresee_40 : decode cX9_foresee 40 = .ok (.aload_n 0, 1) := by decide +kernel
theorem dX9_foresee_41 : decode cX9_foresee 41 = .ok (.getfield 46, 3) := by decide +kernel
theorem dX9_foresee_44 : decode cX9_foresee 44 = .ok (.aload_n 0, 1) := by decide +kernel
theorem dX9_foresee_45 : decode cX9_foresee 45 = .ok (.getfield 42, 3) := by decide +kernel
theorem dX9_foresee_48 : decode cX9_foresee 48 = .ok (.invokevirtual 199, 3) := by decide +kernel
theorem dX9_foresee_51 : decode cX9_foresee 51 = .ok (.aload_n 0, 1) := by decide +kernel
theorem dX9_foresee_52 : decode cX9_foresee 52 = .ok (.getfield 35, 3) := by decide +kernel
theorem dX9_foresee_55 : decode cX9_foresee 55 = .ok (.aload_n 0, 1) := by decide +kernel
theorem dX9_foresee_56 : decode cX9_foresee 56 = .ok (.getfield 52, 3) := by decide +kernel
theorem dX9_foresee_59 : decode cX9_foresee 59 = .ok (.aload_n 0, 1) := by decide +kernel
theorem dX9_foresee_60 : decode cX9_foresee 60 = .ok (.getfield 46, 3) := by decide +kernel
theorem dX9_foresee_63 : decode cX9_foresee 63 = .ok (.iload_n 1, 1) := by decide +kernel
theorem dX9_foresee_64 : decode cX9_foresee 64 = .ok (.invokevirtual 195, 3) := by decide +kernel
theorem dX9_foresee_67 : decode cX9_foresee 67 = .ok (.iload_n 2, 1) := by decide +kernel
theorem dX9_foresee_68 : decode cX9_foresee 68 = .ok (.tableswitch 75 0 2 #[28, 44, 60], 28) := by decide +kernel
theorem dX9_foresee_96 : decode cX9_foresee 96 = .ok (.aload_n 0, 1) := by decide +kernel
theorem dX9_foresee_97 : decode cX9_foresee 97 = .ok (.getfield 46, 3) := by decide +kernel
theorem dX9_foresee_100 : decode cX9_foresee 100 = .ok (.getfield 192, 3) := by decide +kernel
theorem dX9_foresee_103 : decode cX9_foresee 103 = .ok (.aload_n 0, 1) := by decide +kernel
theorem dX9_foresee_104 : decode cX9_foresee 104 = .ok (.getfield 42, 3) := by decide +kernel
theorem dX9_foresee_107 : decode cX9_foresee 107 = .ok (.getfield 192, 3) := by decide +kernel
theorem dX9_foresee_110 : decode cX9_foresee 110 = .ok (.isub, 1) := by decide +kernel
theorem dX9_foresee_111 : decode cX9_foresee 111 = .ok (.ireturn, 1) := by decide +kernel
theorem dX9_foresee_112 : decode cX9_foresee 112 = .ok (.aload_n 0, 1) := by decide +kernel
theorem dX9_foresee_113 : decode cX9_foresee 113 = .ok (.getfield 46, 3) := by decide +kernel
theorem dX9_foresee_116 : decode cX9_foresee 116 = .ok (.getfield 208, 3) := by decide +kernel
theorem dX9_foresee_119 : decode cX9_foresee 119 = .ok (.aload_n 0, 1) := by decide +kernel
theorem dX9_foresee_120 : decode cX9_foresee 120 = .ok (.getfield 42, 3) := by decide +kernel
theorem dX9_foresee_123 : decode cX9_foresee 123 = .ok (.getfield 208, 3) := by decide +kernel
theorem dX9_foresee_126 : decode cX9_foresee 126 = .ok (.isub, 1) := by decide +kernel
theorem dX9_foresee_127 : decode cX9_foresee 127 = .ok (.ireturn, 1) := by decide +kernel
theorem dX9_foresee_128 : decode cX9_foresee 128 = .ok (.aload_n 0, 1) := by decide +kernel
theorem dX9_foresee_129 : decode cX9_foresee 129 = .ok (.getfield 46, 3) := by decide +kernel
theorem dX9_foresee_132 : decode cX9_foresee 132 = .ok (.aload_n 0, 1) := by decide +kernel
theorem dX9_foresee_133 : decode cX9_foresee 133 = .ok (.getfield 52, 3) := by decide +kernel
theorem dX9_foresee_136 : decode cX9_foresee 136 = .ok (.getfield 211, 3) := by decide +kernel
theorem dX9_foresee_139 : decode cX9_foresee 139 = .ok (.invokevirtual 214, 3) := by decide +kernel
theorem dX9_foresee_142 : decode cX9_foresee 142 = .ok (.ireturn, 1) := by decide +kernel
theorem dX9_foresee_143 : decode cX9_foresee 143 = .ok (.aload_n 0, 1) := by decide +kernel
theorem dX9_foresee_144 : decode cX9_foresee 144 = .ok (.getfield 46, 3) := by decide +kernel
theorem dX9_foresee_147 : decode cX9_foresee 147 = .ok (.aload_n 0, 1) := by decide +kernel
theorem dX9_foresee_148 : decode cX9_foresee 148 = .ok (.getfield 52, 3) := by decide +kernel
theorem dX9_foresee_151 : decode cX9_foresee 151 = .ok (.getfield 211, 3) := by decide +kernel
theorem dX9_foresee_154 : decode cX9_foresee 154 = .ok (.invokevirtual 217, 3) := by decide +kernel
theorem dX9_foresee_157 : decode cX9_foresee 157 = .ok (.ireturn, 1) := by decide +kernel
theorem bk_X9_foresee_0 {C : JC} {d cl sl : Nat} {Q : State → Prop} {w : JW} {x1 : Int32} {x2 : Int32} (hm : jok C MX9_foresee d cl sl) (kt : x1 < 1 → jW C cl sl Q 11 [jU, jU, jU] [] w) (kf : ¬ x1 < 1 → jW C cl sl Q 5 [jR 0 false, jI x1, jI x2] [] w) : jW C cl sl Q 0 [jR 0 false, jI x1, jI x2] [] w := jr_iload_n hm (i := 1) rfl rfl dX9_foresee_0 (jr_iconst hm (v := 1) (by decide) dX9_foresee_1 (jr_icmp_lt hm dX9_foresee_2 (by decide) (fun h => jr_drop (jle_drop (jle_drop (jle_drop jle_nil))) (kt h)) (fun h => jr_drop (jle_same (jle_same (jle_same jle_nil))) (kf h))))
theorem bk_X9_foresee_5 {C : JC} {d cl sl : Nat} {Q : State → Prop} {w : JW} {x1 : Int32} {x2 : Int32} (hm : jok C MX9_foresee d cl sl) (kt : x1 ≤ 120 → jW C cl sl Q 21 [jR 0 false, jI x1, jI x2] [] w) (kf : ¬ x1 ≤ 120 → jW C cl sl Q 11 [jU, jU, jU] [] w) : jW C cl sl Q 5 [jR 0 false, jI x1, jI x2] [] w := jr_iload_n hm (i := 1) rfl rfl dX9_foresee_5 (jr_bipush hm (v := 120) (by decide) dX9_foresee_6 (jr_icmp_le hm dX9_foresee_8 (by decide) (fun h => jr_drop (jle_same (jle_same (jle_same jle_nil))) (kt h)) (fun h => jr_drop (jle_drop (jle_drop (jle_drop jle_nil))) (kf h))))
theorem bk_X9_foresee_21 {C : JC} {d cl sl : Nat} {Q : State → Prop} {w : JW} {x1 : Int32} {x2 : Int32} (hm : jok C MX9_foresee d cl sl) (kt : x2 < 0 → jW C cl sl Q 30 [jU, jU, jU] [] w) (kf : ¬ x2 < 0 → jW C cl sl Q 25 [jR 0 false, jI x1, jI x2] [] w) : jW C cl sl Q 21 [jR 0 false, jI x1, jI x2] [] w := jr_iload_n hm (i := 2) rfl rfl dX9_foresee_21 (jr_if_lt hm dX9_foresee_22 (by decide) (fun h => jr_drop (jle_drop (jle_drop (jle_drop jle_nil))) (kt h)) (fun h => jr_drop (jle_same (jle_same (jle_same jle_nil))) (kf h)))
theorem bk_X9_foresee_25 {C : JC} {d cl sl : Nat} {Q : State → Prop} {w : JW} {x1 : Int32} {x2 : Int32} (hm : jok C MX9_foresee d cl sl) (kt : x2 < 4 → jW C cl sl Q 40 [jR 0 false, jI x1, jI x2] [] w) (kf : ¬ x2 < 4 → jW C cl sl Q 30 [jU, jU, jU] [] w) : jW C cl sl Q 25 [jR 0 false, jI x1, jI x2] [] w := jr_iload_n hm (i := 2) rfl rfl dX9_foresee_25 (jr_iconst hm (v := 4) (by decide) dX9_foresee_26 (jr_icmp_lt hm dX9_foresee_27 (by decide) (fun h => jr_drop (jle_same (jle_same (jle_same jle_nil))) (kt h)) (fun h => jr_drop (jle_drop (jle_drop (jle_drop jle_nil))) (kf h))))
theorem bk_X9_foresee_40 {C : JC} {d cl sl : Nat} {Q : State → Prop} {w : JW} {x1 : Int32} {x2 : Int32} {d2 : Nat} {w2 : JW} (hm : jok C MX9_foresee d cl sl) (hs : jF MX1_become d2 [jR 14 true, jR 14 false] w (jU) w2) (hd2 : d2 + 1 ≤ d) (k : jW C cl sl Q 51 [jR 0 false, jI x1, jI x2] [] w2) : jW C cl sl Q 40 [jR 0 false, jI x1, jI x2] [] w := jr_aload_n hm (i := 0) rfl rfl dX9_foresee_40 (fg_X9_46 hm dX9_foresee_41 (jr_aload_n hm (i := 0) rfl rfl dX9_foresee_44 (fg_X9_42 hm dX9_foresee_45 (jr_callV (mc := 0) (ms := 0) hm hs hd2 jw_370 jw_371 jw_372 jw_56 jw_373 jn_X1_become rfl (jo_14 true) (fun _ _ _ _ _ => ⟨_, rfl⟩) rfl rfl (Nat.le_of_ble_eq_true rfl) rfl dX9_foresee_48 (jkF (jr_drop (jle_same (jle_same (jle_same jle_nil))) k))))))
theorem bk_X9_foresee_51 {C : JC} {d cl sl : Nat} {Q : State → Prop} {w : JW} {x1 : Int32} {x2 : Int32} {d2 : Nat} {w2 : JW} (hm : jok C MX9_foresee d cl sl) (hs : jF MX4_run d2 [jR 11 false, jR 20 (w.2.2 0 6), jR 14 true, jI x1] w (jU) w2) (hd2 : d2 + 1 ≤ d) (k : jW C cl sl Q 67 [jR 0 false, jU, jI x2] [] w2) : jW C cl sl Q 51 [jR 0 false, jI x1, jI x2] [] w := jr_aload_n hm (i := 0) rfl rfl dX9_foresee_51 (fg_X9_35 hm dX9_foresee_52 (jr_aload_n hm (i := 0) rfl rfl dX9_foresee_55 (fg_X9_52 hm dX9_foresee_56 (jr_aload_n hm (i := 0) rfl rfl dX9_foresee_59 (fg_X9_46 hm dX9_foresee_60 (jr_iload_n hm (i := 1) rfl rfl dX9_foresee_63 (jr_callV (mc := 0) (ms := 0) hm hs hd2 jw_328 jw_329 jw_330 jw_54 jw_331 jn_X4_run rfl jo_11 (fun _ _ _ _ _ => ⟨_, rfl⟩) rfl rfl (Nat.le_of_ble_eq_true rfl) rfl dX9_foresee_64 (jkF (jr_drop (jle_same (jle_drop (jle_same jle_nil))) k)))))))))
theorem bk_X9_foresee_67 {C : JC} {d cl sl : Nat} {Q : State → Prop} {w : JW} {x2 : Int32} (hm : jok C MX9_foresee d cl sl) (k0 : x2 = 0 → jW C cl sl Q 96 [jR 0 false, jU, jU] [] w) (k1 : x2 = 1 → jW C cl sl Q 112 [jR 0 false, jU, jU] [] w) (k2 : x2 = 2 → jW C cl sl Q 128 [jR 0 false, jU, jU] [] w) (kd : ¬ x2 = 0 → ¬ x2 = 1 → ¬ x2 = 2 → jW C cl sl Q 143 [jR 0 false, jU, jU] [] w) : jW C cl sl Q 67 [jR 0 false, jU, jI x2] [] w := by
  by_cases e0 : x2 = 0
  · exact jr_iload_n hm (i := 2) rfl rfl dX9_foresee_67 (jr_tab_in hm dX9_foresee_68 (by rw [e0]; decide) (by rw [e0]; decide) (off := 28) (by rw [e0]; rfl) (by decide) (jr_drop (jle_same (jle_same (jle_drop jle_nil))) (k0 e0)))
  by_cases e1 : x2 = 1
  · exact jr_iload_n hm (i := 2) rfl rfl dX9_foresee_67 (jr_tab_in hm dX9_foresee_68 (by rw [e1]; decide) (by rw [e1]; decide) (off := 44) (by rw [e1]; rfl) (by decide) (jr_drop (jle_same (jle_same (jle_drop jle_nil))) (k1 e1)))
  by_cases e2 : x2 = 2
  · exact jr_iload_n hm (i := 2) rfl rfl dX9_foresee_67 (jr_tab_in hm dX9_foresee_68 (by rw [e2]; decide) (by rw [e2]; decide) (off := 60) (by rw [e2]; rfl) (by decide) (jr_drop (jle_same (jle_same (jle_drop jle_nil))) (k2 e2)))
  have t0 : ¬ (x2).toInt = 0 := fun e => e0 (Int32.toInt_inj.mp (e.trans (by decide)))
  have t1 : ¬ (x2).toInt = 1 := fun e => e1 (Int32.toInt_inj.mp (e.trans (by decide)))
  have t2 : ¬ (x2).toInt = 2 := fun e => e2 (Int32.toInt_inj.mp (e.trans (by decide)))
  exact jr_iload_n hm (i := 2) rfl rfl dX9_foresee_67 (jr_tab_out hm dX9_foresee_68 (by omega) (by decide) (jr_drop (jle_same (jle_same (jle_drop jle_nil))) (kd e0 e1 e2)))
theorem bk_X9_foresee_96 {C : JC} {d cl sl : Nat} {w : JW} {P : JV → JW → Prop} (hm : jok C MX9_foresee d cl sl) (hp : P (jI ((w.1 14 true 7) - (w.1 14 false 7))) w) : jW C cl sl (jQQ C cl sl P) 96 [jR 0 false, jU, jU] [] w := jr_aload_n hm (i := 0) rfl rfl dX9_foresee_96 (fg_X9_46 hm dX9_foresee_97 (fg_X9_192 hm dX9_foresee_100 (jr_aload_n hm (i := 0) rfl rfl dX9_foresee_103 (fg_X9_42 hm dX9_foresee_104 (fg_X9_192 hm dX9_foresee_107 (jr_isub hm dX9_foresee_110 (jr_ireturn hm rfl dX9_foresee_111 hp)))))))
theorem bk_X9_foresee_112 {C : JC} {d cl sl : Nat} {w : JW} {P : JV → JW → Prop} (hm : jok C MX9_foresee d cl sl) (hp : P (jI ((w.1 14 true 8) - (w.1 14 false 8))) w) : jW C cl sl (jQQ C cl sl P) 112 [jR 0 false, jU, jU] [] w := jr_aload_n hm (i := 0) rfl rfl dX9_foresee_112 (fg_X9_46 hm dX9_foresee_113 (fg_X9_208 hm dX9_foresee_116 (jr_aload_n hm (i := 0) rfl rfl dX9_foresee_119 (fg_X9_42 hm dX9_foresee_120 (fg_X9_208 hm dX9_foresee_123 (jr_isub hm dX9_foresee_126 (jr_ireturn hm rfl dX9_foresee_127 hp)))))))
theorem bk_X9_foresee_128 {C : JC} {d cl sl : Nat} {Q : State → Prop} {w : JW} {d2 : Nat} {r : Int32} {w2 : JW} (hm : jok C MX9_foresee d cl sl) (hs : jF MX1_pipesSounding d2 [jR 14 true, jI (w.1 20 (w.2.2 0 6) 10)] w (jI r) w2) (hd2 : d2 + 1 ≤ d) (k : jW C cl sl Q 142 [jU, jU, jU] [jI r] w2) : jW C cl sl Q 128 [jR 0 false, jU, jU] [] w := jr_aload_n hm (i := 0) rfl rfl dX9_foresee_128 (fg_X9_46 hm dX9_foresee_129 (jr_aload_n hm (i := 0) rfl rfl dX9_foresee_132 (fg_X9_52 hm dX9_foresee_133 (fg_X9_211 hm dX9_foresee_136 (jr_callV (mc := 0) (ms := 0) hm hs hd2 jw_153 jw_154 jw_155 jw_56 jw_156 jn_X1_pipesSounding rfl (jo_14 true) (fun _ _ _ _ _ => ⟨_, rfl⟩) rfl rfl (Nat.le_of_ble_eq_true rfl) rfl dX9_foresee_139 (jkF (jr_drop (jle_drop (jle_same (jle_same jle_nil))) k)))))))
theorem bk_X9_foresee_142 {C : JC} {d cl sl : Nat} {w : JW} {xs0 : Int32} {P : JV → JW → Prop} (hm : jok C MX9_foresee d cl sl) (hp : P (jI xs0) w) : jW C cl sl (jQQ C cl sl P) 142 [jU, jU, jU] [jI xs0] w := jr_ireturn hm rfl dX9_foresee_142 hp
theorem bk_X9_foresee_143 {C : JC} {d cl sl : Nat} {Q : State → Prop} {w : JW} {d2 : Nat} {r : Int32} {w2 : JW} (hm : jok C MX9_foresee d cl sl) (hs : jF MX1_siltIn d2 [jR 14 true, jI (w.1 20 (w.2.2 0 6) 10)] w (jI r) w2) (hd2 : d2 + 1 ≤ d) (k : jW C cl sl Q 157 [jU, jU, jU] [jI r] w2) : jW C cl sl Q 143 [jR 0 false, jU, jU] [] w := jr_aload_n hm (i := 0) rfl rfl dX9_foresee_143 (fg_X9_46 hm dX9_foresee_144 (jr_aload_n hm (i := 0) rfl rfl dX9_foresee_147 (fg_X9_52 hm dX9_foresee_148 (fg_X9_211 hm dX9_foresee_151 (jr_callV (mc := 0) (ms := 0) hm hs hd2 jw_182 jw_183 jw_184 jw_56 jw_185 jn_X1_siltIn rfl (jo_14 true) (fun _ _ _ _ _ => ⟨_, rfl⟩) rfl rfl (Nat.le_of_ble_eq_true rfl) rfl dX9_foresee_154 (jkF (jr_drop (jle_drop (jle_same (jle_same jle_nil))) k)))))))
theorem bk_X9_foresee_157 {C : JC} {d cl sl : Nat} {w : JW} {xs0 : Int32} {P : JV → JW → Prop} (hm : jok C MX9_foresee d cl sl) (hp : P (jI xs0) w) : jW C cl sl (jQQ C cl sl P) 157 [jU, jU, jU] [jI xs0] w := jr_ireturn hm rfl dX9_foresee_157 hp
theorem dX9_advise_0 : decode cX9_advise 0 = .ok (.iload_n 1, 1) := by decide +kernel
theorem dX9_advise_1 : decode cX9_advise 1 = .ok (.iconst 1, 1) := by decide +kernel
theorem dX9_advise_2 : decode cX9_advise 2 = .ok (.if_icmp .lt 9, 3) := by decide +kernel
theorem dX9_advise_5 : decode cX9_advise 5 = .ok (.iload_n 1, 1) := by decide +kernel
theorem dX9_advise_6 : decode cX9_advise 6 = .ok (.bipush 72, 2) := by decide +kernel
theorem dX9_advise_8 : decode cX9_advise 8 = .ok (.if_icmp .le 13, 3) := by decide +kernel
theorem dX9_advise_11 : decode cX9_advise 11 = .ok (.new 78, 3) := by decide +kernel
theorem dX9_advise_14 : decode cX9_advise 14 = .ok (.dup, 1) := by decide +kernel
theorem dX9_advise_15 : decode cX9_advise 15 = .ok (.ldc 190, 2) := by decide +kernel
theorem dX9_advise_17 : decode cX9_advise 17 = .ok (.invokespecial 82, 3) := by decide +kernel
theorem dX9_advise_20 : decode cX9_advise 20 = .ok (.athrow, 1) := by decide +kernel
theorem dX9_advise_21 : decode cX9_advise 21 = .ok (.iconst 0, 1) := by decide +kernel
theorem dX9_advise_22 : decode cX9_advise 22 = .ok (.istore_n 2, 1) := by decide +kernel
theorem dX9_advise_23 : decode cX9_advise 23 = .ok (.aload_n 0, 1) := by decide +kernel
theorem dX9_advise_24 : decode cX9_advise 24 = .ok (.iconst 0, 1) := by decide +kernel
theorem dX9_advise_25 : decode cX9_advise 25 = .ok (.iload_n 1, 1) := by decide +kernel
theorem dX9_advise_26 : decode cX9_advise 26 = .ok (.invokevirtual 220, 3) := by decide +kernel
theorem dX9_advise_29 : decode cX9_advise 29 = .ok (.istore_n 3, 1) := by decide +kernel
theorem dX9_advise_30 : decode cX9_advise 30 = .ok (.iconst 1, 1) := by decide +kernel
theorem dX9_advise_31 : decode cX9_advise 31 = .ok (.istore 4, 2) := by decide +kernel
theorem dX9_advise_33 : decode cX9_advise 33 = .ok (.iload 4, 2) := by decide +kernel
theorem dX9_advise_35 : decode cX9_advise 35 = .ok (.bipush 9, 2) := by decide +kernel
theorem dX9_advise_37 : decode cX9_advise 37 = .ok (.if_icmp .gt 30, 3) := by decide +kernel
theorem dX9_advise_40 : decode cX9_advise 40 = .ok (.aload_n 0, 1) := by decide +kernel
theorem dX9_advise_41 : decode cX9_advise 41 = .ok (.iload 4, 2) := by decide +kernel
theorem dX9_advise_43 : decode cX9_advise 43 = .ok (.iload_n 1, 1) := by decide +kernel
theorem dX9_advise_44 : decode cX9_advise 44 = .ok (.invokevirtual 220, 3) := by decide +kernel
theorem dX9_advise_47 : decode cX9_advise 47 = .ok (.istore 5, 2) := by decide +kernel
theorem dX9_advise_49 : decode cX9_advise 49 = .ok (.iload 5, 2) := by decide +kernel
theorem dX9_advise_51 : decode cX9_advise 51 = .ok (.iload_n 3, 1) := by decide +kernel
theorem dX9_advise_52 : decode cX9_advise 52 = .ok (.if_icmp .le 9, 3) := by decide +kernel
theorem dX9_advise_55 : decode cX9_advise 55 = .ok (.iload 5, 2) := by decide +kernel
theorem dX9_advise_57 : decode cX9_advise 57 = .ok (.istore_n 3, 1) := by decide +kernel
theorem dX9_advise_58 : decode cX9_advise 58 = .ok (.iload 4, 2) := by decide +kernel
theorem dX9_advise_60 : decode cX9_advise 60 = .ok (.istore_n 2, 1) := by decide +kernel
theorem dX9_advise_61 : decode cX9_advise 61 = .ok (.iinc 4 1, 3) := by decide +kernel
theorem dX9_advise_64 : decode cX9_advise 64 = .ok (.goto (-31), 3) := by decide +kernel
theorem dX9_advise_67 : decode cX9_advise 67 = .ok (.iload_n 2, 1) := by decide +kernel
theorem dX9_advise_68 : decode cX9_advise 68 = .ok (.ireturn, 1) := by decide +kernel
theorem bk_X9_advise_0 {C : JC} {d cl sl : Nat} {Q : State → Prop} {w : JW} {x1 : Int32} (hm : jok C MX9_advise d cl sl) (kt : x1 < 1 → jW C cl sl Q 11 [jU, jU, jU, jU, jU, jU] [] w) (kf : ¬ x1 < 1 → jW C cl sl Q 5 [jR 0 false, jI x1, jU, jU, jU, jU] [] w) : jW C cl sl Q 0 [jR 0 false, jI x1, jU, jU, jU, jU] [] w := jr_iload_n hm (i := 1) rfl rfl dX9_advise_0 (jr_iconst hm (v := 1) (by decide) dX9_advise_1 (jr_icmp_lt hm dX9_advise_2 (by decide) (fun h => jr_drop (jle_drop (jle_drop (jle_same (jle_same (jle_same (jle_same jle_nil)))))) (kt h)) (fun h => jr_drop (jle_same (jle_same (jle_same (jle_same (jle_same (jle_same jle_nil)))))) (kf h))))
theorem bk_X9_advise_5 {C : JC} {d cl sl : Nat} {Q : State → Prop} {w : JW} {x1 : Int32} (hm : jok C MX9_advise d cl sl) (kt : x1 ≤ 72 → jW C cl sl Q 21 [jR 0 false, jI x1, jU, jU, jU, jU] [] w) (kf : ¬ x1 ≤ 72 → jW C cl sl Q 11 [jU, jU, jU, jU, jU, jU] [] w) : jW C cl sl Q 5 [jR 0 false, jI x1, jU, jU, jU, jU] [] w := jr_iload_n hm (i := 1) rfl rfl dX9_advise_5 (jr_bipush hm (v := 72) (by decide) dX9_advise_6 (jr_icmp_le hm dX9_advise_8 (by decide) (fun h => jr_drop (jle_same (jle_same (jle_same (jle_same (jle_same (jle_same jle_nil)))))) (kt h)) (fun h => jr_drop (jle_drop (jle_drop (jle_same (jle_same (jle_same (jle_same jle_nil)))))) (kf h))))
theorem bk_X9_advise_21 {C : JC} {d cl sl : Nat} {Q : State → Prop} {w : JW} {x1 : Int32} {d2 : Nat} {r : Int32} {w2 : JW} (hm : jok C MX9_advise d cl sl) (hs : jF MX9_gainByTide d2 [jR 0 false, jI 0, jI x1] w (jI r) w2) (hd2 : d2 + 1 ≤ d) (k : jW C cl sl Q 29 [jR 0 false, jI x1, jI 0, jU, jU, jU] [jI r] w2) : jW C cl sl Q 21 [jR 0 false, jI x1, jU, jU, jU, jU] [] w := jr_iconst hm (v := 0) (by decide) dX9_advise_21 (jr_istore_n hm (i := 2) rfl (Nat.le_of_ble_eq_true rfl) rfl dX9_advise_22 (jr_aload_n hm (i := 0) rfl rfl dX9_advise_23 (jr_iconst hm (v := 0) (by decide) dX9_advise_24 (jr_iload_n hm (i := 1) rfl rfl dX9_advise_25 (jr_callV (mc := 0) (ms := 0) hm hs hd2 jw_387 jw_389 jw_14 jw_47 jw_390 jn_X9_gainByTide rfl jo_0 (fun _ _ _ _ _ => ⟨_, rfl⟩) rfl rfl (Nat.le_of_ble_eq_true rfl) rfl dX9_advise_26 (jkF (jr_drop (jle_same (jle_same (jle_same (jle_same (jle_same (jle_same jle_nil)))))) k)))))))
theorem bk_X9_advise_29 {C : JC} {d cl sl : Nat} {Q : State → Prop} {w : JW} {x1 : Int32} {x2 : Int32} {xs0 : Int32} (hm : jok C MX9_advise d cl sl) (k : jW C cl sl Q 33 [jR 0 false, jI x1, jI x2, jI xs0, jI 1, jU] [] w) : jW C cl sl Q 29 [jR 0 false, jI x1, jI x2, jU, jU, jU] [jI xs0] w := jr_istore_n hm (i := 3) rfl (Nat.le_of_ble_eq_true rfl) rfl dX9_advise_29 (jr_iconst hm (v := 1) (by decide) dX9_advise_30 (jr_istore hm (i := 4) (Nat.le_of_ble_eq_true rfl) rfl dX9_advise_31 (jr_drop (jle_same (jle_same (jle_same (jle_same (jle_same (jle_same jle_nil)))))) k)))
theorem bk_X9_advise_33 {C : JC} {d cl sl : Nat} {Q : State → Prop} {w : JW} {x1 : Int32} {x2 : Int32} {x3 : Int32} {x4 : Int32} (hm : jok C MX9_advise d cl sl) (kt : 9 < x4 → jW C cl sl Q 67 [jU, jU, jI x2, jU, jU, jU] [] w) (kf : ¬ 9 < x4 → jW C cl sl Q 40 [jR 0 false, jI x1, jI x2, jI x3, jI x4, jU] [] w) : jW C cl sl Q 33 [jR 0 false, jI x1, jI x2, jI x3, jI x4, jU] [] w := jr_iload hm (i := 4) rfl dX9_advise_33 (jr_bipush hm (v := 9) (by decide) dX9_advise_35 (jr_icmp_gt hm dX9_advise_37 (by decide) (fun h => jr_drop (jle_drop (jle_drop (jle_same (jle_drop (jle_drop (jle_same jle_nil)))))) (kt h)) (fun h => jr_drop (jle_same (jle_same (jle_same (jle_same (jle_same (jle_same jle_nil)))))) (kf h))))
theorem bk_X9_advise_40 {C : JC} {d cl sl : Nat} {Q : State → Prop} {w : JW} {x1 : Int32} {x2 : Int32} {x3 : Int32} {x4 : Int32} {d2 : Nat} {r : Int32} {w2 : JW} (hm : jok C MX9_advise d cl sl) (hs : jF MX9_gainByTide d2 [jR 0 false, jI x4, jI x1] w (jI r) w2) (hd2 : d2 + 1 ≤ d) (k : jW C cl sl Q 47 [jR 0 false, jI x1, jI x2, jI x3, jI x4, jU] [jI r] w2) : jW C cl sl Q 40 [jR 0 false, jI x1, jI x2, jI x3, jI x4, jU] [] w := jr_aload_n hm (i := 0) rfl rfl dX9_advise_40 (jr_iload hm (i := 4) rfl dX9_advise_41 (jr_iload_n hm (i := 1) rfl rfl dX9_advise_43 (jr_callV (mc := 0) (ms := 0) hm hs hd2 jw_387 jw_389 jw_14 jw_47 jw_390 jn_X9_gainByTide rfl jo_0 (fun _ _ _ _ _ => ⟨_, rfl⟩) rfl rfl (Nat.le_of_ble_eq_true rfl) rfl dX9_advise_44 (jkF (jr_drop (jle_same (jle_same (jle_same (jle_same (jle_same (jle_same jle_nil)))))) k)))))
theorem bk_X9_advise_47 {C : JC} {d cl sl : Nat} {Q : State → Prop} {w : JW} {x1 : Int32} {x2 : Int32} {x3 : Int32} {x4 : Int32} {xs0 : Int32} (hm : jok C MX9_advise d cl sl) (kt : xs0 ≤ x3 → jW C cl sl Q 61 [jR 0 false, jI x1, jI x2, jI x3, jI x4, jU] [] w) (kf : ¬ xs0 ≤ x3 → jW C cl sl Q 55 [jR 0 false, jI x1, jU, jU, jI x4, jI xs0] [] w) : jW C cl sl Q 47 [jR 0 false, jI x1, jI x2, jI x3, jI x4, jU] [jI xs0] w := jr_istore hm (i := 5) (Nat.le_of_ble_eq_true rfl) rfl dX9_advise_47 (jr_iload hm (i := 5) rfl dX9_advise_49 (jr_iload_n hm (i := 3) rfl rfl dX9_advise_51 (jr_icmp_le hm dX9_advise_52 (by decide) (fun h => jr_drop (jle_same (jle_same (jle_same (jle_same (jle_same (jle_drop jle_nil)))))) (kt h)) (fun h => jr_drop (jle_same (jle_same (jle_drop (jle_drop (jle_same (jle_same jle_nil)))))) (kf h)))))
theorem bk_X9_advise_55 {C : JC} {d cl sl : Nat} {Q : State → Prop} {w : JW} {x1 : Int32} {x4 : Int32} {x5 : Int32} (hm : jok C MX9_advise d cl sl) (k : jW C cl sl Q 61 [jR 0 false, jI x1, jI x4, jI x5, jI x4, jU] [] w) : jW C cl sl Q 55 [jR 0 false, jI x1, jU, jU, jI x4, jI x5] [] w := jr_iload hm (i := 5) rfl dX9_advise_55 (jr_istore_n hm (i := 3) rfl (Nat.le_of_ble_eq_true rfl) rfl dX9_advise_57 (jr_iload hm (i := 4) rfl dX9_advise_58 (jr_istore_n hm (i := 2) rfl (Nat.le_of_ble_eq_true rfl) rfl dX9_advise_60 (jr_drop (jle_same (jle_same (jle_same (jle_same (jle_same (jle_drop jle_nil)))))) k))))
theorem bk_X9_advise_61 {C : JC} {d cl sl : Nat} {Q : State → Prop} {w : JW} {x1 : Int32} {x2 : Int32} {x3 : Int32} {x4 : Int32} (hm : jok C MX9_advise d cl sl) (k : jW C cl sl Q 33 [jR 0 false, jI x1, jI x2, jI x3, jI (x4 + 1), jU] [] w) : jW C cl sl Q 61 [jR 0 false, jI x1, jI x2, jI x3, jI x4, jU] [] w := jr_iinc hm (i := 4) (v := x4 + 1) rfl rfl rfl dX9_advise_61 (jr_goto hm dX9_advise_64 (by decide) (jr_drop (jle_same (jle_same (jle_same (jle_same (jle_same (jle_same jle_nil)))))) k))
theorem bk_X9_advise_67 {C : JC} {d cl sl : Nat} {w : JW} {x2 : Int32} {P : JV → JW → Prop} (hm : jok C MX9_advise d cl sl) (hp : P (jI x2) w) : jW C cl sl (jQQ C cl sl P) 67 [jU, jU, jI x2, jU, jU, jU] [] w := jr_iload_n hm (i := 2) rfl rfl dX9_advise_67 (jr_ireturn hm rfl dX9_advise_68 hp)
theorem dX9_best_0 : decode cX9_best 0 = .ok (.iload_n 1, 1) := by decide +kernel
theorem dX9_best_1 : decode cX9_best 1 = .ok (.iconst 1, 1) := by decide +kernel
theorem dX9_best_2 : decode cX9_best 2 = .ok (.if_icmp .lt 9, 3) := by decide +kernel
theorem dX9_best_5 : decode cX9_best 5 = .ok (.iload_n 1, 1) := by decide +kernel
theorem dX9_best_6 : decode cX9_best 6 = .ok (.bipush 72, 2) := by decide +kernel
theorem dX9_best_8 : decode cX9_best 8 = .ok (.if_icmp .le 13, 3) := by decide +kernel
theorem dX9_best_11 : decode cX9_best 11 = .ok (.new 78, 3) := by decide +kernel
theorem dX9_best_14 : decode cX9_best 14 = .ok (.dup, 1) := by decide +kernel
theorem dX9_best_15 : decode cX9_best 15 = .ok (.ldc 190, 2) := by decide +kernel
theorem dX9_best_17 : decode cX9_best 17 = .ok (.invokespecial 82, 3) := by decide +kernel
theorem dX9_best_20 : decode cX9_best 20 = .ok (.athrow, 1) := by decide +kernel
theorem dX9_best_21 : decode cX9_best 21 = .ok (.aload_n 0, 1) := by decide +kernel
theorem dX9_best_22 : decode cX9_best 22 = .ok (.getfield 46, 3) := by decide +kernel
theorem dX9_best_25 : decode cX9_best 25 = .ok (.aload_n 0, 1) := by decide +kernel
theorem dX9_best_26 : decode cX9_best 26 = .ok (.getfield 42, 3) := by decide +kernel
theorem dX9_best_29 : decode cX9_best 29 = .ok (.invokevirtual 199, 3) := by decide +kernel
theorem dX9_best_32 : decode cX9_best 32 = .ok (.aload_n 0, 1) := by decide +kernel
theorem dX9_best_33 : decode cX9_best 33 = .ok (.getfield 35, 3) := by decide +kernel
theorem dX9_best_36 : decode cX9_best 36 = .ok (.aload_n 0, 1) := by decide +kernel
theorem dX9_best_37 : decode cX9_best 37 = .ok (.getfield 52, 3) := by decide +kernel
theorem dX9_best_40 : decode cX9_best 40 = .ok (.aload_n 0, 1) := by decide +kernel
theorem dX9_best_41 : decode cX9_best 41 = .ok (.getfield 46, 3) := by decide +kernel
theorem dX9_best_44 : decode cX9_best 44 = .ok (.iload_n 1, 1) := by decide +kernel
theorem dX9_best_45 : decode cX9_best 45 = .ok (.invokevirtual 195, 3) := by decide +kernel
theorem dX9_best_48 : decode cX9_best 48 = .ok (.aload_n 0, 1) := by decide +kernel
theorem dX9_best_49 : decode cX9_best 49 = .ok (.getfield 46, 3) := by decide +kernel
theorem dX9_best_52 : decode cX9_best 52 = .ok (.getfield 192, 3) := by decide +kernel
theorem dX9_best_55 : decode cX9_best 55 = .ok (.istore_n 2, 1) := by decide +kernel
theorem dX9_best_56 : decode cX9_best 56 = .ok (.iconst (-1), 1) := by decide +kernel
theorem dX9_best_57 : decode cX9_best 57 = .ok (.istore_n 3, 1) := by decide +kernel
theorem dX9_best_58 : decode cX9_best 58 = .ok (.iconst 0, 1) := by decide +kernel
theorem dX9_best_59 : decode cX9_best 59 = .ok (.istore 4, 2) := by decide +kernel
theorem dX9_best_61 : decode cX9_best 61 = .ok (.iload 4, 2) := by decide +kernel
theorem dX9_best_63 : decode cX9_best 63 = .ok (.aload_n 0, 1) := by decide +kernel
theorem dX9_best_64 : decode cX9_best 64 = .ok (.getfield 52, 3) := by decide +kernel
theorem dX9_best_67 : decode cX9_best 67 = .ok (.getfield 211, 3) := by decide +kernel
theorem dX9_best_70 : decode cX9_best 70 = .ok (.if_icmp .ge 71, 3) := by decide +kernel
theorem dX9_best_73 : decode cX9_best 73 = .ok (.aload_n 0, 1) := by decide +kernel
theorem dX9_best_74 : decode cX9_best 74 = .ok (.getfield 46, 3) := by decide +kernel
theorem dX9_best_77 : decode cX9_best 77 = .ok (.aload_n 0, 1) := by decide +kernel
theorem dX9_best_78 : decode cX9_best 78 = .ok (.getfield 42, 3) := by decide +kernel
theorem dX9_best_81 : decode cX9_best 81 = .ok (.invokevirtual 199, 3) := by decide +kernel
theorem dX9_best_84 : decode cX9_best 84 = .ok (.aload_n 0, 1) := by decide +kernel
theorem dX9_best_85 : decode cX9_best 85 = .ok (.getfield 46, 3) := by decide +kernel
theorem dX9_best_88 : decode cX9_best 88 = .ok (.getfield 181, 3) := by decide +kernel
theorem dX9_best_91 : decode cX9_best 91 = .ok (.iload 4, 2) := by decide +kernel
theorem dX9_best_93 : decode cX9_best 93 = .ok (.iconst 0, 1) := by decide +kernel
theorem dX9_best_94 : decode cX9_best 94 = .ok (.invokestatic 184, 3) := by decide +kernel
theorem dX9_best_97 : decode cX9_best 97 = .ok (.aload_n 0, 1) := by decide +kernel
theorem dX9_best_98 : decode cX9_best 98 = .ok (.getfield 35, 3) := by decide +kernel
theorem dX9_best_101 : decode cX9_best 101 = .ok (.aload_n 0, 1) := by decide +kernel
theorem dX9_best_102 : decode cX9_best 102 = .ok (.getfield 52, 3) := by decide +kernel
theorem dX9_best_105 : decode cX9_best 105 = .ok (.aload_n 0, 1) := by decide +kernel
theorem dX9_best_106 : decode cX9_best 106 = .ok (.getfield 46, 3) := by decide +kernel
theorem dX9_best_109 : decode cX9_best 109 = .ok (.iload_n 1, 1) := by decide +kernel
theorem dX9_best_110 : decode cX9_best 110 = .ok (.invokevirtual 195, 3) := by decide +kernel
theorem dX9_best_113 : decode cX9_best 113 = .ok (.aload_n 0, 1) := by decide +kernel
theorem dX9_best_114 : decode cX9_best 114 = .ok (.getfield 46, 3) := by decide +kernel
theorem dX9_best_117 : decode cX9_best 117 = .ok (.getfield 192, 3) := by decide +kernel
theorem dX9_best_120 : decode cX9_best 120 = .ok (.iload_n 2, 1) := by decide +kernel
theorem dX9_best_121 : decode cX9_best 121 = .ok (.if_icmp .le 14, 3) := by decide +kernel
theorem dX9_best_124 : decode cX9_best 124 = .ok (.aload_n 0, 1) := by decide +kernel
theorem dX9_best_125 : decode cX9_best 125 = .ok (.getfield 46, 3) := by decide +kernel
theorem dX9_best_128 : decode cX9_best 128 = .ok (.getfield 192, 3) := by decide +kernel
theorem dX9_best_131 : decode cX9_best 131 = .ok (.istore_n 2, 1) := by decide +kernel
theorem dX9_best_132 : decode cX9_best 132 = .ok (.iload 4, 2) := by decide +kernel
theorem dX9_best_134 : decode cX9_best 134 = .ok (.istore_n 3, 1) := by decide +kernel
theorem dX9_best_135 : decode cX9_best 135 = .ok (.iinc 4 1, 3) := by decide +kernel
theorem dX9_best_138 : decode cX9_best 138 = .ok (.goto (-77), 3) := by decide +kernel
theorem dX9_best_141 : decode cX9_best 141 = .ok (.iload_n 3, 1) := by decide +kernel
theorem dX9_best_142 : decode cX9_best 142 = .ok (.ireturn, 1) := by decide +kernel
theorem bk_X9_best_0 {C : JC} {d cl sl : Nat} {Q : State → Prop} {w : JW} {x1 : Int32} (hm : jok C MX9_best d cl sl) (kt : x1 < 1 → jW C cl sl Q 11 [jU, jU, jU, jU, jU] [] w) (kf : ¬ x1 < 1 → jW C cl sl Q 5 [jR 0 false, jI x1, jU, jU, jU] [] w) : jW C cl sl Q 0 [jR 0 false, jI x1, jU, jU, jU] [] w := jr_iload_n hm (i := 1) rfl rfl dX9_best_0 (jr_iconst hm (v := 1) (by decide) dX9_best_1 (jr_icmp_lt hm dX9_best_2 (by decide) (fun h => jr_drop (jle_drop (jle_drop (jle_same (jle_same (jle_same jle_nil))))) (kt h)) (fun h => jr_drop (jle_same (jle_same (jle_same (jle_same (jle_same jle_nil))))) (kf h))))
theorem bk_X9_best_5 {C : JC} {d cl sl : Nat} {Q : State → Prop} {w : JW} {x1 : Int32} (hm : jok C MX9_best d cl sl) (kt : x1 ≤ 72 → jW C cl sl Q 21 [jR 0 false, jI x1, jU, jU, jU] [] w) (kf : ¬ x1 ≤ 72 → jW C cl sl Q 11 [jU, jU, jU, jU, jU] [] w) : jW C cl sl Q 5 [jR 0 false, jI x1, jU, jU, jU] [] w := jr_iload_n hm (i := 1) rfl rfl dX9_best_5 (jr_bipush hm (v := 72) (by decide) dX9_best_6 (jr_icmp_le hm dX9_best_8 (by decide) (fun h => jr_drop (jle_same (jle_same (jle_same (jle_same (jle_same jle_nil))))) (kt h)) (fun h => jr_drop (jle_drop (jle_drop (jle_same (jle_same (jle_same jle_nil))))) (kf h))))
theorem bk_X9_best_21 {C : JC} {d cl sl : Nat} {Q : State → Prop} {w : JW} {x1 : Int32} {d2 : Nat} {w2 : JW} (hm : jok C MX9_best d cl sl) (hs : jF MX1_become d2 [jR 14 true, jR 14 false] w (jU) w2) (hd2 : d2 + 1 ≤ d) (k : jW C cl sl Q 32 [jR 0 false, jI x1, jU, jU, jU] [] w2) : jW C cl sl Q 21 [jR 0 false, jI x1, jU, jU, jU] [] w := jr_aload_n hm (i := 0) rfl rfl dX9_best_21 (fg_X9_46 hm dX9_best_22 (jr_aload_n hm (i := 0) rfl rfl dX9_best_25 (fg_X9_42 hm dX9_best_26 (jr_callV (mc := 0) (ms := 0) hm hs hd2 jw_370 jw_371 jw_372 jw_56 jw_373 jn_X1_become rfl (jo_14 true) (fun _ _ _ _ _ => ⟨_, rfl⟩) rfl rfl (Nat.le_of_ble_eq_true rfl) rfl dX9_best_29 (jkF (jr_drop (jle_same (jle_same (jle_same (jle_same (jle_same jle_nil))))) k))))))
theorem bk_X9_best_32 {C : JC} {d cl sl : Nat} {Q : State → Prop} {w : JW} {x1 : Int32} {d2 : Nat} {w2 : JW} (hm : jok C MX9_best d cl sl) (hs : jF MX4_run d2 [jR 11 false, jR 20 (w.2.2 0 6), jR 14 true, jI x1] w (jU) w2) (hd2 : d2 + 1 ≤ d) (k : jW C cl sl Q 48 [jR 0 false, jI x1, jU, jU, jU] [] w2) : jW C cl sl Q 32 [jR 0 false, jI x1, jU, jU, jU] [] w := jr_aload_n hm (i := 0) rfl rfl dX9_best_32 (fg_X9_35 hm dX9_best_33 (jr_aload_n hm (i := 0) rfl rfl dX9_best_36 (fg_X9_52 hm dX9_best_37 (jr_aload_n hm (i := 0) rfl rfl dX9_best_40 (fg_X9_46 hm dX9_best_41 (jr_iload_n hm (i := 1) rfl rfl dX9_best_44 (jr_callV (mc := 0) (ms := 0) hm hs hd2 jw_328 jw_329 jw_330 jw_54 jw_331 jn_X4_run rfl jo_11 (fun _ _ _ _ _ => ⟨_, rfl⟩) rfl rfl (Nat.le_of_ble_eq_true rfl) rfl dX9_best_45 (jkF (jr_drop (jle_same (jle_same (jle_same (jle_same (jle_same jle_nil))))) k)))))))))
theorem bk_X9_best_48 {C : JC} {d cl sl : Nat} {Q : State → Prop} {w : JW} {x1 : Int32} (hm : jok C MX9_best d cl sl) (k : jW C cl sl Q 61 [jR 0 false, jI x1, jI (w.1 14 true 7), jI (-1), jI 0] [] w) : jW C cl sl Q 48 [jR 0 false, jI x1, jU, jU, jU] [] w := jr_aload_n hm (i := 0) rfl rfl dX9_best_48 (fg_X9_46 hm dX9_best_49 (fg_X9_192 hm dX9_best_52 (jr_istore_n hm (i := 2) rfl (Nat.le_of_ble_eq_true rfl) rfl dX9_best_55 (jr_iconst hm (v := (-1)) (by decide) dX9_best_56 (jr_istore_n hm (i := 3) rfl (Nat.le_of_ble_eq_true rfl) rfl dX9_best_57 (jr_iconst hm (v := 0) (by decide) dX9_best_58 (jr_istore hm (i := 4) (Nat.le_of_ble_eq_true rfl) rfl dX9_best_59 (jr_drop (jle_same (jle_same (jle_same (jle_same (jle_same jle_nil))))) k))))))))
theorem bk_X9_best_61 {C : JC} {d cl sl : Nat} {Q : State → Prop} {w : JW} {x1 : Int32} {x2 : Int32} {x3 : Int32} {x4 : Int32} (hm : jok C MX9_best d cl sl) (kt : (w.1 20 (w.2.2 0 6) 10) ≤ x4 → jW C cl sl Q 141 [jU, jU, jU, jI x3, jU] [] w) (kf : ¬ (w.1 20 (w.2.2 0 6) 10) ≤ x4 → jW C cl sl Q 73 [jR 0 false, jI x1, jI x2, jI x3, jI x4] [] w) : jW C cl sl Q 61 [jR 0 false, jI x1, jI x2, jI x3, jI x4] [] w := jr_iload hm (i := 4) rfl dX9_best_61 (jr_aload_n hm (i := 0) rfl rfl dX9_best_63 (fg_X9_52 hm dX9_best_64 (fg_X9_211 hm dX9_best_67 (jr_icmp_ge hm dX9_best_70 (by decide) (fun h => jr_drop (jle_drop (jle_drop (jle_drop (jle_same (jle_drop jle_nil))))) (kt h)) (fun h => jr_drop (jle_same (jle_same (jle_same (jle_same (jle_same jle_nil))))) (kf h))))))
theorem bk_X9_best_73 {C : JC} {d cl sl : Nat} {Q : State → Prop} {w : JW} {x1 : Int32} {x2 : Int32} {x3 : Int32} {x4 : Int32} {d2 : Nat} {w2 : JW} (hm : jok C MX9_best d cl sl) (hs : jF MX1_become d2 [jR 14 true, jR 14 false] w (jU) w2) (hd2 : d2 + 1 ≤ d) (k : jW C cl sl Q 84 [jR 0 false, jI x1, jI x2, jI x3, jI x4] [] w2) : jW C cl sl Q 73 [jR 0 false, jI x1, jI x2, jI x3, jI x4] [] w := jr_aload_n hm (i := 0) rfl rfl dX9_best_73 (fg_X9_46 hm dX9_best_74 (jr_aload_n hm (i := 0) rfl rfl dX9_best_77 (fg_X9_42 hm dX9_best_78 (jr_callV (mc := 0) (ms := 0) hm hs hd2 jw_370 jw_371 jw_372 jw_56 jw_373 jn_X1_become rfl (jo_14 true) (fun _ _ _ _ _ => ⟨_, rfl⟩) rfl rfl (Nat.le_of_ble_eq_true rfl) rfl dX9_best_81 (jkF (jr_drop (jle_same (jle_same (jle_same (jle_same (jle_same jle_nil))))) k))))))
theorem bk_X9_best_84 {C : JC} {d cl sl : Nat} {Q : State → Prop} {w : JW} {x1 : Int32} {x2 : Int32} {x3 : Int32} {x4 : Int32} {d2 : Nat} {w2 : JW} (hm : jok C MX9_best d cl sl) (hs : jF MX9_put d2 [jR 16 true, jI x4, jI 0] w (jU) w2) (hd2 : d2 + 1 ≤ d) (k : jW C cl sl Q 97 [jR 0 false, jI x1, jI x2, jI x3, jI x4] [] w2) : jW C cl sl Q 84 [jR 0 false, jI x1, jI x2, jI x3, jI x4] [] w := jr_aload_n hm (i := 0) rfl rfl dX9_best_84 (fg_X9_46 hm dX9_best_85 (fg_X9_181 hm dX9_best_88 (jr_iload hm (i := 4) rfl dX9_best_91 (jr_iconst hm (v := 0) (by decide) dX9_best_93 (jr_callS (mc := 0) (ms := 0) hm hs hd2 jw_317 jw_225 jw_47 jw_226 jn_X9_put rfl rfl (Nat.le_of_ble_eq_true rfl) rfl dX9_best_94 (jkF (jr_drop (jle_same (jle_same (jle_same (jle_same (jle_same jle_nil))))) k)))))))
theorem bk_X9_best_97 {C : JC} {d cl sl : Nat} {Q : State → Prop} {w : JW} {x1 : Int32} {x2 : Int32} {x3 : Int32} {x4 : Int32} {d2 : Nat} {w2 : JW} (hm : jok C MX9_best d cl sl) (hs : jF MX4_run d2 [jR 11 false, jR 20 (w.2.2 0 6), jR 14 true, jI x1] w (jU) w2) (hd2 : d2 + 1 ≤ d) (k : jW C cl sl Q 113 [jR 0 false, jI x1, jI x2, jI x3, jI x4] [] w2) : jW C cl sl Q 97 [jR 0 false, jI x1, jI x2, jI x3, jI x4] [] w := jr_aload_n hm (i := 0) rfl rfl dX9_best_97 (fg_X9_35 hm dX9_best_98 (jr_aload_n hm (i := 0) rfl rfl dX9_best_101 (fg_X9_52 hm dX9_best_102 (jr_aload_n hm (i := 0) rfl rfl dX9_best_105 (fg_X9_46 hm dX9_best_106 (jr_iload_n hm (i := 1) rfl rfl dX9_best_109 (jr_callV (mc := 0) (ms := 0) hm hs hd2 jw_328 jw_329 jw_330 jw_54 jw_331 jn_X4_run rfl jo_11 (fun _ _ _ _ _ => ⟨_, rfl⟩) rfl rfl (Nat.le_of_ble_eq_true rfl) rfl dX9_best_110 (jkF (jr_drop (jle_same (jle_same (jle_same (jle_same (jle_same jle_nil))))) k)))))))))
theorem bk_X9_best_113 {C : JC} {d cl sl : Nat} {Q : State → Prop} {w : JW} {x1 : Int32} {x2 : Int32} {x3 : Int32} {x4 : Int32} (hm : jok C MX9_best d cl sl) (kt : (w.1 14 true 7) ≤ x2 → jW C cl sl Q 135 [jR 0 false, jI x1, jI x2, jI x3, jI x4] [] w) (kf : ¬ (w.1 14 true 7) ≤ x2 → jW C cl sl Q 124 [jR 0 false, jI x1, jU, jU, jI x4] [] w) : jW C cl sl Q 113 [jR 0 false, jI x1, jI x2, jI x3, jI x4] [] w := jr_aload_n hm (i := 0) rfl rfl dX9_best_113 (fg_X9_46 hm dX9_best_114 (fg_X9_192 hm dX9_best_117 (jr_iload_n hm (i := 2) rfl rfl dX9_best_120 (jr_icmp_le hm dX9_best_121 (by decide) (fun h => jr_drop (jle_same (jle_same (jle_same (jle_same (jle_same jle_nil))))) (kt h)) (fun h => jr_drop (jle_same (jle_same (jle_drop (jle_drop (jle_same jle_nil))))) (kf h))))))
theorem bk_X9_best_124 {C : JC} {d cl sl : Nat} {Q : State → Prop} {w : JW} {x1 : Int32} {x4 : Int32} (hm : jok C MX9_best d cl sl) (k : jW C cl sl Q 135 [jR 0 false, jI x1, jI (w.1 14 true 7), jI x4, jI x4] [] w) : jW C cl sl Q 124 [jR 0 false, jI x1, jU, jU, jI x4] [] w := jr_aload_n hm (i := 0) rfl rfl dX9_best_124 (fg_X9_46 hm dX9_best_125 (fg_X9_192 hm dX9_best_128 (jr_istore_n hm (i := 2) rfl (Nat.le_of_ble_eq_true rfl) rfl dX9_best_131 (jr_iload hm (i := 4) rfl dX9_best_132 (jr_istore_n hm (i := 3) rfl (Nat.le_of_ble_eq_true rfl) rfl dX9_best_134 (jr_drop (jle_same (jle_same (jle_same (jle_same (jle_same jle_nil))))) k))))))
theorem bk_X9_best_135 {C : JC} {d cl sl : Nat} {Q : State → Prop} {w : JW} {x1 : Int32} {x2 : Int32} {x3 : Int32} {x4 : Int32} (hm : jok C MX9_best d cl sl) (k : jW C cl sl Q 61 [jR 0 false, jI x1, jI x2, jI x3, jI (x4 + 1)] [] w) : jW C cl sl Q 135 [jR 0 false, jI x1, jI x2, jI x3, jI x4] [] w := jr_iinc hm (i := 4) (v := x4 + 1) rfl rfl rfl dX9_best_135 (jr_goto hm dX9_best_138 (by decide) (jr_drop (jle_same (jle_same (jle_same (jle_same (jle_same jle_nil))))) k))
theorem bk_X9_best_141 {C : JC} {d cl sl : Nat} {w : JW} {x3 : Int32} {P : JV → JW → Prop} (hm : jok C MX9_best d cl sl) (hp : P (jI x3) w) : jW C cl sl (jQQ C cl sl P) 141 [jU, jU, jU, jI x3, jU] [] w := jr_iload_n hm (i := 3) rfl rfl dX9_best_141 (jr_ireturn hm rfl dX9_best_142 hp)
theorem dX9_digest_0 : decode cX9_digest 0 = .ok (.ldc2_w 226, 3) := by decide +kernel
theorem dX9_digest_3 : decode cX9_digest 3 = .ok (.lstore_n 1, 1) := by decide +kernel
theorem dX9_digest_4 : decode cX9_digest 4 = .ok (.iconst 0, 1) := by decide +kernel
theorem dX9_digest_5 : decode cX9_digest 5 = .ok (.istore_n 3, 1) := by decide +kernel
theorem dX9_digest_6 : decode cX9_digest 6 = .ok (.iload_n 3, 1) := by decide +kernel
theorem dX9_digest_7 : decode cX9_digest 7 = .ok (.bipush 14, 2) := by decide +kernel
theorem dX9_digest_9 : decode cX9_digest 9 = .ok (.if_icmp .ge 22, 3) := by decide +kernel
theorem dX9_digest_12 : decode cX9_digest 12 = .ok (.lload_n 1, 1) := by decide +kernel
theorem dX9_digest_13 : decode cX9_digest 13 = .ok (.ldc2_w 228, 3) := by decide +kernel
theorem dX9_digest_16 : decode cX9_digest 16 = .ok (.lmul, 1) := by decide +kernel
theorem dX9_digest_17 : decode cX9_digest 17 = .ok (.aload_n 0, 1) := by decide +kernel
theorem dX9_digest_18 : decode cX9_digest 18 = .ok (.iload_n 3, 1) := by decide +kernel
theorem dX9_digest_19 : decode cX9_digest 19 = .ok (.invokevirtual 113, 3) := by decide +kernel
theorem dX9_digest_22 : decode cX9_digest 22 = .ok (.i2l, 1) := by decide +kernel
theorem dX9_digest_23 : decode cX9_digest 23 = .ok (.ladd, 1) := by decide +kernel
theorem dX9_digest_24 : decode cX9_digest 24 = .ok (.lstore_n 1, 1) := by decide +kernel
theorem dX9_digest_25 : decode cX9_digest 25 = .ok (.iinc 3 1, 3) := by decide +kernel
theorem dX9_digest_28 : decode cX9_digest 28 = .ok (.goto (-22), 3) := by decide +kernel
theorem dX9_digest_31 : decode cX9_digest 31 = .ok (.iconst 0, 1) := by decide +kernel
theorem dX9_digest_32 : decode cX9_digest 32 = .ok (.istore_n 3, 1) := by decide +kernel
theorem dX9_digest_33 : decode cX9_digest 33 = .ok (.iload_n 3, 1) := by decide +kernel
theorem dX9_digest_34 : decode cX9_digest 34 = .ok (.aload_n 0, 1) := by decide +kernel
theorem dX9_digest_35 : decode cX9_digest 35 = .ok (.getfield 52, 3) := by decide +kernel
theorem dX9_digest_38 : decode cX9_digest 38 = .ok (.getfield 116, 3) := by decide +kernel
theorem dX9_digest_41 : decode cX9_digest 41 = .ok (.if_icmp .ge 39, 3) := by decide +kernel
theorem dX9_digest_44 : decode cX9_digest 44 = .ok (.iconst 0, 1) := by decide +kernel
theorem dX9_digest_45 : decode cX9_digest 45 = .ok (.istore 4, 2) := by decide +kernel
theorem dX9_digest_47 : decode cX9_digest 47 = .ok (.iload 4, 2) := by decide +kernel
theorem dX9_digest_49 : decode cX9_digest 49 = .ok (.iconst 5, 1) := by decide +kernel
theorem dX9_digest_50 : decode cX9_digest 50 = .ok (.if_icmp .ge 24, 3) := by decide +kernel
theorem dX9_digest_53 : decode cX9_digest 53 = .ok (.lload_n 1, 1) := by decide +kernel
theorem dX9_digest_54 : decode cX9_digest 54 = .ok (.ldc2_w 228, 3) := by decide +kernel
theorem dX9_digest_57 : decode cX9_digest 57 = .ok (.lmul, 1) := by decide +kernel
theorem dX9_digest_58 : decode cX9_digest 58 = .ok (.aload_n 0, 1) := by decide +kernel
theorem dX9_digest_59 : decode cX9_digest 59 = .ok (.iload_n 3, 1) := by decide +kernel
theorem dX9_digest_60 : decode cX9_digest 60 = .ok (.iload 4, 2) := by decide +kernel
theorem dX9_digest_62 : decode cX9_digest 62 = .ok (.invokevirtual 121, 3) := by decide +kernel
theorem dX9_digest_65 : decode cX9_digest 65 = .ok (.i2l, 1) := by decide +kernel
theorem dX9_digest_66 : decode cX9_digest 66 = .ok (.ladd, 1) := by decide +kernel
theorem dX9_digest_67 : decode cX9_digest 67 = .ok (.lstore_n 1, 1) := by decide +kernel
theorem dX9_digest_68 : decode cX9_digest 68 = .ok (.iinc 4 1, 3) := by decide +kernel
theorem dX9_digest_71 : decode cX9_digest 71 = .ok (.goto (-24), 3) := by decide +kernel
theorem dX9_digest_74 : decode cX9_digest 74 = .ok (.iinc 3 1, 3) := by decide +kernel
theorem dX9_digest_77 : decode cX9_digest 77 = .ok (.goto (-44), 3) := by decide +kernel
theorem dX9_digest_80 : decode cX9_digest 80 = .ok (.iconst 0, 1) := by decide +kernel
theorem dX9_digest_81 : decode cX9_digest 81 = .ok (.istore_n 3, 1) := by decide +kernel
theorem dX9_digest_82 : decode cX9_digest 82 = .ok (.iload_n 3, 1) := by decide +kernel
theorem dX9_digest_83 : decode cX9_digest 83 = .ok (.aload_n 0, 1) := by decide +kernel
theorem dX9_digest_84 : decode cX9_digest 84 = .ok (.getfield 52, 3) := by decide +kernel
theorem dX9_digest_87 : decode cX9_digest 87 = .ok (.getfield 211, 3) := by decide +kernel
theorem dX9_digest_90 : decode cX9_digest 90 = .ok (.if_icmp .ge 40, 3) := by decide +kernel
theorem dX9_digest_93 : decode cX9_digest 93 = .ok (.iconst 0, 1) := by decide +kernel
theorem dX9_digest_94 : decode cX9_digest 94 = .ok (.istore 4, 2) := by decide +kernel
theorem dX9_digest_96 : decode cX9_digest 96 = .ok (.iload 4, 2) := by decide +kernel
theorem dX9_digest_98 : decode cX9_digest 98 = .ok (.bipush 7, 2) := by decide +kernel
theorem dX9_digest_100 : decode cX9_digest 100 = .ok (.if_icmp .ge 24, 3) := by decide +kernel
theorem dX9_digest_103 : decode cX9_digest 103 = .ok (.lload_n 1, 1) := by decide +kernel
theorem dX9_digest_104 : decode cX9_digest 104 = .ok (.ldc2_w 228, 3) := by decide +kernel
theorem dX9_digest_107 : decode cX9_digest 107 = .ok (.lmul, 1) := by decide +kernel
theorem dX9_digest_108 : decode cX9_digest 108 = .ok (.aload_n 0, 1) := by decide +kernel
theorem dX9_digest_109 : decode cX9_digest 109 = .ok (.iload_n 3, 1) := by decide +kernel
theorem dX9_digest_110 : decode cX9_digest 110 = .ok (.iload 4, 2) := by decide +kernel
theorem dX9_digest_112 : decode cX9_digest 112 = .ok (.invokevirtual 130, 3) := by decide +kernel
theorem dX9_digest_115 : decode cX9_digest 115 = .ok (.i2l, 1) := by decide +kernel
theorem dX9_digest_116 : decode cX9_digest 116 = .ok (.ladd, 1) := by decide +kernel
theorem dX9_digest_117 : decode cX9_digest 117 = .ok (.lstore_n 1, 1) := by decide +kernel
theorem dX9_digest_118 : decode cX9_digest 118 = .ok (.iinc 4 1, 3) := by decide +kernel
theorem dX9_digest_121 : decode cX9_digest 121 = .ok (.goto (-25), 3) := by decide +kernel
theorem dX9_digest_124 : decode cX9_digest 124 = .ok (.iinc 3 1, 3) := by decide +kernel
theorem dX9_digest_127 : decode cX9_digest 127 = .ok (.goto (-45), 3) := by decide +kernel
theorem dX9_digest_130 : decode cX9_digest 130 = .ok (.iconst 0, 1) := by decide +kernel
theorem dX9_digest_131 : decode cX9_digest 131 = .ok (.istore_n 3, 1) := by decide +kernel
theorem dX9_digest_132 : decode cX9_digest 132 = .ok (.iload_n 3, 1) := by decide +kernel
theorem dX9_digest_133 : decode cX9_digest 133 = .ok (.aload_n 0, 1) := by decide +kernel
theorem dX9_digest_134 : decode cX9_digest 134 = .ok (.getfield 52, 3) := by decide +kernel
theorem dX9_digest_137 : decode cX9_digest 137 = .ok (.getfield 133, 3) := by decide +kernel
theorem dX9_digest_140 : decode cX9_digest 140 = .ok (.if_icmp .ge 16, 3) := by decide +kernel
theorem dX9_digest_143 : decode cX9_digest 143 = .ok (.aload_n 0, 1) := by decide +kernel
theorem dX9_digest_144 : decode cX9_digest 144 = .ok (.lload_n 1, 1) := by decide +kernel
theorem dX9_digest_145 : decode cX9_digest 145 = .ok (.iload_n 3, 1) := by decide +kernel
theorem dX9_digest_146 : decode cX9_digest 146 = .ok (.invokevirtual 230, 3) := by decide +kernel
theorem dX9_digest_149 : decode cX9_digest 149 = .ok (.lstore_n 1, 1) := by decide +kernel
theorem dX9_digest_150 : decode cX9_digest 150 = .ok (.iinc 3 1, 3) := by decide +kernel
theorem dX9_digest_153 : decode cX9_digest 153 = .ok (.goto (-21), 3) := by decide +kernel
theorem dX9_digest_156 : decode cX9_digest 156 = .ok (.iconst 0, 1) := by decide +kernel
theorem dX9_digest_157 : decode cX9_digest 157 = .ok (.istore_n 3, 1) := by decide +kernel
theorem dX9_digest_158 : decode cX9_digest 158 = .ok (.iload_n 3, 1) := by decide +kernel
theorem dX9_digest_159 : decode cX9_digest 159 = .ok (.iconst 5, 1) := by decide +kernel
theorem dX9_digest_160 : decode cX9_digest 160 = .ok (.if_icmp .ge 43, 3) := by decide +kernel
theorem dX9_digest_163 : decode cX9_digest 163 = .ok (.lload_n 1, 1) := by decide +kernel
theorem dX9_digest_164 : decode cX9_digest 164 = .ok (.ldc2_w 228, 3) := by decide +kernel
theorem dX9_digest_167 : decode cX9_digest 167 = .ok (.lmul, 1) := by decide +kernel
theorem dX9_digest_168 : decode cX9_digest 168 = .ok (.aload_n 0, 1) := by decide +kernel
theorem dX9_digest_169 : decode cX9_digest 169 = .ok (.getfield 52, 3) := by decide +kernel
theorem dX9_digest_172 : decode cX9_digest 172 = .ok (.getfield 164, 3) := by decide +kernel
theorem dX9_digest_175 : decode cX9_digest 175 = .ok (.aload_n 0, 1) := by decide +kernel
theorem dX9_digest_176 : decode cX9_digest 176 = .ok (.getfield 42, 3) := by decide +kernel
theorem dX9_digest_179 : decode cX9_digest 179 = .ok (.getfield 234, 3) := by decide +kernel
theorem dX9_digest_182 : decode cX9_digest 182 = .ok (.iload_n 3, 1) := by decide +kernel
theorem dX9_digest_183 : decode cX9_digest 183 = .ok (.iadd, 1) := by decide +kernel
theorem dX9_digest_184 : decode cX9_digest 184 = .ok (.aload_n 0, 1) := by decide +kernel
theorem dX9_digest_185 : decode cX9_digest 185 = .ok (.getfield 42, 3) := by decide +kernel
theorem dX9_digest_188 : decode cX9_digest 188 = .ok (.getfield 168, 3) := by decide +kernel
theorem dX9_digest_191 : decode cX9_digest 191 = .ok (.invokevirtual 171, 3) := by decide +kernel
theorem dX9_digest_194 : decode cX9_digest 194 = .ok (.i2l, 1) := by decide +kernel
theorem dX9_digest_195 : decode cX9_digest 195 = .ok (.ladd, 1) := by decide +kernel
theorem dX9_digest_196 : decode cX9_digest 196 = .ok (.lstore_n 1, 1) := by decide +kernel
theorem dX9_digest_197 : decode cX9_digest 197 = .ok (.iinc 3 1, 3) := by decide +kernel
theorem dX9_digest_200 : decode cX9_digest 200 = .ok (.goto (-42), 3) := by decide +kernel
theorem dX9_digest_203 : decode cX9_digest 203 = .ok (.lload_n 1, 1) := by decide +kernel
theorem dX9_digest_204 : decode cX9_digest 204 = .ok (.lreturn, 1) := by decide +kernel
theorem bk_X9_digest_0 {C : JC} {d cl sl : Nat} {Q : State → Prop} {w : JW}  (hm : jok C MX9_digest d cl sl) (k : jW C cl sl Q 6 [jR 0 false, jL 827, jU, jI 0, jU] [] w) : jW C cl sl Q 0 [jR 0 false, jU, jU, jU, jU] [] w := jr_ldc2 hm (v := 827) jw_399 dX9_digest_0 (jr_lstore_n hm (i := 1) rfl (Nat.le_of_ble_eq_true rfl) rfl dX9_digest_3 (jr_iconst hm (v := 0) (by decide) dX9_digest_4 (jr_istore_n hm (i := 3) rfl (Nat.le_of_ble_eq_true rfl) rfl dX9_digest_5 (jr_drop (jle_same (jle_same (jle_same (jle_same (jle_same jle_nil))))) k))))
theorem bk_X9_digest_6 {C : JC} {d cl sl : Nat} {Q : State → Prop} {w : JW} {y1 : Int64} {x3 : Int32} (hm : jok C MX9_digest d cl sl) (kt : 14 ≤ x3 → jW C cl sl Q 31 [jR 0 false, jL y1, jU, jU, jU] [] w) (kf : ¬ 14 ≤ x3 → jW C cl sl Q 12 [jR 0 false, jL y1, jU, jI x3, jU] [] w) : jW C cl sl Q 6 [jR 0 false, jL y1, jU, jI x3, jU] [] w := jr_iload_n hm (i := 3) rfl rfl dX9_digest_6 (jr_bipush hm (v := 14) (by decide) dX9_digest_7 (jr_icmp_ge hm dX9_digest_9 (by decide) (fun h => jr_drop (jle_same (jle_same (jle_same (jle_drop (jle_same jle_nil))))) (kt h)) (fun h => jr_drop (jle_same (jle_same (jle_same (jle_same (jle_same jle_nil))))) (kf h))))
theorem bk_X9_digest_12 {C : JC} {d cl sl : Nat} {Q : State → Prop} {w : JW} {y1 : Int64} {x3 : Int32} {d2 : Nat} {r : Int32} {w2 : JW} (hm : jok C MX9_digest d cl sl) (hs : jF MX9_countFact d2 [jR 0 false, jI x3] w (jI r) w2) (hd2 : d2 + 1 ≤ d) (k : jW C cl sl Q 22 [jR 0 false, jU, jU, jI x3, jU] [jI r, jL (y1 * 31)] w2) : jW C cl sl Q 12 [jR 0 false, jL y1, jU, jI x3, jU] [] w := jr_lload_n hm (i := 1) rfl rfl dX9_digest_12 (jr_ldc2 hm (v := 31) jw_400 dX9_digest_13 (jr_lmul hm dX9_digest_16 (jr_aload_n hm (i := 0) rfl rfl dX9_digest_17 (jr_iload_n hm (i := 3) rfl rfl dX9_digest_18 (jr_callV (mc := 0) (ms := 0) hm hs hd2 jw_148 jw_150 jw_1 jw_47 jw_152 jn_X9_countFact rfl jo_0 (fun _ _ _ _ _ => ⟨_, rfl⟩) rfl rfl (Nat.le_of_ble_eq_true rfl) rfl dX9_digest_19 (jkF (jr_drop (jle_same (jle_drop (jle_same (jle_same (jle_same jle_nil))))) k)))))))
theorem bk_X9_digest_22 {C : JC} {d cl sl : Nat} {Q : State → Prop} {w : JW} {x3 : Int32} {xs0 : Int32} {ys1 : Int64} (hm : jok C MX9_digest d cl sl) (k : jW C cl sl Q 6 [jR 0 false, jL (ys1 + xs0.toInt64), jU, jI (x3 + 1), jU] [] w) : jW C cl sl Q 22 [jR 0 false, jU, jU, jI x3, jU] [jI xs0, jL ys1] w := jr_i2l hm dX9_digest_22 (jr_ladd hm dX9_digest_23 (jr_lstore_n hm (i := 1) rfl (Nat.le_of_ble_eq_true rfl) rfl dX9_digest_24 (jr_iinc hm (i := 3) (v := x3 + 1) rfl rfl rfl dX9_digest_25 (jr_goto hm dX9_digest_28 (by decide) (jr_drop (jle_same (jle_same (jle_same (jle_same (jle_same jle_nil))))) k)))))
theorem bk_X9_digest_31 {C : JC} {d cl sl : Nat} {Q : State → Prop} {w : JW} {y1 : Int64} (hm : jok C MX9_digest d cl sl) (k : jW C cl sl Q 33 [jR 0 false, jL y1, jU, jI 0, jU] [] w) : jW C cl sl Q 31 [jR 0 false, jL y1, jU, jU, jU] [] w := jr_iconst hm (v := 0) (by decide) dX9_digest_31 (jr_istore_n hm (i := 3) rfl (Nat.le_of_ble_eq_true rfl) rfl dX9_digest_32 (jr_drop (jle_same (jle_same (jle_same (jle_same (jle_same jle_nil))))) k))
theorem bk_X9_digest_33 {C : JC} {d cl sl : Nat} {Q : State → Prop} {w : JW} {y1 : Int64} {x3 : Int32} (hm : jok C MX9_digest d cl sl) (kt : (w.1 20 (w.2.2 0 6) 9) ≤ x3 → jW C cl sl Q 80 [jR 0 false, jL y1, jU, jU, jU] [] w) (kf : ¬ (w.1 20 (w.2.2 0 6) 9) ≤ x3 → jW C cl sl Q 44 [jR 0 false, jL y1, jU, jI x3, jU] [] w) : jW C cl sl Q 33 [jR 0 false, jL y1, jU, jI x3, jU] [] w := jr_iload_n hm (i := 3) rfl rfl dX9_digest_33 (jr_aload_n hm (i := 0) rfl rfl dX9_digest_34 (fg_X9_52 hm dX9_digest_35 (fg_X9_116 hm dX9_digest_38 (jr_icmp_ge hm dX9_digest_41 (by decide) (fun h => jr_drop (jle_same (jle_same (jle_same (jle_drop (jle_same jle_nil))))) (kt h)) (fun h => jr_drop (jle_same (jle_same (jle_same (jle_same (jle_same jle_nil))))) (kf h))))))
theorem bk_X9_digest_44 {C : JC} {d cl sl : Nat} {Q : State → Prop} {w : JW} {y1 : Int64} {x3 : Int32} (hm : jok C MX9_digest d cl sl) (k : jW C cl sl Q 47 [jR 0 false, jL y1, jU, jI x3, jI 0] [] w) : jW C cl sl Q 44 [jR 0 false, jL y1, jU, jI x3, jU] [] w := jr_iconst hm (v := 0) (by decide) dX9_digest_44 (jr_istore hm (i := 4) (Nat.le_of_ble_eq_true rfl) rfl dX9_digest_45 (jr_drop (jle_same (jle_same (jle_same (jle_same (jle_same jle_nil))))) k))
theorem bk_X9_digest_47 {C : JC} {d cl sl : Nat} {Q : State → Prop} {w : JW} {y1 : Int64} {x3 : Int32} {x4 : Int32} (hm : jok C MX9_digest d cl sl) (kt : 5 ≤ x4 → jW C cl sl Q 74 [jR 0 false, jL y1, jU, jI x3, jU] [] w) (kf : ¬ 5 ≤ x4 → jW C cl sl Q 53 [jR 0 false, jL y1, jU, jI x3, jI x4] [] w) : jW C cl sl Q 47 [jR 0 false, jL y1, jU, jI x3, jI x4] [] w := jr_iload hm (i := 4) rfl dX9_digest_47 (jr_iconst hm (v := 5) (by decide) dX9_digest_49 (jr_icmp_ge hm dX9_digest_50 (by decide) (fun h => jr_drop (jle_same (jle_same (jle_same (jle_same (jle_drop jle_nil))))) (kt h)) (fun h => jr_drop (jle_same (jle_same (jle_same (jle_same (jle_same jle_nil))))) (kf h))))
theorem bk_X9_digest_53 {C : JC} {d cl sl : Nat} {Q : State → Prop} {w : JW} {y1 : Int64} {x3 : Int32} {x4 : Int32} {d2 : Nat} {r : Int32} {w2 : JW} (hm : jok C MX9_digest d cl sl) (hs : jF MX9_caveFact d2 [jR 0 false, jI x3, jI x4] w (jI r) w2) (hd2 : d2 + 1 ≤ d) (k : jW C cl sl Q 65 [jR 0 false, jU, jU, jI x3, jI x4] [jI r, jL (y1 * 31)] w2) : jW C cl sl Q 53 [jR 0 false, jL y1, jU, jI x3, jI x4] [] w := jr_lload_n hm (i := 1) rfl rfl dX9_digest_53 (jr_ldc2 hm (v := 31) jw_400 dX9_digest_54 (jr_lmul hm dX9_digest_57 (jr_aload_n hm (i := 0) rfl rfl dX9_digest_58 (jr_iload_n hm (i := 3) rfl rfl dX9_digest_59 (jr_iload hm (i := 4) rfl dX9_digest_60 (jr_callV (mc := 0) (ms := 0) hm hs hd2 jw_191 jw_193 jw_3 jw_47 jw_194 jn_X9_caveFact rfl jo_0 (fun _ _ _ _ _ => ⟨_, rfl⟩) rfl rfl (Nat.le_of_ble_eq_true rfl) rfl dX9_digest_62 (jkF (jr_drop (jle_same (jle_drop (jle_same (jle_same (jle_same jle_nil))))) k))))))))
theorem bk_X9_digest_65 {C : JC} {d cl sl : Nat} {Q : State → Prop} {w : JW} {x3 : Int32} {x4 : Int32} {xs0 : Int32} {ys1 : Int64} (hm : jok C MX9_digest d cl sl) (k : jW C cl sl Q 47 [jR 0 false, jL (ys1 + xs0.toInt64), jU, jI x3, jI (x4 + 1)] [] w) : jW C cl sl Q 65 [jR 0 false, jU, jU, jI x3, jI x4] [jI xs0, jL ys1] w := jr_i2l hm dX9_digest_65 (jr_ladd hm dX9_digest_66 (jr_lstore_n hm (i := 1) rfl (Nat.le_of_ble_eq_true rfl) rfl dX9_digest_67 (jr_iinc hm (i := 4) (v := x4 + 1) rfl rfl rfl dX9_digest_68 (jr_goto hm dX9_digest_71 (by decide) (jr_drop (jle_same (jle_same (jle_same (jle_same (jle_same jle_nil))))) k)))))
theorem bk_X9_digest_74 {C : JC} {d cl sl : Nat} {Q : State → Prop} {w : JW} {y1 : Int64} {x3 : Int32} (hm : jok C MX9_digest d cl sl) (k : jW C cl sl Q 33 [jR 0 false, jL y1, jU, jI (x3 + 1), jU] [] w) : jW C cl sl Q 74 [jR 0 false, jL y1, jU, jI x3, jU] [] w := jr_iinc hm (i := 3) (v := x3 + 1) rfl rfl rfl dX9_digest_74 (jr_goto hm dX9_digest_77 (by decide) (jr_drop (jle_same (jle_same (jle_same (jle_same (jle_same jle_nil))))) k))
theorem bk_X9_digest_80 {C : JC} {d cl sl : Nat} {Q : State → Prop} {w : JW} {y1 : Int64} (hm : jok C MX9_digest d cl sl) (k : jW C cl sl Q 82 [jR 0 false, jL y1, jU, jI 0, jU] [] w) : jW C cl sl Q 80 [jR 0 false, jL y1, jU, jU, jU] [] w := jr_iconst hm (v := 0) (by decide) dX9_digest_80 (jr_istore_n hm (i := 3) rfl (Nat.le_of_ble_eq_true rfl) rfl dX9_digest_81 (jr_drop (jle_same (jle_same (jle_same (jle_same (jle_same jle_nil))))) k))
theorem bk_X9_digest_82 {C : JC} {d cl sl : Nat} {Q : State → Prop} {w : JW} {y1 : Int64} {x3 : Int32} (hm : jok C MX9_digest d cl sl) (kt : (w.1 20 (w.2.2 0 6) 10) ≤ x3 → jW C cl sl Q 130 [jR 0 false, jL y1, jU, jU, jU] [] w) (kf : ¬ (w.1 20 (w.2.2 0 6) 10) ≤ x3 → jW C cl sl Q 93 [jR 0 false, jL y1, jU, jI x3, jU] [] w) : jW C cl sl Q 82 [jR 0 false, jL y1, jU, jI x3, jU] [] w := jr_iload_n hm (i := 3) rfl rfl dX9_digest_82 (jr_aload_n hm (i := 0) rfl rfl dX9_digest_83 (fg_X9_52 hm dX9_digest_84 (fg_X9_211 hm dX9_digest_87 (jr_icmp_ge hm dX9_digest_90 (by decide) (fun h => jr_drop (jle_same (jle_same (jle_same (jle_drop (jle_same jle_nil))))) (kt h)) (fun h => jr_drop (jle_same (jle_same (jle_same (jle_same (jle_same jle_nil))))) (kf h))))))
theorem bk_X9_digest_93 {C : JC} {d cl sl : Nat} {Q : State → Prop} {w : JW} {y1 : Int64} {x3 : Int32} (hm : jok C MX9_digest d cl sl) (k : jW C cl sl Q 96 [jR 0 false, jL y1, jU, jI x3, jI 0] [] w) : jW C cl sl Q 93 [jR 0 false, jL y1, jU, jI x3, jU] [] w := jr_iconst hm (v := 0) (by decide) dX9_digest_93 (jr_istore hm (i := 4) (Nat.le_of_ble_eq_true rfl) rfl dX9_digest_94 (jr_drop (jle_same (jle_same (jle_same (jle_same (jle_same jle_nil))))) k))
theorem bk_X9_digest_96 {C : JC} {d cl sl : Nat} {Q : State → Prop} {w : JW} {y1 : Int64} {x3 : Int32} {x4 : Int32} (hm : jok C MX9_digest d cl sl) (kt : 7 ≤ x4 → jW C cl sl Q 124 [jR 0 false, jL y1, jU, jI x3, jU] [] w) (kf : ¬ 7 ≤ x4 → jW C cl sl Q 103 [jR 0 false, jL y1, jU, jI x3, jI x4] [] w) : jW C cl sl Q 96 [jR 0 false, jL y1, jU, jI x3, jI x4] [] w := jr_iload hm (i := 4) rfl dX9_digest_96 (jr_bipush hm (v := 7) (by decide) dX9_digest_98 (jr_icmp_ge hm dX9_digest_100 (by decide) (fun h => jr_drop (jle_same (jle_same (jle_same (jle_same (jle_drop jle_nil))))) (kt h)) (fun h => jr_drop (jle_same (jle_same (jle_same (jle_same (jle_same jle_nil))))) (kf h))))
theorem bk_X9_digest_103 {C : JC} {d cl sl : Nat} {Q : State → Prop} {w : JW} {y1 : Int64} {x3 : Int32} {x4 : Int32} {d2 : Nat} {r : Int32} {w2 : JW} (hm : jok C MX9_digest d cl sl) (hs : jF MX9_pipeFact d2 [jR 0 false, jI x3, jI x4] w (jI r) w2) (hd2 : d2 + 1 ≤ d) (k : jW C cl sl Q 115 [jR 0 false, jU, jU, jI x3, jI x4] [jI r, jL (y1 * 31)] w2) : jW C cl sl Q 103 [jR 0 false, jL y1, jU, jI x3, jI x4] [] w := jr_lload_n hm (i := 1) rfl rfl dX9_digest_103 (jr_ldc2 hm (v := 31) jw_400 dX9_digest_104 (jr_lmul hm dX9_digest_107 (jr_aload_n hm (i := 0) rfl rfl dX9_digest_108 (jr_iload_n hm (i := 3) rfl rfl dX9_digest_109 (jr_iload hm (i := 4) rfl dX9_digest_110 (jr_callV (mc := 0) (ms := 0) hm hs hd2 jw_255 jw_257 jw_7 jw_47 jw_258 jn_X9_pipeFact rfl jo_0 (fun _ _ _ _ _ => ⟨_, rfl⟩) rfl rfl (Nat.le_of_ble_eq_true rfl) rfl dX9_digest_112 (jkF (jr_drop (jle_same (jle_drop (jle_same (jle_same (jle_same jle_nil))))) k))))))))
theorem bk_X9_digest_115 {C : JC} {d cl sl : Nat} {Q : State → Prop} {w : JW} {x3 : Int32} {x4 : Int32} {xs0 : Int32} {ys1 : Int64} (hm : jok C MX9_digest d cl sl) (k : jW C cl sl Q 96 [jR 0 false, jL (ys1 + xs0.toInt64), jU, jI x3, jI (x4 + 1)] [] w) : jW C cl sl Q 115 [jR 0 false, jU, jU, jI x3, jI x4] [jI xs0, jL ys1] w := jr_i2l hm dX9_digest_115 (jr_ladd hm dX9_digest_116 (jr_lstore_n hm (i := 1) rfl (Nat.le_of_ble_eq_true rfl) rfl dX9_digest_117 (jr_iinc hm (i := 4) (v := x4 + 1) rfl rfl rfl dX9_digest_118 (jr_goto hm dX9_digest_121 (by decide) (jr_drop (jle_same (jle_same (jle_same (jle_same (jle_same jle_nil))))) k)))))
theorem bk_X9_digest_124 {C : JC} {d cl sl : Nat} {Q : State → Prop} {w : JW} {y1 : Int64} {x3 : Int32} (hm : jok C MX9_digest d cl sl) (k : jW C cl sl Q 82 [jR 0 false, jL y1, jU, jI (x3 + 1), jU] [] w) : jW C cl sl Q 124 [jR 0 false, jL y1, jU, jI x3, jU] [] w := jr_iinc hm (i := 3) (v := x3 + 1) rfl rfl rfl dX9_digest_124 (jr_goto hm dX9_digest_127 (by decide) (jr_drop (jle_same (jle_same (jle_same (jle_same (jle_same jle_nil))))) k))
theorem bk_X9_digest_130 {C : JC} {d cl sl : Nat} {Q : State → Prop} {w : JW} {y1 : Int64} (hm : jok C MX9_digest d cl sl) (k : jW C cl sl Q 132 [jR 0 false, jL y1, jU, jI 0, jU] [] w) : jW C cl sl Q 130 [jR 0 false, jL y1, jU, jU, jU] [] w := jr_iconst hm (v := 0) (by decide) dX9_digest_130 (jr_istore_n hm (i := 3) rfl (Nat.le_of_ble_eq_true rfl) rfl dX9_digest_131 (jr_drop (jle_same (jle_same (jle_same (jle_same (jle_same jle_nil))))) k))
theorem bk_X9_digest_132 {C : JC} {d cl sl : Nat} {Q : State → Prop} {w : JW} {y1 : Int64} {x3 : Int32} (hm : jok C MX9_digest d cl sl) (kt : (w.1 20 (w.2.2 0 6) 11) ≤ x3 → jW C cl sl Q 156 [jR 0 false, jL y1, jU, jU, jU] [] w) (kf : ¬ (w.1 20 (w.2.2 0 6) 11) ≤ x3 → jW C cl sl Q 143 [jR 0 false, jL y1, jU, jI x3, jU] [] w) : jW C cl sl Q 132 [jR 0 false, jL y1, jU, jI x3, jU] [] w := jr_iload_n hm (i := 3) rfl rfl dX9_digest_132 (jr_aload_n hm (i := 0) rfl rfl dX9_digest_133 (fg_X9_52 hm dX9_digest_134 (fg_X9_133 hm dX9_digest_137 (jr_icmp_ge hm dX9_digest_140 (by decide) (fun h => jr_drop (jle_same (jle_same (jle_same (jle_drop (jle_same jle_nil))))) (kt h)) (fun h => jr_drop (jle_same (jle_same (jle_same (jle_same (jle_same jle_nil))))) (kf h))))))
theorem bk_X9_digest_143 {C : JC} {d cl sl : Nat} {Q : State → Prop} {w : JW} {y1 : Int64} {x3 : Int32} {d2 : Nat} {r : Int64} {w2 : JW} (hm : jok C MX9_digest d cl sl) (hs : jF MX9_digestChord d2 [jR 0 false, jL y1, jI x3] w (jL r) w2) (hd2 : d2 + 1 ≤ d) (k : jW C cl sl Q 149 [jR 0 false, jU, jU, jI x3, jU] [jL r] w2) : jW C cl sl Q 143 [jR 0 false, jL y1, jU, jI x3, jU] [] w := jr_aload_n hm (i := 0) rfl rfl dX9_digest_143 (jr_lload_n hm (i := 1) rfl rfl dX9_digest_144 (jr_iload_n hm (i := 3) rfl rfl dX9_digest_145 (jr_callV (mc := 0) (ms := 0) hm hs hd2 jw_401 jw_403 jw_15 jw_47 jw_404 jn_X9_digestChord rfl jo_0 (fun _ _ _ _ _ => ⟨_, rfl⟩) rfl rfl (Nat.le_of_ble_eq_true rfl) rfl dX9_digest_146 (jkF (jr_drop (jle_same (jle_drop (jle_same (jle_same (jle_same jle_nil))))) k)))))
theorem bk_X9_digest_149 {C : JC} {d cl sl : Nat} {Q : State → Prop} {w : JW} {x3 : Int32} {ys0 : Int64} (hm : jok C MX9_digest d cl sl) (k : jW C cl sl Q 132 [jR 0 false, jL ys0, jU, jI (x3 + 1), jU] [] w) : jW C cl sl Q 149 [jR 0 false, jU, jU, jI x3, jU] [jL ys0] w := jr_lstore_n hm (i := 1) rfl (Nat.le_of_ble_eq_true rfl) rfl dX9_digest_149 (jr_iinc hm (i := 3) (v := x3 + 1) rfl rfl rfl dX9_digest_150 (jr_goto hm dX9_digest_153 (by decide) (jr_drop (jle_same (jle_same (jle_same (jle_same (jle_same jle_nil))))) k)))
theorem bk_X9_digest_156 {C : JC} {d cl sl : Nat} {Q : State → Prop} {w : JW} {y1 : Int64} (hm : jok C MX9_digest d cl sl) (k : jW C cl sl Q 158 [jR 0 false, jL y1, jU, jI 0, jU] [] w) : jW C cl sl Q 156 [jR 0 false, jL y1, jU, jU, jU] [] w := jr_iconst hm (v := 0) (by decide) dX9_digest_156 (jr_istore_n hm (i := 3) rfl (Nat.le_of_ble_eq_true rfl) rfl dX9_digest_157 (jr_drop (jle_same (jle_same (jle_same (jle_same (jle_same jle_nil))))) k))
theorem bk_X9_digest_158 {C : JC} {d cl sl : Nat} {Q : State → Prop} {w : JW} {y1 : Int64} {x3 : Int32} (hm : jok C MX9_digest d cl sl) (kt : 5 ≤ x3 → jW C cl sl Q 203 [jU, jL y1, jU, jU, jU] [] w) (kf : ¬ 5 ≤ x3 → jW C cl sl Q 163 [jR 0 false, jL y1, jU, jI x3, jU] [] w) : jW C cl sl Q 158 [jR 0 false, jL y1, jU, jI x3, jU] [] w := jr_iload_n hm (i := 3) rfl rfl dX9_digest_158 (jr_iconst hm (v := 5) (by decide) dX9_digest_159 (jr_icmp_ge hm dX9_digest_160 (by decide) (fun h => jr_drop (jle_drop (jle_same (jle_same (jle_drop (jle_same jle_nil))))) (kt h)) (fun h => jr_drop (jle_same (jle_same (jle_same (jle_same (jle_same jle_nil))))) (kf h))))
theorem bk_X9_digest_163 {C : JC} {d cl sl : Nat} {Q : State → Prop} {w : JW} {y1 : Int64} {x3 : Int32} {d2 : Nat} {r : Int32} {w2 : JW} (hm : jok C MX9_digest d cl sl) (hs : jF MX8_heightIn d2 [jR 28 (w.2.2 0 6), jI ((w.1 14 false 5) + x3), jI (w.1 14 false 6)] w (jI r) w2) (hd2 : d2 + 1 ≤ d) (k : jW C cl sl Q 194 [jR 0 false, jU, jU, jI x3, jU] [jI r, jL (y1 * 31)] w2) : jW C cl sl Q 163 [jR 0 false, jL y1, jU, jI x3, jU] [] w := jr_lload_n hm (i := 1) rfl rfl dX9_digest_163 (jr_ldc2 hm (v := 31) jw_400 dX9_digest_164 (jr_lmul hm dX9_digest_167 (jr_aload_n hm (i := 0) rfl rfl dX9_digest_168 (fg_X9_52 hm dX9_digest_169 (fg_X9_164 hm dX9_digest_172 (jr_aload_n hm (i := 0) rfl rfl dX9_digest_175 (fg_X9_42 hm dX9_digest_176 (fg_X9_234 hm dX9_digest_179 (jr_iload_n hm (i := 3) rfl rfl dX9_digest_182 (jr_iadd hm dX9_digest_183 (jr_aload_n hm (i := 0) rfl rfl dX9_digest_184 (fg_X9_42 hm dX9_digest_185 (fg_X9_168 hm dX9_digest_188 (jr_callV (mc := 0) (ms := 0) hm hs hd2 jw_405 jw_338 jw_339 jw_52 jw_340 jn_X8_heightIn rfl (jo_28 (w.2.2 0 6)) (fun _ _ _ _ _ => ⟨_, rfl⟩) rfl rfl (Nat.le_of_ble_eq_true rfl) rfl dX9_digest_191 (jkF (jr_drop (jle_same (jle_drop (jle_same (jle_same (jle_same jle_nil))))) k))))))))))))))))
theorem bk_X9_digest_194 {C : JC} {d cl sl : Nat} {Q : State → Prop} {w : JW} {x3 : Int32} {xs0 : Int32} {ys1 : Int64} (hm : jok C MX9_digest d cl sl) (k : jW C cl sl Q 158 [jR 0 false, jL (ys1 + xs0.toInt64), jU, jI (x3 + 1), jU] [] w) : jW C cl sl Q 194 [jR 0 false, jU, jU, jI x3, jU] [jI xs0, jL ys1] w := jr_i2l hm dX9_digest_194 (jr_ladd hm dX9_digest_195 (jr_lstore_n hm (i := 1) rfl (Nat.le_of_ble_eq_true rfl) rfl dX9_digest_196 (jr_iinc hm (i := 3) (v := x3 + 1) rfl rfl rfl dX9_digest_197 (jr_goto hm dX9_digest_200 (by decide) (jr_drop (jle_same (jle_same (jle_same (jle_same (jle_same jle_nil))))) k)))))
theorem bk_X9_digest_203 {C : JC} {d cl sl : Nat} {w : JW} {y1 : Int64} {P : JV → JW → Prop} (hm : jok C MX9_digest d cl sl) (hp : P (jL y1) w) : jW C cl sl (jQQ C cl sl P) 203 [jU, jL y1, jU, jU, jU] [] w := jr_lload_n hm (i := 1) rfl rfl dX9_digest_203 (jr_lreturn hm rfl dX9_digest_204 hp)
theorem dX9_digestChord_0 : decode cX9_digestChord 0 = .ok (.lload_n 1, 1) := by decide +kernel
theorem dX9_digestChord_1 : decode cX9_digestChord 1 = .ok (.lstore 4, 2) := by decide +kernel
theorem dX9_digestChord_3 : decode cX9_digestChord 3 = .ok (.iconst 0, 1) := by decide +kernel
theorem dX9_digestChord_4 : decode cX9_digestChord 4 = .ok (.istore 6, 2) := by decide +kernel
theorem dX9_digestChord_6 : decode cX9_digestChord 6 = .ok (.iload 6, 2) := by decide +kernel
theorem dX9_digestChord_8 : decode cX9_digestChord 8 = .ok (.iconst 4, 1) := by decide +kernel
theorem dX9_digestChord_9 : decode cX9_digestChord 9 = .ok (.if_icmp .ge 26, 3) := by decide +kernel
theorem dX9_digestChord_12 : decode cX9_digestChord 12 = .ok (.lload 4, 2) := by decide +kernel
theorem dX9_digestChord_14 : decode cX9_digestChord 14 = .ok (.ldc2_w 228, 3) := by decide +kernel
theorem dX9_digestChord_17 : decode cX9_digestChord 17 = .ok (.lmul, 1) := by decide +kernel
theorem dX9_digestChord_18 : decode cX9_digestChord 18 = .ok (.aload_n 0, 1) := by decide +kernel
theorem dX9_digestChord_19 : decode cX9_digestChord 19 = .ok (.iload_n 3, 1) := by decide +kernel
theorem dX9_digestChord_20 : decode cX9_digestChord 20 = .ok (.iload 6, 2) := by decide +kernel
theorem dX9_digestChord_22 : decode cX9_digestChord 22 = .ok (.invokevirtual 138, 3) := by decide +kernel
theorem dX9_digestChord_25 : decode cX9_digestChord 25 = .ok (.i2l, 1) := by decide +kernel
theorem dX9_digestChord_26 : decode cX9_digestChord 26 = .ok (.ladd, 1) := by decide +kernel
theorem dX9_digestChord_27 : decode cX9_digestChord 27 = .ok (.lstore 4, 2) := by decide +kernel
theorem dX9_digestChord_29 : decode cX9_digestChord 29 = .ok (.iinc 6 1, 3) := by decide +kernel
theorem dX9_digestChord_32 : decode cX9_digestChord 32 = .ok (.goto (-26), 3) := by decide +kernel
theorem dX9_digestChord_35 : decode cX9_digestChord 35 = .ok (.aload_n 0, 1) := by decide +kernel
theorem dX9_digestChord_36 : decode cX9_digestChord 36 = .ok (.getfield 52, 3) := by decide +kernel
theorem dX9_digestChord_39 : decode cX9_digestChord 39 = .ok (.iload_n 3, 1) := by decide +kernel
theorem dX9_digestChord_40 : decode cX9_digestChord 40 = .ok (.invokevirtual 141, 3) := by decide +kernel
theorem dX9_digestChord_43 : decode cX9_digestChord 43 = .ok (.istore 6, 2) := by decide +kernel
theorem dX9_digestChord_45 : decode cX9_digestChord 45 = .ok (.iconst 0, 1) := by decide +kernel
theorem dX9_digestChord_46 : decode cX9_digestChord 46 = .ok (.istore 7, 2) := by decide +kernel
theorem dX9_digestChord_48 : decode cX9_digestChord 48 = .ok (.iload 7, 2) := by decide +kernel
theorem dX9_digestChord_50 : decode cX9_digestChord 50 = .ok (.iload 6, 2) := by decide +kernel
theorem dX9_digestChord_52 : decode cX9_digestChord 52 = .ok (.if_icmp .ge 29, 3) := by decide +kernel
theorem dX9_digestChord_55 : decode cX9_digestChord 55 = .ok (.lload 4, 2) := by decide +kernel
theorem dX9_digestChord_57 : decode cX9_digestChord 57 = .ok (.ldc2_w 228, 3) := by decide +kernel
theorem dX9_digestChord_60 : decode cX9_digestChord 60 = .ok (.lmul, 1) := by decide +kernel
theorem dX9_digestChord_61 : decode cX9_digestChord 61 = .ok (.aload_n 0, 1) := by decide +kernel
theorem dX9_digestChord_62 : decode cX9_digestChord 62 = .ok (.getfield 52, 3) := by decide +kernel
theorem dX9_digestChord_65 : decode cX9_digestChord 65 = .ok (.iload_n 3, 1) := by decide +kernel
theorem dX9_digestChord_66 : decode cX9_digestChord 66 = .ok (.iload 7, 2) := by decide +kernel
theorem dX9_digestChord_68 : decode cX9_digestChord 68 = .ok (.invokevirtual 146, 3) := by decide +kernel
theorem dX9_digestChord_71 : decode cX9_digestChord 71 = .ok (.i2l, 1) := by decide +kernel
theorem dX9_digestChord_72 : decode cX9_digestChord 72 = .ok (.ladd, 1) := by decide +kernel
theorem dX9_digestChord_73 : decode cX9_digestChord 73 = .ok (.lstore 4, 2) := by decide +kernel
theorem dX9_digestChord_75 : decode cX9_digestChord 75 = .ok (.iinc 7 1, 3) := by decide +kernel
theorem dX9_digestChord_78 : decode cX9_digestChord 78 = .ok (.goto (-30), 3) := by decide +kernel
theorem dX9_digestChord_81 : decode cX9_digestChord 81 = .ok (.lload 4, 2) := by decide +kernel
theorem dX9_digestChord_83 : decode cX9_digestChord 83 = .ok (.lreturn, 1) := by decide +kernel
theorem bk_X9_digestChord_0 {C : JC} {d cl sl : Nat} {Q : State → Prop} {w : JW} {y1 : Int64} {x3 : Int32} (hm : jok C MX9_digestChord d cl sl) (k : jW C cl sl Q 6 [jR 0 false, jU, jU, jI x3, jL y1, jU, jI 0, jU] [] w) : jW C cl sl Q 0 [jR 0 false, jL y1, jU, jI x3, jU, jU, jU, jU] [] w := jr_lload_n hm (i := 1) rfl rfl dX9_digestChord_0 (jr_lstore hm (i := 4) (Nat.le_of_ble_eq_true rfl) rfl dX9_digestChord_1 (jr_iconst hm (v := 0) (by decide) dX9_digestChord_3 (jr_istore hm (i := 6) (Nat.le_of_ble_eq_true rfl) rfl dX9_digestChord_4 (jr_drop (jle_same (jle_drop (jle_same (jle_same (jle_same (jle_same (jle_same (jle_same jle_nil)))))))) k))))
theorem bk_X9_digestChord_6 {C : JC} {d cl sl : Nat} {Q : State → Prop} {w : JW} {x3 : Int32} {y4 : Int64} {x6 : Int32} (hm : jok C MX9_digestChord d cl sl) (kt : 4 ≤ x6 → jW C cl sl Q 35 [jR 0 false, jU, jU, jI x3, jL y4, jU, jU, jU] [] w) (kf : ¬ 4 ≤ x6 → jW C cl sl Q 12 [jR 0 false, jU, jU, jI x3, jL y4, jU, jI x6, jU] [] w) : jW C cl sl Q 6 [jR 0 false, jU, jU, jI x3, jL y4, jU, jI x6, jU] [] w := jr_iload hm (i := 6) rfl dX9_digestChord_6 (jr_iconst hm (v := 4) (by decide) dX9_digestChord_8 (jr_icmp_ge hm dX9_digestChord_9 (by decide) (fun h => jr_drop (jle_same (jle_same (jle_same (jle_same (jle_same (jle_same (jle_drop (jle_same jle_nil)))))))) (kt h)) (fun h => jr_drop (jle_same (jle_same (jle_same (jle_same (jle_same (jle_same (jle_same (jle_same jle_nil)))))))) (kf h))))
theorem bk_X9_digestChord_12 {C : JC} {d cl sl : Nat} {Q : State → Prop} {w : JW} {x3 : Int32} {y4 : Int64} {x6 : Int32} {d2 : Nat} {r : Int32} {w2 : JW} (hm : jok C MX9_digestChord d cl sl) (hs : jF MX9_chordFact d2 [jR 0 false, jI x3, jI x6] w (jI r) w2) (hd2 : d2 + 1 ≤ d) (k : jW C cl sl Q 25 [jR 0 false, jU, jU, jI x3, jU, jU, jI x6, jU] [jI r, jL (y4 * 31)] w2) : jW C cl sl Q 12 [jR 0 false, jU, jU, jI x3, jL y4, jU, jI x6, jU] [] w := jr_lload hm (i := 4) rfl dX9_digestChord_12 (jr_ldc2 hm (v := 31) jw_400 dX9_digestChord_14 (jr_lmul hm dX9_digestChord_17 (jr_aload_n hm (i := 0) rfl rfl dX9_digestChord_18 (jr_iload_n hm (i := 3) rfl rfl dX9_digestChord_19 (jr_iload hm (i := 6) rfl dX9_digestChord_20 (jr_callV (mc := 0) (ms := 0) hm hs hd2 jw_268 jw_270 jw_8 jw_47 jw_271 jn_X9_chordFact rfl jo_0 (fun _ _ _ _ _ => ⟨_, rfl⟩) rfl rfl (Nat.le_of_ble_eq_true rfl) rfl dX9_digestChord_22 (jkF (jr_drop (jle_same (jle_same (jle_same (jle_same (jle_drop (jle_same (jle_same (jle_same jle_nil)))))))) k))))))))
theorem bk_X9_digestChord_25 {C : JC} {d cl sl : Nat} {Q : State → Prop} {w : JW} {x3 : Int32} {x6 : Int32} {xs0 : Int32} {ys1 : Int64} (hm : jok C MX9_digestChord d cl sl) (k : jW C cl sl Q 6 [jR 0 false, jU, jU, jI x3, jL (ys1 + xs0.toInt64), jU, jI (x6 + 1), jU] [] w) : jW C cl sl Q 25 [jR 0 false, jU, jU, jI x3, jU, jU, jI x6, jU] [jI xs0, jL ys1] w := jr_i2l hm dX9_digestChord_25 (jr_ladd hm dX9_digestChord_26 (jr_lstore hm (i := 4) (Nat.le_of_ble_eq_true rfl) rfl dX9_digestChord_27 (jr_iinc hm (i := 6) (v := x6 + 1) rfl rfl rfl dX9_digestChord_29 (jr_goto hm dX9_digestChord_32 (by decide) (jr_drop (jle_same (jle_same (jle_same (jle_same (jle_same (jle_same (jle_same (jle_same jle_nil)))))))) k)))))
theorem bk_X9_digestChord_35 {C : JC} {d cl sl : Nat} {Q : State → Prop} {w : JW} {x3 : Int32} {y4 : Int64} {d2 : Nat} {r : Int32} {w2 : JW} (hm : jok C MX9_digestChord d cl sl) (hs : jF MX3_sizeOf d2 [jR 20 (w.2.2 0 6), jI x3] w (jI r) w2) (hd2 : d2 + 1 ≤ d) (k : jW C cl sl Q 43 [jR 0 false, jU, jU, jI x3, jL y4, jU, jU, jU] [jI r] w2) : jW C cl sl Q 35 [jR 0 false, jU, jU, jI x3, jL y4, jU, jU, jU] [] w := jr_aload_n hm (i := 0) rfl rfl dX9_digestChord_35 (fg_X9_52 hm dX9_digestChord_36 (jr_iload_n hm (i := 3) rfl rfl dX9_digestChord_39 (jr_callV (mc := 0) (ms := 0) hm hs hd2 jw_272 jw_173 jw_174 jw_51 jw_175 jn_X3_sizeOf rfl (jo_20 (w.2.2 0 6)) (fun _ _ _ _ _ => ⟨_, rfl⟩) rfl rfl (Nat.le_of_ble_eq_true rfl) rfl dX9_digestChord_40 (jkF (jr_drop (jle_same (jle_same (jle_same (jle_same (jle_same (jle_same (jle_same (jle_same jle_nil)))))))) k)))))
theorem bk_X9_digestChord_43 {C : JC} {d cl sl : Nat} {Q : State → Prop} {w : JW} {x3 : Int32} {y4 : Int64} {xs0 : Int32} (hm : jok C MX9_digestChord d cl sl) (k : jW C cl sl Q 48 [jR 0 false, jU, jU, jI x3, jL y4, jU, jI xs0, jI 0] [] w) : jW C cl sl Q 43 [jR 0 false, jU, jU, jI x3, jL y4, jU, jU, jU] [jI xs0] w := jr_istore hm (i := 6) (Nat.le_of_ble_eq_true rfl) rfl dX9_digestChord_43 (jr_iconst hm (v := 0) (by decide) dX9_digestChord_45 (jr_istore hm (i := 7) (Nat.le_of_ble_eq_true rfl) rfl dX9_digestChord_46 (jr_drop (jle_same (jle_same (jle_same (jle_same (jle_same (jle_same (jle_same (jle_same jle_nil)))))))) k)))
theorem bk_X9_digestChord_48 {C : JC} {d cl sl : Nat} {Q : State → Prop} {w : JW} {x3 : Int32} {y4 : Int64} {x6 : Int32} {x7 : Int32} (hm : jok C MX9_digestChord d cl sl) (kt : x6 ≤ x7 → jW C cl sl Q 81 [jU, jU, jU, jU, jL y4, jU, jU, jU] [] w) (kf : ¬ x6 ≤ x7 → jW C cl sl Q 55 [jR 0 false, jU, jU, jI x3, jL y4, jU, jI x6, jI x7] [] w) : jW C cl sl Q 48 [jR 0 false, jU, jU, jI x3, jL y4, jU, jI x6, jI x7] [] w := jr_iload hm (i := 7) rfl dX9_digestChord_48 (jr_iload hm (i := 6) rfl dX9_digestChord_50 (jr_icmp_ge hm dX9_digestChord_52 (by decide) (fun h => jr_drop (jle_drop (jle_same (jle_same (jle_drop (jle_same (jle_same (jle_drop (jle_drop jle_nil)))))))) (kt h)) (fun h => jr_drop (jle_same (jle_same (jle_same (jle_same (jle_same (jle_same (jle_same (jle_same jle_nil)))))))) (kf h))))
theorem bk_X9_digestChord_55 {C : JC} {d cl sl : Nat} {Q : State → Prop} {w : JW} {x3 : Int32} {y4 : Int64} {x6 : Int32} {x7 : Int32} {d2 : Nat} {r : Int32} {w2 : JW} (hm : jok C MX9_digestChord d cl sl) (hs : jF MX3_noteAt d2 [jR 20 (w.2.2 0 6), jI x3, jI x7] w (jI r) w2) (hd2 : d2 + 1 ≤ d) (k : jW C cl sl Q 71 [jR 0 false, jU, jU, jI x3, jU, jU, jI x6, jI x7] [jI r, jL (y4 * 31)] w2) : jW C cl sl Q 55 [jR 0 false, jU, jU, jI x3, jL y4, jU, jI x6, jI x7] [] w := jr_lload hm (i := 4) rfl dX9_digestChord_55 (jr_ldc2 hm (v := 31) jw_400 dX9_digestChord_57 (jr_lmul hm dX9_digestChord_60 (jr_aload_n hm (i := 0) rfl rfl dX9_digestChord_61 (fg_X9_52 hm dX9_digestChord_62 (jr_iload_n hm (i := 3) rfl rfl dX9_digestChord_65 (jr_iload hm (i := 7) rfl dX9_digestChord_66 (jr_callV (mc := 0) (ms := 0) hm hs hd2 jw_284 jw_178 jw_179 jw_51 jw_180 jn_X3_noteAt rfl (jo_20 (w.2.2 0 6)) (fun _ _ _ _ _ => ⟨_, rfl⟩) rfl rfl (Nat.le_of_ble_eq_true rfl) rfl dX9_digestChord_68 (jkF (jr_drop (jle_same (jle_same (jle_same (jle_same (jle_drop (jle_same (jle_same (jle_same jle_nil)))))))) k)))))))))
theorem bk_X9_digestChord_71 {C : JC} {d cl sl : Nat} {Q : State → Prop} {w : JW} {x3 : Int32} {x6 : Int32} {x7 : Int32} {xs0 : Int32} {ys1 : Int64} (hm : jok C MX9_digestChord d cl sl) (k : jW C cl sl Q 48 [jR 0 false, jU, jU, jI x3, jL (ys1 + xs0.toInt64), jU, jI x6, jI (x7 + 1)] [] w) : jW C cl sl Q 71 [jR 0 false, jU, jU, jI x3, jU, jU, jI x6, jI x7] [jI xs0, jL ys1] w := jr_i2l hm dX9_digestChord_71 (jr_ladd hm dX9_digestChord_72 (jr_lstore hm (i := 4) (Nat.le_of_ble_eq_true rfl) rfl dX9_digestChord_73 (jr_iinc hm (i := 7) (v := x7 + 1) rfl rfl rfl dX9_digestChord_75 (jr_goto hm dX9_digestChord_78 (by decide) (jr_drop (jle_same (jle_same (jle_same (jle_same (jle_same (jle_same (jle_same (jle_same jle_nil)))))))) k)))))
theorem bk_X9_digestChord_81 {C : JC} {d cl sl : Nat} {w : JW} {y4 : Int64} {P : JV → JW → Prop} (hm : jok C MX9_digestChord d cl sl) (hp : P (jL y4) w) : jW C cl sl (jQQ C cl sl P) 81 [jU, jU, jU, jU, jL y4, jU, jU, jU] [] w := jr_lload hm (i := 4) rfl dX9_digestChord_81 (jr_lreturn hm rfl dX9_digestChord_83 hp)
theorem dX9_isNoPipe_0 : decode cX9_isNoPipe 0 = .ok (.iload_n 1, 1) := by decide +kernel
theorem dX9_isNoPipe_1 : decode cX9_isNoPipe 1 = .ok (.ifCond .lt 14, 3) := by decide +kernel
theorem dX9_isNoPipe_4 : decode cX9_isNoPipe 4 = .ok (.iload_n 1, 1) := by decide +kernel
theorem dX9_isNoPipe_5 : decode cX9_isNoPipe 5 = .ok (.aload_n 0, 1) := by decide +kernel
theorem dX9_isNoPipe_6 : decode cX9_isNoPipe 6 = .ok (.getfield 52, 3) := by decide +kernel
theorem dX9_isNoPipe_9 : decode cX9_isNoPipe 9 = .ok (.getfield 211, 3) := by decide +kernel
theorem dX9_isNoPipe_12 : decode cX9_isNoPipe 12 = .ok (.if_icmp .lt 7, 3) := by decide +kernel
theorem dX9_isNoPipe_15 : decode cX9_isNoPipe 15 = .ok (.iconst 1, 1) := by decide +kernel
theorem dX9_isNoPipe_16 : decode cX9_isNoPipe 16 = .ok (.goto 4, 3) := by decide +kernel
theorem dX9_isNoPipe_19 : decode cX9_isNoPipe 19 = .ok (.iconst 0, 1) := by decide +kernel
theorem dX9_isNoPipe_20 : decode cX9_isNoPipe 20 = .ok (.ireturn, 1) := by decide +kernel
theorem bk_X9_isNoPipe_0 {C : JC} {d cl sl : Nat} {Q : State → Prop} {w : JW} {x1 : Int32} (hm : jok C MX9_isNoPipe d cl sl) (kt : x1 < 0 → jW C cl sl Q 15 [jU, jU] [] w) (kf : ¬ x1 < 0 → jW C cl sl Q 4 [jR 0 false, jI x1] [] w) : jW C cl sl Q 0 [jR 0 false, jI x1] [] w := jr_iload_n hm (i := 1) rfl rfl dX9_isNoPipe_0 (jr_if_lt hm dX9_isNoPipe_1 (by decide) (fun h => jr_drop (jle_drop (jle_drop jle_nil)) (kt h)) (fun h => jr_drop (jle_same (jle_same jle_nil)) (kf h)))
theorem bk_X9_isNoPipe_4 {C : JC} {d cl sl : Nat} {Q : State → Prop} {w : JW} {x1 : Int32} (hm : jok C MX9_isNoPipe d cl sl) (kt : x1 < (w.1 20 (w.2.2 0 6) 10) → jW C cl sl Q 19 [jU, jU] [] w) (kf : ¬ x1 < (w.1 20 (w.2.2 0 6) 10) → jW C cl sl Q 15 [jU, jU] [] w) : jW C cl sl Q 4 [jR 0 false, jI x1] [] w := jr_iload_n hm (i := 1) rfl rfl dX9_isNoPipe_4 (jr_aload_n hm (i := 0) rfl rfl dX9_isNoPipe_5 (fg_X9_52 hm dX9_isNoPipe_6 (fg_X9_211 hm dX9_isNoPipe_9 (jr_icmp_lt hm dX9_isNoPipe_12 (by decide) (fun h => jr_drop (jle_drop (jle_drop jle_nil)) (kt h)) (fun h => jr_drop (jle_drop (jle_drop jle_nil)) (kf h))))))
theorem bk_X9_isNoPipe_15 {C : JC} {d cl sl : Nat} {Q : State → Prop} {w : JW}  (hm : jok C MX9_isNoPipe d cl sl) (k : jW C cl sl Q 20 [jU, jU] [jI 1] w) : jW C cl sl Q 15 [jU, jU] [] w := jr_iconst hm (v := 1) (by decide) dX9_isNoPipe_15 (jr_goto hm dX9_isNoPipe_16 (by decide) (jr_drop (jle_same (jle_same jle_nil)) k))
theorem bk_X9_isNoPipe_19 {C : JC} {d cl sl : Nat} {Q : State → Prop} {w : JW}  (hm : jok C MX9_isNoPipe d cl sl) (k : jW C cl sl Q 20 [jU, jU] [jI 0] w) : jW C cl sl Q 19 [jU, jU] [] w := jr_iconst hm (v := 0) (by decide) dX9_isNoPipe_19 (jr_drop (jle_same (jle_same jle_nil)) k)
theorem bk_X9_isNoPipe_20 {C : JC} {d cl sl : Nat} {w : JW} {xs0 : Int32} {P : JV → JW → Prop} (hm : jok C MX9_isNoPipe d cl sl) (hz : narrow .boolean (.int xs0) = .int xs0) (hp : P (jI xs0) w) : jW C cl sl (jQQ C cl sl P) 20 [jU, jU] [jI xs0] w := jr_zreturn hm rfl hz dX9_isNoPipe_20 hp
theorem dX9_countFact_0 : decode cX9_countFact 0 = .ok (.iload_n 1, 1) := by decide +kernel
theorem dX9_countFact_1 : decode cX9_countFact 1 = .ok (.tableswitch 191 0 12 #[67, 75, 83, 91, 99, 107, 118, 129, 140, 155, 160, 168, 176], 67) := by decide +kernel
theorem dX9_countFact_68 : decode cX9_countFact 68 = .ok (.aload_n 0, 1) := by decide +kernel
theorem dX9_countFact_69 : decode cX9_countFact 69 = .ok (.getfield 42, 3) := by decide +kernel
theorem dX9_countFact_72 : decode cX9_countFact 72 = .ok (.getfield 234, 3) := by decide +kernel
theorem dX9_countFact_75 : decode cX9_countFact 75 = .ok (.ireturn, 1) := by decide +kernel
theorem dX9_countFact_76 : decode cX9_countFact 76 = .ok (.aload_n 0, 1) := by decide +kernel
theorem dX9_countFact_77 : decode cX9_countFact 77 = .ok (.getfield 42, 3) := by decide +kernel
theorem dX9_countFact_80 : decode cX9_countFact 80 = .ok (.getfield 168, 3) := by decide +kernel
theorem dX9_countFact_83 : decode cX9_countFact 83 = .ok (.ireturn, 1) := by decide +kernel
theorem dX9_countFact_84 : decode cX9_countFact 84 = .ok (.aload_n 0, 1) := by decide +kernel
theorem dX9_countFact_85 : decode cX9_countFact 85 = .ok (.getfield 52, 3) := by decide +kernel
theorem dX9_countFact_88 : decode cX9_countFact 88 = .ok (.getfield 116, 3) := by decide +kernel
theorem dX9_countFact_91 : decode cX9_countFact 91 = .ok (.ireturn, 1) := by decide +kernel
theorem dX9_countFact_92 : decode cX9_countFact 92 = .ok (.aload_n 0, 1) := by decide +kernel
theorem dX9_countFact_93 : decode cX9_countFact 93 = .ok (.getfield 52, 3) := by decide +kernel
theorem dX9_countFact_96 : decode cX9_countFact 96 = .ok (.getfield 211, 3) := by decide +kernel
theorem dX9_countFact_99 : decode cX9_countFact 99 = .ok (.ireturn, 1) := by decide +kernel
theorem dX9_countFact_100 : decode cX9_countFact 100 = .ok (.aload_n 0, 1) := by decide +kernel
theorem dX9_countFact_101 : decode cX9_countFact 101 = .ok (.getfield 52, 3) := by decide +kernel
theorem dX9_countFact_104 : decode cX9_countFact 104 = .ok (.getfield 133, 3) := by decide +kernel
theorem dX9_countFact_107 : decode cX9_countFact 107 = .ok (.ireturn, 1) := by decide +kernel
theorem dX9_countFact_108 : decode cX9_countFact 108 = .ok (.aload_n 0, 1) := by decide +kernel
theorem dX9_countFact_109 : decode cX9_countFact 109 = .ok (.getfield 52, 3) := by decide +kernel
theorem dX9_countFact_112 : decode cX9_countFact 112 = .ok (.getfield 164, 3) := by decide +kernel
theorem dX9_countFact_115 : decode cX9_countFact 115 = .ok (.getfield 237, 3) := by decide +kernel
theorem dX9_countFact_118 : decode cX9_countFact 118 = .ok (.ireturn, 1) := by decide +kernel
theorem dX9_countFact_119 : decode cX9_countFact 119 = .ok (.aload_n 0, 1) := by decide +kernel
theorem dX9_countFact_120 : decode cX9_countFact 120 = .ok (.getfield 52, 3) := by decide +kernel
theorem dX9_countFact_123 : decode cX9_countFact 123 = .ok (.getfield 164, 3) := by decide +kernel
theorem dX9_countFact_126 : decode cX9_countFact 126 = .ok (.getfield 240, 3) := by decide +kernel
theorem dX9_countFact_129 : decode cX9_countFact 129 = .ok (.ireturn, 1) := by decide +kernel
theorem dX9_countFact_130 : decode cX9_countFact 130 = .ok (.aload_n 0, 1) := by decide +kernel
theorem dX9_countFact_131 : decode cX9_countFact 131 = .ok (.getfield 52, 3) := by decide +kernel
theorem dX9_countFact_134 : decode cX9_countFact 134 = .ok (.getfield 243, 3) := by decide +kernel
theorem dX9_countFact_137 : decode cX9_countFact 137 = .ok (.getfield 247, 3) := by decide +kernel
theorem dX9_countFact_140 : decode cX9_countFact 140 = .ok (.ireturn, 1) := by decide +kernel
theorem dX9_countFact_141 : decode cX9_countFact 141 = .ok (.aload_n 0, 1) := by decide +kernel
theorem dX9_countFact_142 : decode cX9_countFact 142 = .ok (.getfield 42, 3) := by decide +kernel
theorem dX9_countFact_145 : decode cX9_countFact 145 = .ok (.aload_n 0, 1) := by decide +kernel
theorem dX9_countFact_146 : decode cX9_countFact 146 = .ok (.getfield 52, 3) := by decide +kernel
theorem dX9_countFact_149 : decode cX9_countFact 149 = .ok (.getfield 211, 3) := by decide +kernel
theorem dX9_countFact_152 : decode cX9_countFact 152 = .ok (.invokevirtual 214, 3) := by decide +kernel
theorem dX9_countFact_155 : decode cX9_countFact 155 = .ok (.ireturn, 1) := by decide +kernel
theorem dX9_countFact_156 : decode cX9_countFact 156 = .ok (.aload_n 0, 1) := by decide +kernel
theorem dX9_countFact_157 : decode cX9_countFact 157 = .ok (.invokevirtual 252, 3) := by decide +kernel
theorem dX9_countFact_160 : decode cX9_countFact 160 = .ok (.ireturn, 1) := by decide +kernel
theorem dX9_countFact_161 : decode cX9_countFact 161 = .ok (.aload_n 0, 1) := by decide +kernel
theorem dX9_countFact_162 : decode cX9_countFact 162 = .ok (.getfield 42, 3) := by decide +kernel
theorem dX9_countFact_165 : decode cX9_countFact 165 = .ok (.getfield 192, 3) := by decide +kernel
theorem dX9_countFact_168 : decode cX9_countFact 168 = .ok (.ireturn, 1) := by decide +kernel
theorem dX9_countFact_169 : decode cX9_countFact 169 = .ok (.aload_n 0, 1) := by decide +kernel
theorem dX9_countFact_170 : decode cX9_countFact 170 = .ok (.getfield 42, 3) := by decide +kernel
theorem dX9_countFact_173 : decode cX9_countFact 173 = .ok (.getfield 208, 3) := by decide +kernel
theorem dX9_countFact_176 : decode cX9_countFact 176 = .ok (.ireturn, 1) := by decide +kernel
theorem dX9_countFact_177 : decode cX9_countFact 177 = .ok (.aload_n 0, 1) := by decide +kernel
theorem dX9_countFact_178 : decode cX9_countFact 178 = .ok (.getfield 42, 3) := by decide +kernel
theorem dX9_countFact_181 : decode cX9_countFact 181 = .ok (.aload_n 0, 1) := by decide +kernel
theorem dX9_countFact_182 : decode cX9_countFact 182 = .ok (.getfield 52, 3) := by decide +kernel
theorem dX9_countFact_185 : decode cX9_countFact 185 = .ok (.getfield 211, 3) := by decide +kernel
theorem dX9_countFact_188 : decode cX9_countFact 188 = .ok (.invokevirtual 217, 3) := by decide +kernel
theorem dX9_countFact_191 : decode cX9_countFact 191 = .ok (.ireturn, 1) := by decide +kernel
theorem dX9_countFact_192 : decode cX9_countFact 192 = .ok (.aload_n 0, 1) := by decide +kernel
theorem dX9_countFact_193 : decode cX9_countFact 193 = .ok (.getfield 10, 3) := by decide +kernel
theorem dX9_countFact_196 : decode cX9_countFact 196 = .ok (.getfield 75, 3) := by decide +kernel
theorem dX9_countFact_199 : decode cX9_countFact 199 = .ok (.ireturn, 1) := by decide +kernel
theorem bk_X9_countFact_0 {C : JC} {d cl sl : Nat} {Q : State → Prop} {w : JW} {x1 : Int32} (hm : jok C MX9_countFact d cl sl) (k0 : x1 = 0 → jW C cl sl Q 68 [jR 0 false, jU] [] w) (k1 : x1 = 1 → jW C cl sl Q 76 [jR 0 false, jU] [] w) (k2 : x1 = 2 → jW C cl sl Q 84 [jR 0 false, jU] [] w) (k3 : x1 = 3 → jW C cl sl Q 92 [jR 0 false, jU] [] w) (k4 : x1 = 4 → jW C cl sl Q 100 [jR 0 false, jU] [] w) (k5 : x1 = 5 → jW C cl sl Q 108 [jR 0 false, jU] [] w) (k6 : x1 = 6 → jW C cl sl Q 119 [jR 0 false, jU] [] w) (k7 : x1 = 7 → jW C cl sl Q 130 [jR 0 false, jU] [] w) (k8 : x1 = 8 → jW C cl sl Q 141 [jR 0 false, jU] [] w) (k9 : x1 = 9 → jW C cl sl Q 156 [jR 0 false, jU] [] w) (k10 : x1 = 10 → jW C cl sl Q 161 [jR 0 false, jU] [] w) (k11 : x1 = 11 → jW C cl sl Q 169 [jR 0 false, jU] [] w) (k12 : x1 = 12 → jW C cl sl Q 177 [jR 0 false, jU] [] w) (kd : ¬ x1 = 0 → ¬ x1 = 1 → ¬ x1 = 2 → ¬ x1 = 3 → ¬ x1 = 4 → ¬ x1 = 5 → ¬ x1 = 6 → ¬ x1 = 7 → ¬ x1 = 8 → ¬ x1 = 9 → ¬ x1 = 10 → ¬ x1 = 11 → ¬ x1 = 12 → jW C cl sl Q 192 [jR 0 false, jU] [] w) : jW C cl sl Q 0 [jR 0 false, jI x1] [] w := by
  by_cases e0 : x1 = 0
  · exact jr_iload_n hm (i := 1) rfl rfl dX9_countFact_0 (jr_tab_in hm dX9_countFact_1 (by rw [e0]; decide) (by rw [e0]; decide) (off := 67) (by rw [e0]; rfl) (by decide) (jr_drop (jle_same (jle_drop jle_nil)) (k0 e0)))
  by_cases e1 : x1 = 1
  · exact jr_iload_n hm (i := 1) rfl rfl dX9_countFact_0 (jr_tab_in hm dX9_countFact_1 (by rw [e1]; decide) (by rw [e1]; decide) (off := 75) (by rw [e1]; rfl) (by decide) (jr_drop (jle_same (jle_drop jle_nil)) (k1 e1)))
  by_cases e2 : x1 = 2
  · exact jr_iload_n hm (i := 1) rfl rfl dX9_countFact_0 (jr_tab_in hm dX9_countFact_1 (by rw [e2]; decide) (by rw [e2]; decide) (off := 83) (by rw [e2]; rfl) (by decide) (jr_drop (jle_same (jle_drop jle_nil)) (k2 e2)))
  by_cases e3 : x1 = 3
  · exact jr_iload_n hm (i := 1) rfl rfl dX9_countFact_0 (jr_tab_in hm dX9_countFact_1 (by rw [e3]; decide) (by rw [e3]; decide) (off := 91) (by rw [e3]; rfl) (by decide) (jr_drop (jle_same (jle_drop jle_nil)) (k3 e3)))
  by_cases e4 : x1 = 4
  · exact jr_iload_n hm (i := 1) rfl rfl dX9_countFact_0 (jr_tab_in hm dX9_countFact_1 (by rw [e4]; decide) (by rw [e4]; decide) (off := 99) (by rw [e4]; rfl) (by decide) (jr_drop (jle_same (jle_drop jle_nil)) (k4 e4)))
  by_cases e5 : x1 = 5
  · exact jr_iload_n hm (i := 1) rfl rfl dX9_countFact_0 (jr_tab_in hm dX9_countFact_1 (by rw [e5]; decide) (by rw [e5]; decide) (off := 107) (by rw [e5]; rfl) (by decide) (jr_drop (jle_same (jle_drop jle_nil)) (k5 e5)))
  by_cases e6 : x1 = 6
  · exact jr_iload_n hm (i := 1) rfl rfl dX9_countFact_0 (jr_tab_in hm dX9_countFact_1 (by rw [e6]; decide) (by rw [e6]; decide) (off := 118) (by rw [e6]; rfl) (by decide) (jr_drop (jle_same (jle_drop jle_nil)) (k6 e6)))
  by_cases e7 : x1 = 7
  · exact jr_iload_n hm (i := 1) rfl rfl dX9_countFact_0 (jr_tab_in hm dX9_countFact_1 (by rw [e7]; decide) (by rw [e7]; decide) (off := 129) (by rw [e7]; rfl) (by decide) (jr_drop (jle_same (jle_drop jle_nil)) (k7 e7)))
  by_cases e8 : x1 = 8
  · exact jr_iload_n hm (i := 1) rfl rfl dX9_countFact_0 (jr_tab_in hm dX9_countFact_1 (by rw [e8]; decide) (by rw [e8]; decide) (off := 140) (by rw [e8]; rfl) (by decide) (jr_drop (jle_same (jle_drop jle_nil)) (k8 e8)))
  by_cases e9 : x1 = 9
  · exact jr_iload_n hm (i := 1) rfl rfl dX9_countFact_0 (jr_tab_in hm dX9_countFact_1 (by rw [e9]; decide) (by rw [e9]; decide) (off := 155) (by rw [e9]; rfl) (by decide) (jr_drop (jle_same (jle_drop jle_nil)) (k9 e9)))
  by_cases e10 : x1 = 10
  · exact jr_iload_n hm (i := 1) rfl rfl dX9_countFact_0 (jr_tab_in hm dX9_countFact_1 (by rw [e10]; decide) (by rw [e10]; decide) (off := 160) (by rw [e10]; rfl) (by decide) (jr_drop (jle_same (jle_drop jle_nil)) (k10 e10)))
  by_cases e11 : x1 = 11
  · exact jr_iload_n hm (i := 1) rfl rfl dX9_countFact_0 (jr_tab_in hm dX9_countFact_1 (by rw [e11]; decide) (by rw [e11]; decide) (off := 168) (by rw [e11]; rfl) (by decide) (jr_drop (jle_same (jle_drop jle_nil)) (k11 e11)))
  by_cases e12 : x1 = 12
  · exact jr_iload_n hm (i := 1) rfl rfl dX9_countFact_0 (jr_tab_in hm dX9_countFact_1 (by rw [e12]; decide) (by rw [e12]; decide) (off := 176) (by rw [e12]; rfl) (by decide) (jr_drop (jle_same (jle_drop jle_nil)) (k12 e12)))
  have t0 : ¬ (x1).toInt = 0 := fun e => e0 (Int32.toInt_inj.mp (e.trans (by decide)))
  have t1 : ¬ (x1).toInt = 1 := fun e => e1 (Int32.toInt_inj.mp (e.trans (by decide)))
  have t2 : ¬ (x1).toInt = 2 := fun e => e2 (Int32.toInt_inj.mp (e.trans (by decide)))
  have t3 : ¬ (x1).toInt = 3 := fun e => e3 (Int32.toInt_inj.mp (e.trans (by decide)))
  have t4 : ¬ (x1).toInt = 4 := fun e => e4 (Int32.toInt_inj.mp (e.trans (by decide)))
  have t5 : ¬ (x1).toInt = 5 := fun e => e5 (Int32.toInt_inj.mp (e.trans (by decide)))
  have t6 : ¬ (x1).toInt = 6 := fun e => e6 (Int32.toInt_inj.mp (e.trans (by decide)))
  have t7 : ¬ (x1).toInt = 7 := fun e => e7 (Int32.toInt_inj.mp (e.trans (by decide)))
  have t8 : ¬ (x1).toInt = 8 := fun e => e8 (Int32.toInt_inj.mp (e.trans (by decide)))
  have t9 : ¬ (x1).toInt = 9 := fun e => e9 (Int32.toInt_inj.mp (e.trans (by decide)))
  have t10 : ¬ (x1).toInt = 10 := fun e => e10 (Int32.toInt_inj.mp (e.trans (by decide)))
  have t11 : ¬ (x1).toInt = 11 := fun e => e11 (Int32.toInt_inj.mp (e.trans (by decide)))
  have t12 : ¬ (x1).toInt = 12 := fun e => e12 (Int32.toInt_inj.mp (e.trans (by decide)))
  exact jr_iload_n hm (i := 1) rfl rfl dX9_countFact_0 (jr_tab_out hm dX9_countFact_1 (by omega) (by decide) (jr_drop (jle_same (jle_drop jle_nil)) (kd e0 e1 e2 e3 e4 e5 e6 e7 e8 e9 e10 e11 e12)))
theorem bk_X9_countFact_68 {C : JC} {d cl sl : Nat} {w : JW} {P : JV → JW → Prop} (hm : jok C MX9_countFact d cl sl) (hp : P (jI (w.1 14 false 5)) w) : jW C cl sl (jQQ C cl sl P) 68 [jR 0 false, jU] [] w := jr_aload_n hm (i := 0) rfl rfl dX9_countFact_68 (fg_X9_42 hm dX9_countFact_69 (fg_X9_234 hm dX9_countFact_72 (jr_ireturn hm rfl dX9_countFact_75 hp)))
theorem bk_X9_countFact_76 {C : JC} {d cl sl : Nat} {w : JW} {P : JV → JW → Prop} (hm : jok C MX9_countFact d cl sl) (hp : P (jI (w.1 14 false 6)) w) : jW C cl sl (jQQ C cl sl P) 76 [jR 0 false, jU] [] w := jr_aload_n hm (i := 0) rfl rfl dX9_countFact_76 (fg_X9_42 hm dX9_countFact_77 (fg_X9_168 hm dX9_countFact_80 (jr_ireturn hm rfl dX9_countFact_83 hp)))
theorem bk_X9_countFact_84 {C : JC} {d cl sl : Nat} {w : JW} {P : JV → JW → Prop} (hm : jok C MX9_countFact d cl sl) (hp : P (jI (w.1 20 (w.2.2 0 6) 9)) w) : jW C cl sl (jQQ C cl sl P) 84 [jR 0 false, jU] [] w := jr_aload_n hm (i := 0) rfl rfl dX9_countFact_84 (fg_X9_52 hm dX9_countFact_85 (fg_X9_116 hm dX9_countFact_88 (jr_ireturn hm rfl dX9_countFact_91 hp)))
theorem bk_X9_countFact_92 {C : JC} {d cl sl : Nat} {w : JW} {P : JV → JW → Prop} (hm : jok C MX9_countFact d cl sl) (hp : P (jI (w.1 20 (w.2.2 0 6) 10)) w) : jW C cl sl (jQQ C cl sl P) 92 [jR 0 false, jU] [] w := jr_aload_n hm (i := 0) rfl rfl dX9_countFact_92 (fg_X9_52 hm dX9_countFact_93 (fg_X9_211 hm dX9_countFact_96 (jr_ireturn hm rfl dX9_countFact_99 hp)))
theorem bk_X9_countFact_100 {C : JC} {d cl sl : Nat} {w : JW} {P : JV → JW → Prop} (hm : jok C MX9_countFact d cl sl) (hp : P (jI (w.1 20 (w.2.2 0 6) 11)) w) : jW C cl sl (jQQ C cl sl P) 100 [jR 0 false, jU] [] w := jr_aload_n hm (i := 0) rfl rfl dX9_countFact_100 (fg_X9_52 hm dX9_countFact_101 (fg_X9_133 hm dX9_countFact_104 (jr_ireturn hm rfl dX9_countFact_107 hp)))
theorem bk_X9_countFact_108 {C : JC} {d cl sl : Nat} {w : JW} {P : JV → JW → Prop} (hm : jok C MX9_countFact d cl sl) (hp : P (jI (w.1 28 (w.2.2 0 6) 5)) w) : jW C cl sl (jQQ C cl sl P) 108 [jR 0 false, jU] [] w := jr_aload_n hm (i := 0) rfl rfl dX9_countFact_108 (fg_X9_52 hm dX9_countFact_109 (fg_X9_164 hm dX9_countFact_112 (fg_X9_237 hm dX9_countFact_115 (jr_ireturn hm rfl dX9_countFact_118 hp))))
theorem bk_X9_countFact_119 {C : JC} {d cl sl : Nat} {w : JW} {P : JV → JW → Prop} (hm : jok C MX9_countFact d cl sl) (hp : P (jI (w.1 28 (w.2.2 0 6) 6)) w) : jW C cl sl (jQQ C cl sl P) 119 [jR 0 false, jU] [] w := jr_aload_n hm (i := 0) rfl rfl dX9_countFact_119 (fg_X9_52 hm dX9_countFact_120 (fg_X9_164 hm dX9_countFact_123 (fg_X9_240 hm dX9_countFact_126 (jr_ireturn hm rfl dX9_countFact_129 hp))))
theorem bk_X9_countFact_130 {C : JC} {d cl sl : Nat} {w : JW} {P : JV → JW → Prop} (hm : jok C MX9_countFact d cl sl) (hp : P (jI (w.1 34 (w.2.2 0 6) 6)) w) : jW C cl sl (jQQ C cl sl P) 130 [jR 0 false, jU] [] w := jr_aload_n hm (i := 0) rfl rfl dX9_countFact_130 (fg_X9_52 hm dX9_countFact_131 (fg_X9_243 hm dX9_countFact_134 (fg_X9_247 hm dX9_countFact_137 (jr_ireturn hm rfl dX9_countFact_140 hp))))
theorem bk_X9_countFact_141 {C : JC} {d cl sl : Nat} {Q : State → Prop} {w : JW} {d2 : Nat} {r : Int32} {w2 : JW} (hm : jok C MX9_countFact d cl sl) (hs : jF MX1_pipesSounding d2 [jR 14 false, jI (w.1 20 (w.2.2 0 6) 10)] w (jI r) w2) (hd2 : d2 + 1 ≤ d) (k : jW C cl sl Q 155 [jU, jU] [jI r] w2) : jW C cl sl Q 141 [jR 0 false, jU] [] w := jr_aload_n hm (i := 0) rfl rfl dX9_countFact_141 (fg_X9_42 hm dX9_countFact_142 (jr_aload_n hm (i := 0) rfl rfl dX9_countFact_145 (fg_X9_52 hm dX9_countFact_146 (fg_X9_211 hm dX9_countFact_149 (jr_callV (mc := 0) (ms := 0) hm hs hd2 jw_153 jw_154 jw_155 jw_56 jw_156 jn_X1_pipesSounding rfl (jo_14 false) (fun _ _ _ _ _ => ⟨_, rfl⟩) rfl rfl (Nat.le_of_ble_eq_true rfl) rfl dX9_countFact_152 (jkF (jr_drop (jle_drop (jle_same jle_nil)) k)))))))
theorem bk_X9_countFact_155 {C : JC} {d cl sl : Nat} {w : JW} {xs0 : Int32} {P : JV → JW → Prop} (hm : jok C MX9_countFact d cl sl) (hp : P (jI xs0) w) : jW C cl sl (jQQ C cl sl P) 155 [jU, jU] [jI xs0] w := jr_ireturn hm rfl dX9_countFact_155 hp
theorem bk_X9_countFact_156 {C : JC} {d cl sl : Nat} {Q : State → Prop} {w : JW} {d2 : Nat} {r : Int32} {w2 : JW} (hm : jok C MX9_countFact d cl sl) (hs : jF MX9_chordsSounding d2 [jR 0 false] w (jI r) w2) (hd2 : d2 + 1 ≤ d) (k : jW C cl sl Q 160 [jU, jU] [jI r] w2) : jW C cl sl Q 156 [jR 0 false, jU] [] w := jr_aload_n hm (i := 0) rfl rfl dX9_countFact_156 (jr_callV (mc := 0) (ms := 0) hm hs hd2 jw_164 jw_166 jw_2 jw_47 jw_167 jn_X9_chordsSounding rfl jo_0 (fun _ _ _ _ _ => ⟨_, rfl⟩) rfl rfl (Nat.le_of_ble_eq_true rfl) rfl dX9_countFact_157 (jkF (jr_drop (jle_drop (jle_same jle_nil)) k)))
theorem bk_X9_countFact_160 {C : JC} {d cl sl : Nat} {w : JW} {xs0 : Int32} {P : JV → JW → Prop} (hm : jok C MX9_countFact d cl sl) (hp : P (jI xs0) w) : jW C cl sl (jQQ C cl sl P) 160 [jU, jU] [jI xs0] w := jr_ireturn hm rfl dX9_countFact_160 hp
theorem bk_X9_countFact_161 {C : JC} {d cl sl : Nat} {w : JW} {P : JV → JW → Prop} (hm : jok C MX9_countFact d cl sl) (hp : P (jI (w.1 14 false 7)) w) : jW C cl sl (jQQ C cl sl P) 161 [jR 0 false, jU] [] w := jr_aload_n hm (i := 0) rfl rfl dX9_countFact_161 (fg_X9_42 hm dX9_countFact_162 (fg_X9_192 hm dX9_countFact_165 (jr_ireturn hm rfl dX9_countFact_168 hp)))
theorem bk_X9_countFact_169 {C : JC} {d cl sl : Nat} {w : JW} {P : JV → JW → Prop} (hm : jok C MX9_countFact d cl sl) (hp : P (jI (w.1 14 false 8)) w) : jW C cl sl (jQQ C cl sl P) 169 [jR 0 false, jU] [] w := jr_aload_n hm (i := 0) rfl rfl dX9_countFact_169 (fg_X9_42 hm dX9_countFact_170 (fg_X9_208 hm dX9_countFact_173 (jr_ireturn hm rfl dX9_countFact_176 hp)))
theorem bk_X9_countFact_177 {C : JC} {d cl sl : Nat} {Q : State → Prop} {w : JW} {d2 : Nat} {r : Int32} {w2 : JW} (hm : jok C MX9_countFact d cl sl) (hs : jF MX1_siltIn d2 [jR 14 false, jI (w.1 20 (w.2.2 0 6) 10)] w (jI r) w2) (hd2 : d2 + 1 ≤ d) (k : jW C cl sl Q 191 [jU, jU] [jI r] w2) : jW C cl sl Q 177 [jR 0 false, jU] [] w := jr_aload_n hm (i := 0) rfl rfl dX9_countFact_177 (fg_X9_42 hm dX9_countFact_178 (jr_aload_n hm (i := 0) rfl rfl dX9_countFact_181 (fg_X9_52 hm dX9_countFact_182 (fg_X9_211 hm dX9_countFact_185 (jr_callV (mc := 0) (ms := 0) hm hs hd2 jw_182 jw_183 jw_184 jw_56 jw_185 jn_X1_siltIn rfl (jo_14 false) (fun _ _ _ _ _ => ⟨_, rfl⟩) rfl rfl (Nat.le_of_ble_eq_true rfl) rfl dX9_countFact_188 (jkF (jr_drop (jle_drop (jle_same jle_nil)) k)))))))
theorem bk_X9_countFact_191 {C : JC} {d cl sl : Nat} {w : JW} {xs0 : Int32} {P : JV → JW → Prop} (hm : jok C MX9_countFact d cl sl) (hp : P (jI xs0) w) : jW C cl sl (jQQ C cl sl P) 191 [jU, jU] [jI xs0] w := jr_ireturn hm rfl dX9_countFact_191 hp
theorem bk_X9_countFact_192 {C : JC} {d cl sl : Nat} {w : JW} {P : JV → JW → Prop} (hm : jok C MX9_countFact d cl sl) (hp : P (jI (w.1 1 false 1)) w) : jW C cl sl (jQQ C cl sl P) 192 [jR 0 false, jU] [] w := jr_aload_n hm (i := 0) rfl rfl dX9_countFact_192 (fg_X9_10 hm dX9_countFact_193 (fg_X9_75 hm dX9_countFact_196 (jr_ireturn hm rfl dX9_countFact_199 hp)))
theorem dX9_caveFact_0 : decode cX9_caveFact 0 = .ok (.iload_n 2, 1) := by decide +kernel
theorem dX9_caveFact_1 : decode cX9_caveFact 1 = .ok (.tableswitch 76 0 3 #[31, 43, 55, 67], 31) := by decide +kernel
theorem dX9_caveFact_32 : decode cX9_caveFact 32 = .ok (.aload_n 0, 1) := by decide +kernel
theorem dX9_caveFact_33 : decode cX9_caveFact 33 = .ok (.getfield 52, 3) := by decide +kernel
theorem dX9_caveFact_36 : decode cX9_caveFact 36 = .ok (.getfield 255, 3) := by decide +kernel
theorem dX9_caveFact_39 : decode cX9_caveFact 39 = .ok (.iload_n 1, 1) := by decide +kernel
theorem dX9_caveFact_40 : decode cX9_caveFact 40 = .ok (.invokestatic 155, 3) := by decide +kernel
theorem dX9_caveFact_43 : decode cX9_caveFact 43 = .ok (.ireturn, 1) := by decide +kernel
theorem dX9_caveFact_44 : decode cX9_caveFact 44 = .ok (.aload_n 0, 1) := by decide +kernel
theorem dX9_caveFact_45 : decode cX9_caveFact 45 = .ok (.getfield 52, 3) := by decide +kernel
theorem dX9_caveFact_48 : decode cX9_caveFact 48 = .ok (.getfield 258, 3) := by decide +kernel
theorem dX9_caveFact_51 : decode cX9_caveFact 51 = .ok (.iload_n 1, 1) := by decide +kernel
theorem dX9_caveFact_52 : decode cX9_caveFact 52 = .ok (.invokestatic 155, 3) := by decide +kernel
theorem dX9_caveFact_55 : decode cX9_caveFact 55 = .ok (.ireturn, 1) := by decide +kernel
theorem dX9_caveFact_56 : decode cX9_caveFact 56 = .ok (.aload_n 0, 1) := by decide +kernel
theorem dX9_caveFact_57 : decode cX9_caveFact 57 = .ok (.getfield 42, 3) := by decide +kernel
theorem dX9_caveFact_60 : decode cX9_caveFact 60 = .ok (.getfield 261, 3) := by decide +kernel
theorem dX9_caveFact_63 : decode cX9_caveFact 63 = .ok (.iload_n 1, 1) := by decide +kernel
theorem dX9_caveFact_64 : decode cX9_caveFact 64 = .ok (.invokestatic 155, 3) := by decide +kernel
theorem dX9_caveFact_67 : decode cX9_caveFact 67 = .ok (.ireturn, 1) := by decide +kernel
theorem dX9_caveFact_68 : decode cX9_caveFact 68 = .ok (.aload_n 0, 1) := by decide +kernel
theorem dX9_caveFact_69 : decode cX9_caveFact 69 = .ok (.getfield 52, 3) := by decide +kernel
theorem dX9_caveFact_72 : decode cX9_caveFact 72 = .ok (.iload_n 1, 1) := by decide +kernel
theorem dX9_caveFact_73 : decode cX9_caveFact 73 = .ok (.invokevirtual 264, 3) := by decide +kernel
theorem dX9_caveFact_76 : decode cX9_caveFact 76 = .ok (.ireturn, 1) := by decide +kernel
theorem dX9_caveFact_77 : decode cX9_caveFact 77 = .ok (.aload_n 0, 1) := by decide +kernel
theorem dX9_caveFact_78 : decode cX9_caveFact 78 = .ok (.getfield 35, 3) := by decide +kernel
theorem dX9_caveFact_81 : decode cX9_caveFact 81 = .ok (.aload_n 0, 1) := by decide +kernel
theorem dX9_caveFact_82 : decode cX9_caveFact 82 = .ok (.getfield 52, 3) := by decide +kernel
theorem dX9_caveFact_85 : decode cX9_caveFact 85 = .ok (.aload_n 0, 1) := by decide +kernel
theorem dX9_caveFact_86 : decode cX9_caveFact 86 = .ok (.getfield 42, 3) := by decide +kernel
theorem dX9_caveFact_89 : decode cX9_caveFact 89 = .ok (.iload_n 1, 1) := by decide +kernel
theorem dX9_caveFact_90 : decode cX9_caveFact 90 = .ok (.invokevirtual 267, 3) := by decide +kernel
theorem dX9_caveFact_93 : decode cX9_caveFact 93 = .ok (.ifCond .eq 7, 3) := by decide +kernel
theorem dX9_caveFact_96 : decode cX9_caveFact 96 = .ok (.iconst 1, 1) := by decide +kernel
theorem dX9_caveFact_97 : decode cX9_caveFact 97 = .ok (.goto 4, 3) := by decide +kernel
theorem dX9_caveFact_100 : decode cX9_caveFact 100 = .ok (.iconst 0, 1) := by decide +kernel
theorem dX9_caveFact_101 : decode cX9_caveFact 101 = .ok (.ireturn, 1) := by decide +kernel
theorem bk_X9_caveFact_0 {C : JC} {d cl sl : Nat} {Q : State → Prop} {w : JW} {x1 : Int32} {x2 : Int32} (hm : jok C MX9_caveFact d cl sl) (k0 : x2 = 0 → jW C cl sl Q 32 [jR 0 false, jI x1, jU] [] w) (k1 : x2 = 1 → jW C cl sl Q 44 [jR 0 false, jI x1, jU] [] w) (k2 : x2 = 2 → jW C cl sl Q 56 [jR 0 false, jI x1, jU] [] w) (k3 : x2 = 3 → jW C cl sl Q 68 [jR 0 false, jI x1, jU] [] w) (kd : ¬ x2 = 0 → ¬ x2 = 1 → ¬ x2 = 2 → ¬ x2 = 3 → jW C cl sl Q 77 [jR 0 false, jI x1, jU] [] w) : jW C cl sl Q 0 [jR 0 false, jI x1, jI x2] [] w := by
  by_cases e0 : x2 = 0
  · exact jr_iload_n hm (i := 2) rfl rfl dX9_caveFact_0 (jr_tab_in hm dX9_caveFact_1 (by rw [e0]; decide) (by rw [e0]; decide) (off := 31) (by rw [e0]; rfl) (by decide) (jr_drop (jle_same (jle_same (jle_drop jle_nil))) (k0 e0)))
  by_cases e1 : x2 = 1
  · exact jr_iload_n hm (i := 2) rfl rfl dX9_caveFact_0 (jr_tab_in hm dX9_caveFact_1 (by rw [e1]; decide) (by rw [e1]; decide) (off := 43) (by rw [e1]; rfl) (by decide) (jr_drop (jle_same (jle_same (jle_drop jle_nil))) (k1 e1)))
  by_cases e2 : x2 = 2
  · exact jr_iload_n hm (i := 2) rfl rfl dX9_caveFact_0 (jr_tab_in hm dX9_caveFact_1 (by rw [e2]; decide) (by rw [e2]; decide) (off := 55) (by rw [e2]; rfl) (by decide) (jr_drop (jle_same (jle_same (jle_drop jle_nil))) (k2 e2)))
  by_cases e3 : x2 = 3
  · exact jr_iload_n hm (i := 2) rfl rfl dX9_caveFact_0 (jr_tab_in hm dX9_caveFact_1 (by rw [e3]; decide) (by rw [e3]; decide) (off := 67) (by rw [e3]; rfl) (by decide) (jr_drop (jle_same (jle_same (jle_drop jle_nil))) (k3 e3)))
  have t0 : ¬ (x2).toInt = 0 := fun e => e0 (Int32.toInt_inj.mp (e.trans (by decide)))
  have t1 : ¬ (x2).toInt = 1 := fun e => e1 (Int32.toInt_inj.mp (e.trans (by decide)))
  have t2 : ¬ (x2).toInt = 2 := fun e => e2 (Int32.toInt_inj.mp (e.trans (by decide)))
  have t3 : ¬ (x2).toInt = 3 := fun e => e3 (Int32.toInt_inj.mp (e.trans (by decide)))
  exact jr_iload_n hm (i := 2) rfl rfl dX9_caveFact_0 (jr_tab_out hm dX9_caveFact_1 (by omega) (by decide) (jr_drop (jle_same (jle_same (jle_drop jle_nil))) (kd e0 e1 e2 e3)))
theorem bk_X9_caveFact_32 {C : JC} {d cl sl : Nat} {Q : State → Prop} {w : JW} {x1 : Int32} {d2 : Nat} {r : Int32} {w2 : JW} (hm : jok C MX9_caveFact d cl sl) (hs : jF MX9_at d2 [jR 21 (w.2.2 0 6), jI x1] w (jI r) w2) (hd2 : d2 + 1 ≤ d) (k : jW C cl sl Q 43 [jU, jU, jU] [jI r] w2) : jW C cl sl Q 32 [jR 0 false, jI x1, jU] [] w := jr_aload_n hm (i := 0) rfl rfl dX9_caveFact_32 (fg_X9_52 hm dX9_caveFact_33 (fg_X9_255 hm dX9_caveFact_36 (jr_iload_n hm (i := 1) rfl rfl dX9_caveFact_39 (jr_callS (mc := 0) (ms := 0) hm hs hd2 jw_195 jw_162 jw_47 jw_163 jn_X9_at rfl rfl (Nat.le_of_ble_eq_true rfl) rfl dX9_caveFact_40 (jkF (jr_drop (jle_drop (jle_drop (jle_same jle_nil))) k))))))
theorem bk_X9_caveFact_43 {C : JC} {d cl sl : Nat} {w : JW} {xs0 : Int32} {P : JV → JW → Prop} (hm : jok C MX9_caveFact d cl sl) (hp : P (jI xs0) w) : jW C cl sl (jQQ C cl sl P) 43 [jU, jU, jU] [jI xs0] w := jr_ireturn hm rfl dX9_caveFact_43 hp
theorem bk_X9_caveFact_44 {C : JC} {d cl sl : Nat} {Q : State → Prop} {w : JW} {x1 : Int32} {d2 : Nat} {r : Int32} {w2 : JW} (hm : jok C MX9_caveFact d cl sl) (hs : jF MX9_at d2 [jR 22 (w.2.2 0 6), jI x1] w (jI r) w2) (hd2 : d2 + 1 ≤ d) (k : jW C cl sl Q 55 [jU, jU, jU] [jI r] w2) : jW C cl sl Q 44 [jR 0 false, jI x1, jU] [] w := jr_aload_n hm (i := 0) rfl rfl dX9_caveFact_44 (fg_X9_52 hm dX9_caveFact_45 (fg_X9_258 hm dX9_caveFact_48 (jr_iload_n hm (i := 1) rfl rfl dX9_caveFact_51 (jr_callS (mc := 0) (ms := 0) hm hs hd2 jw_195 jw_162 jw_47 jw_163 jn_X9_at rfl rfl (Nat.le_of_ble_eq_true rfl) rfl dX9_caveFact_52 (jkF (jr_drop (jle_drop (jle_drop (jle_same jle_nil))) k))))))
theorem bk_X9_caveFact_55 {C : JC} {d cl sl : Nat} {w : JW} {xs0 : Int32} {P : JV → JW → Prop} (hm : jok C MX9_caveFact d cl sl) (hp : P (jI xs0) w) : jW C cl sl (jQQ C cl sl P) 55 [jU, jU, jU] [jI xs0] w := jr_ireturn hm rfl dX9_caveFact_55 hp
theorem bk_X9_caveFact_56 {C : JC} {d cl sl : Nat} {Q : State → Prop} {w : JW} {x1 : Int32} {d2 : Nat} {r : Int32} {w2 : JW} (hm : jok C MX9_caveFact d cl sl) (hs : jF MX9_at d2 [jR 15 false, jI x1] w (jI r) w2) (hd2 : d2 + 1 ≤ d) (k : jW C cl sl Q 67 [jU, jU, jU] [jI r] w2) : jW C cl sl Q 56 [jR 0 false, jI x1, jU] [] w := jr_aload_n hm (i := 0) rfl rfl dX9_caveFact_56 (fg_X9_42 hm dX9_caveFact_57 (fg_X9_261 hm dX9_caveFact_60 (jr_iload_n hm (i := 1) rfl rfl dX9_caveFact_63 (jr_callS (mc := 0) (ms := 0) hm hs hd2 jw_195 jw_162 jw_47 jw_163 jn_X9_at rfl rfl (Nat.le_of_ble_eq_true rfl) rfl dX9_caveFact_64 (jkF (jr_drop (jle_drop (jle_drop (jle_same jle_nil))) k))))))
theorem bk_X9_caveFact_67 {C : JC} {d cl sl : Nat} {w : JW} {xs0 : Int32} {P : JV → JW → Prop} (hm : jok C MX9_caveFact d cl sl) (hp : P (jI xs0) w) : jW C cl sl (jQQ C cl sl P) 67 [jU, jU, jU] [jI xs0] w := jr_ireturn hm rfl dX9_caveFact_67 hp
theorem bk_X9_caveFact_68 {C : JC} {d cl sl : Nat} {Q : State → Prop} {w : JW} {x1 : Int32} {d2 : Nat} {r : Int32} {w2 : JW} (hm : jok C MX9_caveFact d cl sl) (hs : jF MX3_pipesIn d2 [jR 20 (w.2.2 0 6), jI x1] w (jI r) w2) (hd2 : d2 + 1 ≤ d) (k : jW C cl sl Q 76 [jU, jU, jU] [jI r] w2) : jW C cl sl Q 68 [jR 0 false, jI x1, jU] [] w := jr_aload_n hm (i := 0) rfl rfl dX9_caveFact_68 (fg_X9_52 hm dX9_caveFact_69 (jr_iload_n hm (i := 1) rfl rfl dX9_caveFact_72 (jr_callV (mc := 0) (ms := 0) hm hs hd2 jw_196 jw_197 jw_198 jw_51 jw_199 jn_X3_pipesIn rfl (jo_20 (w.2.2 0 6)) (fun _ _ _ _ _ => ⟨_, rfl⟩) rfl rfl (Nat.le_of_ble_eq_true rfl) rfl dX9_caveFact_73 (jkF (jr_drop (jle_drop (jle_drop (jle_same jle_nil))) k)))))
theorem bk_X9_caveFact_76 {C : JC} {d cl sl : Nat} {w : JW} {xs0 : Int32} {P : JV → JW → Prop} (hm : jok C MX9_caveFact d cl sl) (hp : P (jI xs0) w) : jW C cl sl (jQQ C cl sl P) 76 [jU, jU, jU] [jI xs0] w := jr_ireturn hm rfl dX9_caveFact_76 hp
theorem bk_X9_caveFact_77 {C : JC} {d cl sl : Nat} {Q : State → Prop} {w : JW} {x1 : Int32} {d2 : Nat} {r : Int32} {w2 : JW} (hm : jok C MX9_caveFact d cl sl) (hs : jF MX4_isShut d2 [jR 11 false, jR 20 (w.2.2 0 6), jR 14 false, jI x1] w (jI r) w2) (hd2 : d2 + 1 ≤ d) (k : jW C cl sl Q 93 [jU, jU, jU] [jI r] w2) : jW C cl sl Q 77 [jR 0 false, jI x1, jU] [] w := jr_aload_n hm (i := 0) rfl rfl dX9_caveFact_77 (fg_X9_35 hm dX9_caveFact_78 (jr_aload_n hm (i := 0) rfl rfl dX9_caveFact_81 (fg_X9_52 hm dX9_caveFact_82 (jr_aload_n hm (i := 0) rfl rfl dX9_caveFact_85 (fg_X9_42 hm dX9_caveFact_86 (jr_iload_n hm (i := 1) rfl rfl dX9_caveFact_89 (jr_callV (mc := 0) (ms := 0) hm hs hd2 jw_200 jw_201 jw_202 jw_54 jw_203 jn_X4_isShut rfl jo_11 (fun _ _ _ _ _ => ⟨_, rfl⟩) rfl rfl (Nat.le_of_ble_eq_true rfl) rfl dX9_caveFact_90 (jkF (jr_drop (jle_drop (jle_drop (jle_same jle_nil))) k)))))))))
theorem bk_X9_caveFact_93 {C : JC} {d cl sl : Nat} {Q : State → Prop} {w : JW} {xs0 : Int32} (hm : jok C MX9_caveFact d cl sl) (kt : xs0 = 0 → jW C cl sl Q 100 [jU, jU, jU] [] w) (kf : ¬ xs0 = 0 → jW C cl sl Q 96 [jU, jU, jU] [] w) : jW C cl sl Q 93 [jU, jU, jU] [jI xs0] w := jr_if_eq hm dX9_caveFact_93 (by decide) (fun h => jr_drop (jle_same (jle_same (jle_same jle_nil))) (kt h)) (fun h => jr_drop (jle_same (jle_same (jle_same jle_nil))) (kf h))
theorem bk_X9_caveFact_96 {C : JC} {d cl sl : Nat} {Q : State → Prop} {w : JW}  (hm : jok C MX9_caveFact d cl sl) (k : jW C cl sl Q 101 [jU, jU, jU] [jI 1] w) : jW C cl sl Q 96 [jU, jU, jU] [] w := jr_iconst hm (v := 1) (by decide) dX9_caveFact_96 (jr_goto hm dX9_caveFact_97 (by decide) (jr_drop (jle_same (jle_same (jle_same jle_nil))) k))
theorem bk_X9_caveFact_100 {C : JC} {d cl sl : Nat} {Q : State → Prop} {w : JW}  (hm : jok C MX9_caveFact d cl sl) (k : jW C cl sl Q 101 [jU, jU, jU] [jI 0] w) : jW C cl sl Q 100 [jU, jU, jU] [] w := jr_iconst hm (v := 0) (by decide) dX9_caveFact_100 (jr_drop (jle_same (jle_same (jle_same jle_nil))) k)
theorem bk_X9_caveFact_101 {C : JC} {d cl sl : Nat} {w : JW} {xs0 : Int32} {P : JV → JW → Prop} (hm : jok C MX9_caveFact d cl sl) (hp : P (jI xs0) w) : jW C cl sl (jQQ C cl sl P) 101 [jU, jU, jU] [jI xs0] w := jr_ireturn hm rfl dX9_caveFact_101 hp
theorem dX9_pipeFact_0 : decode cX9_pipeFact 0 = .ok (.iload_n 2, 1) := by decide +kernel
theorem dX9_pipeFact_1 : decode cX9_pipeFact 1 = .ok (.tableswitch 119 0 5 #[39, 51, 63, 75, 87, 107], 39) := by decide +kernel
theorem dX9_pipeFact_40 : decode cX9_pipeFact 40 = .ok (.aload_n 0, 1) := by decide +kernel
theorem dX9_pipeFact_41 : decode cX9_pipeFact 41 = .ok (.getfield 52, 3) := by decide +kernel
theorem dX9_pipeFact_44 : decode cX9_pipeFact 44 = .ok (.getfield 271, 3) := by decide +kernel
theorem dX9_pipeFact_47 : decode cX9_pipeFact 47 = .ok (.iload_n 1, 1) := by decide +kernel
theorem dX9_pipeFact_48 : decode cX9_pipeFact 48 = .ok (.invokestatic 155, 3) := by decide +kernel
theorem dX9_pipeFact_51 : decode cX9_pipeFact 51 = .ok (.ireturn, 1) := by decide +kernel
theorem dX9_pipeFact_52 : decode cX9_pipeFact 52 = .ok (.aload_n 0, 1) := by decide +kernel
theorem dX9_pipeFact_53 : decode cX9_pipeFact 53 = .ok (.getfield 52, 3) := by decide +kernel
theorem dX9_pipeFact_56 : decode cX9_pipeFact 56 = .ok (.getfield 151, 3) := by decide +kernel
theorem dX9_pipeFact_59 : decode cX9_pipeFact 59 = .ok (.iload_n 1, 1) := by decide +kernel
theorem dX9_pipeFact_60 : decode cX9_pipeFact 60 = .ok (.invokestatic 155, 3) := by decide +kernel
theorem dX9_pipeFact_63 : decode cX9_pipeFact 63 = .ok (.ireturn, 1) := by decide +kernel
theorem dX9_pipeFact_64 : decode cX9_pipeFact 64 = .ok (.aload_n 0, 1) := by decide +kernel
theorem dX9_pipeFact_65 : decode cX9_pipeFact 65 = .ok (.getfield 52, 3) := by decide +kernel
theorem dX9_pipeFact_68 : decode cX9_pipeFact 68 = .ok (.getfield 274, 3) := by decide +kernel
theorem dX9_pipeFact_71 : decode cX9_pipeFact 71 = .ok (.iload_n 1, 1) := by decide +kernel
theorem dX9_pipeFact_72 : decode cX9_pipeFact 72 = .ok (.invokestatic 155, 3) := by decide +kernel
theorem dX9_pipeFact_75 : decode cX9_pipeFact 75 = .ok (.ireturn, 1) := by decide +kernel
theorem dX9_pipeFact_76 : decode cX9_pipeFact 76 = .ok (.aload_n 0, 1) := by decide +kernel
theorem dX9_pipeFact_77 : decode cX9_pipeFact 77 = .ok (.getfield 42, 3) := by decide +kernel
theorem dX9_pipeFact_80 : decode cX9_pipeFact 80 = .ok (.getfield 181, 3) := by decide +kernel
theorem dX9_pipeFact_83 : decode cX9_pipeFact 83 = .ok (.iload_n 1, 1) := by decide +kernel
theorem dX9_pipeFact_84 : decode cX9_pipeFact 84 = .ok (.invokestatic 155, 3) := by decide +kernel
theorem dX9_pipeFact_87 : decode cX9_pipeFact 87 = .ok (.ireturn, 1) := by decide +kernel
theorem dX9_pipeFact_88 : decode cX9_pipeFact 88 = .ok (.aload_n 0, 1) := by decide +kernel
theorem dX9_pipeFact_89 : decode cX9_pipeFact 89 = .ok (.getfield 52, 3) := by decide +kernel
theorem dX9_pipeFact_92 : decode cX9_pipeFact 92 = .ok (.iload_n 1, 1) := by decide +kernel
theorem dX9_pipeFact_93 : decode cX9_pipeFact 93 = .ok (.aload_n 0, 1) := by decide +kernel
theorem dX9_pipeFact_94 : decode cX9_pipeFact 94 = .ok (.getfield 42, 3) := by decide +kernel
theorem dX9_pipeFact_97 : decode cX9_pipeFact 97 = .ok (.getfield 181, 3) := by decide +kernel
theorem dX9_pipeFact_100 : decode cX9_pipeFact 100 = .ok (.iload_n 1, 1) := by decide +kernel
theorem dX9_pipeFact_101 : decode cX9_pipeFact 101 = .ok (.invokestatic 155, 3) := by decide +kernel
theorem dX9_pipeFact_104 : decode cX9_pipeFact 104 = .ok (.invokevirtual 277, 3) := by decide +kernel
theorem dX9_pipeFact_107 : decode cX9_pipeFact 107 = .ok (.ireturn, 1) := by decide +kernel
theorem dX9_pipeFact_108 : decode cX9_pipeFact 108 = .ok (.aload_n 0, 1) := by decide +kernel
theorem dX9_pipeFact_109 : decode cX9_pipeFact 109 = .ok (.getfield 42, 3) := by decide +kernel
theorem dX9_pipeFact_112 : decode cX9_pipeFact 112 = .ok (.getfield 223, 3) := by decide +kernel
theorem dX9_pipeFact_115 : decode cX9_pipeFact 115 = .ok (.iload_n 1, 1) := by decide +kernel
theorem dX9_pipeFact_116 : decode cX9_pipeFact 116 = .ok (.invokestatic 155, 3) := by decide +kernel
theorem dX9_pipeFact_119 : decode cX9_pipeFact 119 = .ok (.ireturn, 1) := by decide +kernel
theorem dX9_pipeFact_120 : decode cX9_pipeFact 120 = .ok (.aload_n 0, 1) := by decide +kernel
theorem dX9_pipeFact_121 : decode cX9_pipeFact 121 = .ok (.getfield 42, 3) := by decide +kernel
theorem dX9_pipeFact_124 : decode cX9_pipeFact 124 = .ok (.getfield 280, 3) := by decide +kernel
theorem dX9_pipeFact_127 : decode cX9_pipeFact 127 = .ok (.iload_n 1, 1) := by decide +kernel
theorem dX9_pipeFact_128 : decode cX9_pipeFact 128 = .ok (.invokestatic 155, 3) := by decide +kernel
theorem dX9_pipeFact_131 : decode cX9_pipeFact 131 = .ok (.ireturn, 1) := by decide +kernel
theorem bk_X9_pipeFact_0 {C : JC} {d cl sl : Nat} {Q : State → Prop} {w : JW} {x1 : Int32} {x2 : Int32} (hm : jok C MX9_pipeFact d cl sl) (k0 : x2 = 0 → jW C cl sl Q 40 [jR 0 false, jI x1, jU] [] w) (k1 : x2 = 1 → jW C cl sl Q 52 [jR 0 false, jI x1, jU] [] w) (k2 : x2 = 2 → jW C cl sl Q 64 [jR 0 false, jI x1, jU] [] w) (k3 : x2 = 3 → jW C cl sl Q 76 [jR 0 false, jI x1, jU] [] w) (k4 : x2 = 4 → jW C cl sl Q 88 [jR 0 false, jI x1, jU] [] w) (k5 : x2 = 5 → jW C cl sl Q 108 [jR 0 false, jI x1, jU] [] w) (kd : ¬ x2 = 0 → ¬ x2 = 1 → ¬ x2 = 2 → ¬ x2 = 3 → ¬ x2 = 4 → ¬ x2 = 5 → jW C cl sl Q 120 [jR 0 false, jI x1, jU] [] w) : jW C cl sl Q 0 [jR 0 false, jI x1, jI x2] [] w := by
  by_cases e0 : x2 = 0
  · exact jr_iload_n hm (i := 2) rfl rfl dX9_pipeFact_0 (jr_tab_in hm dX9_pipeFact_1 (by rw [e0]; decide) (by rw [e0]; decide) (off := 39) (by rw [e0]; rfl) (by decide) (jr_drop (jle_same (jle_same (jle_drop jle_nil))) (k0 e0)))
  by_cases e1 : x2 = 1
  · exact jr_iload_n hm (i := 2) rfl rfl dX9_pipeFact_0 (jr_tab_in hm dX9_pipeFact_1 (by rw [e1]; decide) (by rw [e1]; decide) (off := 51) (by rw [e1]; rfl) (by decide) (jr_drop (jle_same (jle_same (jle_drop jle_nil))) (k1 e1)))
  by_cases e2 : x2 = 2
  · exact jr_iload_n hm (i := 2) rfl rfl dX9_pipeFact_0 (jr_tab_in hm dX9_pipeFact_1 (by rw [e2]; decide) (by rw [e2]; decide) (off := 63) (by rw [e2]; rfl) (by decide) (jr_drop (jle_same (jle_same (jle_drop jle_nil))) (k2 e2)))
  by_cases e3 : x2 = 3
  · exact jr_iload_n hm (i := 2) rfl rfl dX9_pipeFact_0 (jr_tab_in hm dX9_pipeFact_1 (by rw [e3]; decide) (by rw [e3]; decide) (off := 75) (by rw [e3]; rfl) (by decide) (jr_drop (jle_same (jle_same (jle_drop jle_nil))) (k3 e3)))
  by_cases e4 : x2 = 4
  · exact jr_iload_n hm (i := 2) rfl rfl dX9_pipeFact_0 (jr_tab_in hm dX9_pipeFact_1 (by rw [e4]; decide) (by rw [e4]; decide) (off := 87) (by rw [e4]; rfl) (by decide) (jr_drop (jle_same (jle_same (jle_drop jle_nil))) (k4 e4)))
  by_cases e5 : x2 = 5
  · exact jr_iload_n hm (i := 2) rfl rfl dX9_pipeFact_0 (jr_tab_in hm dX9_pipeFact_1 (by rw [e5]; decide) (by rw [e5]; decide) (off := 107) (by rw [e5]; rfl) (by decide) (jr_drop (jle_same (jle_same (jle_drop jle_nil))) (k5 e5)))
  have t0 : ¬ (x2).toInt = 0 := fun e => e0 (Int32.toInt_inj.mp (e.trans (by decide)))
  have t1 : ¬ (x2).toInt = 1 := fun e => e1 (Int32.toInt_inj.mp (e.trans (by decide)))
  have t2 : ¬ (x2).toInt = 2 := fun e => e2 (Int32.toInt_inj.mp (e.trans (by decide)))
  have t3 : ¬ (x2).toInt = 3 := fun e => e3 (Int32.toInt_inj.mp (e.trans (by decide)))
  have t4 : ¬ (x2).toInt = 4 := fun e => e4 (Int32.toInt_inj.mp (e.trans (by decide)))
  have t5 : ¬ (x2).toInt = 5 := fun e => e5 (Int32.toInt_inj.mp (e.trans (by decide)))
  exact jr_iload_n hm (i := 2) rfl rfl dX9_pipeFact_0 (jr_tab_out hm dX9_pipeFact_1 (by omega) (by decide) (jr_drop (jle_same (jle_same (jle_drop jle_nil))) (kd e0 e1 e2 e3 e4 e5)))
theorem bk_X9_pipeFact_40 {C : JC} {d cl sl : Nat} {Q : State → Prop} {w : JW} {x1 : Int32} {d2 : Nat} {r : Int32} {w2 : JW} (hm : jok C MX9_pipeFact d cl sl) (hs : jF MX9_at d2 [jR 23 (w.2.2 0 6), jI x1] w (jI r) w2) (hd2 : d2 + 1 ≤ d) (k : jW C cl sl Q 51 [jU, jU, jU] [jI r] w2) : jW C cl sl Q 40 [jR 0 false, jI x1, jU] [] w := jr_aload_n hm (i := 0) rfl rfl dX9_pipeFact_40 (fg_X9_52 hm dX9_pipeFact_41 (fg_X9_271 hm dX9_pipeFact_44 (jr_iload_n hm (i := 1) rfl rfl dX9_pipeFact_47 (jr_callS (mc := 0) (ms := 0) hm hs hd2 jw_195 jw_162 jw_47 jw_163 jn_X9_at rfl rfl (Nat.le_of_ble_eq_true rfl) rfl dX9_pipeFact_48 (jkF (jr_drop (jle_drop (jle_drop (jle_same jle_nil))) k))))))
theorem bk_X9_pipeFact_51 {C : JC} {d cl sl : Nat} {w : JW} {xs0 : Int32} {P : JV → JW → Prop} (hm : jok C MX9_pipeFact d cl sl) (hp : P (jI xs0) w) : jW C cl sl (jQQ C cl sl P) 51 [jU, jU, jU] [jI xs0] w := jr_ireturn hm rfl dX9_pipeFact_51 hp
theorem bk_X9_pipeFact_52 {C : JC} {d cl sl : Nat} {Q : State → Prop} {w : JW} {x1 : Int32} {d2 : Nat} {r : Int32} {w2 : JW} (hm : jok C MX9_pipeFact d cl sl) (hs : jF MX9_at d2 [jR 24 (w.2.2 0 6), jI x1] w (jI r) w2) (hd2 : d2 + 1 ≤ d) (k : jW C cl sl Q 63 [jU, jU, jU] [jI r] w2) : jW C cl sl Q 52 [jR 0 false, jI x1, jU] [] w := jr_aload_n hm (i := 0) rfl rfl dX9_pipeFact_52 (fg_X9_52 hm dX9_pipeFact_53 (fg_X9_151 hm dX9_pipeFact_56 (jr_iload_n hm (i := 1) rfl rfl dX9_pipeFact_59 (jr_callS (mc := 0) (ms := 0) hm hs hd2 jw_195 jw_162 jw_47 jw_163 jn_X9_at rfl rfl (Nat.le_of_ble_eq_true rfl) rfl dX9_pipeFact_60 (jkF (jr_drop (jle_drop (jle_drop (jle_same jle_nil))) k))))))
theorem bk_X9_pipeFact_63 {C : JC} {d cl sl : Nat} {w : JW} {xs0 : Int32} {P : JV → JW → Prop} (hm : jok C MX9_pipeFact d cl sl) (hp : P (jI xs0) w) : jW C cl sl (jQQ C cl sl P) 63 [jU, jU, jU] [jI xs0] w := jr_ireturn hm rfl dX9_pipeFact_63 hp
theorem bk_X9_pipeFact_64 {C : JC} {d cl sl : Nat} {Q : State → Prop} {w : JW} {x1 : Int32} {d2 : Nat} {r : Int32} {w2 : JW} (hm : jok C MX9_pipeFact d cl sl) (hs : jF MX9_at d2 [jR 25 (w.2.2 0 6), jI x1] w (jI r) w2) (hd2 : d2 + 1 ≤ d) (k : jW C cl sl Q 75 [jU, jU, jU] [jI r] w2) : jW C cl sl Q 64 [jR 0 false, jI x1, jU] [] w := jr_aload_n hm (i := 0) rfl rfl dX9_pipeFact_64 (fg_X9_52 hm dX9_pipeFact_65 (fg_X9_274 hm dX9_pipeFact_68 (jr_iload_n hm (i := 1) rfl rfl dX9_pipeFact_71 (jr_callS (mc := 0) (ms := 0) hm hs hd2 jw_195 jw_162 jw_47 jw_163 jn_X9_at rfl rfl (Nat.le_of_ble_eq_true rfl) rfl dX9_pipeFact_72 (jkF (jr_drop (jle_drop (jle_drop (jle_same jle_nil))) k))))))
theorem bk_X9_pipeFact_75 {C : JC} {d cl sl : Nat} {w : JW} {xs0 : Int32} {P : JV → JW → Prop} (hm : jok C MX9_pipeFact d cl sl) (hp : P (jI xs0) w) : jW C cl sl (jQQ C cl sl P) 75 [jU, jU, jU] [jI xs0] w := jr_ireturn hm rfl dX9_pipeFact_75 hp
theorem bk_X9_pipeFact_76 {C : JC} {d cl sl : Nat} {Q : State → Prop} {w : JW} {x1 : Int32} {d2 : Nat} {r : Int32} {w2 : JW} (hm : jok C MX9_pipeFact d cl sl) (hs : jF MX9_at d2 [jR 16 false, jI x1] w (jI r) w2) (hd2 : d2 + 1 ≤ d) (k : jW C cl sl Q 87 [jU, jU, jU] [jI r] w2) : jW C cl sl Q 76 [jR 0 false, jI x1, jU] [] w := jr_aload_n hm (i := 0) rfl rfl dX9_pipeFact_76 (fg_X9_42 hm dX9_pipeFact_77 (fg_X9_181 hm dX9_pipeFact_80 (jr_iload_n hm (i := 1) rfl rfl dX9_pipeFact_83 (jr_callS (mc := 0) (ms := 0) hm hs hd2 jw_195 jw_162 jw_47 jw_163 jn_X9_at rfl rfl (Nat.le_of_ble_eq_true rfl) rfl dX9_pipeFact_84 (jkF (jr_drop (jle_drop (jle_drop (jle_same jle_nil))) k))))))
theorem bk_X9_pipeFact_87 {C : JC} {d cl sl : Nat} {w : JW} {xs0 : Int32} {P : JV → JW → Prop} (hm : jok C MX9_pipeFact d cl sl) (hp : P (jI xs0) w) : jW C cl sl (jQQ C cl sl P) 87 [jU, jU, jU] [jI xs0] w := jr_ireturn hm rfl dX9_pipeFact_87 hp
theorem bk_X9_pipeFact_88 {C : JC} {d cl sl : Nat} {Q : State → Prop} {w : JW} {x1 : Int32} {d2 : Nat} {r : Int32} {w2 : JW} (hm : jok C MX9_pipeFact d cl sl) (hs : jF MX9_at d2 [jR 16 false, jI x1] w (jI r) w2) (hd2 : d2 + 1 ≤ d) (k : jW C cl sl Q 104 [jU, jU, jU] [jI r, jI x1, jR 20 (w.2.2 0 6)] w2) : jW C cl sl Q 88 [jR 0 false, jI x1, jU] [] w := jr_aload_n hm (i := 0) rfl rfl dX9_pipeFact_88 (fg_X9_52 hm dX9_pipeFact_89 (jr_iload_n hm (i := 1) rfl rfl dX9_pipeFact_92 (jr_aload_n hm (i := 0) rfl rfl dX9_pipeFact_93 (fg_X9_42 hm dX9_pipeFact_94 (fg_X9_181 hm dX9_pipeFact_97 (jr_iload_n hm (i := 1) rfl rfl dX9_pipeFact_100 (jr_callS (mc := 0) (ms := 0) hm hs hd2 jw_195 jw_162 jw_47 jw_163 jn_X9_at rfl rfl (Nat.le_of_ble_eq_true rfl) rfl dX9_pipeFact_101 (jkF (jr_drop (jle_drop (jle_drop (jle_same jle_nil))) k)))))))))
theorem bk_X9_pipeFact_104 {C : JC} {d cl sl : Nat} {Q : State → Prop} {w : JW} {xs0 : Int32} {xs1 : Int32} {bs2 : Bool} {d2 : Nat} {r : Int32} {w2 : JW} (hm : jok C MX9_pipeFact d cl sl) (hs : jF MX3_needOf d2 [jR 20 bs2, jI xs1, jI xs0] w (jI r) w2) (hd2 : d2 + 1 ≤ d) (k : jW C cl sl Q 107 [jU, jU, jU] [jI r] w2) : jW C cl sl Q 104 [jU, jU, jU] [jI xs0, jI xs1, jR 20 bs2] w := jr_callV (mc := 0) (ms := 0) hm hs hd2 jw_259 jw_260 jw_261 jw_51 jw_262 jn_X3_needOf rfl (jo_20 bs2) (fun _ _ _ _ _ => ⟨_, rfl⟩) rfl rfl (Nat.le_of_ble_eq_true rfl) rfl dX9_pipeFact_104 (jkF (jr_drop (jle_same (jle_same (jle_same jle_nil))) k))
theorem bk_X9_pipeFact_107 {C : JC} {d cl sl : Nat} {w : JW} {xs0 : Int32} {P : JV → JW → Prop} (hm : jok C MX9_pipeFact d cl sl) (hp : P (jI xs0) w) : jW C cl sl (jQQ C cl sl P) 107 [jU, jU, jU] [jI xs0] w := jr_ireturn hm rfl dX9_pipeFact_107 hp
theorem bk_X9_pipeFact_108 {C : JC} {d cl sl : Nat} {Q : State → Prop} {w : JW} {x1 : Int32} {d2 : Nat} {r : Int32} {w2 : JW} (hm : jok C MX9_pipeFact d cl sl) (hs : jF MX9_at d2 [jR 17 false, jI x1] w (jI r) w2) (hd2 : d2 + 1 ≤ d) (k : jW C cl sl Q 119 [jU, jU, jU] [jI r] w2) : jW C cl sl Q 108 [jR 0 false, jI x1, jU] [] w := jr_aload_n hm (i := 0) rfl rfl dX9_pipeFact_108 (fg_X9_42 hm dX9_pipeFact_109 (fg_X9_223 hm dX9_pipeFact_112 (jr_iload_n hm (i := 1) rfl rfl dX9_pipeFact_115 (jr_callS (mc := 0) (ms := 0) hm hs hd2 jw_195 jw_162 jw_47 jw_163 jn_X9_at rfl rfl (Nat.le_of_ble_eq_true rfl) rfl dX9_pipeFact_116 (jkF (jr_drop (jle_drop (jle_drop (jle_same jle_nil))) k))))))
theorem bk_X9_pipeFact_119 {C : JC} {d cl sl : Nat} {w : JW} {xs0 : Int32} {P : JV → JW → Prop} (hm : jok C MX9_pipeFact d cl sl) (hp : P (jI xs0) w) : jW C cl sl (jQQ C cl sl P) 119 [jU, jU, jU] [jI xs0] w := jr_ireturn hm rfl dX9_pipeFact_119 hp
theorem bk_X9_pipeFact_120 {C : JC} {d cl sl : Nat} {Q : State → Prop} {w : JW} {x1 : Int32} {d2 : Nat} {r : Int32} {w2 : JW} (hm : jok C MX9_pipeFact d cl sl) (hs : jF MX9_at d2 [jR 18 false, jI x1] w (jI r) w2) (hd2 : d2 + 1 ≤ d) (k : jW C cl sl Q 131 [jU, jU, jU] [jI r] w2) : jW C cl sl Q 120 [jR 0 false, jI x1, jU] [] w := jr_aload_n hm (i := 0) rfl rfl dX9_pipeFact_120 (fg_X9_42 hm dX9_pipeFact_121 (fg_X9_280 hm dX9_pipeFact_124 (jr_iload_n hm (i := 1) rfl rfl dX9_pipeFact_127 (jr_callS (mc := 0) (ms := 0) hm hs hd2 jw_195 jw_162 jw_47 jw_163 jn_X9_at rfl rfl (Nat.le_of_ble_eq_true rfl) rfl dX9_pipeFact_128 (jkF (jr_drop (jle_drop (jle_drop (jle_same jle_nil))) k))))))
theorem bk_X9_pipeFact_131 {C : JC} {d cl sl : Nat} {w : JW} {xs0 : Int32} {P : JV → JW → Prop} (hm : jok C MX9_pipeFact d cl sl) (hp : P (jI xs0) w) : jW C cl sl (jQQ C cl sl P) 131 [jU, jU, jU] [jI xs0] w := jr_ireturn hm rfl dX9_pipeFact_131 hp
theorem dX9_chordFact_0 : decode cX9_chordFact 0 = .ok (.iload_n 2, 1) := by decide +kernel
theorem dX9_chordFact_1 : decode cX9_chordFact 1 = .ok (.tableswitch 66 0 2 #[27, 36, 57], 27) := by decide +kernel
theorem dX9_chordFact_28 : decode cX9_chordFact 28 = .ok (.aload_n 0, 1) := by decide +kernel
theorem dX9_chordFact_29 : decode cX9_chordFact 29 = .ok (.getfield 52, 3) := by decide +kernel
theorem dX9_chordFact_32 : decode cX9_chordFact 32 = .ok (.iload_n 1, 1) := by decide +kernel
theorem dX9_chordFact_33 : decode cX9_chordFact 33 = .ok (.invokevirtual 141, 3) := by decide +kernel
theorem dX9_chordFact_36 : decode cX9_chordFact 36 = .ok (.ireturn, 1) := by decide +kernel
theorem dX9_chordFact_37 : decode cX9_chordFact 37 = .ok (.aload_n 0, 1) := by decide +kernel
theorem dX9_chordFact_38 : decode cX9_chordFact 38 = .ok (.getfield 52, 3) := by decide +kernel
theorem dX9_chordFact_41 : decode cX9_chordFact 41 = .ok (.iload_n 1, 1) := by decide +kernel
theorem dX9_chordFact_42 : decode cX9_chordFact 42 = .ok (.aload_n 0, 1) := by decide +kernel
theorem dX9_chordFact_43 : decode cX9_chordFact 43 = .ok (.getfield 42, 3) := by decide +kernel
theorem dX9_chordFact_46 : decode cX9_chordFact 46 = .ok (.invokevirtual 283, 3) := by decide +kernel
theorem dX9_chordFact_49 : decode cX9_chordFact 49 = .ok (.ifCond .eq 7, 3) := by decide +kernel
theorem dX9_chordFact_52 : decode cX9_chordFact 52 = .ok (.iconst 1, 1) := by decide +kernel
theorem dX9_chordFact_53 : decode cX9_chordFact 53 = .ok (.goto 4, 3) := by decide +kernel
theorem dX9_chordFact_56 : decode cX9_chordFact 56 = .ok (.iconst 0, 1) := by decide +kernel
theorem dX9_chordFact_57 : decode cX9_chordFact 57 = .ok (.ireturn, 1) := by decide +kernel
theorem dX9_chordFact_58 : decode cX9_chordFact 58 = .ok (.aload_n 0, 1) := by decide +kernel
theorem dX9_chordFact_59 : decode cX9_chordFact 59 = .ok (.getfield 52, 3) := by decide +kernel
theorem dX9_chordFact_62 : decode cX9_chordFact 62 = .ok (.iload_n 1, 1) := by decide +kernel
theorem dX9_chordFact_63 : decode cX9_chordFact 63 = .ok (.invokevirtual 287, 3) := by decide +kernel
theorem dX9_chordFact_66 : decode cX9_chordFact 66 = .ok (.ireturn, 1) := by decide +kernel
theorem dX9_chordFact_67 : decode cX9_chordFact 67 = .ok (.aload_n 0, 1) := by decide +kernel
theorem dX9_chordFact_68 : decode cX9_chordFact 68 = .ok (.getfield 42, 3) := by decide +kernel
theorem dX9_chordFact_71 : decode cX9_chordFact 71 = .ok (.getfield 290, 3) := by decide +kernel
theorem dX9_chordFact_74 : decode cX9_chordFact 74 = .ok (.iload_n 1, 1) := by decide +kernel
theorem dX9_chordFact_75 : decode cX9_chordFact 75 = .ok (.invokestatic 155, 3) := by decide +kernel
theorem dX9_chordFact_78 : decode cX9_chordFact 78 = .ok (.ireturn, 1) := by decide +kernel
theorem bk_X9_chordFact_0 {C : JC} {d cl sl : Nat} {Q : State → Prop} {w : JW} {x1 : Int32} {x2 : Int32} (hm : jok C MX9_chordFact d cl sl) (k0 : x2 = 0 → jW C cl sl Q 28 [jR 0 false, jI x1, jU] [] w) (k1 : x2 = 1 → jW C cl sl Q 37 [jR 0 false, jI x1, jU] [] w) (k2 : x2 = 2 → jW C cl sl Q 58 [jR 0 false, jI x1, jU] [] w) (kd : ¬ x2 = 0 → ¬ x2 = 1 → ¬ x2 = 2 → jW C cl sl Q 67 [jR 0 false, jI x1, jU] [] w) : jW C cl sl Q 0 [jR 0 false, jI x1, jI x2] [] w := by
  by_cases e0 : x2 = 0
  · exact jr_iload_n hm (i := 2) rfl rfl dX9_chordFact_0 (jr_tab_in hm dX9_chordFact_1 (by rw [e0]; decide) (by rw [e0]; decide) (off := 27) (by rw [e0]; rfl) (by decide) (jr_drop (jle_same (jle_same (jle_drop jle_nil))) (k0 e0)))
  by_cases e1 : x2 = 1
  · exact jr_iload_n hm (i := 2) rfl rfl dX9_chordFact_0 (jr_tab_in hm dX9_chordFact_1 (by rw [e1]; decide) (by rw [e1]; decide) (off := 36) (by rw [e1]; rfl) (by decide) (jr_drop (jle_same (jle_same (jle_drop jle_nil))) (k1 e1)))
  by_cases e2 : x2 = 2
  · exact jr_iload_n hm (i := 2) rfl rfl dX9_chordFact_0 (jr_tab_in hm dX9_chordFact_1 (by rw [e2]; decide) (by rw [e2]; decide) (off := 57) (by rw [e2]; rfl) (by decide) (jr_drop (jle_same (jle_same (jle_drop jle_nil))) (k2 e2)))
  have t0 : ¬ (x2).toInt = 0 := fun e => e0 (Int32.toInt_inj.mp (e.trans (by decide)))
  have t1 : ¬ (x2).toInt = 1 := fun e => e1 (Int32.toInt_inj.mp (e.trans (by decide)))
  have t2 : ¬ (x2).toInt = 2 := fun e => e2 (Int32.toInt_inj.mp (e.trans (by decide)))
  exact jr_iload_n hm (i := 2) rfl rfl dX9_chordFact_0 (jr_tab_out hm dX9_chordFact_1 (by omega) (by decide) (jr_drop (jle_same (jle_same (jle_drop jle_nil))) (kd e0 e1 e2)))
theorem bk_X9_chordFact_28 {C : JC} {d cl sl : Nat} {Q : State → Prop} {w : JW} {x1 : Int32} {d2 : Nat} {r : Int32} {w2 : JW} (hm : jok C MX9_chordFact d cl sl) (hs : jF MX3_sizeOf d2 [jR 20 (w.2.2 0 6), jI x1] w (jI r) w2) (hd2 : d2 + 1 ≤ d) (k : jW C cl sl Q 36 [jU, jU, jU] [jI r] w2) : jW C cl sl Q 28 [jR 0 false, jI x1, jU] [] w := jr_aload_n hm (i := 0) rfl rfl dX9_chordFact_28 (fg_X9_52 hm dX9_chordFact_29 (jr_iload_n hm (i := 1) rfl rfl dX9_chordFact_32 (jr_callV (mc := 0) (ms := 0) hm hs hd2 jw_272 jw_173 jw_174 jw_51 jw_175 jn_X3_sizeOf rfl (jo_20 (w.2.2 0 6)) (fun _ _ _ _ _ => ⟨_, rfl⟩) rfl rfl (Nat.le_of_ble_eq_true rfl) rfl dX9_chordFact_33 (jkF (jr_drop (jle_drop (jle_drop (jle_same jle_nil))) k)))))
theorem bk_X9_chordFact_36 {C : JC} {d cl sl : Nat} {w : JW} {xs0 : Int32} {P : JV → JW → Prop} (hm : jok C MX9_chordFact d cl sl) (hp : P (jI xs0) w) : jW C cl sl (jQQ C cl sl P) 36 [jU, jU, jU] [jI xs0] w := jr_ireturn hm rfl dX9_chordFact_36 hp
theorem bk_X9_chordFact_37 {C : JC} {d cl sl : Nat} {Q : State → Prop} {w : JW} {x1 : Int32} {d2 : Nat} {r : Int32} {w2 : JW} (hm : jok C MX9_chordFact d cl sl) (hs : jF MX3_chordSounds d2 [jR 20 (w.2.2 0 6), jI x1, jR 14 false] w (jI r) w2) (hd2 : d2 + 1 ≤ d) (k : jW C cl sl Q 49 [jU, jU, jU] [jI r] w2) : jW C cl sl Q 37 [jR 0 false, jI x1, jU] [] w := jr_aload_n hm (i := 0) rfl rfl dX9_chordFact_37 (fg_X9_52 hm dX9_chordFact_38 (jr_iload_n hm (i := 1) rfl rfl dX9_chordFact_41 (jr_aload_n hm (i := 0) rfl rfl dX9_chordFact_42 (fg_X9_42 hm dX9_chordFact_43 (jr_callV (mc := 0) (ms := 0) hm hs hd2 jw_168 jw_169 jw_170 jw_51 jw_171 jn_X3_chordSounds rfl (jo_20 (w.2.2 0 6)) (fun _ _ _ _ _ => ⟨_, rfl⟩) rfl rfl (Nat.le_of_ble_eq_true rfl) rfl dX9_chordFact_46 (jkF (jr_drop (jle_drop (jle_drop (jle_same jle_nil))) k)))))))
theorem bk_X9_chordFact_49 {C : JC} {d cl sl : Nat} {Q : State → Prop} {w : JW} {xs0 : Int32} (hm : jok C MX9_chordFact d cl sl) (kt : xs0 = 0 → jW C cl sl Q 56 [jU, jU, jU] [] w) (kf : ¬ xs0 = 0 → jW C cl sl Q 52 [jU, jU, jU] [] w) : jW C cl sl Q 49 [jU, jU, jU] [jI xs0] w := jr_if_eq hm dX9_chordFact_49 (by decide) (fun h => jr_drop (jle_same (jle_same (jle_same jle_nil))) (kt h)) (fun h => jr_drop (jle_same (jle_same (jle_same jle_nil))) (kf h))
theorem bk_X9_chordFact_52 {C : JC} {d cl sl : Nat} {Q : State → Prop} {w : JW}  (hm : jok C MX9_chordFact d cl sl) (k : jW C cl sl Q 57 [jU, jU, jU] [jI 1] w) : jW C cl sl Q 52 [jU, jU, jU] [] w := jr_iconst hm (v := 1) (by decide) dX9_chordFact_52 (jr_goto hm dX9_chordFact_53 (by decide) (jr_drop (jle_same (jle_same (jle_same jle_nil))) k))
theorem bk_X9_chordFact_56 {C : JC} {d cl sl : Nat} {Q : State → Prop} {w : JW}  (hm : jok C MX9_chordFact d cl sl) (k : jW C cl sl Q 57 [jU, jU, jU] [jI 0] w) : jW C cl sl Q 56 [jU, jU, jU] [] w := jr_iconst hm (v := 0) (by decide) dX9_chordFact_56 (jr_drop (jle_same (jle_same (jle_same jle_nil))) k)
theorem bk_X9_chordFact_57 {C : JC} {d cl sl : Nat} {w : JW} {xs0 : Int32} {P : JV → JW → Prop} (hm : jok C MX9_chordFact d cl sl) (hp : P (jI xs0) w) : jW C cl sl (jQQ C cl sl P) 57 [jU, jU, jU] [jI xs0] w := jr_ireturn hm rfl dX9_chordFact_57 hp
theorem bk_X9_chordFact_58 {C : JC} {d cl sl : Nat} {Q : State → Prop} {w : JW} {x1 : Int32} {d2 : Nat} {r : Int32} {w2 : JW} (hm : jok C MX9_chordFact d cl sl) (hs : jF MX3_spanOf d2 [jR 20 (w.2.2 0 6), jI x1] w (jI r) w2) (hd2 : d2 + 1 ≤ d) (k : jW C cl sl Q 66 [jU, jU, jU] [jI r] w2) : jW C cl sl Q 58 [jR 0 false, jI x1, jU] [] w := jr_aload_n hm (i := 0) rfl rfl dX9_chordFact_58 (fg_X9_52 hm dX9_chordFact_59 (jr_iload_n hm (i := 1) rfl rfl dX9_chordFact_62 (jr_callV (mc := 0) (ms := 0) hm hs hd2 jw_273 jw_274 jw_275 jw_51 jw_276 jn_X3_spanOf rfl (jo_20 (w.2.2 0 6)) (fun _ _ _ _ _ => ⟨_, rfl⟩) rfl rfl (Nat.le_of_ble_eq_true rfl) rfl dX9_chordFact_63 (jkF (jr_drop (jle_drop (jle_drop (jle_same jle_nil))) k)))))
theorem bk_X9_chordFact_66 {C : JC} {d cl sl : Nat} {w : JW} {xs0 : Int32} {P : JV → JW → Prop} (hm : jok C MX9_chordFact d cl sl) (hp : P (jI xs0) w) : jW C cl sl (jQQ C cl sl P) 66 [jU, jU, jU] [jI xs0] w := jr_ireturn hm rfl dX9_chordFact_66 hp
theorem bk_X9_chordFact_67 {C : JC} {d cl sl : Nat} {Q : State → Prop} {w : JW} {x1 : Int32} {d2 : Nat} {r : Int32} {w2 : JW} (hm : jok C MX9_chordFact d cl sl) (hs : jF MX9_at d2 [jR 19 false, jI x1] w (jI r) w2) (hd2 : d2 + 1 ≤ d) (k : jW C cl sl Q 78 [jU, jU, jU] [jI r] w2) : jW C cl sl Q 67 [jR 0 false, jI x1, jU] [] w := jr_aload_n hm (i := 0) rfl rfl dX9_chordFact_67 (fg_X9_42 hm dX9_chordFact_68 (fg_X9_290 hm dX9_chordFact_71 (jr_iload_n hm (i := 1) rfl rfl dX9_chordFact_74 (jr_callS (mc := 0) (ms := 0) hm hs hd2 jw_195 jw_162 jw_47 jw_163 jn_X9_at rfl rfl (Nat.le_of_ble_eq_true rfl) rfl dX9_chordFact_75 (jkF (jr_drop (jle_drop (jle_drop (jle_same jle_nil))) k))))))
theorem bk_X9_chordFact_78 {C : JC} {d cl sl : Nat} {w : JW} {xs0 : Int32} {P : JV → JW → Prop} (hm : jok C MX9_chordFact d cl sl) (hp : P (jI xs0) w) : jW C cl sl (jQQ C cl sl P) 78 [jU, jU, jU] [jI xs0] w := jr_ireturn hm rfl dX9_chordFact_78 hp
theorem dX9_chordsSounding_0 : decode cX9_chordsSounding 0 = .ok (.iconst 0, 1) := by decide +kernel
theorem dX9_chordsSounding_1 : decode cX9_chordsSounding 1 = .ok (.istore_n 1, 1) := by decide +kernel
theorem dX9_chordsSounding_2 : decode cX9_chordsSounding 2 = .ok (.iconst 0, 1) := by decide +kernel
theorem dX9_chordsSounding_3 : decode cX9_chordsSounding 3 = .ok (.istore_n 2, 1) := by decide +kernel
theorem dX9_chordsSounding_4 : decode cX9_chordsSounding 4 = .ok (.iload_n 2, 1) := by decide +kernel
theorem dX9_chordsSounding_5 : decode cX9_chordsSounding 5 = .ok (.aload_n 0, 1) := by decide +kernel
theorem dX9_chordsSounding_6 : decode cX9_chordsSounding 6 = .ok (.getfield 52, 3) := by decide +kernel
theorem dX9_chordsSounding_9 : decode cX9_chordsSounding 9 = .ok (.getfield 133, 3) := by decide +kernel
theorem dX9_chordsSounding_12 : decode cX9_chordsSounding 12 = .ok (.if_icmp .ge 27, 3) := by decide +kernel
theorem dX9_chordsSounding_15 : decode cX9_chordsSounding 15 = .ok (.aload_n 0, 1) := by decide +kernel
theorem dX9_chordsSounding_16 : decode cX9_chordsSounding 16 = .ok (.getfield 52, 3) := by decide +kernel
theorem dX9_chordsSounding_19 : decode cX9_chordsSounding 19 = .ok (.iload_n 2, 1) := by decide +kernel
theorem dX9_chordsSounding_20 : decode cX9_chordsSounding 20 = .ok (.aload_n 0, 1) := by decide +kernel
theorem dX9_chordsSounding_21 : decode cX9_chordsSounding 21 = .ok (.getfield 42, 3) := by decide +kernel
theorem dX9_chordsSounding_24 : decode cX9_chordsSounding 24 = .ok (.invokevirtual 283, 3) := by decide +kernel
theorem dX9_chordsSounding_27 : decode cX9_chordsSounding 27 = .ok (.ifCond .eq 6, 3) := by decide +kernel
theorem dX9_chordsSounding_30 : decode cX9_chordsSounding 30 = .ok (.iinc 1 1, 3) := by decide +kernel
theorem dX9_chordsSounding_33 : decode cX9_chordsSounding 33 = .ok (.iinc 2 1, 3) := by decide +kernel
theorem dX9_chordsSounding_36 : decode cX9_chordsSounding 36 = .ok (.goto (-32), 3) := by decide +kernel
theorem dX9_chordsSounding_39 : decode cX9_chordsSounding 39 = .ok (.iload_n 1, 1) := by decide +kernel
theorem dX9_chordsSounding_40 : decode cX9_chordsSounding 40 = .ok (.ireturn, 1) := by decide +kernel
theorem bk_X9_chordsSounding_0 {C : JC} {d cl sl : Nat} {Q : State → Prop} {w : JW}  (hm : jok C MX9_chordsSounding d cl sl) (k : jW C cl sl Q 4 [jR 0 false, jI 0, jI 0] [] w) : jW C cl sl Q 0 [jR 0 false, jU, jU] [] w := jr_iconst hm (v := 0) (by decide) dX9_chordsSounding_0 (jr_istore_n hm (i := 1) rfl (Nat.le_of_ble_eq_true rfl) rfl dX9_chordsSounding_1 (jr_iconst hm (v := 0) (by decide) dX9_chordsSounding_2 (jr_istore_n hm (i := 2) rfl (Nat.le_of_ble_eq_true rfl) rfl dX9_chordsSounding_3 (jr_drop (jle_same (jle_same (jle_same jle_nil))) k))))
theorem bk_X9_chordsSounding_4 {C : JC} {d cl sl : Nat} {Q : State → Prop} {w : JW} {x1 : Int32} {x2 : Int32} (hm : jok C MX9_chordsSounding d cl sl) (kt : (w.1 20 (w.2.2 0 6) 11) ≤ x2 → jW C cl sl Q 39 [jU, jI x1, jU] [] w) (kf : ¬ (w.1 20 (w.2.2 0 6) 11) ≤ x2 → jW C cl sl Q 15 [jR 0 false, jI x1, jI x2] [] w) : jW C cl sl Q 4 [jR 0 false, jI x1, jI x2] [] w := jr_iload_n hm (i := 2) rfl rfl dX9_chordsSounding_4 (jr_aload_n hm (i := 0) rfl rfl dX9_chordsSounding_5 (fg_X9_52 hm dX9_chordsSounding_6 (fg_X9_133 hm dX9_chordsSounding_9 (jr_icmp_ge hm dX9_chordsSounding_12 (by decide) (fun h => jr_drop (jle_drop (jle_same (jle_drop jle_nil))) (kt h)) (fun h => jr_drop (jle_same (jle_same (jle_same jle_nil))) (kf h))))))
theorem bk_X9_chordsSounding_15 {C : JC} {d cl sl : Nat} {Q : State → Prop} {w : JW} {x1 : Int32} {x2 : Int32} {d2 : Nat} {r : Int32} {w2 : JW} (hm : jok C MX9_chordsSounding d cl sl) (hs : jF MX3_chordSounds d2 [jR 20 (w.2.2 0 6), jI x2, jR 14 false] w (jI r) w2) (hd2 : d2 + 1 ≤ d) (k : jW C cl sl Q 27 [jR 0 false, jI x1, jI x2] [jI r] w2) : jW C cl sl Q 15 [jR 0 false, jI x1, jI x2] [] w := jr_aload_n hm (i := 0) rfl rfl dX9_chordsSounding_15 (fg_X9_52 hm dX9_chordsSounding_16 (jr_iload_n hm (i := 2) rfl rfl dX9_chordsSounding_19 (jr_aload_n hm (i := 0) rfl rfl dX9_chordsSounding_20 (fg_X9_42 hm dX9_chordsSounding_21 (jr_callV (mc := 0) (ms := 0) hm hs hd2 jw_168 jw_169 jw_170 jw_51 jw_171 jn_X3_chordSounds rfl (jo_20 (w.2.2 0 6)) (fun _ _ _ _ _ => ⟨_, rfl⟩) rfl rfl (Nat.le_of_ble_eq_true rfl) rfl dX9_chordsSounding_24 (jkF (jr_drop (jle_same (jle_same (jle_same jle_nil))) k)))))))
theorem bk_X9_chordsSounding_27 {C : JC} {d cl sl : Nat} {Q : State → Prop} {w : JW} {x1 : Int32} {x2 : Int32} {xs0 : Int32} (hm : jok C MX9_chordsSounding d cl sl) (kt : xs0 = 0 → jW C cl sl Q 33 [jR 0 false, jI x1, jI x2] [] w) (kf : ¬ xs0 = 0 → jW C cl sl Q 30 [jR 0 false, jI x1, jI x2] [] w) : jW C cl sl Q 27 [jR 0 false, jI x1, jI x2] [jI xs0] w := jr_if_eq hm dX9_chordsSounding_27 (by decide) (fun h => jr_drop (jle_same (jle_same (jle_same jle_nil))) (kt h)) (fun h => jr_drop (jle_same (jle_same (jle_same jle_nil))) (kf h))
theorem bk_X9_chordsSounding_30 {C : JC} {d cl sl : Nat} {Q : State → Prop} {w : JW} {x1 : Int32} {x2 : Int32} (hm : jok C MX9_chordsSounding d cl sl) (k : jW C cl sl Q 33 [jR 0 false, jI (x1 + 1), jI x2] [] w) : jW C cl sl Q 30 [jR 0 false, jI x1, jI x2] [] w := jr_iinc hm (i := 1) (v := x1 + 1) rfl rfl rfl dX9_chordsSounding_30 (jr_drop (jle_same (jle_same (jle_same jle_nil))) k)
theorem bk_X9_chordsSounding_33 {C : JC} {d cl sl : Nat} {Q : State → Prop} {w : JW} {x1 : Int32} {x2 : Int32} (hm : jok C MX9_chordsSounding d cl sl) (k : jW C cl sl Q 4 [jR 0 false, jI x1, jI (x2 + 1)] [] w) : jW C cl sl Q 33 [jR 0 false, jI x1, jI x2] [] w := jr_iinc hm (i := 2) (v := x2 + 1) rfl rfl rfl dX9_chordsSounding_33 (jr_goto hm dX9_chordsSounding_36 (by decide) (jr_drop (jle_same (jle_same (jle_same jle_nil))) k))
theorem bk_X9_chordsSounding_39 {C : JC} {d cl sl : Nat} {w : JW} {x1 : Int32} {P : JV → JW → Prop} (hm : jok C MX9_chordsSounding d cl sl) (hp : P (jI x1) w) : jW C cl sl (jQQ C cl sl P) 39 [jU, jI x1, jU] [] w := jr_iload_n hm (i := 1) rfl rfl dX9_chordsSounding_39 (jr_ireturn hm rfl dX9_chordsSounding_40 hp)
theorem dX9_gainByTide_0 : decode cX9_gainByTide 0 = .ok (.aload_n 0, 1) := by decide +kernel
theorem dX9_gainByTide_1 : decode cX9_gainByTide 1 = .ok (.getfield 46, 3) := by decide +kernel
theorem dX9_gainByTide_4 : decode cX9_gainByTide 4 = .ok (.aload_n 0, 1) := by decide +kernel
theorem dX9_gainByTide_5 : decode cX9_gainByTide 5 = .ok (.getfield 42, 3) := by decide +kernel
theorem dX9_gainByTide_8 : decode cX9_gainByTide 8 = .ok (.invokevirtual 199, 3) := by decide +kernel
theorem dX9_gainByTide_11 : decode cX9_gainByTide 11 = .ok (.aload_n 0, 1) := by decide +kernel
theorem dX9_gainByTide_12 : decode cX9_gainByTide 12 = .ok (.getfield 46, 3) := by decide +kernel
theorem dX9_gainByTide_15 : decode cX9_gainByTide 15 = .ok (.iload_n 1, 1) := by decide +kernel
theorem dX9_gainByTide_16 : decode cX9_gainByTide 16 = .ok (.putfield 168, 3) := by decide +kernel
theorem dX9_gainByTide_19 : decode cX9_gainByTide 19 = .ok (.aload_n 0, 1) := by decide +kernel
theorem dX9_gainByTide_20 : decode cX9_gainByTide 20 = .ok (.getfield 35, 3) := by decide +kernel
theorem dX9_gainByTide_23 : decode cX9_gainByTide 23 = .ok (.aload_n 0, 1) := by decide +kernel
theorem dX9_gainByTide_24 : decode cX9_gainByTide 24 = .ok (.getfield 52, 3) := by decide +kernel
theorem dX9_gainByTide_27 : decode cX9_gainByTide 27 = .ok (.aload_n 0, 1) := by decide +kernel
theorem dX9_gainByTide_28 : decode cX9_gainByTide 28 = .ok (.getfield 46, 3) := by decide +kernel
theorem dX9_gainByTide_31 : decode cX9_gainByTide 31 = .ok (.iload_n 2, 1) := by decide +kernel
theorem dX9_gainByTide_32 : decode cX9_gainByTide 32 = .ok (.invokevirtual 195, 3) := by decide +kernel
theorem dX9_gainByTide_35 : decode cX9_gainByTide 35 = .ok (.aload_n 0, 1) := by decide +kernel
theorem dX9_gainByTide_36 : decode cX9_gainByTide 36 = .ok (.getfield 46, 3) := by decide +kernel
theorem dX9_gainByTide_39 : decode cX9_gainByTide 39 = .ok (.getfield 192, 3) := by decide +kernel
theorem dX9_gainByTide_42 : decode cX9_gainByTide 42 = .ok (.aload_n 0, 1) := by decide +kernel
theorem dX9_gainByTide_43 : decode cX9_gainByTide 43 = .ok (.getfield 42, 3) := by decide +kernel
theorem dX9_gainByTide_46 : decode cX9_gainByTide 46 = .ok (.getfield 192, 3) := by decide +kernel
theorem dX9_gainByTide_49 : decode cX9_gainByTide 49 = .ok (.isub, 1) := by decide +kernel
theorem dX9_gainByTide_50 : decode cX9_gainByTide 50 = .ok (.iconst 2, 1) := by decide +kernel
theorem dX9_gainByTide_51 : decode cX9_gainByTide 51 = .ok (.aload_n 0, 1) := by decide +kernel
theorem dX9_gainByTide_52 : decode cX9_gainByTide 52 = .ok (.getfield 46, 3) := by decide +kernel
theorem dX9_gainByTide_55 : decode cX9_gainByTide 55 = .ok (.getfield 208, 3) := by decide +kernel
theorem dX9_gainByTide_58 : decode cX9_gainByTide 58 = .ok (.aload_n 0, 1) := by decide +kernel
theorem dX9_gainByTide_59 : decode cX9_gainByTide 59 = .ok (.getfield 42, 3) := by decide +kernel
theorem dX9_gainByTide_62 : decode cX9_gainByTide 62 = .ok (.getfield 208, 3) := by decide +kernel
theorem dX9_gainByTide_65 : decode cX9_gainByTide 65 = .ok (.isub, 1) := by decide +kernel
theorem dX9_gainByTide_66 : decode cX9_gainByTide 66 = .ok (.imul, 1) := by decide +kernel
theorem dX9_gainByTide_67 : decode cX9_gainByTide 67 = .ok (.isub, 1) := by decide +kernel
theorem dX9_gainByTide_68 : decode cX9_gainByTide 68 = .ok (.ireturn, 1) := by decide +kernel
theorem bk_X9_gainByTide_0 {C : JC} {d cl sl : Nat} {Q : State → Prop} {w : JW} {x1 : Int32} {x2 : Int32} {d2 : Nat} {w2 : JW} (hm : jok C MX9_gainByTide d cl sl) (hs : jF MX1_become d2 [jR 14 true, jR 14 false] w (jU) w2) (hd2 : d2 + 1 ≤ d) (k : jW C cl sl Q 11 [jR 0 false, jI x1, jI x2] [] w2) : jW C cl sl Q 0 [jR 0 false, jI x1, jI x2] [] w := jr_aload_n hm (i := 0) rfl rfl dX9_gainByTide_0 (fg_X9_46 hm dX9_gainByTide_1 (jr_aload_n hm (i := 0) rfl rfl dX9_gainByTide_4 (fg_X9_42 hm dX9_gainByTide_5 (jr_callV (mc := 0) (ms := 0) hm hs hd2 jw_370 jw_371 jw_372 jw_56 jw_373 jn_X1_become rfl (jo_14 true) (fun _ _ _ _ _ => ⟨_, rfl⟩) rfl rfl (Nat.le_of_ble_eq_true rfl) rfl dX9_gainByTide_8 (jkF (jr_drop (jle_same (jle_same (jle_same jle_nil))) k))))))
theorem bk_X9_gainByTide_11 {C : JC} {d cl sl : Nat} {Q : State → Prop} {w : JW} {x1 : Int32} {x2 : Int32} {d2 : Nat} {w2 : JW} (hm : jok C MX9_gainByTide d cl sl) (hs : jF MX4_run d2 [jR 11 false, jR 20 ((jset w 14 true 6 x1).2.2 0 6), jR 14 true, jI x2] (jset w 14 true 6 x1) (jU) w2) (hd2 : d2 + 1 ≤ d) (k : jW C cl sl Q 35 [jR 0 false, jU, jU] [] w2) : jW C cl sl Q 11 [jR 0 false, jI x1, jI x2] [] w := jr_aload_n hm (i := 0) rfl rfl dX9_gainByTide_11 (fg_X9_46 hm dX9_gainByTide_12 (jr_iload_n hm (i := 1) rfl rfl dX9_gainByTide_15 (fp_X9_168 hm dX9_gainByTide_16 (jr_aload_n hm (i := 0) rfl rfl dX9_gainByTide_19 (fg_X9_35 hm dX9_gainByTide_20 (jr_aload_n hm (i := 0) rfl rfl dX9_gainByTide_23 (fg_X9_52 hm dX9_gainByTide_24 (jr_aload_n hm (i := 0) rfl rfl dX9_gainByTide_27 (fg_X9_46 hm dX9_gainByTide_28 (jr_iload_n hm (i := 2) rfl rfl dX9_gainByTide_31 (jr_callV (mc := 0) (ms := 0) hm hs hd2 jw_328 jw_329 jw_330 jw_54 jw_331 jn_X4_run rfl jo_11 (fun _ _ _ _ _ => ⟨_, rfl⟩) rfl rfl (Nat.le_of_ble_eq_true rfl) rfl dX9_gainByTide_32 (jkF (jr_drop (jle_same (jle_drop (jle_drop jle_nil))) k)))))))))))))
theorem bk_X9_gainByTide_35 {C : JC} {d cl sl : Nat} {w : JW} {P : JV → JW → Prop} (hm : jok C MX9_gainByTide d cl sl) (hp : P (jI (((w.1 14 true 7) - (w.1 14 false 7)) - (2 * ((w.1 14 true 8) - (w.1 14 false 8))))) w) : jW C cl sl (jQQ C cl sl P) 35 [jR 0 false, jU, jU] [] w := jr_aload_n hm (i := 0) rfl rfl dX9_gainByTide_35 (fg_X9_46 hm dX9_gainByTide_36 (fg_X9_192 hm dX9_gainByTide_39 (jr_aload_n hm (i := 0) rfl rfl dX9_gainByTide_42 (fg_X9_42 hm dX9_gainByTide_43 (fg_X9_192 hm dX9_gainByTide_46 (jr_isub hm dX9_gainByTide_49 (jr_iconst hm (v := 2) (by decide) dX9_gainByTide_50 (jr_aload_n hm (i := 0) rfl rfl dX9_gainByTide_51 (fg_X9_46 hm dX9_gainByTide_52 (fg_X9_208 hm dX9_gainByTide_55 (jr_aload_n hm (i := 0) rfl rfl dX9_gainByTide_58 (fg_X9_42 hm dX9_gainByTide_59 (fg_X9_208 hm dX9_gainByTide_62 (jr_isub hm dX9_gainByTide_65 (jr_imul hm dX9_gainByTide_66 (jr_isub hm dX9_gainByTide_67 (jr_ireturn hm rfl dX9_gainByTide_68 hp)))))))))))))))))
theorem dX9_stepsBetween_0 : decode cX9_stepsBetween 0 = .ok (.iload_n 0, 1) := by decide +kernel
theorem dX9_stepsBetween_1 : decode cX9_stepsBetween 1 = .ok (.istore_n 2, 1) := by decide +kernel
theorem dX9_stepsBetween_2 : decode cX9_stepsBetween 2 = .ok (.iload_n 1, 1) := by decide +kernel
theorem dX9_stepsBetween_3 : decode cX9_stepsBetween 3 = .ok (.istore_n 3, 1) := by decide +kernel
theorem dX9_stepsBetween_4 : decode cX9_stepsBetween 4 = .ok (.iconst 0, 1) := by decide +kernel
theorem dX9_stepsBetween_5 : decode cX9_stepsBetween 5 = .ok (.istore 4, 2) := by decide +kernel
theorem dX9_stepsBetween_7 : decode cX9_stepsBetween 7 = .ok (.iload_n 2, 1) := by decide +kernel
theorem dX9_stepsBetween_8 : decode cX9_stepsBetween 8 = .ok (.iload_n 3, 1) := by decide +kernel
theorem dX9_stepsBetween_9 : decode cX9_stepsBetween 9 = .ok (.if_icmp .eq 32, 3) := by decide +kernel
theorem dX9_stepsBetween_12 : decode cX9_stepsBetween 12 = .ok (.iload 4, 2) := by decide +kernel
theorem dX9_stepsBetween_14 : decode cX9_stepsBetween 14 = .ok (.bipush 40, 2) := by decide +kernel
theorem dX9_stepsBetween_16 : decode cX9_stepsBetween 16 = .ok (.if_icmp .ge 25, 3) := by decide +kernel
theorem dX9_stepsBetween_19 : decode cX9_stepsBetween 19 = .ok (.iload_n 2, 1) := by decide +kernel
theorem dX9_stepsBetween_20 : decode cX9_stepsBetween 20 = .ok (.iload_n 3, 1) := by decide +kernel
theorem dX9_stepsBetween_21 : decode cX9_stepsBetween 21 = .ok (.if_icmp .le 10, 3) := by decide +kernel
theorem dX9_stepsBetween_24 : decode cX9_stepsBetween 24 = .ok (.iload_n 2, 1) := by decide +kernel
theorem dX9_stepsBetween_25 : decode cX9_stepsBetween 25 = .ok (.iload_n 3, 1) := by decide +kernel
theorem dX9_stepsBetween_26 : decode cX9_stepsBetween 26 = .ok (.isub, 1) := by decide +kernel
theorem dX9_stepsBetween_27 : decode cX9_stepsBetween 27 = .ok (.istore_n 2, 1) := by decide +kernel
theorem dX9_stepsBetween_28 : decode cX9_stepsBetween 28 = .ok (.goto 7, 3) := by decide +kernel
theorem dX9_stepsBetween_31 : decode cX9_stepsBetween 31 = .ok (.iload_n 3, 1) := by decide +kernel
theorem dX9_stepsBetween_32 : decode cX9_stepsBetween 32 = .ok (.iload_n 2, 1) := by decide +kernel
theorem dX9_stepsBetween_33 : decode cX9_stepsBetween 33 = .ok (.isub, 1) := by decide +kernel
theorem dX9_stepsBetween_34 : decode cX9_stepsBetween 34 = .ok (.istore_n 3, 1) := by decide +kernel
theorem dX9_stepsBetween_35 : decode cX9_stepsBetween 35 = .ok (.iinc 4 1, 3) := by decide +kernel
theorem dX9_stepsBetween_38 : decode cX9_stepsBetween 38 = .ok (.goto (-31), 3) := by decide +kernel
theorem dX9_stepsBetween_41 : decode cX9_stepsBetween 41 = .ok (.iload 4, 2) := by decide +kernel
theorem dX9_stepsBetween_43 : decode cX9_stepsBetween 43 = .ok (.ireturn, 1) := by decide +kernel
theorem bk_X9_stepsBetween_0 {C : JC} {d cl sl : Nat} {Q : State → Prop} {w : JW} {x0 : Int32} {x1 : Int32} (hm : jok C MX9_stepsBetween d cl sl) (k : jW C cl sl Q 7 [jU, jU, jI x0, jI x1, jI 0] [] w) : jW C cl sl Q 0 [jI x0, jI x1, jU, jU, jU] [] w := jr_iload_n hm (i := 0) rfl rfl dX9_stepsBetween_0 (jr_istore_n hm (i := 2) rfl (Nat.le_of_ble_eq_true rfl) rfl dX9_stepsBetween_1 (jr_iload_n hm (i := 1) rfl rfl dX9_stepsBetween_2 (jr_istore_n hm (i := 3) rfl (Nat.le_of_ble_eq_true rfl) rfl dX9_stepsBetween_3 (jr_iconst hm (v := 0) (by decide) dX9_stepsBetween_4 (jr_istore hm (i := 4) (Nat.le_of_ble_eq_true rfl) rfl dX9_stepsBetween_5 (jr_drop (jle_drop (jle_drop (jle_same (jle_same (jle_same jle_nil))))) k))))))
theorem bk_X9_stepsBetween_7 {C : JC} {d cl sl : Nat} {Q : State → Prop} {w : JW} {x2 : Int32} {x3 : Int32} {x4 : Int32} (hm : jok C MX9_stepsBetween d cl sl) (kt : x2 = x3 → jW C cl sl Q 41 [jU, jU, jU, jU, jI x4] [] w) (kf : ¬ x2 = x3 → jW C cl sl Q 12 [jU, jU, jI x2, jI x3, jI x4] [] w) : jW C cl sl Q 7 [jU, jU, jI x2, jI x3, jI x4] [] w := jr_iload_n hm (i := 2) rfl rfl dX9_stepsBetween_7 (jr_iload_n hm (i := 3) rfl rfl dX9_stepsBetween_8 (jr_icmp_eq hm dX9_stepsBetween_9 (by decide) (fun h => jr_drop (jle_same (jle_same (jle_drop (jle_drop (jle_same jle_nil))))) (kt h)) (fun h => jr_drop (jle_same (jle_same (jle_same (jle_same (jle_same jle_nil))))) (kf h))))
theorem bk_X9_stepsBetween_12 {C : JC} {d cl sl : Nat} {Q : State → Prop} {w : JW} {x2 : Int32} {x3 : Int32} {x4 : Int32} (hm : jok C MX9_stepsBetween d cl sl) (kt : 40 ≤ x4 → jW C cl sl Q 41 [jU, jU, jU, jU, jI x4] [] w) (kf : ¬ 40 ≤ x4 → jW C cl sl Q 19 [jU, jU, jI x2, jI x3, jI x4] [] w) : jW C cl sl Q 12 [jU, jU, jI x2, jI x3, jI x4] [] w := jr_iload hm (i := 4) rfl dX9_stepsBetween_12 (jr_bipush hm (v := 40) (by decide) dX9_stepsBetween_14 (jr_icmp_ge hm dX9_stepsBetween_16 (by decide) (fun h => jr_drop (jle_same (jle_same (jle_drop (jle_drop (jle_same jle_nil))))) (kt h)) (fun h => jr_drop (jle_same (jle_same (jle_same (jle_same (jle_same jle_nil))))) (kf h))))
theorem bk_X9_stepsBetween_19 {C : JC} {d cl sl : Nat} {Q : State → Prop} {w : JW} {x2 : Int32} {x3 : Int32} {x4 : Int32} (hm : jok C MX9_stepsBetween d cl sl) (kt : x2 ≤ x3 → jW C cl sl Q 31 [jU, jU, jI x2, jI x3, jI x4] [] w) (kf : ¬ x2 ≤ x3 → jW C cl sl Q 24 [jU, jU, jI x2, jI x3, jI x4] [] w) : jW C cl sl Q 19 [jU, jU, jI x2, jI x3, jI x4] [] w := jr_iload_n hm (i := 2) rfl rfl dX9_stepsBetween_19 (jr_iload_n hm (i := 3) rfl rfl dX9_stepsBetween_20 (jr_icmp_le hm dX9_stepsBetween_21 (by decide) (fun h => jr_drop (jle_same (jle_same (jle_same (jle_same (jle_same jle_nil))))) (kt h)) (fun h => jr_drop (jle_same (jle_same (jle_same (jle_same (jle_same jle_nil))))) (kf h))))
theorem bk_X9_stepsBetween_24 {C : JC} {d cl sl : Nat} {Q : State → Prop} {w : JW} {x2 : Int32} {x3 : Int32} {x4 : Int32} (hm : jok C MX9_stepsBetween d cl sl) (k : jW C cl sl Q 35 [jU, jU, jI (x2 - x3), jI x3, jI x4] [] w) : jW C cl sl Q 24 [jU, jU, jI x2, jI x3, jI x4] [] w := jr_iload_n hm (i := 2) rfl rfl dX9_stepsBetween_24 (jr_iload_n hm (i := 3) rfl rfl dX9_stepsBetween_25 (jr_isub hm dX9_stepsBetween_26 (jr_istore_n hm (i := 2) rfl (Nat.le_of_ble_eq_true rfl) rfl dX9_stepsBetween_27 (jr_goto hm dX9_stepsBetween_28 (by decide) (jr_drop (jle_same (jle_same (jle_same (jle_same (jle_same jle_nil))))) k)))))
theorem bk_X9_stepsBetween_31 {C : JC} {d cl sl : Nat} {Q : State → Prop} {w : JW} {x2 : Int32} {x3 : Int32} {x4 : Int32} (hm : jok C MX9_stepsBetween d cl sl) (k : jW C cl sl Q 35 [jU, jU, jI x2, jI (x3 - x2), jI x4] [] w) : jW C cl sl Q 31 [jU, jU, jI x2, jI x3, jI x4] [] w := jr_iload_n hm (i := 3) rfl rfl dX9_stepsBetween_31 (jr_iload_n hm (i := 2) rfl rfl dX9_stepsBetween_32 (jr_isub hm dX9_stepsBetween_33 (jr_istore_n hm (i := 3) rfl (Nat.le_of_ble_eq_true rfl) rfl dX9_stepsBetween_34 (jr_drop (jle_same (jle_same (jle_same (jle_same (jle_same jle_nil))))) k))))
theorem bk_X9_stepsBetween_35 {C : JC} {d cl sl : Nat} {Q : State → Prop} {w : JW} {x2 : Int32} {x3 : Int32} {x4 : Int32} (hm : jok C MX9_stepsBetween d cl sl) (k : jW C cl sl Q 7 [jU, jU, jI x2, jI x3, jI (x4 + 1)] [] w) : jW C cl sl Q 35 [jU, jU, jI x2, jI x3, jI x4] [] w := jr_iinc hm (i := 4) (v := x4 + 1) rfl rfl rfl dX9_stepsBetween_35 (jr_goto hm dX9_stepsBetween_38 (by decide) (jr_drop (jle_same (jle_same (jle_same (jle_same (jle_same jle_nil))))) k))
theorem bk_X9_stepsBetween_41 {C : JC} {d cl sl : Nat} {w : JW} {x4 : Int32} {P : JV → JW → Prop} (hm : jok C MX9_stepsBetween d cl sl) (hp : P (jI x4) w) : jW C cl sl (jQQ C cl sl P) 41 [jU, jU, jU, jU, jI x4] [] w := jr_iload hm (i := 4) rfl dX9_stepsBetween_41 (jr_ireturn hm rfl dX9_stepsBetween_43 hp)
theorem dX9_at_0 : decode cX9_at 0 = .ok (.iload_n 1, 1) := by decide +kernel
theorem dX9_at_1 : decode cX9_at 1 = .ok (.ifCond .lt 15, 3) := by decide +kernel
theorem dX9_at_4 : decode cX9_at 4 = .ok (.iload_n 1, 1) := by decide +kernel
theorem dX9_at_5 : decode cX9_at 5 = .ok (.aload_n 0, 1) := by decide +kernel
theorem dX9_at_6 : decode cX9_at 6 = .ok (.arraylength, 1) := by decide +kernel
theorem dX9_at_7 : decode cX9_at 7 = .ok (.if_icmp .ge 9, 3) := by decide +kernel
theorem dX9_at_10 : decode cX9_at 10 = .ok (.aload_n 0, 1) := by decide +kernel
theorem dX9_at_11 : decode cX9_at 11 = .ok (.iload_n 1, 1) := by decide +kernel
theorem dX9_at_12 : decode cX9_at 12 = .ok (.iaload, 1) := by decide +kernel
theorem dX9_at_13 : decode cX9_at 13 = .ok (.goto 4, 3) := by decide +kernel
theorem dX9_at_16 : decode cX9_at 16 = .ok (.iconst 0, 1) := by decide +kernel
theorem dX9_at_17 : decode cX9_at 17 = .ok (.ireturn, 1) := by decide +kernel
theorem bk_X9_at_0 {C : JC} {d cl sl : Nat} {Q : State → Prop} {w : JW} {k0 : Nat} {b0 : Bool} {x1 : Int32} (hm : jok C MX9_at d cl sl) (kt : x1 < 0 → jW C cl sl Q 16 [jU, jU] [] w) (kf : ¬ x1 < 0 → jW C cl sl Q 4 [jR k0 b0, jI x1] [] w) : jW C cl sl Q 0 [jR k0 b0, jI x1] [] w := jr_iload_n hm (i := 1) rfl rfl dX9_at_0 (jr_if_lt hm dX9_at_1 (by decide) (fun h => jr_drop (jle_drop (jle_drop jle_nil)) (kt h)) (fun h => jr_drop (jle_same (jle_same jle_nil)) (kf h)))
theorem bk_X9_at_4 {C : JC} {d cl sl : Nat} {Q : State → Prop} {w : JW} {k0 : Nat} {b0 : Bool} {x1 : Int32} {n0 : Nat} (hm : jok C MX9_at d cl sl) (hA0 : jIA k0 b0 n0) (kt : (Int32.ofNat n0) ≤ x1 → jW C cl sl Q 16 [jU, jU] [] w) (kf : ¬ (Int32.ofNat n0) ≤ x1 → jW C cl sl Q 10 [jR k0 b0, jI x1] [] w) : jW C cl sl Q 4 [jR k0 b0, jI x1] [] w := jr_iload_n hm (i := 1) rfl rfl dX9_at_4 (jr_aload_n hm (i := 0) rfl rfl dX9_at_5 (jr_alen hm (v := (Int32.ofNat n0)) hA0 rfl dX9_at_6 (jr_icmp_ge hm dX9_at_7 (by decide) (fun h => jr_drop (jle_drop (jle_drop jle_nil)) (kt h)) (fun h => jr_drop (jle_same (jle_same jle_nil)) (kf h)))))
theorem bk_X9_at_10 {C : JC} {d cl sl : Nat} {Q : State → Prop} {w : JW} {k0 : Nat} {b0 : Bool} {x1 : Int32} {n0 : Nat} (hm : jok C MX9_at d cl sl) (hA0 : jIA k0 b0 n0) (h1 : vp_in x1 n0) (k : jW C cl sl Q 17 [jU, jU] [jI (w.1 k0 b0 x1.toNatClampNeg)] w) : jW C cl sl Q 10 [jR k0 b0, jI x1] [] w := jr_aload_n hm (i := 0) rfl rfl dX9_at_10 (jr_iload_n hm (i := 1) rfl rfl dX9_at_11 (jr_iaload hm hA0 h1 dX9_at_12 (jr_goto hm dX9_at_13 (by decide) (jr_drop (jle_drop (jle_drop jle_nil)) k))))
theorem bk_X9_at_16 {C : JC} {d cl sl : Nat} {Q : State → Prop} {w : JW}  (hm : jok C MX9_at d cl sl) (k : jW C cl sl Q 17 [jU, jU] [jI 0] w) : jW C cl sl Q 16 [jU, jU] [] w := jr_iconst hm (v := 0) (by decide) dX9_at_16 (jr_drop (jle_same (jle_same jle_nil)) k)
theorem bk_X9_at_17 {C : JC} {d cl sl : Nat} {w : JW} {xs0 : Int32} {P : JV → JW → Prop} (hm : jok C MX9_at d cl sl) (hp : P (jI xs0) w) : jW C cl sl (jQQ C cl sl P) 17 [jU, jU] [jI xs0] w := jr_ireturn hm rfl dX9_at_17 hp
theorem dX9_put_0 : decode cX9_put 0 = .ok (.iload_n 1, 1) := by decide +kernel
theorem dX9_put_1 : decode cX9_put 1 = .ok (.ifCond .lt 13, 3) := by decide +kernel
theorem dX9_put_4 : decode cX9_put 4 = .ok (.iload_n 1, 1) := by decide +kernel
theorem dX9_put_5 : decode cX9_put 5 = .ok (.aload_n 0, 1) := by decide +kernel
theorem dX9_put_6 : decode cX9_put 6 = .ok (.arraylength, 1) := by decide +kernel
theorem dX9_put_7 : decode cX9_put 7 = .ok (.if_icmp .ge 7, 3) := by decide +kernel
theorem dX9_put_10 : decode cX9_put 10 = .ok (.aload_n 0, 1) := by decide +kernel
theorem dX9_put_11 : decode cX9_put 11 = .ok (.iload_n 1, 1) := by decide +kernel
theorem dX9_put_12 : decode cX9_put 12 = .ok (.iload_n 2, 1) := by decide +kernel
theorem dX9_put_13 : decode cX9_put 13 = .ok (.iastore, 1) := by decide +kernel
theorem dX9_put_14 : decode cX9_put 14 = .ok (.return_, 1) := by decide +kernel
theorem bk_X9_put_0 {C : JC} {d cl sl : Nat} {Q : State → Prop} {w : JW} {k0 : Nat} {b0 : Bool} {x1 : Int32} {x2 : Int32} (hm : jok C MX9_put d cl sl) (kt : x1 < 0 → jW C cl sl Q 14 [jU, jU, jU] [] w) (kf : ¬ x1 < 0 → jW C cl sl Q 4 [jR k0 b0, jI x1, jI x2] [] w) : jW C cl sl Q 0 [jR k0 b0, jI x1, jI x2] [] w := jr_iload_n hm (i := 1) rfl rfl dX9_put_0 (jr_if_lt hm dX9_put_1 (by decide) (fun h => jr_drop (jle_drop (jle_drop (jle_drop jle_nil))) (kt h)) (fun h => jr_drop (jle_same (jle_same (jle_same jle_nil))) (kf h)))
theorem bk_X9_put_4 {C : JC} {d cl sl : Nat} {Q : State → Prop} {w : JW} {k0 : Nat} {b0 : Bool} {x1 : Int32} {x2 : Int32} {n0 : Nat} (hm : jok C MX9_put d cl sl) (hA0 : jIA k0 b0 n0) (kt : (Int32.ofNat n0) ≤ x1 → jW C cl sl Q 14 [jU, jU, jU] [] w) (kf : ¬ (Int32.ofNat n0) ≤ x1 → jW C cl sl Q 10 [jR k0 b0, jI x1, jI x2] [] w) : jW C cl sl Q 4 [jR k0 b0, jI x1, jI x2] [] w := jr_iload_n hm (i := 1) rfl rfl dX9_put_4 (jr_aload_n hm (i := 0) rfl rfl dX9_put_5 (jr_alen hm (v := (Int32.ofNat n0)) hA0 rfl dX9_put_6 (jr_icmp_ge hm dX9_put_7 (by decide) (fun h => jr_drop (jle_drop (jle_drop (jle_drop jle_nil))) (kt h)) (fun h => jr_drop (jle_same (jle_same (jle_same jle_nil))) (kf h)))))
theorem bk_X9_put_10 {C : JC} {d cl sl : Nat} {Q : State → Prop} {w : JW} {k0 : Nat} {b0 : Bool} {x1 : Int32} {x2 : Int32} {n0 : Nat} (hm : jok C MX9_put d cl sl) (hA0 : jIA k0 b0 n0) (h1 : vp_in x1 n0) (k : jW C cl sl Q 14 [jU, jU, jU] [] (jset w k0 b0 x1.toNatClampNeg x2)) : jW C cl sl Q 10 [jR k0 b0, jI x1, jI x2] [] w := jr_aload_n hm (i := 0) rfl rfl dX9_put_10 (jr_iload_n hm (i := 1) rfl rfl dX9_put_11 (jr_iload_n hm (i := 2) rfl rfl dX9_put_12 (jr_iastore hm hA0 h1 dX9_put_13 (jr_drop (jle_drop (jle_drop (jle_drop jle_nil))) k))))
theorem bk_X9_put_14 {C : JC} {d cl sl : Nat} {w : JW} {P : JV → JW → Prop} (hm : jok C MX9_put d cl sl) (hp : P (jU) w) : jW C cl sl (jQQ C cl sl P) 14 [jU, jU, jU] [] w := jr_return hm rfl dX9_put_14 hp
theorem dX9_empty_0 : decode cX9_empty 0 = .ok (.iconst 0, 1) := by decide +kernel
theorem dX9_empty_1 : decode cX9_empty 1 = .ok (.istore_n 1, 1) := by decide +kernel
theorem dX9_empty_2 : decode cX9_empty 2 = .ok (.iload_n 1, 1) := by decide +kernel
theorem dX9_empty_3 : decode cX9_empty 3 = .ok (.aload_n 0, 1) := by decide +kernel
theorem dX9_empty_4 : decode cX9_empty 4 = .ok (.arraylength, 1) := by decide +kernel
theorem dX9_empty_5 : decode cX9_empty 5 = .ok (.if_icmp .ge 13, 3) := by decide +kernel
theorem dX9_empty_8 : decode cX9_empty 8 = .ok (.aload_n 0, 1) := by decide +kernel
theorem dX9_empty_9 : decode cX9_empty 9 = .ok (.iload_n 1, 1) := by decide +kernel
theorem dX9_empty_10 : decode cX9_empty 10 = .ok (.iconst 0, 1) := by decide +kernel
theorem dX9_empty_11 : decode cX9_empty 11 = .ok (.iastore, 1) := by decide +kernel
theorem dX9_empty_12 : decode cX9_empty 12 = .ok (.iinc 1 1, 3) := by decide +kernel
theorem dX9_empty_15 : decode cX9_empty 15 = .ok (.goto (-13), 3) := by decide +kernel
theorem dX9_empty_18 : decode cX9_empty 18 = .ok (.return_, 1) := by decide +kernel
theorem bk_X9_empty_0 {C : JC} {d cl sl : Nat} {Q : State → Prop} {w : JW} {k0 : Nat} {b0 : Bool} (hm : jok C MX9_empty d cl sl) (k : jW C cl sl Q 2 [jR k0 b0, jI 0] [] w) : jW C cl sl Q 0 [jR k0 b0, jU] [] w := jr_iconst hm (v := 0) (by decide) dX9_empty_0 (jr_istore_n hm (i := 1) rfl (Nat.le_of_ble_eq_true rfl) rfl dX9_empty_1 (jr_drop (jle_same (jle_same jle_nil)) k))
theorem bk_X9_empty_2 {C : JC} {d cl sl : Nat} {Q : State → Prop} {w : JW} {k0 : Nat} {b0 : Bool} {x1 : Int32} {n0 : Nat} (hm : jok C MX9_empty d cl sl) (hA0 : jIA k0 b0 n0) (kt : (Int32.ofNat n0) ≤ x1 → jW C cl sl Q 18 [jU, jU] [] w) (kf : ¬ (Int32.ofNat n0) ≤ x1 → jW C cl sl Q 8 [jR k0 b0, jI x1] [] w) : jW C cl sl Q 2 [jR k0 b0, jI x1] [] w := jr_iload_n hm (i := 1) rfl rfl dX9_empty_2 (jr_aload_n hm (i := 0) rfl rfl dX9_empty_3 (jr_alen hm (v := (Int32.ofNat n0)) hA0 rfl dX9_empty_4 (jr_icmp_ge hm dX9_empty_5 (by decide) (fun h => jr_drop (jle_drop (jle_drop jle_nil)) (kt h)) (fun h => jr_drop (jle_same (jle_same jle_nil)) (kf h)))))
theorem bk_X9_empty_8 {C : JC} {d cl sl : Nat} {Q : State → Prop} {w : JW} {k0 : Nat} {b0 : Bool} {x1 : Int32} {n0 : Nat} (hm : jok C MX9_empty d cl sl) (hA0 : jIA k0 b0 n0) (h1 : vp_in x1 n0) (k : jW C cl sl Q 2 [jR k0 b0, jI (x1 + 1)] [] (jset w k0 b0 x1.toNatClampNeg 0)) : jW C cl sl Q 8 [jR k0 b0, jI x1] [] w := jr_aload_n hm (i := 0) rfl rfl dX9_empty_8 (jr_iload_n hm (i := 1) rfl rfl dX9_empty_9 (jr_iconst hm (v := 0) (by decide) dX9_empty_10 (jr_iastore hm hA0 h1 dX9_empty_11 (jr_iinc hm (i := 1) (v := x1 + 1) rfl rfl rfl dX9_empty_12 (jr_goto hm dX9_empty_15 (by decide) (jr_drop (jle_same (jle_same jle_nil)) k))))))
theorem bk_X9_empty_18 {C : JC} {d cl sl : Nat} {w : JW} {P : JV → JW → Prop} (hm : jok C MX9_empty d cl sl) (hp : P (jU) w) : jW C cl sl (jQQ C cl sl P) 18 [jU, jU] [] w := jr_return hm rfl dX9_empty_18 hp
theorem dX9_copy_0 : decode cX9_copy 0 = .ok (.iconst 0, 1) := by decide +kernel
theorem dX9_copy_1 : decode cX9_copy 1 = .ok (.istore_n 2, 1) := by decide +kernel
theorem dX9_copy_2 : decode cX9_copy 2 = .ok (.iload_n 2, 1) := by decide +kernel
theorem dX9_copy_3 : decode cX9_copy 3 = .ok (.aload_n 1, 1) := by decide +kernel
theorem dX9_copy_4 : decode cX9_copy 4 = .ok (.arraylength, 1) := by decide +kernel
theorem dX9_copy_5 : decode cX9_copy 5 = .ok (.if_icmp .ge 17, 3) := by decide +kernel
theorem dX9_copy_8 : decode cX9_copy 8 = .ok (.aload_n 1, 1) := by decide +kernel
theorem dX9_copy_9 : decode cX9_copy 9 = .ok (.iload_n 2, 1) := by decide +kernel
theorem dX9_copy_10 : decode cX9_copy 10 = .ok (.aload_n 0, 1) := by decide +kernel
theorem dX9_copy_11 : decode cX9_copy 11 = .ok (.iload_n 2, 1) := by decide +kernel
theorem dX9_copy_12 : decode cX9_copy 12 = .ok (.invokestatic 155, 3) := by decide +kernel
theorem dX9_copy_15 : decode cX9_copy 15 = .ok (.iastore, 1) := by decide +kernel
theorem dX9_copy_16 : decode cX9_copy 16 = .ok (.iinc 2 1, 3) := by decide +kernel
theorem dX9_copy_19 : decode cX9_copy 19 = .ok (.goto (-17), 3) := by decide +kernel
theorem dX9_copy_22 : decode cX9_copy 22 = .ok (.return_, 1) := by decide +kernel
theorem bk_X9_copy_0 {C : JC} {d cl sl : Nat} {Q : State → Prop} {w : JW} {k0 : Nat} {b0 : Bool} {k1 : Nat} {b1 : Bool} (hm : jok C MX9_copy d cl sl) (k : jW C cl sl Q 2 [jR k0 b0, jR k1 b1, jI 0] [] w) : jW C cl sl Q 0 [jR k0 b0, jR k1 b1, jU] [] w := jr_iconst hm (v := 0) (by decide) dX9_copy_0 (jr_istore_n hm (i := 2) rfl (Nat.le_of_ble_eq_true rfl) rfl dX9_copy_1 (jr_drop (jle_same (jle_same (jle_same jle_nil))) k))
theorem bk_X9_copy_2 {C : JC} {d cl sl : Nat} {Q : State → Prop} {w : JW} {k0 : Nat} {b0 : Bool} {k1 : Nat} {b1 : Bool} {x2 : Int32} {n1 : Nat} (hm : jok C MX9_copy d cl sl) (hA1 : jIA k1 b1 n1) (kt : (Int32.ofNat n1) ≤ x2 → jW C cl sl Q 22 [jU, jU, jU] [] w) (kf : ¬ (Int32.ofNat n1) ≤ x2 → jW C cl sl Q 8 [jR k0 b0, jR k1 b1, jI x2] [] w) : jW C cl sl Q 2 [jR k0 b0, jR k1 b1, jI x2] [] w := jr_iload_n hm (i := 2) rfl rfl dX9_copy_2 (jr_aload_n hm (i := 1) rfl rfl dX9_copy_3 (jr_alen hm (v := (Int32.ofNat n1)) hA1 rfl dX9_copy_4 (jr_icmp_ge hm dX9_copy_5 (by decide) (fun h => jr_drop (jle_drop (jle_drop (jle_drop jle_nil))) (kt h)) (fun h => jr_drop (jle_same (jle_same (jle_same jle_nil))) (kf h)))))
theorem bk_X9_copy_8 {C : JC} {d cl sl : Nat} {Q : State → Prop} {w : JW} {k0 : Nat} {b0 : Bool} {k1 : Nat} {b1 : Bool} {x2 : Int32} {d2 : Nat} {r : Int32} {w2 : JW} (hm : jok C MX9_copy d cl sl) (hs : jF MX9_at d2 [jR k0 b0, jI x2] w (jI r) w2) (hd2 : d2 + 1 ≤ d) (k : jW C cl sl Q 15 [jR k0 b0, jR k1 b1, jI x2] [jI r, jI x2, jR k1 b1] w2) : jW C cl sl Q 8 [jR k0 b0, jR k1 b1, jI x2] [] w := jr_aload_n hm (i := 1) rfl rfl dX9_copy_8 (jr_iload_n hm (i := 2) rfl rfl dX9_copy_9 (jr_aload_n hm (i := 0) rfl rfl dX9_copy_10 (jr_iload_n hm (i := 2) rfl rfl dX9_copy_11 (jr_callS (mc := 0) (ms := 0) hm hs hd2 jw_195 jw_162 jw_47 jw_163 jn_X9_at rfl rfl (Nat.le_of_ble_eq_true rfl) rfl dX9_copy_12 (jkF (jr_drop (jle_same (jle_same (jle_same jle_nil))) k))))))
theorem bk_X9_copy_15 {C : JC} {d cl sl : Nat} {Q : State → Prop} {w : JW} {k0 : Nat} {b0 : Bool} {k1 : Nat} {b1 : Bool} {x2 : Int32} {xs0 : Int32} {xs1 : Int32} {ks2 : Nat} {bs2 : Bool} {ns2 : Nat} (hm : jok C MX9_copy d cl sl) (hAs2 : jIA ks2 bs2 ns2) (h1 : vp_in xs1 ns2) (k : jW C cl sl Q 2 [jR k0 b0, jR k1 b1, jI (x2 + 1)] [] (jset w ks2 bs2 xs1.toNatClampNeg xs0)) : jW C cl sl Q 15 [jR k0 b0, jR k1 b1, jI x2] [jI xs0, jI xs1, jR ks2 bs2] w := jr_iastore hm hAs2 h1 dX9_copy_15 (jr_iinc hm (i := 2) (v := x2 + 1) rfl rfl rfl dX9_copy_16 (jr_goto hm dX9_copy_19 (by decide) (jr_drop (jle_same (jle_same (jle_same jle_nil))) k)))
theorem bk_X9_copy_22 {C : JC} {d cl sl : Nat} {w : JW} {P : JV → JW → Prop} (hm : jok C MX9_copy d cl sl) (hp : P (jU) w) : jW C cl sl (jQQ C cl sl P) 22 [jU, jU, jU] [] w := jr_return hm rfl dX9_copy_22 hp
