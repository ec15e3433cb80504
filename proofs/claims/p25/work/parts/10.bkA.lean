theorem dX6_hasRoomFor_0 : decode cX6_hasRoomFor 0 = .ok (.aload_n 0, 1) := by decide +kernel
theorem dX6_hasRoomFor_1 : decode cX6_hasRoomFor 1 = .ok (.getfield 15, 3) := by decide +kernel
theorem dX6_hasRoomFor_4 : decode cX6_hasRoomFor 4 = .ok (.iload_n 1, 1) := by decide +kernel
theorem dX6_hasRoomFor_5 : decode cX6_hasRoomFor 5 = .ok (.iadd, 1) := by decide +kernel
theorem dX6_hasRoomFor_6 : decode cX6_hasRoomFor 6 = .ok (.sipush 2000, 3) := by decide +kernel
theorem dX6_hasRoomFor_9 : decode cX6_hasRoomFor 9 = .ok (.if_icmp .gt 7, 3) := by decide +kernel
theorem dX6_hasRoomFor_12 : decode cX6_hasRoomFor 12 = .ok (.iconst 1, 1) := by decide +kernel
theorem dX6_hasRoomFor_13 : decode cX6_hasRoomFor 13 = .ok (.goto 4, 3) := by decide +kernel
theorem dX6_hasRoomFor_16 : decode cX6_hasRoomFor 16 = .ok (.iconst 0, 1) := by decide +kernel
theorem dX6_hasRoomFor_17 : decode cX6_hasRoomFor 17 = .ok (.ireturn, 1) := by decide +kernel
theorem bk_X6_hasRoomFor_0 {C : JC} {d cl sl : Nat} {Q : State → Prop} {w : JW} {x1 : Int32} (hm : jok C MX6_hasRoomFor d cl sl) (kt : 2000 < (w.1 1 false 1) + x1 → jW C cl sl Q 16 [jU, jU] [] w) (kf : ¬ 2000 < (w.1 1 false 1) + x1 → jW C cl sl Q 12 [jU, jU] [] w) : jW C cl sl Q 0 [jR 1 false, jI x1] [] w := jr_aload_n hm (i := 0) rfl rfl dX6_hasRoomFor_0 (fg_X6_15 hm dX6_hasRoomFor_1 (jr_iload_n hm (i := 1) rfl rfl dX6_hasRoomFor_4 (jr_iadd hm dX6_hasRoomFor_5 (jr_sipush hm (v := 2000) (by decide) dX6_hasRoomFor_6 (jr_icmp_gt hm dX6_hasRoomFor_9 (by decide) (fun h => jr_drop (jle_drop (jle_drop jle_nil)) (kt h)) (fun h => jr_drop (jle_drop (jle_drop jle_nil)) (kf h)))))))
theorem bk_X6_hasRoomFor_12 {C : JC} {d cl sl : Nat} {Q : State → Prop} {w : JW}  (hm : jok C MX6_hasRoomFor d cl sl) (k : jW C cl sl Q 17 [jU, jU] [jI 1] w) : jW C cl sl Q 12 [jU, jU] [] w := jr_iconst hm (v := 1) (by decide) dX6_hasRoomFor_12 (jr_goto hm dX6_hasRoomFor_13 (by decide) (jr_drop (jle_same (jle_same jle_nil)) k))
theorem bk_X6_hasRoomFor_16 {C : JC} {d cl sl : Nat} {Q : State → Prop} {w : JW}  (hm : jok C MX6_hasRoomFor d cl sl) (k : jW C cl sl Q 17 [jU, jU] [jI 0] w) : jW C cl sl Q 16 [jU, jU] [] w := jr_iconst hm (v := 0) (by decide) dX6_hasRoomFor_16 (jr_drop (jle_same (jle_same jle_nil)) k)
theorem bk_X6_hasRoomFor_17 {C : JC} {d cl sl : Nat} {w : JW} {xs0 : Int32} {P : JV → JW → Prop} (hm : jok C MX6_hasRoomFor d cl sl) (hz : narrow .boolean (.int xs0) = .int xs0) (hp : P (jI xs0) w) : jW C cl sl (jQQ C cl sl P) 17 [jU, jU] [jI xs0] w := jr_zreturn hm rfl hz dX6_hasRoomFor_17 hp
theorem dX6_append_0 : decode cX6_append 0 = .ok (.bipush 24, 2) := by decide +kernel
theorem dX6_append_2 : decode cX6_append 2 = .ok (.istore_n 2, 1) := by decide +kernel
theorem dX6_append_3 : decode cX6_append 3 = .ok (.iload_n 2, 1) := by decide +kernel
theorem dX6_append_4 : decode cX6_append 4 = .ok (.ifCond .lt 51, 3) := by decide +kernel
theorem dX6_append_7 : decode cX6_append 7 = .ok (.aload_n 0, 1) := by decide +kernel
theorem dX6_append_8 : decode cX6_append 8 = .ok (.getfield 15, 3) := by decide +kernel
theorem dX6_append_11 : decode cX6_append 11 = .ok (.ifCond .lt 38, 3) := by decide +kernel
theorem dX6_append_14 : decode cX6_append 14 = .ok (.aload_n 0, 1) := by decide +kernel
theorem dX6_append_15 : decode cX6_append 15 = .ok (.getfield 15, 3) := by decide +kernel
theorem dX6_append_18 : decode cX6_append 18 = .ok (.aload_n 0, 1) := by decide +kernel
theorem dX6_append_19 : decode cX6_append 19 = .ok (.getfield 9, 3) := by decide +kernel
theorem dX6_append_22 : decode cX6_append 22 = .ok (.arraylength, 1) := by decide +kernel
theorem dX6_append_23 : decode cX6_append 23 = .ok (.if_icmp .ge 26, 3) := by decide +kernel
theorem dX6_append_26 : decode cX6_append 26 = .ok (.aload_n 0, 1) := by decide +kernel
theorem dX6_append_27 : decode cX6_append 27 = .ok (.getfield 9, 3) := by decide +kernel
theorem dX6_append_30 : decode cX6_append 30 = .ok (.aload_n 0, 1) := by decide +kernel
theorem dX6_append_31 : decode cX6_append 31 = .ok (.getfield 15, 3) := by decide +kernel
theorem dX6_append_34 : decode cX6_append 34 = .ok (.iload_n 1, 1) := by decide +kernel
theorem dX6_append_35 : decode cX6_append 35 = .ok (.iload_n 2, 1) := by decide +kernel
theorem dX6_append_36 : decode cX6_append 36 = .ok (.ishr, 1) := by decide +kernel
theorem dX6_append_37 : decode cX6_append 37 = .ok (.i2b, 1) := by decide +kernel
theorem dX6_append_38 : decode cX6_append 38 = .ok (.bastore, 1) := by decide +kernel
theorem dX6_append_39 : decode cX6_append 39 = .ok (.aload_n 0, 1) := by decide +kernel
theorem dX6_append_40 : decode cX6_append 40 = .ok (.dup, 1) := by decide +kernel
theorem dX6_append_41 : decode cX6_append 41 = .ok (.getfield 15, 3) := by decide +kernel
theorem dX6_append_44 : decode cX6_append 44 = .ok (.iconst 1, 1) := by decide +kernel
theorem dX6_append_45 : decode cX6_append 45 = .ok (.iadd, 1) := by decide +kernel
theorem dX6_append_46 : decode cX6_append 46 = .ok (.putfield 15, 3) := by decide +kernel
theorem dX6_append_49 : decode cX6_append 49 = .ok (.iinc 2 (-8), 3) := by decide +kernel
theorem dX6_append_52 : decode cX6_append 52 = .ok (.goto (-49), 3) := by decide +kernel
theorem dX6_append_55 : decode cX6_append 55 = .ok (.return_, 1) := by decide +kernel
theorem bk_X6_append_0 {C : JC} {d cl sl : Nat} {Q : State → Prop} {w : JW} {x1 : Int32} (hm : jok C MX6_append d cl sl) (k : jW C cl sl Q 3 [jR 1 false, jI x1, jI 24] [] w) : jW C cl sl Q 0 [jR 1 false, jI x1, jU] [] w := jr_bipush hm (v := 24) (by decide) dX6_append_0 (jr_istore_n hm (i := 2) rfl (Nat.le_of_ble_eq_true rfl) rfl dX6_append_2 (jr_drop (jle_same (jle_same (jle_same jle_nil))) k))
theorem bk_X6_append_3 {C : JC} {d cl sl : Nat} {Q : State → Prop} {w : JW} {x1 : Int32} {x2 : Int32} (hm : jok C MX6_append d cl sl) (kt : x2 < 0 → jW C cl sl Q 55 [jU, jU, jU] [] w) (kf : ¬ x2 < 0 → jW C cl sl Q 7 [jR 1 false, jI x1, jI x2] [] w) : jW C cl sl Q 3 [jR 1 false, jI x1, jI x2] [] w := jr_iload_n hm (i := 2) rfl rfl dX6_append_3 (jr_if_lt hm dX6_append_4 (by decide) (fun h => jr_drop (jle_drop (jle_drop (jle_drop jle_nil))) (kt h)) (fun h => jr_drop (jle_same (jle_same (jle_same jle_nil))) (kf h)))
theorem bk_X6_append_7 {C : JC} {d cl sl : Nat} {Q : State → Prop} {w : JW} {x1 : Int32} {x2 : Int32} (hm : jok C MX6_append d cl sl) (kt : (w.1 1 false 1) < 0 → jW C cl sl Q 49 [jR 1 false, jI x1, jI x2] [] w) (kf : ¬ (w.1 1 false 1) < 0 → jW C cl sl Q 14 [jR 1 false, jI x1, jI x2] [] w) : jW C cl sl Q 7 [jR 1 false, jI x1, jI x2] [] w := jr_aload_n hm (i := 0) rfl rfl dX6_append_7 (fg_X6_15 hm dX6_append_8 (jr_if_lt hm dX6_append_11 (by decide) (fun h => jr_drop (jle_same (jle_same (jle_same jle_nil))) (kt h)) (fun h => jr_drop (jle_same (jle_same (jle_same jle_nil))) (kf h))))
theorem bk_X6_append_14 {C : JC} {d cl sl : Nat} {Q : State → Prop} {w : JW} {x1 : Int32} {x2 : Int32} (hm : jok C MX6_append d cl sl) (kt : 2000 ≤ (w.1 1 false 1) → jW C cl sl Q 49 [jR 1 false, jI x1, jI x2] [] w) (kf : ¬ 2000 ≤ (w.1 1 false 1) → jW C cl sl Q 26 [jR 1 false, jI x1, jI x2] [] w) : jW C cl sl Q 14 [jR 1 false, jI x1, jI x2] [] w := jr_aload_n hm (i := 0) rfl rfl dX6_append_14 (fg_X6_15 hm dX6_append_15 (jr_aload_n hm (i := 0) rfl rfl dX6_append_18 (fg_X6_9 hm dX6_append_19 (jr_alenB hm (v := 2000) ja_2 (by decide) dX6_append_22 (jr_icmp_ge hm dX6_append_23 (by decide) (fun h => jr_drop (jle_same (jle_same (jle_same jle_nil))) (kt h)) (fun h => jr_drop (jle_same (jle_same (jle_same jle_nil))) (kf h)))))))
theorem bk_X6_append_26 {C : JC} {d cl sl : Nat} {Q : State → Prop} {w : JW} {x1 : Int32} {x2 : Int32} (hm : jok C MX6_append d cl sl) (h1 : vp_in (w.1 1 false 1) 2000) (k : jW C cl sl Q 49 [jR 1 false, jI x1, jI x2] [] (jset (jset w 2 false (w.1 1 false 1).toNatClampNeg (vp_nar .byte ((x1 >>> (x2 &&& 31)).toInt8.toInt32))) 1 false 1 (((jset w 2 false (w.1 1 false 1).toNatClampNeg (vp_nar .byte ((x1 >>> (x2 &&& 31)).toInt8.toInt32))).1 1 false 1) + 1))) : jW C cl sl Q 26 [jR 1 false, jI x1, jI x2] [] w := jr_aload_n hm (i := 0) rfl rfl dX6_append_26 (fg_X6_9 hm dX6_append_27 (jr_aload_n hm (i := 0) rfl rfl dX6_append_30 (fg_X6_15 hm dX6_append_31 (jr_iload_n hm (i := 1) rfl rfl dX6_append_34 (jr_iload_n hm (i := 2) rfl rfl dX6_append_35 (jr_ishr hm dX6_append_36 (jr_i2b hm dX6_append_37 (jr_bastore hm ja_2 h1 dX6_append_38 (jr_aload_n hm (i := 0) rfl rfl dX6_append_39 (jr_dupR hm dX6_append_40 (fg_X6_15 hm dX6_append_41 (jr_iconst hm (v := 1) (by decide) dX6_append_44 (jr_iadd hm dX6_append_45 (fp_X6_15 hm dX6_append_46 (jr_drop (jle_same (jle_same (jle_same jle_nil))) k)))))))))))))))
theorem bk_X6_append_49 {C : JC} {d cl sl : Nat} {Q : State → Prop} {w : JW} {x1 : Int32} {x2 : Int32} (hm : jok C MX6_append d cl sl) (k : jW C cl sl Q 3 [jR 1 false, jI x1, jI (x2 + (-8))] [] w) : jW C cl sl Q 49 [jR 1 false, jI x1, jI x2] [] w := jr_iinc hm (i := 2) (v := x2 + (-8)) rfl (congrArg (fun z => x2 + z) (show Int32.ofInt (-8) = (-8) by decide)) rfl dX6_append_49 (jr_goto hm dX6_append_52 (by decide) (jr_drop (jle_same (jle_same (jle_same jle_nil))) k))
theorem bk_X6_append_55 {C : JC} {d cl sl : Nat} {w : JW} {P : JV → JW → Prop} (hm : jok C MX6_append d cl sl) (hp : P (jU) w) : jW C cl sl (jQQ C cl sl P) 55 [jU, jU, jU] [] w := jr_return hm rfl dX6_append_55 hp
theorem dX6_shorten_0 : decode cX6_shorten 0 = .ok (.aload_n 0, 1) := by decide +kernel
theorem dX6_shorten_1 : decode cX6_shorten 1 = .ok (.iload_n 1, 1) := by decide +kernel
theorem dX6_shorten_2 : decode cX6_shorten 2 = .ok (.putfield 15, 3) := by decide +kernel
theorem dX6_shorten_5 : decode cX6_shorten 5 = .ok (.return_, 1) := by decide +kernel
theorem bk_X6_shorten_0 {C : JC} {d cl sl : Nat} {w : JW} {x1 : Int32} {P : JV → JW → Prop} (hm : jok C MX6_shorten d cl sl) (hp : P (jU) (jset w 1 false 1 x1)) : jW C cl sl (jQQ C cl sl P) 0 [jR 1 false, jI x1] [] w := jr_aload_n hm (i := 0) rfl rfl dX6_shorten_0 (jr_iload_n hm (i := 1) rfl rfl dX6_shorten_1 (fp_X6_15 hm dX6_shorten_2 (jr_return hm rfl dX6_shorten_5 hp)))
theorem dX6_byteAt_0 : decode cX6_byteAt 0 = .ok (.iload_n 1, 1) := by decide +kernel
theorem dX6_byteAt_1 : decode cX6_byteAt 1 = .ok (.ifCond .lt 33, 3) := by decide +kernel
theorem dX6_byteAt_4 : decode cX6_byteAt 4 = .ok (.iload_n 1, 1) := by decide +kernel
theorem dX6_byteAt_5 : decode cX6_byteAt 5 = .ok (.aload_n 0, 1) := by decide +kernel
theorem dX6_byteAt_6 : decode cX6_byteAt 6 = .ok (.getfield 15, 3) := by decide +kernel
theorem dX6_byteAt_9 : decode cX6_byteAt 9 = .ok (.if_icmp .ge 25, 3) := by decide +kernel
theorem dX6_byteAt_12 : decode cX6_byteAt 12 = .ok (.iload_n 1, 1) := by decide +kernel
theorem dX6_byteAt_13 : decode cX6_byteAt 13 = .ok (.aload_n 0, 1) := by decide +kernel
theorem dX6_byteAt_14 : decode cX6_byteAt 14 = .ok (.getfield 9, 3) := by decide +kernel
theorem dX6_byteAt_17 : decode cX6_byteAt 17 = .ok (.arraylength, 1) := by decide +kernel
theorem dX6_byteAt_18 : decode cX6_byteAt 18 = .ok (.if_icmp .ge 16, 3) := by decide +kernel
theorem dX6_byteAt_21 : decode cX6_byteAt 21 = .ok (.aload_n 0, 1) := by decide +kernel
theorem dX6_byteAt_22 : decode cX6_byteAt 22 = .ok (.getfield 9, 3) := by decide +kernel
theorem dX6_byteAt_25 : decode cX6_byteAt 25 = .ok (.iload_n 1, 1) := by decide +kernel
theorem dX6_byteAt_26 : decode cX6_byteAt 26 = .ok (.baload, 1) := by decide +kernel
theorem dX6_byteAt_27 : decode cX6_byteAt 27 = .ok (.sipush 255, 3) := by decide +kernel
theorem dX6_byteAt_30 : decode cX6_byteAt 30 = .ok (.iand, 1) := by decide +kernel
theorem dX6_byteAt_31 : decode cX6_byteAt 31 = .ok (.goto 4, 3) := by decide +kernel
theorem dX6_byteAt_34 : decode cX6_byteAt 34 = .ok (.iconst (-1), 1) := by decide +kernel
theorem dX6_byteAt_35 : decode cX6_byteAt 35 = .ok (.ireturn, 1) := by decide +kernel
theorem bk_X6_byteAt_0 {C : JC} {d cl sl : Nat} {Q : State → Prop} {w : JW} {x1 : Int32} (hm : jok C MX6_byteAt d cl sl) (kt : x1 < 0 → jW C cl sl Q 34 [jU, jU] [] w) (kf : ¬ x1 < 0 → jW C cl sl Q 4 [jR 1 false, jI x1] [] w) : jW C cl sl Q 0 [jR 1 false, jI x1] [] w := jr_iload_n hm (i := 1) rfl rfl dX6_byteAt_0 (jr_if_lt hm dX6_byteAt_1 (by decide) (fun h => jr_drop (jle_drop (jle_drop jle_nil)) (kt h)) (fun h => jr_drop (jle_same (jle_same jle_nil)) (kf h)))
theorem bk_X6_byteAt_4 {C : JC} {d cl sl : Nat} {Q : State → Prop} {w : JW} {x1 : Int32} (hm : jok C MX6_byteAt d cl sl) (kt : (w.1 1 false 1) ≤ x1 → jW C cl sl Q 34 [jU, jU] [] w) (kf : ¬ (w.1 1 false 1) ≤ x1 → jW C cl sl Q 12 [jR 1 false, jI x1] [] w) : jW C cl sl Q 4 [jR 1 false, jI x1] [] w := jr_iload_n hm (i := 1) rfl rfl dX6_byteAt_4 (jr_aload_n hm (i := 0) rfl rfl dX6_byteAt_5 (fg_X6_15 hm dX6_byteAt_6 (jr_icmp_ge hm dX6_byteAt_9 (by decide) (fun h => jr_drop (jle_drop (jle_drop jle_nil)) (kt h)) (fun h => jr_drop (jle_same (jle_same jle_nil)) (kf h)))))
theorem bk_X6_byteAt_12 {C : JC} {d cl sl : Nat} {Q : State → Prop} {w : JW} {x1 : Int32} (hm : jok C MX6_byteAt d cl sl) (kt : 2000 ≤ x1 → jW C cl sl Q 34 [jU, jU] [] w) (kf : ¬ 2000 ≤ x1 → jW C cl sl Q 21 [jR 1 false, jI x1] [] w) : jW C cl sl Q 12 [jR 1 false, jI x1] [] w := jr_iload_n hm (i := 1) rfl rfl dX6_byteAt_12 (jr_aload_n hm (i := 0) rfl rfl dX6_byteAt_13 (fg_X6_9 hm dX6_byteAt_14 (jr_alenB hm (v := 2000) ja_2 (by decide) dX6_byteAt_17 (jr_icmp_ge hm dX6_byteAt_18 (by decide) (fun h => jr_drop (jle_drop (jle_drop jle_nil)) (kt h)) (fun h => jr_drop (jle_same (jle_same jle_nil)) (kf h))))))
theorem bk_X6_byteAt_21 {C : JC} {d cl sl : Nat} {Q : State → Prop} {w : JW} {x1 : Int32} (hm : jok C MX6_byteAt d cl sl) (h1 : vp_in x1 2000) (k : jW C cl sl Q 35 [jU, jU] [jI ((w.1 2 false x1.toNatClampNeg) &&& 255)] w) : jW C cl sl Q 21 [jR 1 false, jI x1] [] w := jr_aload_n hm (i := 0) rfl rfl dX6_byteAt_21 (fg_X6_9 hm dX6_byteAt_22 (jr_iload_n hm (i := 1) rfl rfl dX6_byteAt_25 (jr_baload hm ja_2 h1 dX6_byteAt_26 (jr_sipush hm (v := 255) (by decide) dX6_byteAt_27 (jr_iand hm dX6_byteAt_30 (jr_goto hm dX6_byteAt_31 (by decide) (jr_drop (jle_drop (jle_drop jle_nil)) k)))))))
theorem bk_X6_byteAt_34 {C : JC} {d cl sl : Nat} {Q : State → Prop} {w : JW}  (hm : jok C MX6_byteAt d cl sl) (k : jW C cl sl Q 35 [jU, jU] [jI (-1)] w) : jW C cl sl Q 34 [jU, jU] [] w := jr_iconst hm (v := (-1)) (by decide) dX6_byteAt_34 (jr_drop (jle_same (jle_same jle_nil)) k)
theorem bk_X6_byteAt_35 {C : JC} {d cl sl : Nat} {w : JW} {xs0 : Int32} {P : JV → JW → Prop} (hm : jok C MX6_byteAt d cl sl) (hp : P (jI xs0) w) : jW C cl sl (jQQ C cl sl P) 35 [jU, jU] [jI xs0] w := jr_ireturn hm rfl dX6_byteAt_35 hp
theorem dX2_begin_0 : decode cX2_begin 0 = .ok (.aload_n 0, 1) := by decide +kernel
theorem dX2_begin_1 : decode cX2_begin 1 = .ok (.iconst 0, 1) := by decide +kernel
theorem dX2_begin_2 : decode cX2_begin 2 = .ok (.putfield 30, 3) := by decide +kernel
theorem dX2_begin_5 : decode cX2_begin 5 = .ok (.aload_n 0, 1) := by decide +kernel
theorem dX2_begin_6 : decode cX2_begin 6 = .ok (.iconst 0, 1) := by decide +kernel
theorem dX2_begin_7 : decode cX2_begin 7 = .ok (.putfield 34, 3) := by decide +kernel
theorem dX2_begin_10 : decode cX2_begin 10 = .ok (.return_, 1) := by decide +kernel
theorem bk_X2_begin_0 {C : JC} {d cl sl : Nat} {w : JW} {b0 : Bool} {P : JV → JW → Prop} (hm : jok C MX2_begin d cl sl) (hp : P (jU) (jset (jset w 34 b0 6 0) 34 b0 7 0)) : jW C cl sl (jQQ C cl sl P) 0 [jR 34 b0] [] w := jr_aload_n hm (i := 0) rfl rfl dX2_begin_0 (jr_iconst hm (v := 0) (by decide) dX2_begin_1 (fp_X2_30 hm dX2_begin_2 (jr_aload_n hm (i := 0) rfl rfl dX2_begin_5 (jr_iconst hm (v := 0) (by decide) dX2_begin_6 (fp_X2_34 hm dX2_begin_7 (jr_return hm rfl dX2_begin_10 hp))))))
theorem dX2_beginOrder_0 : decode cX2_beginOrder 0 = .ok (.aload_n 0, 1) := by decide +kernel
theorem dX2_beginOrder_1 : decode cX2_beginOrder 1 = .ok (.getfield 9, 3) := by decide +kernel
theorem dX2_beginOrder_4 : decode cX2_beginOrder 4 = .ok (.aload_n 0, 1) := by decide +kernel
theorem dX2_beginOrder_5 : decode cX2_beginOrder 5 = .ok (.getfield 30, 3) := by decide +kernel
theorem dX2_beginOrder_8 : decode cX2_beginOrder 8 = .ok (.iload_n 1, 1) := by decide +kernel
theorem dX2_beginOrder_9 : decode cX2_beginOrder 9 = .ok (.invokestatic 37, 3) := by decide +kernel
theorem dX2_beginOrder_12 : decode cX2_beginOrder 12 = .ok (.aload_n 0, 1) := by decide +kernel
theorem dX2_beginOrder_13 : decode cX2_beginOrder 13 = .ok (.getfield 15, 3) := by decide +kernel
theorem dX2_beginOrder_16 : decode cX2_beginOrder 16 = .ok (.aload_n 0, 1) := by decide +kernel
theorem dX2_beginOrder_17 : decode cX2_beginOrder 17 = .ok (.getfield 30, 3) := by decide +kernel
theorem dX2_beginOrder_20 : decode cX2_beginOrder 20 = .ok (.iload_n 2, 1) := by decide +kernel
theorem dX2_beginOrder_21 : decode cX2_beginOrder 21 = .ok (.invokestatic 37, 3) := by decide +kernel
theorem dX2_beginOrder_24 : decode cX2_beginOrder 24 = .ok (.aload_n 0, 1) := by decide +kernel
theorem dX2_beginOrder_25 : decode cX2_beginOrder 25 = .ok (.getfield 18, 3) := by decide +kernel
theorem dX2_beginOrder_28 : decode cX2_beginOrder 28 = .ok (.aload_n 0, 1) := by decide +kernel
theorem dX2_beginOrder_29 : decode cX2_beginOrder 29 = .ok (.getfield 30, 3) := by decide +kernel
theorem dX2_beginOrder_32 : decode cX2_beginOrder 32 = .ok (.aload_n 0, 1) := by decide +kernel
theorem dX2_beginOrder_33 : decode cX2_beginOrder 33 = .ok (.getfield 34, 3) := by decide +kernel
theorem dX2_beginOrder_36 : decode cX2_beginOrder 36 = .ok (.invokestatic 37, 3) := by decide +kernel
theorem dX2_beginOrder_39 : decode cX2_beginOrder 39 = .ok (.return_, 1) := by decide +kernel
theorem bk_X2_beginOrder_0 {C : JC} {d cl sl : Nat} {Q : State → Prop} {w : JW} {b0 : Bool} {x1 : Int32} {x2 : Int32} {d2 : Nat} {w2 : JW} (hm : jok C MX2_beginOrder d cl sl) (hs : jF MX9_put d2 [jR 35 b0, jI (w.1 34 b0 6), jI x1] w (jU) w2) (hd2 : d2 + 1 ≤ d) (k : jW C cl sl Q 12 [jR 34 b0, jU, jI x2] [] w2) : jW C cl sl Q 0 [jR 34 b0, jI x1, jI x2] [] w := jr_aload_n hm (i := 0) rfl rfl dX2_beginOrder_0 (fg_X2_9 hm dX2_beginOrder_1 (jr_aload_n hm (i := 0) rfl rfl dX2_beginOrder_4 (fg_X2_30 hm dX2_beginOrder_5 (jr_iload_n hm (i := 1) rfl rfl dX2_beginOrder_8 (jr_callSN (mc := 0) (ms := 0) hm hs hd2 jw_1317 jw_225 jw_47 jw_226 jn_X9_put rfl rfl (Nat.le_of_ble_eq_true rfl) rfl dX2_beginOrder_9 (jkF (jr_drop (jle_same (jle_drop (jle_same jle_nil))) k)))))))
theorem bk_X2_beginOrder_12 {C : JC} {d cl sl : Nat} {Q : State → Prop} {w : JW} {b0 : Bool} {x2 : Int32} {d2 : Nat} {w2 : JW} (hm : jok C MX2_beginOrder d cl sl) (hs : jF MX9_put d2 [jR 36 b0, jI (w.1 34 b0 6), jI x2] w (jU) w2) (hd2 : d2 + 1 ≤ d) (k : jW C cl sl Q 24 [jR 34 b0, jU, jU] [] w2) : jW C cl sl Q 12 [jR 34 b0, jU, jI x2] [] w := jr_aload_n hm (i := 0) rfl rfl dX2_beginOrder_12 (fg_X2_15 hm dX2_beginOrder_13 (jr_aload_n hm (i := 0) rfl rfl dX2_beginOrder_16 (fg_X2_30 hm dX2_beginOrder_17 (jr_iload_n hm (i := 2) rfl rfl dX2_beginOrder_20 (jr_callSN (mc := 0) (ms := 0) hm hs hd2 jw_1317 jw_225 jw_47 jw_226 jn_X9_put rfl rfl (Nat.le_of_ble_eq_true rfl) rfl dX2_beginOrder_21 (jkF (jr_drop (jle_same (jle_same (jle_drop jle_nil))) k)))))))
theorem bk_X2_beginOrder_24 {C : JC} {d cl sl : Nat} {Q : State → Prop} {w : JW} {b0 : Bool} {d2 : Nat} {w2 : JW} (hm : jok C MX2_beginOrder d cl sl) (hs : jF MX9_put d2 [jR 37 b0, jI (w.1 34 b0 6), jI (w.1 34 b0 7)] w (jU) w2) (hd2 : d2 + 1 ≤ d) (k : jW C cl sl Q 39 [jU, jU, jU] [] w2) : jW C cl sl Q 24 [jR 34 b0, jU, jU] [] w := jr_aload_n hm (i := 0) rfl rfl dX2_beginOrder_24 (fg_X2_18 hm dX2_beginOrder_25 (jr_aload_n hm (i := 0) rfl rfl dX2_beginOrder_28 (fg_X2_30 hm dX2_beginOrder_29 (jr_aload_n hm (i := 0) rfl rfl dX2_beginOrder_32 (fg_X2_34 hm dX2_beginOrder_33 (jr_callSN (mc := 0) (ms := 0) hm hs hd2 jw_1317 jw_225 jw_47 jw_226 jn_X9_put rfl rfl (Nat.le_of_ble_eq_true rfl) rfl dX2_beginOrder_36 (jkF (jr_drop (jle_drop (jle_same (jle_same jle_nil))) k))))))))
theorem bk_X2_beginOrder_39 {C : JC} {d cl sl : Nat} {w : JW} {P : JV → JW → Prop} (hm : jok C MX2_beginOrder d cl sl) (hp : P (jU) w) : jW C cl sl (jQQ C cl sl P) 39 [jU, jU, jU] [] w := jr_return hm rfl dX2_beginOrder_39 hp
theorem dX2_endOrder_0 : decode cX2_endOrder 0 = .ok (.aload_n 0, 1) := by decide +kernel
theorem dX2_endOrder_1 : decode cX2_endOrder 1 = .ok (.getfield 21, 3) := by decide +kernel
theorem dX2_endOrder_4 : decode cX2_endOrder 4 = .ok (.aload_n 0, 1) := by decide +kernel
theorem dX2_endOrder_5 : decode cX2_endOrder 5 = .ok (.getfield 30, 3) := by decide +kernel
theorem dX2_endOrder_8 : decode cX2_endOrder 8 = .ok (.aload_n 0, 1) := by decide +kernel
theorem dX2_endOrder_9 : decode cX2_endOrder 9 = .ok (.getfield 34, 3) := by decide +kernel
theorem dX2_endOrder_12 : decode cX2_endOrder 12 = .ok (.invokestatic 37, 3) := by decide +kernel
theorem dX2_endOrder_15 : decode cX2_endOrder 15 = .ok (.aload_n 0, 1) := by decide +kernel
theorem dX2_endOrder_16 : decode cX2_endOrder 16 = .ok (.dup, 1) := by decide +kernel
theorem dX2_endOrder_17 : decode cX2_endOrder 17 = .ok (.getfield 30, 3) := by decide +kernel
theorem dX2_endOrder_20 : decode cX2_endOrder 20 = .ok (.iconst 1, 1) := by decide +kernel
theorem dX2_endOrder_21 : decode cX2_endOrder 21 = .ok (.iadd, 1) := by decide +kernel
theorem dX2_endOrder_22 : decode cX2_endOrder 22 = .ok (.putfield 30, 3) := by decide +kernel
theorem dX2_endOrder_25 : decode cX2_endOrder 25 = .ok (.return_, 1) := by decide +kernel
theorem bk_X2_endOrder_0 {C : JC} {d cl sl : Nat} {Q : State → Prop} {w : JW} {b0 : Bool} {d2 : Nat} {w2 : JW} (hm : jok C MX2_endOrder d cl sl) (hs : jF MX9_put d2 [jR 38 b0, jI (w.1 34 b0 6), jI (w.1 34 b0 7)] w (jU) w2) (hd2 : d2 + 1 ≤ d) (k : jW C cl sl Q 15 [jR 34 b0] [] w2) : jW C cl sl Q 0 [jR 34 b0] [] w := jr_aload_n hm (i := 0) rfl rfl dX2_endOrder_0 (fg_X2_21 hm dX2_endOrder_1 (jr_aload_n hm (i := 0) rfl rfl dX2_endOrder_4 (fg_X2_30 hm dX2_endOrder_5 (jr_aload_n hm (i := 0) rfl rfl dX2_endOrder_8 (fg_X2_34 hm dX2_endOrder_9 (jr_callSN (mc := 0) (ms := 0) hm hs hd2 jw_1317 jw_225 jw_47 jw_226 jn_X9_put rfl rfl (Nat.le_of_ble_eq_true rfl) rfl dX2_endOrder_12 (jkF (jr_drop (jle_same jle_nil) k))))))))
theorem bk_X2_endOrder_15 {C : JC} {d cl sl : Nat} {w : JW} {b0 : Bool} {P : JV → JW → Prop} (hm : jok C MX2_endOrder d cl sl) (hp : P (jU) (jset w 34 b0 6 ((w.1 34 b0 6) + 1))) : jW C cl sl (jQQ C cl sl P) 15 [jR 34 b0] [] w := jr_aload_n hm (i := 0) rfl rfl dX2_endOrder_15 (jr_dupR hm dX2_endOrder_16 (fg_X2_30 hm dX2_endOrder_17 (jr_iconst hm (v := 1) (by decide) dX2_endOrder_20 (jr_iadd hm dX2_endOrder_21 (fp_X2_30 hm dX2_endOrder_22 (jr_return hm rfl dX2_endOrder_25 hp))))))
theorem dX2_addStep_0 : decode cX2_addStep 0 = .ok (.aload_n 0, 1) := by decide +kernel
theorem dX2_addStep_1 : decode cX2_addStep 1 = .ok (.getfield 34, 3) := by decide +kernel
theorem dX2_addStep_4 : decode cX2_addStep 4 = .ok (.ifCond .lt 57, 3) := by decide +kernel
theorem dX2_addStep_7 : decode cX2_addStep 7 = .ok (.aload_n 0, 1) := by decide +kernel
theorem dX2_addStep_8 : decode cX2_addStep 8 = .ok (.getfield 34, 3) := by decide +kernel
theorem dX2_addStep_11 : decode cX2_addStep 11 = .ok (.aload_n 0, 1) := by decide +kernel
theorem dX2_addStep_12 : decode cX2_addStep 12 = .ok (.getfield 24, 3) := by decide +kernel
theorem dX2_addStep_15 : decode cX2_addStep 15 = .ok (.arraylength, 1) := by decide +kernel
theorem dX2_addStep_16 : decode cX2_addStep 16 = .ok (.if_icmp .ge 45, 3) := by decide +kernel
theorem dX2_addStep_19 : decode cX2_addStep 19 = .ok (.aload_n 0, 1) := by decide +kernel
theorem dX2_addStep_20 : decode cX2_addStep 20 = .ok (.getfield 34, 3) := by decide +kernel
theorem dX2_addStep_23 : decode cX2_addStep 23 = .ok (.aload_n 0, 1) := by decide +kernel
theorem dX2_addStep_24 : decode cX2_addStep 24 = .ok (.getfield 27, 3) := by decide +kernel
theorem dX2_addStep_27 : decode cX2_addStep 27 = .ok (.arraylength, 1) := by decide +kernel
theorem dX2_addStep_28 : decode cX2_addStep 28 = .ok (.if_icmp .ge 33, 3) := by decide +kernel
theorem dX2_addStep_31 : decode cX2_addStep 31 = .ok (.aload_n 0, 1) := by decide +kernel
theorem dX2_addStep_32 : decode cX2_addStep 32 = .ok (.getfield 24, 3) := by decide +kernel
theorem dX2_addStep_35 : decode cX2_addStep 35 = .ok (.aload_n 0, 1) := by decide +kernel
theorem dX2_addStep_36 : decode cX2_addStep 36 = .ok (.getfield 34, 3) := by decide +kernel
theorem dX2_addStep_39 : decode cX2_addStep 39 = .ok (.iload_n 1, 1) := by decide +kernel
theorem dX2_addStep_40 : decode cX2_addStep 40 = .ok (.iastore, 1) := by decide +kernel
theorem dX2_addStep_41 : decode cX2_addStep 41 = .ok (.aload_n 0, 1) := by decide +kernel
theorem dX2_addStep_42 : decode cX2_addStep 42 = .ok (.getfield 27, 3) := by decide +kernel
theorem dX2_addStep_45 : decode cX2_addStep 45 = .ok (.aload_n 0, 1) := by decide +kernel
theorem dX2_addStep_46 : decode cX2_addStep 46 = .ok (.getfield 34, 3) := by decide +kernel
theorem dX2_addStep_49 : decode cX2_addStep 49 = .ok (.iload_n 2, 1) := by decide +kernel
theorem dX2_addStep_50 : decode cX2_addStep 50 = .ok (.iastore, 1) := by decide +kernel
theorem dX2_addStep_51 : decode cX2_addStep 51 = .ok (.aload_n 0, 1) := by decide +kernel
theorem dX2_addStep_52 : decode cX2_addStep 52 = .ok (.dup, 1) := by decide +kernel
theorem dX2_addStep_53 : decode cX2_addStep 53 = .ok (.getfield 34, 3) := by decide +kernel
theorem dX2_addStep_56 : decode cX2_addStep 56 = .ok (.iconst 1, 1) := by decide +kernel
theorem dX2_addStep_57 : decode cX2_addStep 57 = .ok (.iadd, 1) := by decide +kernel
theorem dX2_addStep_58 : decode cX2_addStep 58 = .ok (.putfield 34, 3) := by decide +kernel
theorem dX2_addStep_61 : decode cX2_addStep 61 = .ok (.return_, 1) := by decide +kernel
theorem bk_X2_addStep_0 {C : JC} {d cl sl : Nat} {Q : State → Prop} {w : JW} {b0 : Bool} {x1 : Int32} {x2 : Int32} (hm : jok C MX2_addStep d cl sl) (kt : (w.1 34 b0 7) < 0 → jW C cl sl Q 61 [jU, jU, jU] [] w) (kf : ¬ (w.1 34 b0 7) < 0 → jW C cl sl Q 7 [jR 34 b0, jI x1, jI x2] [] w) : jW C cl sl Q 0 [jR 34 b0, jI x1, jI x2] [] w := jr_aload_n hm (i := 0) rfl rfl dX2_addStep_0 (fg_X2_34 hm dX2_addStep_1 (jr_if_lt hm dX2_addStep_4 (by decide) (fun h => jr_drop (jle_drop (jle_drop (jle_drop jle_nil))) (kt h)) (fun h => jr_drop (jle_same (jle_same (jle_same jle_nil))) (kf h))))
theorem bk_X2_addStep_7 {C : JC} {d cl sl : Nat} {Q : State → Prop} {w : JW} {b0 : Bool} {x1 : Int32} {x2 : Int32} (hm : jok C MX2_addStep d cl sl) (kt : 400 ≤ (w.1 34 b0 7) → jW C cl sl Q 61 [jU, jU, jU] [] w) (kf : ¬ 400 ≤ (w.1 34 b0 7) → jW C cl sl Q 19 [jR 34 b0, jI x1, jI x2] [] w) : jW C cl sl Q 7 [jR 34 b0, jI x1, jI x2] [] w := jr_aload_n hm (i := 0) rfl rfl dX2_addStep_7 (fg_X2_34 hm dX2_addStep_8 (jr_aload_n hm (i := 0) rfl rfl dX2_addStep_11 (fg_X2_24 hm dX2_addStep_12 (jr_alen hm (v := 400) (ja_39 b0) (by decide) dX2_addStep_15 (jr_icmp_ge hm dX2_addStep_16 (by decide) (fun h => jr_drop (jle_drop (jle_drop (jle_drop jle_nil))) (kt h)) (fun h => jr_drop (jle_same (jle_same (jle_same jle_nil))) (kf h)))))))
theorem bk_X2_addStep_19 {C : JC} {d cl sl : Nat} {Q : State → Prop} {w : JW} {b0 : Bool} {x1 : Int32} {x2 : Int32} (hm : jok C MX2_addStep d cl sl) (kt : 400 ≤ (w.1 34 b0 7) → jW C cl sl Q 61 [jU, jU, jU] [] w) (kf : ¬ 400 ≤ (w.1 34 b0 7) → jW C cl sl Q 31 [jR 34 b0, jI x1, jI x2] [] w) : jW C cl sl Q 19 [jR 34 b0, jI x1, jI x2] [] w := jr_aload_n hm (i := 0) rfl rfl dX2_addStep_19 (fg_X2_34 hm dX2_addStep_20 (jr_aload_n hm (i := 0) rfl rfl dX2_addStep_23 (fg_X2_27 hm dX2_addStep_24 (jr_alen hm (v := 400) (ja_40 b0) (by decide) dX2_addStep_27 (jr_icmp_ge hm dX2_addStep_28 (by decide) (fun h => jr_drop (jle_drop (jle_drop (jle_drop jle_nil))) (kt h)) (fun h => jr_drop (jle_same (jle_same (jle_same jle_nil))) (kf h)))))))
theorem bk_X2_addStep_31 {C : JC} {d cl sl : Nat} {Q : State → Prop} {w : JW} {b0 : Bool} {x1 : Int32} {x2 : Int32} (hm : jok C MX2_addStep d cl sl) (h1 : vp_in (w.1 34 b0 7) 400) (h2 : vp_in ((jset w 39 b0 (w.1 34 b0 7).toNatClampNeg x1).1 34 b0 7) 400) (k : jW C cl sl Q 61 [jU, jU, jU] [] (jset (jset (jset w 39 b0 (w.1 34 b0 7).toNatClampNeg x1) 40 b0 ((jset w 39 b0 (w.1 34 b0 7).toNatClampNeg x1).1 34 b0 7).toNatClampNeg x2) 34 b0 7 (((jset (jset w 39 b0 (w.1 34 b0 7).toNatClampNeg x1) 40 b0 ((jset w 39 b0 (w.1 34 b0 7).toNatClampNeg x1).1 34 b0 7).toNatClampNeg x2).1 34 b0 7) + 1))) : jW C cl sl Q 31 [jR 34 b0, jI x1, jI x2] [] w := jr_aload_n hm (i := 0) rfl rfl dX2_addStep_31 (fg_X2_24 hm dX2_addStep_32 (jr_aload_n hm (i := 0) rfl rfl dX2_addStep_35 (fg_X2_34 hm dX2_addStep_36 (jr_iload_n hm (i := 1) rfl rfl dX2_addStep_39 (jr_iastore hm (ja_39 b0) h1 dX2_addStep_40 (jr_aload_n hm (i := 0) rfl rfl dX2_addStep_41 (fg_X2_27 hm dX2_addStep_42 (jr_aload_n hm (i := 0) rfl rfl dX2_addStep_45 (fg_X2_34 hm dX2_addStep_46 (jr_iload_n hm (i := 2) rfl rfl dX2_addStep_49 (jr_iastore hm (ja_40 b0) h2 dX2_addStep_50 (jr_aload_n hm (i := 0) rfl rfl dX2_addStep_51 (jr_dupR hm dX2_addStep_52 (fg_X2_34 hm dX2_addStep_53 (jr_iconst hm (v := 1) (by decide) dX2_addStep_56 (jr_iadd hm dX2_addStep_57 (fp_X2_34 hm dX2_addStep_58 (jr_drop (jle_drop (jle_drop (jle_drop jle_nil))) k))))))))))))))))))
theorem bk_X2_addStep_61 {C : JC} {d cl sl : Nat} {w : JW} {P : JV → JW → Prop} (hm : jok C MX2_addStep d cl sl) (hp : P (jU) w) : jW C cl sl (jQQ C cl sl P) 61 [jU, jU, jU] [] w := jr_return hm rfl dX2_addStep_61 hp
theorem dX1_begin_0 : decode cX1_begin 0 = .ok (.aload_n 0, 1) := by decide +kernel
theorem dX1_begin_1 : decode cX1_begin 1 = .ok (.getfield 9, 3) := by decide +kernel
theorem dX1_begin_4 : decode cX1_begin 4 = .ok (.invokestatic 31, 3) := by decide +kernel
theorem dX1_begin_7 : decode cX1_begin 7 = .ok (.aload_n 0, 1) := by decide +kernel
theorem dX1_begin_8 : decode cX1_begin 8 = .ok (.getfield 15, 3) := by decide +kernel
theorem dX1_begin_11 : decode cX1_begin 11 = .ok (.invokestatic 31, 3) := by decide +kernel
theorem dX1_begin_14 : decode cX1_begin 14 = .ok (.aload_n 0, 1) := by decide +kernel
theorem dX1_begin_15 : decode cX1_begin 15 = .ok (.getfield 18, 3) := by decide +kernel
theorem dX1_begin_18 : decode cX1_begin 18 = .ok (.invokestatic 31, 3) := by decide +kernel
theorem dX1_begin_21 : decode cX1_begin 21 = .ok (.aload_n 0, 1) := by decide +kernel
theorem dX1_begin_22 : decode cX1_begin 22 = .ok (.getfield 21, 3) := by decide +kernel
theorem dX1_begin_25 : decode cX1_begin 25 = .ok (.invokestatic 31, 3) := by decide +kernel
theorem dX1_begin_28 : decode cX1_begin 28 = .ok (.aload_n 0, 1) := by decide +kernel
theorem dX1_begin_29 : decode cX1_begin 29 = .ok (.getfield 24, 3) := by decide +kernel
theorem dX1_begin_32 : decode cX1_begin 32 = .ok (.invokestatic 31, 3) := by decide +kernel
theorem dX1_begin_35 : decode cX1_begin 35 = .ok (.aload_n 0, 1) := by decide +kernel
theorem dX1_begin_36 : decode cX1_begin 36 = .ok (.iconst 0, 1) := by decide +kernel
theorem dX1_begin_37 : decode cX1_begin 37 = .ok (.putfield 35, 3) := by decide +kernel
theorem dX1_begin_40 : decode cX1_begin 40 = .ok (.aload_n 0, 1) := by decide +kernel
theorem dX1_begin_41 : decode cX1_begin 41 = .ok (.iconst 0, 1) := by decide +kernel
theorem dX1_begin_42 : decode cX1_begin 42 = .ok (.putfield 38, 3) := by decide +kernel
theorem dX1_begin_45 : decode cX1_begin 45 = .ok (.return_, 1) := by decide +kernel
theorem bk_X1_begin_0 {C : JC} {d cl sl : Nat} {Q : State → Prop} {w : JW} {b0 : Bool} {d2 : Nat} {w2 : JW} (hm : jok C MX1_begin d cl sl) (hs : jF MX9_empty d2 [jR 15 b0] w (jU) w2) (hd2 : d2 + 1 ≤ d) (k : jW C cl sl Q 7 [jR 14 b0] [] w2) : jW C cl sl Q 0 [jR 14 b0] [] w := jr_aload_n hm (i := 0) rfl rfl dX1_begin_0 (fg_X1_9 hm dX1_begin_1 (jr_callSN (mc := 0) (ms := 0) hm hs hd2 jw_1391 jw_1392 jw_47 jw_1393 jn_X9_empty rfl rfl (Nat.le_of_ble_eq_true rfl) rfl dX1_begin_4 (jkF (jr_drop (jle_same jle_nil) k))))
theorem bk_X1_begin_7 {C : JC} {d cl sl : Nat} {Q : State → Prop} {w : JW} {b0 : Bool} {d2 : Nat} {w2 : JW} (hm : jok C MX1_begin d cl sl) (hs : jF MX9_empty d2 [jR 16 b0] w (jU) w2) (hd2 : d2 + 1 ≤ d) (k : jW C cl sl Q 14 [jR 14 b0] [] w2) : jW C cl sl Q 7 [jR 14 b0] [] w := jr_aload_n hm (i := 0) rfl rfl dX1_begin_7 (fg_X1_15 hm dX1_begin_8 (jr_callSN (mc := 0) (ms := 0) hm hs hd2 jw_1391 jw_1392 jw_47 jw_1393 jn_X9_empty rfl rfl (Nat.le_of_ble_eq_true rfl) rfl dX1_begin_11 (jkF (jr_drop (jle_same jle_nil) k))))
theorem bk_X1_begin_14 {C : JC} {d cl sl : Nat} {Q : State → Prop} {w : JW} {b0 : Bool} {d2 : Nat} {w2 : JW} (hm : jok C MX1_begin d cl sl) (hs : jF MX9_empty d2 [jR 17 b0] w (jU) w2) (hd2 : d2 + 1 ≤ d) (k : jW C cl sl Q 21 [jR 14 b0] [] w2) : jW C cl sl Q 14 [jR 14 b0] [] w := jr_aload_n hm (i := 0) rfl rfl dX1_begin_14 (fg_X1_18 hm dX1_begin_15 (jr_callSN (mc := 0) (ms := 0) hm hs hd2 jw_1391 jw_1392 jw_47 jw_1393 jn_X9_empty rfl rfl (Nat.le_of_ble_eq_true rfl) rfl dX1_begin_18 (jkF (jr_drop (jle_same jle_nil) k))))
theorem bk_X1_begin_21 {C : JC} {d cl sl : Nat} {Q : State → Prop} {w : JW} {b0 : Bool} {d2 : Nat} {w2 : JW} (hm : jok C MX1_begin d cl sl) (hs : jF MX9_empty d2 [jR 18 b0] w (jU) w2) (hd2 : d2 + 1 ≤ d) (k : jW C cl sl Q 28 [jR 14 b0] [] w2) : jW C cl sl Q 21 [jR 14 b0] [] w := jr_aload_n hm (i := 0) rfl rfl dX1_begin_21 (fg_X1_21 hm dX1_begin_22 (jr_callSN (mc := 0) (ms := 0) hm hs hd2 jw_1391 jw_1392 jw_47 jw_1393 jn_X9_empty rfl rfl (Nat.le_of_ble_eq_true rfl) rfl dX1_begin_25 (jkF (jr_drop (jle_same jle_nil) k))))
theorem bk_X1_begin_28 {C : JC} {d cl sl : Nat} {Q : State → Prop} {w : JW} {b0 : Bool} {d2 : Nat} {w2 : JW} (hm : jok C MX1_begin d cl sl) (hs : jF MX9_empty d2 [jR 19 b0] w (jU) w2) (hd2 : d2 + 1 ≤ d) (k : jW C cl sl Q 35 [jR 14 b0] [] w2) : jW C cl sl Q 28 [jR 14 b0] [] w := jr_aload_n hm (i := 0) rfl rfl dX1_begin_28 (fg_X1_24 hm dX1_begin_29 (jr_callSN (mc := 0) (ms := 0) hm hs hd2 jw_1391 jw_1392 jw_47 jw_1393 jn_X9_empty rfl rfl (Nat.le_of_ble_eq_true rfl) rfl dX1_begin_32 (jkF (jr_drop (jle_same jle_nil) k))))
theorem bk_X1_begin_35 {C : JC} {d cl sl : Nat} {w : JW} {b0 : Bool} {P : JV → JW → Prop} (hm : jok C MX1_begin d cl sl) (hp : P (jU) (jset (jset w 14 b0 7 0) 14 b0 8 0)) : jW C cl sl (jQQ C cl sl P) 35 [jR 14 b0] [] w := jr_aload_n hm (i := 0) rfl rfl dX1_begin_35 (jr_iconst hm (v := 0) (by decide) dX1_begin_36 (fp_X1_35 hm dX1_begin_37 (jr_aload_n hm (i := 0) rfl rfl dX1_begin_40 (jr_iconst hm (v := 0) (by decide) dX1_begin_41 (fp_X1_38 hm dX1_begin_42 (jr_return hm rfl dX1_begin_45 hp))))))
theorem dX1_become_0 : decode cX1_become 0 = .ok (.aload_n 1, 1) := by decide +kernel
theorem dX1_become_1 : decode cX1_become 1 = .ok (.getfield 9, 3) := by decide +kernel
theorem dX1_become_4 : decode cX1_become 4 = .ok (.aload_n 0, 1) := by decide +kernel
theorem dX1_become_5 : decode cX1_become 5 = .ok (.getfield 9, 3) := by decide +kernel
theorem dX1_become_8 : decode cX1_become 8 = .ok (.invokestatic 41, 3) := by decide +kernel
theorem dX1_become_11 : decode cX1_become 11 = .ok (.aload_n 1, 1) := by decide +kernel
theorem dX1_become_12 : decode cX1_become 12 = .ok (.getfield 15, 3) := by decide +kernel
theorem dX1_become_15 : decode cX1_become 15 = .ok (.aload_n 0, 1) := by decide +kernel
theorem dX1_become_16 : decode cX1_become 16 = .ok (.getfield 15, 3) := by decide +kernel
theorem dX1_become_19 : decode cX1_become 19 = .ok (.invokestatic 41, 3) := by decide +kernel
theorem dX1_become_22 : decode cX1_become 22 = .ok (.aload_n 1, 1) := by decide +kernel
theorem dX1_become_23 : decode cX1_become 23 = .ok (.getfield 18, 3) := by decide +kernel
theorem dX1_become_26 : decode cX1_become 26 = .ok (.aload_n 0, 1) := by decide +kernel
theorem dX1_become_27 : decode cX1_become 27 = .ok (.getfield 18, 3) := by decide +kernel
theorem dX1_become_30 : decode cX1_become 30 = .ok (.invokestatic 41, 3) := by decide +kernel
theorem dX1_become_33 : decode cX1_become 33 = .ok (.aload_n 1, 1) := by decide +kernel
theorem dX1_become_34 : decode cX1_become 34 = .ok (.getfield 21, 3) := by decide +kernel
theorem dX1_become_37 : decode cX1_become 37 = .ok (.aload_n 0, 1) := by decide +kernel
theorem dX1_become_38 : decode cX1_become 38 = .ok (.getfield 21, 3) := by decide +kernel
theorem dX1_become_41 : decode cX1_become 41 = .ok (.invokestatic 41, 3) := by decide +kernel
theorem dX1_become_44 : decode cX1_become 44 = .ok (.aload_n 1, 1) := by decide +kernel
theorem dX1_become_45 : decode cX1_become 45 = .ok (.getfield 24, 3) := by decide +kernel
theorem dX1_become_48 : decode cX1_become 48 = .ok (.aload_n 0, 1) := by decide +kernel
theorem dX1_become_49 : decode cX1_become 49 = .ok (.getfield 24, 3) := by decide +kernel
theorem dX1_become_52 : decode cX1_become 52 = .ok (.invokestatic 41, 3) := by decide +kernel
theorem dX1_become_55 : decode cX1_become 55 = .ok (.aload_n 0, 1) := by decide +kernel
theorem dX1_become_56 : decode cX1_become 56 = .ok (.aload_n 1, 1) := by decide +kernel
theorem dX1_become_57 : decode cX1_become 57 = .ok (.getfield 45, 3) := by decide +kernel
theorem dX1_become_60 : decode cX1_become 60 = .ok (.putfield 45, 3) := by decide +kernel
theorem dX1_become_63 : decode cX1_become 63 = .ok (.aload_n 0, 1) := by decide +kernel
theorem dX1_become_64 : decode cX1_become 64 = .ok (.aload_n 1, 1) := by decide +kernel
theorem dX1_become_65 : decode cX1_become 65 = .ok (.getfield 27, 3) := by decide +kernel
theorem dX1_become_68 : decode cX1_become 68 = .ok (.putfield 27, 3) := by decide +kernel
theorem dX1_become_71 : decode cX1_become 71 = .ok (.aload_n 0, 1) := by decide +kernel
theorem dX1_become_72 : decode cX1_become 72 = .ok (.aload_n 1, 1) := by decide +kernel
theorem dX1_become_73 : decode cX1_become 73 = .ok (.getfield 35, 3) := by decide +kernel
theorem dX1_become_76 : decode cX1_become 76 = .ok (.putfield 35, 3) := by decide +kernel
theorem dX1_become_79 : decode cX1_become 79 = .ok (.aload_n 0, 1) := by decide +kernel
theorem dX1_become_80 : decode cX1_become 80 = .ok (.aload_n 1, 1) := by decide +kernel
theorem dX1_become_81 : decode cX1_become 81 = .ok (.getfield 38, 3) := by decide +kernel
theorem dX1_become_84 : decode cX1_become 84 = .ok (.putfield 38, 3) := by decide +kernel
theorem dX1_become_87 : decode cX1_become 87 = .ok (.return_, 1) := by decide +kernel
theorem bk_X1_become_0 {C : JC} {d cl sl : Nat} {Q : State → Prop} {w : JW} {b0 : Bool} {b1 : Bool} {d2 : Nat} {w2 : JW} (hm : jok C MX1_become d cl sl) (hs : jF MX9_copy d2 [jR 15 b1, jR 15 b0] w (jU) w2) (hd2 : d2 + 1 ≤ d) (k : jW C cl sl Q 11 [jR 14 b0, jR 14 b1] [] w2) : jW C cl sl Q 0 [jR 14 b0, jR 14 b1] [] w := jr_aload_n hm (i := 1) rfl rfl dX1_become_0 (fg_X1_9 hm dX1_become_1 (jr_aload_n hm (i := 0) rfl rfl dX1_become_4 (fg_X1_9 hm dX1_become_5 (jr_callSN (mc := 0) (ms := 0) hm hs hd2 jw_374 jw_375 jw_47 jw_376 jn_X9_copy rfl rfl (Nat.le_of_ble_eq_true rfl) rfl dX1_become_8 (jkF (jr_drop (jle_same (jle_same jle_nil)) k))))))
theorem bk_X1_become_11 {C : JC} {d cl sl : Nat} {Q : State → Prop} {w : JW} {b0 : Bool} {b1 : Bool} {d2 : Nat} {w2 : JW} (hm : jok C MX1_become d cl sl) (hs : jF MX9_copy d2 [jR 16 b1, jR 16 b0] w (jU) w2) (hd2 : d2 + 1 ≤ d) (k : jW C cl sl Q 22 [jR 14 b0, jR 14 b1] [] w2) : jW C cl sl Q 11 [jR 14 b0, jR 14 b1] [] w := jr_aload_n hm (i := 1) rfl rfl dX1_become_11 (fg_X1_15 hm dX1_become_12 (jr_aload_n hm (i := 0) rfl rfl dX1_become_15 (fg_X1_15 hm dX1_become_16 (jr_callSN (mc := 0) (ms := 0) hm hs hd2 jw_374 jw_375 jw_47 jw_376 jn_X9_copy rfl rfl (Nat.le_of_ble_eq_true rfl) rfl dX1_become_19 (jkF (jr_drop (jle_same (jle_same jle_nil)) k))))))
theorem bk_X1_become_22 {C : JC} {d cl sl : Nat} {Q : State → Prop} {w : JW} {b0 : Bool} {b1 : Bool} {d2 : Nat} {w2 : JW} (hm : jok C MX1_become d cl sl) (hs : jF MX9_copy d2 [jR 17 b1, jR 17 b0] w (jU) w2) (hd2 : d2 + 1 ≤ d) (k : jW C cl sl Q 33 [jR 14 b0, jR 14 b1] [] w2) : jW C cl sl Q 22 [jR 14 b0, jR 14 b1] [] w := jr_aload_n hm (i := 1) rfl rfl dX1_become_22 (fg_X1_18 hm dX1_become_23 (jr_aload_n hm (i := 0) rfl rfl dX1_become_26 (fg_X1_18 hm dX1_become_27 (jr_callSN (mc := 0) (ms := 0) hm hs hd2 jw_374 jw_375 jw_47 jw_376 jn_X9_copy rfl rfl (Nat.le_of_ble_eq_true rfl) rfl dX1_become_30 (jkF (jr_drop (jle_same (jle_same jle_nil)) k))))))
theorem bk_X1_become_33 {C : JC} {d cl sl : Nat} {Q : State → Prop} {w : JW} {b0 : Bool} {b1 : Bool} {d2 : Nat} {w2 : JW} (hm : jok C MX1_become d cl sl) (hs : jF MX9_copy d2 [jR 18 b1, jR 18 b0] w (jU) w2) (hd2 : d2 + 1 ≤ d) (k : jW C cl sl Q 44 [jR 14 b0, jR 14 b1] [] w2) : jW C cl sl Q 33 [jR 14 b0, jR 14 b1] [] w := jr_aload_n hm (i := 1) rfl rfl dX1_become_33 (fg_X1_21 hm dX1_become_34 (jr_aload_n hm (i := 0) rfl rfl dX1_become_37 (fg_X1_21 hm dX1_become_38 (jr_callSN (mc := 0) (ms := 0) hm hs hd2 jw_374 jw_375 jw_47 jw_376 jn_X9_copy rfl rfl (Nat.le_of_ble_eq_true rfl) rfl dX1_become_41 (jkF (jr_drop (jle_same (jle_same jle_nil)) k))))))
theorem bk_X1_become_44 {C : JC} {d cl sl : Nat} {Q : State → Prop} {w : JW} {b0 : Bool} {b1 : Bool} {d2 : Nat} {w2 : JW} (hm : jok C MX1_become d cl sl) (hs : jF MX9_copy d2 [jR 19 b1, jR 19 b0] w (jU) w2) (hd2 : d2 + 1 ≤ d) (k : jW C cl sl Q 55 [jR 14 b0, jR 14 b1] [] w2) : jW C cl sl Q 44 [jR 14 b0, jR 14 b1] [] w := jr_aload_n hm (i := 1) rfl rfl dX1_become_44 (fg_X1_24 hm dX1_become_45 (jr_aload_n hm (i := 0) rfl rfl dX1_become_48 (fg_X1_24 hm dX1_become_49 (jr_callSN (mc := 0) (ms := 0) hm hs hd2 jw_374 jw_375 jw_47 jw_376 jn_X9_copy rfl rfl (Nat.le_of_ble_eq_true rfl) rfl dX1_become_52 (jkF (jr_drop (jle_same (jle_same jle_nil)) k))))))
theorem bk_X1_become_55 {C : JC} {d cl sl : Nat} {w : JW} {b0 : Bool} {b1 : Bool} {P : JV → JW → Prop} (hm : jok C MX1_become d cl sl) (hp : P (jU) (jset (jset (jset (jset w 14 b0 5 (w.1 14 b1 5)) 14 b0 6 ((jset w 14 b0 5 (w.1 14 b1 5)).1 14 b1 6)) 14 b0 7 ((jset (jset w 14 b0 5 (w.1 14 b1 5)) 14 b0 6 ((jset w 14 b0 5 (w.1 14 b1 5)).1 14 b1 6)).1 14 b1 7)) 14 b0 8 ((jset (jset (jset w 14 b0 5 (w.1 14 b1 5)) 14 b0 6 ((jset w 14 b0 5 (w.1 14 b1 5)).1 14 b1 6)) 14 b0 7 ((jset (jset w 14 b0 5 (w.1 14 b1 5)) 14 b0 6 ((jset w 14 b0 5 (w.1 14 b1 5)).1 14 b1 6)).1 14 b1 7)).1 14 b1 8))) : jW C cl sl (jQQ C cl sl P) 55 [jR 14 b0, jR 14 b1] [] w := jr_aload_n hm (i := 0) rfl rfl dX1_become_55 (jr_aload_n hm (i := 1) rfl rfl dX1_become_56 (fg_X1_45 hm dX1_become_57 (fp_X1_45 hm dX1_become_60 (jr_aload_n hm (i := 0) rfl rfl dX1_become_63 (jr_aload_n hm (i := 1) rfl rfl dX1_become_64 (fg_X1_27 hm dX1_become_65 (fp_X1_27 hm dX1_become_68 (jr_aload_n hm (i := 0) rfl rfl dX1_become_71 (jr_aload_n hm (i := 1) rfl rfl dX1_become_72 (fg_X1_35 hm dX1_become_73 (fp_X1_35 hm dX1_become_76 (jr_aload_n hm (i := 0) rfl rfl dX1_become_79 (jr_aload_n hm (i := 1) rfl rfl dX1_become_80 (fg_X1_38 hm dX1_become_81 (fp_X1_38 hm dX1_become_84 (jr_return hm rfl dX1_become_87 hp))))))))))))))))
theorem dX1_hourOfDay_0 : decode cX1_hourOfDay 0 = .ok (.aload_n 0, 1) := by decide +kernel
theorem dX1_hourOfDay_1 : decode cX1_hourOfDay 1 = .ok (.getfield 45, 3) := by decide +kernel
theorem dX1_hourOfDay_4 : decode cX1_hourOfDay 4 = .ok (.bipush 24, 2) := by decide +kernel
theorem dX1_hourOfDay_6 : decode cX1_hourOfDay 6 = .ok (.irem, 1) := by decide +kernel
theorem dX1_hourOfDay_7 : decode cX1_hourOfDay 7 = .ok (.ireturn, 1) := by decide +kernel
theorem bk_X1_hourOfDay_0 {C : JC} {d cl sl : Nat} {w : JW} {b0 : Bool} {P : JV → JW → Prop} (hm : jok C MX1_hourOfDay d cl sl) (hp : P (jI ((w.1 14 b0 5) - (w.1 14 b0 5) / 24 * 24)) w) : jW C cl sl (jQQ C cl sl P) 0 [jR 14 b0] [] w := jr_aload_n hm (i := 0) rfl rfl dX1_hourOfDay_0 (fg_X1_45 hm dX1_hourOfDay_1 (jr_bipush hm (v := 24) (by decide) dX1_hourOfDay_4 (jr_irem hm (by decide) dX1_hourOfDay_6 (jr_ireturn hm rfl dX1_hourOfDay_7 hp))))
theorem dX1_sounds_0 : decode cX1_sounds 0 = .ok (.aload_n 0, 1) := by decide +kernel
theorem dX1_sounds_1 : decode cX1_sounds 1 = .ok (.getfield 18, 3) := by decide +kernel
theorem dX1_sounds_4 : decode cX1_sounds 4 = .ok (.iload_n 1, 1) := by decide +kernel
theorem dX1_sounds_5 : decode cX1_sounds 5 = .ok (.invokestatic 48, 3) := by decide +kernel
theorem dX1_sounds_8 : decode cX1_sounds 8 = .ok (.iconst 1, 1) := by decide +kernel
theorem dX1_sounds_9 : decode cX1_sounds 9 = .ok (.if_icmp .lt 7, 3) := by decide +kernel
theorem dX1_sounds_12 : decode cX1_sounds 12 = .ok (.iconst 1, 1) := by decide +kernel
theorem dX1_sounds_13 : decode cX1_sounds 13 = .ok (.goto 4, 3) := by decide +kernel
theorem dX1_sounds_16 : decode cX1_sounds 16 = .ok (.iconst 0, 1) := by decide +kernel
theorem dX1_sounds_17 : decode cX1_sounds 17 = .ok (.ireturn, 1) := by decide +kernel
theorem bk_X1_sounds_0 {C : JC} {d cl sl : Nat} {Q : State → Prop} {w : JW} {b0 : Bool} {x1 : Int32} {d2 : Nat} {r : Int32} {w2 : JW} (hm : jok C MX1_sounds d cl sl) (hs : jF MX9_at d2 [jR 17 b0, jI x1] w (jI r) w2) (hd2 : d2 + 1 ≤ d) (k : jW C cl sl Q 8 [jU, jU] [jI r] w2) : jW C cl sl Q 0 [jR 14 b0, jI x1] [] w := jr_aload_n hm (i := 0) rfl rfl dX1_sounds_0 (fg_X1_18 hm dX1_sounds_1 (jr_iload_n hm (i := 1) rfl rfl dX1_sounds_4 (jr_callSN (mc := 0) (ms := 0) hm hs hd2 jw_161 jw_162 jw_47 jw_163 jn_X9_at rfl rfl (Nat.le_of_ble_eq_true rfl) rfl dX1_sounds_5 (jkF (jr_drop (jle_drop (jle_drop jle_nil)) k)))))
theorem bk_X1_sounds_8 {C : JC} {d cl sl : Nat} {Q : State → Prop} {w : JW} {xs0 : Int32} (hm : jok C MX1_sounds d cl sl) (kt : xs0 < 1 → jW C cl sl Q 16 [jU, jU] [] w) (kf : ¬ xs0 < 1 → jW C cl sl Q 12 [jU, jU] [] w) : jW C cl sl Q 8 [jU, jU] [jI xs0] w := jr_iconst hm (v := 1) (by decide) dX1_sounds_8 (jr_icmp_lt hm dX1_sounds_9 (by decide) (fun h => jr_drop (jle_same (jle_same jle_nil)) (kt h)) (fun h => jr_drop (jle_same (jle_same jle_nil)) (kf h)))
theorem bk_X1_sounds_12 {C : JC} {d cl sl : Nat} {Q : State → Prop} {w : JW}  (hm : jok C MX1_sounds d cl sl) (k : jW C cl sl Q 17 [jU, jU] [jI 1] w) : jW C cl sl Q 12 [jU, jU] [] w := jr_iconst hm (v := 1) (by decide) dX1_sounds_12 (jr_goto hm dX1_sounds_13 (by decide) (jr_drop (jle_same (jle_same jle_nil)) k))
theorem bk_X1_sounds_16 {C : JC} {d cl sl : Nat} {Q : State → Prop} {w : JW}  (hm : jok C MX1_sounds d cl sl) (k : jW C cl sl Q 17 [jU, jU] [jI 0] w) : jW C cl sl Q 16 [jU, jU] [] w := jr_iconst hm (v := 0) (by decide) dX1_sounds_16 (jr_drop (jle_same (jle_same jle_nil)) k)
theorem bk_X1_sounds_17 {C : JC} {d cl sl : Nat} {w : JW} {xs0 : Int32} {P : JV → JW → Prop} (hm : jok C MX1_sounds d cl sl) (hz : narrow .boolean (.int xs0) = .int xs0) (hp : P (jI xs0) w) : jW C cl sl (jQQ C cl sl P) 17 [jU, jU] [jI xs0] w := jr_zreturn hm rfl hz dX1_sounds_17 hp
theorem dX1_pipesSounding_0 : decode cX1_pipesSounding 0 = .ok (.iconst 0, 1) := by decide +kernel
theorem dX1_pipesSounding_1 : decode cX1_pipesSounding 1 = .ok (.istore_n 2, 1) := by decide +kernel
theorem dX1_pipesSounding_2 : decode cX1_pipesSounding 2 = .ok (.iconst 0, 1) := by decide +kernel
theorem dX1_pipesSounding_3 : decode cX1_pipesSounding 3 = .ok (.istore_n 3, 1) := by decide +kernel
theorem dX1_pipesSounding_4 : decode cX1_pipesSounding 4 = .ok (.iload_n 3, 1) := by decide +kernel
theorem dX1_pipesSounding_5 : decode cX1_pipesSounding 5 = .ok (.iload_n 1, 1) := by decide +kernel
theorem dX1_pipesSounding_6 : decode cX1_pipesSounding 6 = .ok (.if_icmp .ge 20, 3) := by decide +kernel
theorem dX1_pipesSounding_9 : decode cX1_pipesSounding 9 = .ok (.aload_n 0, 1) := by decide +kernel
theorem dX1_pipesSounding_10 : decode cX1_pipesSounding 10 = .ok (.iload_n 3, 1) := by decide +kernel
theorem dX1_pipesSounding_11 : decode cX1_pipesSounding 11 = .ok (.invokevirtual 52, 3) := by decide +kernel
theorem dX1_pipesSounding_14 : decode cX1_pipesSounding 14 = .ok (.ifCond .eq 6, 3) := by decide +kernel
theorem dX1_pipesSounding_17 : decode cX1_pipesSounding 17 = .ok (.iinc 2 1, 3) := by decide +kernel
theorem dX1_pipesSounding_20 : decode cX1_pipesSounding 20 = .ok (.iinc 3 1, 3) := by decide +kernel
theorem dX1_pipesSounding_23 : decode cX1_pipesSounding 23 = .ok (.goto (-19), 3) := by decide +kernel
theorem dX1_pipesSounding_26 : decode cX1_pipesSounding 26 = .ok (.iload_n 2, 1) := by decide +kernel
theorem dX1_pipesSounding_27 : decode cX1_pipesSounding 27 = .ok (.ireturn, 1) := by decide +kernel
theorem bk_X1_pipesSounding_0 {C : JC} {d cl sl : Nat} {Q : State → Prop} {w : JW} {b0 : Bool} {x1 : Int32} (hm : jok C MX1_pipesSounding d cl sl) (k : jW C cl sl Q 4 [jR 14 b0, jI x1, jI 0, jI 0] [] w) : jW C cl sl Q 0 [jR 14 b0, jI x1, jU, jU] [] w := jr_iconst hm (v := 0) (by decide) dX1_pipesSounding_0 (jr_istore_n hm (i := 2) rfl (Nat.le_of_ble_eq_true rfl) rfl dX1_pipesSounding_1 (jr_iconst hm (v := 0) (by decide) dX1_pipesSounding_2 (jr_istore_n hm (i := 3) rfl (Nat.le_of_ble_eq_true rfl) rfl dX1_pipesSounding_3 (jr_drop (jle_same (jle_same (jle_same (jle_same jle_nil)))) k))))
theorem bk_X1_pipesSounding_4 {C : JC} {d cl sl : Nat} {Q : State → Prop} {w : JW} {b0 : Bool} {x1 : Int32} {x2 : Int32} {x3 : Int32} (hm : jok C MX1_pipesSounding d cl sl) (kt : x1 ≤ x3 → jW C cl sl Q 26 [jU, jU, jI x2, jU] [] w) (kf : ¬ x1 ≤ x3 → jW C cl sl Q 9 [jR 14 b0, jI x1, jI x2, jI x3] [] w) : jW C cl sl Q 4 [jR 14 b0, jI x1, jI x2, jI x3] [] w := jr_iload_n hm (i := 3) rfl rfl dX1_pipesSounding_4 (jr_iload_n hm (i := 1) rfl rfl dX1_pipesSounding_5 (jr_icmp_ge hm dX1_pipesSounding_6 (by decide) (fun h => jr_drop (jle_drop (jle_drop (jle_same (jle_drop jle_nil)))) (kt h)) (fun h => jr_drop (jle_same (jle_same (jle_same (jle_same jle_nil)))) (kf h))))
theorem bk_X1_pipesSounding_9 {C : JC} {d cl sl : Nat} {Q : State → Prop} {w : JW} {b0 : Bool} {x1 : Int32} {x2 : Int32} {x3 : Int32} {d2 : Nat} {r : Int32} {w2 : JW} (hm : jok C MX1_pipesSounding d cl sl) (hs : jF MX1_sounds d2 [jR 14 b0, jI x3] w (jI r) w2) (hd2 : d2 + 1 ≤ d) (k : jW C cl sl Q 14 [jR 14 b0, jI x1, jI x2, jI x3] [jI r] w2) : jW C cl sl Q 9 [jR 14 b0, jI x1, jI x2, jI x3] [] w := jr_aload_n hm (i := 0) rfl rfl dX1_pipesSounding_9 (jr_iload_n hm (i := 3) rfl rfl dX1_pipesSounding_10 (jr_callV (mc := 0) (ms := 0) hm hs hd2 jw_157 jw_158 jw_159 jw_56 jw_160 jn_X1_sounds rfl (jo_14 b0) (fun _ _ _ _ _ => ⟨_, rfl⟩) rfl rfl (Nat.le_of_ble_eq_true rfl) rfl dX1_pipesSounding_11 (jkF (jr_drop (jle_same (jle_same (jle_same (jle_same jle_nil)))) k))))
theorem bk_X1_pipesSounding_14 {C : JC} {d cl sl : Nat} {Q : State → Prop} {w : JW} {b0 : Bool} {x1 : Int32} {x2 : Int32} {x3 : Int32} {xs0 : Int32} (hm : jok C MX1_pipesSounding d cl sl) (kt : xs0 = 0 → jW C cl sl Q 20 [jR 14 b0, jI x1, jI x2, jI x3] [] w) (kf : ¬ xs0 = 0 → jW C cl sl Q 17 [jR 14 b0, jI x1, jI x2, jI x3] [] w) : jW C cl sl Q 14 [jR 14 b0, jI x1, jI x2, jI x3] [jI xs0] w := jr_if_eq hm dX1_pipesSounding_14 (by decide) (fun h => jr_drop (jle_same (jle_same (jle_same (jle_same jle_nil)))) (kt h)) (fun h => jr_drop (jle_same (jle_same (jle_same (jle_same jle_nil)))) (kf h))
theorem bk_X1_pipesSounding_17 {C : JC} {d cl sl : Nat} {Q : State → Prop} {w : JW} {b0 : Bool} {x1 : Int32} {x2 : Int32} {x3 : Int32} (hm : jok C MX1_pipesSounding d cl sl) (k : jW C cl sl Q 20 [jR 14 b0, jI x1, jI (x2 + 1), jI x3] [] w) : jW C cl sl Q 17 [jR 14 b0, jI x1, jI x2, jI x3] [] w := jr_iinc hm (i := 2) (v := x2 + 1) rfl rfl rfl dX1_pipesSounding_17 (jr_drop (jle_same (jle_same (jle_same (jle_same jle_nil)))) k)
theorem bk_X1_pipesSounding_20 {C : JC} {d cl sl : Nat} {Q : State → Prop} {w : JW} {b0 : Bool} {x1 : Int32} {x2 : Int32} {x3 : Int32} (hm : jok C MX1_pipesSounding d cl sl) (k : jW C cl sl Q 4 [jR 14 b0, jI x1, jI x2, jI (x3 + 1)] [] w) : jW C cl sl Q 20 [jR 14 b0, jI x1, jI x2, jI x3] [] w := jr_iinc hm (i := 3) (v := x3 + 1) rfl rfl rfl dX1_pipesSounding_20 (jr_goto hm dX1_pipesSounding_23 (by decide) (jr_drop (jle_same (jle_same (jle_same (jle_same jle_nil)))) k))
theorem bk_X1_pipesSounding_26 {C : JC} {d cl sl : Nat} {w : JW} {x2 : Int32} {P : JV → JW → Prop} (hm : jok C MX1_pipesSounding d cl sl) (hp : P (jI x2) w) : jW C cl sl (jQQ C cl sl P) 26 [jU, jU, jI x2, jU] [] w := jr_iload_n hm (i := 2) rfl rfl dX1_pipesSounding_26 (jr_ireturn hm rfl dX1_pipesSounding_27 hp)
theorem dX1_siltIn_0 : decode cX1_siltIn 0 = .ok (.iconst 0, 1) := by decide +kernel
theorem dX1_siltIn_1 : decode cX1_siltIn 1 = .ok (.istore_n 2, 1) := by decide +kernel
theorem dX1_siltIn_2 : decode cX1_siltIn 2 = .ok (.iconst 0, 1) := by decide +kernel
theorem dX1_siltIn_3 : decode cX1_siltIn 3 = .ok (.istore_n 3, 1) := by decide +kernel
theorem dX1_siltIn_4 : decode cX1_siltIn 4 = .ok (.iload_n 3, 1) := by decide +kernel
theorem dX1_siltIn_5 : decode cX1_siltIn 5 = .ok (.iload_n 1, 1) := by decide +kernel
theorem dX1_siltIn_6 : decode cX1_siltIn 6 = .ok (.if_icmp .ge 20, 3) := by decide +kernel
theorem dX1_siltIn_9 : decode cX1_siltIn 9 = .ok (.iload_n 2, 1) := by decide +kernel
theorem dX1_siltIn_10 : decode cX1_siltIn 10 = .ok (.aload_n 0, 1) := by decide +kernel
theorem dX1_siltIn_11 : decode cX1_siltIn 11 = .ok (.getfield 15, 3) := by decide +kernel
theorem dX1_siltIn_14 : decode cX1_siltIn 14 = .ok (.iload_n 3, 1) := by decide +kernel
theorem dX1_siltIn_15 : decode cX1_siltIn 15 = .ok (.invokestatic 48, 3) := by decide +kernel
theorem dX1_siltIn_18 : decode cX1_siltIn 18 = .ok (.iadd, 1) := by decide +kernel
theorem dX1_siltIn_19 : decode cX1_siltIn 19 = .ok (.istore_n 2, 1) := by decide +kernel
theorem dX1_siltIn_20 : decode cX1_siltIn 20 = .ok (.iinc 3 1, 3) := by decide +kernel
theorem dX1_siltIn_23 : decode cX1_siltIn 23 = .ok (.goto (-19), 3) := by decide +kernel
theorem dX1_siltIn_26 : decode cX1_siltIn 26 = .ok (.iload_n 2, 1) := by decide +kernel
theorem dX1_siltIn_27 : decode cX1_siltIn 27 = .ok (.ireturn, 1) := by decide +kernel
theorem bk_X1_siltIn_0 {C : JC} {d cl sl : Nat} {Q : State → Prop} {w : JW} {b0 : Bool} {x1 : Int32} (hm : jok C MX1_siltIn d cl sl) (k : jW C cl sl Q 4 [jR 14 b0, jI x1, jI 0, jI 0] [] w) : jW C cl sl Q 0 [jR 14 b0, jI x1, jU, jU] [] w := jr_iconst hm (v := 0) (by decide) dX1_siltIn_0 (jr_istore_n hm (i := 2) rfl (Nat.le_of_ble_eq_true rfl) rfl dX1_siltIn_1 (jr_iconst hm (v := 0) (by decide) dX1_siltIn_2 (jr_istore_n hm (i := 3) rfl (Nat.le_of_ble_eq_true rfl) rfl dX1_siltIn_3 (jr_drop (jle_same (jle_same (jle_same (jle_same jle_nil)))) k))))
theorem bk_X1_siltIn_4 {C : JC} {d cl sl : Nat} {Q : State → Prop} {w : JW} {b0 : Bool} {x1 : Int32} {x2 : Int32} {x3 : Int32} (hm : jok C MX1_siltIn d cl sl) (kt : x1 ≤ x3 → jW C cl sl Q 26 [jU, jU, jI x2, jU] [] w) (kf : ¬ x1 ≤ x3 → jW C cl sl Q 9 [jR 14 b0, jI x1, jI x2, jI x3] [] w) : jW C cl sl Q 4 [jR 14 b0, jI x1, jI x2, jI x3] [] w := jr_iload_n hm (i := 3) rfl rfl dX1_siltIn_4 (jr_iload_n hm (i := 1) rfl rfl dX1_siltIn_5 (jr_icmp_ge hm dX1_siltIn_6 (by decide) (fun h => jr_drop (jle_drop (jle_drop (jle_same (jle_drop jle_nil)))) (kt h)) (fun h => jr_drop (jle_same (jle_same (jle_same (jle_same jle_nil)))) (kf h))))
theorem bk_X1_siltIn_9 {C : JC} {d cl sl : Nat} {Q : State → Prop} {w : JW} {b0 : Bool} {x1 : Int32} {x2 : Int32} {x3 : Int32} {d2 : Nat} {r : Int32} {w2 : JW} (hm : jok C MX1_siltIn d cl sl) (hs : jF MX9_at d2 [jR 16 b0, jI x3] w (jI r) w2) (hd2 : d2 + 1 ≤ d) (k : jW C cl sl Q 18 [jR 14 b0, jI x1, jU, jI x3] [jI r, jI x2] w2) : jW C cl sl Q 9 [jR 14 b0, jI x1, jI x2, jI x3] [] w := jr_iload_n hm (i := 2) rfl rfl dX1_siltIn_9 (jr_aload_n hm (i := 0) rfl rfl dX1_siltIn_10 (fg_X1_15 hm dX1_siltIn_11 (jr_iload_n hm (i := 3) rfl rfl dX1_siltIn_14 (jr_callSN (mc := 0) (ms := 0) hm hs hd2 jw_161 jw_162 jw_47 jw_163 jn_X9_at rfl rfl (Nat.le_of_ble_eq_true rfl) rfl dX1_siltIn_15 (jkF (jr_drop (jle_same (jle_same (jle_drop (jle_same jle_nil)))) k))))))
theorem bk_X1_siltIn_18 {C : JC} {d cl sl : Nat} {Q : State → Prop} {w : JW} {b0 : Bool} {x1 : Int32} {x3 : Int32} {xs0 : Int32} {xs1 : Int32} (hm : jok C MX1_siltIn d cl sl) (k : jW C cl sl Q 4 [jR 14 b0, jI x1, jI (xs1 + xs0), jI (x3 + 1)] [] w) : jW C cl sl Q 18 [jR 14 b0, jI x1, jU, jI x3] [jI xs0, jI xs1] w := jr_iadd hm dX1_siltIn_18 (jr_istore_n hm (i := 2) rfl (Nat.le_of_ble_eq_true rfl) rfl dX1_siltIn_19 (jr_iinc hm (i := 3) (v := x3 + 1) rfl rfl rfl dX1_siltIn_20 (jr_goto hm dX1_siltIn_23 (by decide) (jr_drop (jle_same (jle_same (jle_same (jle_same jle_nil)))) k))))
theorem bk_X1_siltIn_26 {C : JC} {d cl sl : Nat} {w : JW} {x2 : Int32} {P : JV → JW → Prop} (hm : jok C MX1_siltIn d cl sl) (hp : P (jI x2) w) : jW C cl sl (jQQ C cl sl P) 26 [jU, jU, jI x2, jU] [] w := jr_iload_n hm (i := 2) rfl rfl dX1_siltIn_26 (jr_ireturn hm rfl dX1_siltIn_27 hp)
theorem dX8_begin_0 : decode cX8_begin 0 = .ok (.aload_n 0, 1) := by decide +kernel
theorem dX8_begin_1 : decode cX8_begin 1 = .ok (.iconst 0, 1) := by decide +kernel
theorem dX8_begin_2 : decode cX8_begin 2 = .ok (.putfield 27, 3) := by decide +kernel
theorem dX8_begin_5 : decode cX8_begin 5 = .ok (.aload_n 0, 1) := by decide +kernel
theorem dX8_begin_6 : decode cX8_begin 6 = .ok (.iconst 0, 1) := by decide +kernel
theorem dX8_begin_7 : decode cX8_begin 7 = .ok (.putfield 31, 3) := by decide +kernel
theorem dX8_begin_10 : decode cX8_begin 10 = .ok (.return_, 1) := by decide +kernel
theorem bk_X8_begin_0 {C : JC} {d cl sl : Nat} {w : JW} {b0 : Bool} {P : JV → JW → Prop} (hm : jok C MX8_begin d cl sl) (hp : P (jU) (jset (jset w 28 b0 5 0) 28 b0 6 0)) : jW C cl sl (jQQ C cl sl P) 0 [jR 28 b0] [] w := jr_aload_n hm (i := 0) rfl rfl dX8_begin_0 (jr_iconst hm (v := 0) (by decide) dX8_begin_1 (fp_X8_27 hm dX8_begin_2 (jr_aload_n hm (i := 0) rfl rfl dX8_begin_5 (jr_iconst hm (v := 0) (by decide) dX8_begin_6 (fp_X8_31 hm dX8_begin_7 (jr_return hm rfl dX8_begin_10 hp))))))
theorem dX8_addSwell_0 : decode cX8_addSwell 0 = .ok (.aload_n 0, 1) := by decide +kernel
theorem dX8_addSwell_1 : decode cX8_addSwell 1 = .ok (.getfield 9, 3) := by decide +kernel
theorem dX8_addSwell_4 : decode cX8_addSwell 4 = .ok (.aload_n 0, 1) := by decide +kernel
theorem dX8_addSwell_5 : decode cX8_addSwell 5 = .ok (.getfield 27, 3) := by decide +kernel
theorem dX8_addSwell_8 : decode cX8_addSwell 8 = .ok (.iload_n 1, 1) := by decide +kernel
theorem dX8_addSwell_9 : decode cX8_addSwell 9 = .ok (.invokestatic 34, 3) := by decide +kernel
theorem dX8_addSwell_12 : decode cX8_addSwell 12 = .ok (.aload_n 0, 1) := by decide +kernel
theorem dX8_addSwell_13 : decode cX8_addSwell 13 = .ok (.getfield 15, 3) := by decide +kernel
theorem dX8_addSwell_16 : decode cX8_addSwell 16 = .ok (.aload_n 0, 1) := by decide +kernel
theorem dX8_addSwell_17 : decode cX8_addSwell 17 = .ok (.getfield 27, 3) := by decide +kernel
theorem dX8_addSwell_20 : decode cX8_addSwell 20 = .ok (.iload_n 2, 1) := by decide +kernel
theorem dX8_addSwell_21 : decode cX8_addSwell 21 = .ok (.invokestatic 34, 3) := by decide +kernel
theorem dX8_addSwell_24 : decode cX8_addSwell 24 = .ok (.aload_n 0, 1) := by decide +kernel
theorem dX8_addSwell_25 : decode cX8_addSwell 25 = .ok (.getfield 18, 3) := by decide +kernel
theorem dX8_addSwell_28 : decode cX8_addSwell 28 = .ok (.aload_n 0, 1) := by decide +kernel
theorem dX8_addSwell_29 : decode cX8_addSwell 29 = .ok (.getfield 27, 3) := by decide +kernel
theorem dX8_addSwell_32 : decode cX8_addSwell 32 = .ok (.iload_n 3, 1) := by decide +kernel
theorem dX8_addSwell_33 : decode cX8_addSwell 33 = .ok (.invokestatic 34, 3) := by decide +kernel
theorem dX8_addSwell_36 : decode cX8_addSwell 36 = .ok (.aload_n 0, 1) := by decide +kernel
theorem dX8_addSwell_37 : decode cX8_addSwell 37 = .ok (.dup, 1) := by decide +kernel
theorem dX8_addSwell_38 : decode cX8_addSwell 38 = .ok (.getfield 27, 3) := by decide +kernel
theorem dX8_addSwell_41 : decode cX8_addSwell 41 = .ok (.iconst 1, 1) := by decide +kernel
theorem dX8_addSwell_42 : decode cX8_addSwell 42 = .ok (.iadd, 1) := by decide +kernel
theorem dX8_addSwell_43 : decode cX8_addSwell 43 = .ok (.putfield 27, 3) := by decide +kernel
theorem dX8_addSwell_46 : decode cX8_addSwell 46 = .ok (.return_, 1) := by decide +kernel
theorem bk_X8_addSwell_0 {C : JC} {d cl sl : Nat} {Q : State → Prop} {w : JW} {b0 : Bool} {x1 : Int32} {x2 : Int32} {x3 : Int32} {d2 : Nat} {w2 : JW} (hm : jok C MX8_addSwell d cl sl) (hs : jF MX9_put d2 [jR 29 b0, jI (w.1 28 b0 5), jI x1] w (jU) w2) (hd2 : d2 + 1 ≤ d) (k : jW C cl sl Q 12 [jR 28 b0, jU, jI x2, jI x3] [] w2) : jW C cl sl Q 0 [jR 28 b0, jI x1, jI x2, jI x3] [] w := jr_aload_n hm (i := 0) rfl rfl dX8_addSwell_0 (fg_X8_9 hm dX8_addSwell_1 (jr_aload_n hm (i := 0) rfl rfl dX8_addSwell_4 (fg_X8_27 hm dX8_addSwell_5 (jr_iload_n hm (i := 1) rfl rfl dX8_addSwell_8 (jr_callSN (mc := 0) (ms := 0) hm hs hd2 jw_1267 jw_225 jw_47 jw_226 jn_X9_put rfl rfl (Nat.le_of_ble_eq_true rfl) rfl dX8_addSwell_9 (jkF (jr_drop (jle_same (jle_drop (jle_same (jle_same jle_nil)))) k)))))))
theorem bk_X8_addSwell_12 {C : JC} {d cl sl : Nat} {Q : State → Prop} {w : JW} {b0 : Bool} {x2 : Int32} {x3 : Int32} {d2 : Nat} {w2 : JW} (hm : jok C MX8_addSwell d cl sl) (hs : jF MX9_put d2 [jR 30 b0, jI (w.1 28 b0 5), jI x2] w (jU) w2) (hd2 : d2 + 1 ≤ d) (k : jW C cl sl Q 24 [jR 28 b0, jU, jU, jI x3] [] w2) : jW C cl sl Q 12 [jR 28 b0, jU, jI x2, jI x3] [] w := jr_aload_n hm (i := 0) rfl rfl dX8_addSwell_12 (fg_X8_15 hm dX8_addSwell_13 (jr_aload_n hm (i := 0) rfl rfl dX8_addSwell_16 (fg_X8_27 hm dX8_addSwell_17 (jr_iload_n hm (i := 2) rfl rfl dX8_addSwell_20 (jr_callSN (mc := 0) (ms := 0) hm hs hd2 jw_1267 jw_225 jw_47 jw_226 jn_X9_put rfl rfl (Nat.le_of_ble_eq_true rfl) rfl dX8_addSwell_21 (jkF (jr_drop (jle_same (jle_same (jle_drop (jle_same jle_nil)))) k)))))))
theorem bk_X8_addSwell_24 {C : JC} {d cl sl : Nat} {Q : State → Prop} {w : JW} {b0 : Bool} {x3 : Int32} {d2 : Nat} {w2 : JW} (hm : jok C MX8_addSwell d cl sl) (hs : jF MX9_put d2 [jR 31 b0, jI (w.1 28 b0 5), jI x3] w (jU) w2) (hd2 : d2 + 1 ≤ d) (k : jW C cl sl Q 36 [jR 28 b0, jU, jU, jU] [] w2) : jW C cl sl Q 24 [jR 28 b0, jU, jU, jI x3] [] w := jr_aload_n hm (i := 0) rfl rfl dX8_addSwell_24 (fg_X8_18 hm dX8_addSwell_25 (jr_aload_n hm (i := 0) rfl rfl dX8_addSwell_28 (fg_X8_27 hm dX8_addSwell_29 (jr_iload_n hm (i := 3) rfl rfl dX8_addSwell_32 (jr_callSN (mc := 0) (ms := 0) hm hs hd2 jw_1267 jw_225 jw_47 jw_226 jn_X9_put rfl rfl (Nat.le_of_ble_eq_true rfl) rfl dX8_addSwell_33 (jkF (jr_drop (jle_same (jle_same (jle_same (jle_drop jle_nil)))) k)))))))
theorem bk_X8_addSwell_36 {C : JC} {d cl sl : Nat} {w : JW} {b0 : Bool} {P : JV → JW → Prop} (hm : jok C MX8_addSwell d cl sl) (hp : P (jU) (jset w 28 b0 5 ((w.1 28 b0 5) + 1))) : jW C cl sl (jQQ C cl sl P) 36 [jR 28 b0, jU, jU, jU] [] w := jr_aload_n hm (i := 0) rfl rfl dX8_addSwell_36 (jr_dupR hm dX8_addSwell_37 (fg_X8_27 hm dX8_addSwell_38 (jr_iconst hm (v := 1) (by decide) dX8_addSwell_41 (jr_iadd hm dX8_addSwell_42 (fp_X8_27 hm dX8_addSwell_43 (jr_return hm rfl dX8_addSwell_46 hp))))))
theorem dX8_addSilence_0 : decode cX8_addSilence 0 = .ok (.aload_n 0, 1) := by decide +kernel
theorem dX8_addSilence_1 : decode cX8_addSilence 1 = .ok (.getfield 21, 3) := by decide +kernel
theorem dX8_addSilence_4 : decode cX8_addSilence 4 = .ok (.aload_n 0, 1) := by decide +kernel
theorem dX8_addSilence_5 : decode cX8_addSilence 5 = .ok (.getfield 31, 3) := by decide +kernel
theorem dX8_addSilence_8 : decode cX8_addSilence 8 = .ok (.iload_n 1, 1) := by decide +kernel
theorem dX8_addSilence_9 : decode cX8_addSilence 9 = .ok (.invokestatic 34, 3) := by decide +kernel
theorem dX8_addSilence_12 : decode cX8_addSilence 12 = .ok (.aload_n 0, 1) := by decide +kernel
theorem dX8_addSilence_13 : decode cX8_addSilence 13 = .ok (.getfield 24, 3) := by decide +kernel
theorem dX8_addSilence_16 : decode cX8_addSilence 16 = .ok (.aload_n 0, 1) := by decide +kernel
theorem dX8_addSilence_17 : decode cX8_addSilence 17 = .ok (.getfield 31, 3) := by decide +kernel
theorem dX8_addSilence_20 : decode cX8_addSilence 20 = .ok (.iload_n 2, 1) := by decide +kernel
theorem dX8_addSilence_21 : decode cX8_addSilence 21 = .ok (.invokestatic 34, 3) := by decide +kernel
theorem dX8_addSilence_24 : decode cX8_addSilence 24 = .ok (.aload_n 0, 1) := by decide +kernel
theorem dX8_addSilence_25 : decode cX8_addSilence 25 = .ok (.dup, 1) := by decide +kernel
theorem dX8_addSilence_26 : decode cX8_addSilence 26 = .ok (.getfield 31, 3) := by decide +kernel
theorem dX8_addSilence_29 : decode cX8_addSilence 29 = .ok (.iconst 1, 1) := by decide +kernel
theorem dX8_addSilence_30 : decode cX8_addSilence 30 = .ok (.iadd, 1) := by decide +kernel
theorem dX8_addSilence_31 : decode cX8_addSilence 31 = .ok (.putfield 31, 3) := by decide +kernel
theorem dX8_addSilence_34 : decode cX8_addSilence 34 = .ok (.return_, 1) := by decide +kernel
theorem bk_X8_addSilence_0 {C : JC} {d cl sl : Nat} {Q : State → Prop} {w : JW} {b0 : Bool} {x1 : Int32} {x2 : Int32} {d2 : Nat} {w2 : JW} (hm : jok C MX8_addSilence d cl sl) (hs : jF MX9_put d2 [jR 32 b0, jI (w.1 28 b0 6), jI x1] w (jU) w2) (hd2 : d2 + 1 ≤ d) (k : jW C cl sl Q 12 [jR 28 b0, jU, jI x2] [] w2) : jW C cl sl Q 0 [jR 28 b0, jI x1, jI x2] [] w := jr_aload_n hm (i := 0) rfl rfl dX8_addSilence_0 (fg_X8_21 hm dX8_addSilence_1 (jr_aload_n hm (i := 0) rfl rfl dX8_addSilence_4 (fg_X8_31 hm dX8_addSilence_5 (jr_iload_n hm (i := 1) rfl rfl dX8_addSilence_8 (jr_callSN (mc := 0) (ms := 0) hm hs hd2 jw_1267 jw_225 jw_47 jw_226 jn_X9_put rfl rfl (Nat.le_of_ble_eq_true rfl) rfl dX8_addSilence_9 (jkF (jr_drop (jle_same (jle_drop (jle_same jle_nil))) k)))))))
theorem bk_X8_addSilence_12 {C : JC} {d cl sl : Nat} {Q : State → Prop} {w : JW} {b0 : Bool} {x2 : Int32} {d2 : Nat} {w2 : JW} (hm : jok C MX8_addSilence d cl sl) (hs : jF MX9_put d2 [jR 33 b0, jI (w.1 28 b0 6), jI x2] w (jU) w2) (hd2 : d2 + 1 ≤ d) (k : jW C cl sl Q 24 [jR 28 b0, jU, jU] [] w2) : jW C cl sl Q 12 [jR 28 b0, jU, jI x2] [] w := jr_aload_n hm (i := 0) rfl rfl dX8_addSilence_12 (fg_X8_24 hm dX8_addSilence_13 (jr_aload_n hm (i := 0) rfl rfl dX8_addSilence_16 (fg_X8_31 hm dX8_addSilence_17 (jr_iload_n hm (i := 2) rfl rfl dX8_addSilence_20 (jr_callSN (mc := 0) (ms := 0) hm hs hd2 jw_1267 jw_225 jw_47 jw_226 jn_X9_put rfl rfl (Nat.le_of_ble_eq_true rfl) rfl dX8_addSilence_21 (jkF (jr_drop (jle_same (jle_same (jle_drop jle_nil))) k)))))))
theorem bk_X8_addSilence_24 {C : JC} {d cl sl : Nat} {w : JW} {b0 : Bool} {P : JV → JW → Prop} (hm : jok C MX8_addSilence d cl sl) (hp : P (jU) (jset w 28 b0 6 ((w.1 28 b0 6) + 1))) : jW C cl sl (jQQ C cl sl P) 24 [jR 28 b0, jU, jU] [] w := jr_aload_n hm (i := 0) rfl rfl dX8_addSilence_24 (jr_dupR hm dX8_addSilence_25 (fg_X8_31 hm dX8_addSilence_26 (jr_iconst hm (v := 1) (by decide) dX8_addSilence_29 (jr_iadd hm dX8_addSilence_30 (fp_X8_31 hm dX8_addSilence_31 (jr_return hm rfl dX8_addSilence_34 hp))))))
theorem dX8_heightIn_0 : decode cX8_heightIn 0 = .ok (.iconst 2, 1) := by decide +kernel
theorem dX8_heightIn_1 : decode cX8_heightIn 1 = .ok (.iload_n 2, 1) := by decide +kernel
theorem dX8_heightIn_2 : decode cX8_heightIn 2 = .ok (.imul, 1) := by decide +kernel
theorem dX8_heightIn_3 : decode cX8_heightIn 3 = .ok (.istore_n 3, 1) := by decide +kernel
theorem dX8_heightIn_4 : decode cX8_heightIn 4 = .ok (.iconst 0, 1) := by decide +kernel
theorem dX8_heightIn_5 : decode cX8_heightIn 5 = .ok (.istore 4, 2) := by decide +kernel
theorem dX8_heightIn_7 : decode cX8_heightIn 7 = .ok (.iload 4, 2) := by decide +kernel
theorem dX8_heightIn_9 : decode cX8_heightIn 9 = .ok (.aload_n 0, 1) := by decide +kernel
theorem dX8_heightIn_10 : decode cX8_heightIn 10 = .ok (.getfield 27, 3) := by decide +kernel
theorem dX8_heightIn_13 : decode cX8_heightIn 13 = .ok (.if_icmp .ge 63, 3) := by decide +kernel
theorem dX8_heightIn_16 : decode cX8_heightIn 16 = .ok (.iload_n 1, 1) := by decide +kernel
theorem dX8_heightIn_17 : decode cX8_heightIn 17 = .ok (.aload_n 0, 1) := by decide +kernel
theorem dX8_heightIn_18 : decode cX8_heightIn 18 = .ok (.getfield 18, 3) := by decide +kernel
theorem dX8_heightIn_21 : decode cX8_heightIn 21 = .ok (.iload 4, 2) := by decide +kernel
theorem dX8_heightIn_23 : decode cX8_heightIn 23 = .ok (.invokestatic 38, 3) := by decide +kernel
theorem dX8_heightIn_26 : decode cX8_heightIn 26 = .ok (.isub, 1) := by decide +kernel
theorem dX8_heightIn_27 : decode cX8_heightIn 27 = .ok (.istore 5, 2) := by decide +kernel
theorem dX8_heightIn_29 : decode cX8_heightIn 29 = .ok (.aload_n 0, 1) := by decide +kernel
theorem dX8_heightIn_30 : decode cX8_heightIn 30 = .ok (.getfield 15, 3) := by decide +kernel
theorem dX8_heightIn_33 : decode cX8_heightIn 33 = .ok (.iload 4, 2) := by decide +kernel
theorem dX8_heightIn_35 : decode cX8_heightIn 35 = .ok (.invokestatic 38, 3) := by decide +kernel
theorem dX8_heightIn_38 : decode cX8_heightIn 38 = .ok (.istore 6, 2) := by decide +kernel
theorem dX8_heightIn_40 : decode cX8_heightIn 40 = .ok (.iload 5, 2) := by decide +kernel
theorem dX8_heightIn_42 : decode cX8_heightIn 42 = .ok (.ifCond .lt 28, 3) := by decide +kernel
theorem dX8_heightIn_45 : decode cX8_heightIn 45 = .ok (.iload 6, 2) := by decide +kernel
theorem dX8_heightIn_47 : decode cX8_heightIn 47 = .ok (.ifCond .le 23, 3) := by decide +kernel
theorem dX8_heightIn_50 : decode cX8_heightIn 50 = .ok (.iload 5, 2) := by decide +kernel
theorem dX8_heightIn_52 : decode cX8_heightIn 52 = .ok (.iload 6, 2) := by decide +kernel
theorem dX8_heightIn_54 : decode cX8_heightIn 54 = .ok (.irem, 1) := by decide +kernel
theorem dX8_heightIn_55 : decode cX8_heightIn 55 = .ok (.ifCond .ne 15, 3) := by decide +kernel
theorem dX8_heightIn_58 : decode cX8_heightIn 58 = .ok (.iload_n 3, 1) := by decide +kernel
theorem dX8_heightIn_59 : decode cX8_heightIn 59 = .ok (.aload_n 0, 1) := by decide +kernel
theorem dX8_heightIn_60 : decode cX8_heightIn 60 = .ok (.getfield 9, 3) := by decide +kernel
theorem dX8_heightIn_63 : decode cX8_heightIn 63 = .ok (.iload 4, 2) := by decide +kernel
theorem dX8_heightIn_65 : decode cX8_heightIn 65 = .ok (.invokestatic 38, 3) := by decide +kernel
theorem dX8_heightIn_68 : decode cX8_heightIn 68 = .ok (.iadd, 1) := by decide +kernel
theorem dX8_heightIn_69 : decode cX8_heightIn 69 = .ok (.istore_n 3, 1) := by decide +kernel
theorem dX8_heightIn_70 : decode cX8_heightIn 70 = .ok (.iinc 4 1, 3) := by decide +kernel
theorem dX8_heightIn_73 : decode cX8_heightIn 73 = .ok (.goto (-66), 3) := by decide +kernel
theorem dX8_heightIn_76 : decode cX8_heightIn 76 = .ok (.iload_n 3, 1) := by decide +kernel
theorem dX8_heightIn_77 : decode cX8_heightIn 77 = .ok (.ireturn, 1) := by decide +kernel
theorem bk_X8_heightIn_0 {C : JC} {d cl sl : Nat} {Q : State → Prop} {w : JW} {b0 : Bool} {x1 : Int32} {x2 : Int32} (hm : jok C MX8_heightIn d cl sl) (k : jW C cl sl Q 7 [jR 28 b0, jI x1, jU, jI (2 * x2), jI 0, jU, jU] [] w) : jW C cl sl Q 0 [jR 28 b0, jI x1, jI x2, jU, jU, jU, jU] [] w := jr_iconst hm (v := 2) (by decide) dX8_heightIn_0 (jr_iload_n hm (i := 2) rfl rfl dX8_heightIn_1 (jr_imul hm dX8_heightIn_2 (jr_istore_n hm (i := 3) rfl (Nat.le_of_ble_eq_true rfl) rfl dX8_heightIn_3 (jr_iconst hm (v := 0) (by decide) dX8_heightIn_4 (jr_istore hm (i := 4) (Nat.le_of_ble_eq_true rfl) rfl dX8_heightIn_5 (jr_drop (jle_same (jle_same (jle_drop (jle_same (jle_same (jle_same (jle_same jle_nil))))))) k))))))
theorem bk_X8_heightIn_7 {C : JC} {d cl sl : Nat} {Q : State → Prop} {w : JW} {b0 : Bool} {x1 : Int32} {x3 : Int32} {x4 : Int32} (hm : jok C MX8_heightIn d cl sl) (kt : (w.1 28 b0 5) ≤ x4 → jW C cl sl Q 76 [jU, jU, jU, jI x3, jU, jU, jU] [] w) (kf : ¬ (w.1 28 b0 5) ≤ x4 → jW C cl sl Q 16 [jR 28 b0, jI x1, jU, jI x3, jI x4, jU, jU] [] w) : jW C cl sl Q 7 [jR 28 b0, jI x1, jU, jI x3, jI x4, jU, jU] [] w := jr_iload hm (i := 4) rfl dX8_heightIn_7 (jr_aload_n hm (i := 0) rfl rfl dX8_heightIn_9 (fg_X8_27 hm dX8_heightIn_10 (jr_icmp_ge hm dX8_heightIn_13 (by decide) (fun h => jr_drop (jle_drop (jle_drop (jle_same (jle_same (jle_drop (jle_same (jle_same jle_nil))))))) (kt h)) (fun h => jr_drop (jle_same (jle_same (jle_same (jle_same (jle_same (jle_same (jle_same jle_nil))))))) (kf h)))))
theorem bk_X8_heightIn_16 {C : JC} {d cl sl : Nat} {Q : State → Prop} {w : JW} {b0 : Bool} {x1 : Int32} {x3 : Int32} {x4 : Int32} {d2 : Nat} {r : Int32} {w2 : JW} (hm : jok C MX8_heightIn d cl sl) (hs : jF MX9_at d2 [jR 31 b0, jI x4] w (jI r) w2) (hd2 : d2 + 1 ≤ d) (k : jW C cl sl Q 26 [jR 28 b0, jI x1, jU, jI x3, jI x4, jU, jU] [jI r, jI x1] w2) : jW C cl sl Q 16 [jR 28 b0, jI x1, jU, jI x3, jI x4, jU, jU] [] w := jr_iload_n hm (i := 1) rfl rfl dX8_heightIn_16 (jr_aload_n hm (i := 0) rfl rfl dX8_heightIn_17 (fg_X8_18 hm dX8_heightIn_18 (jr_iload hm (i := 4) rfl dX8_heightIn_21 (jr_callSN (mc := 0) (ms := 0) hm hs hd2 jw_208 jw_162 jw_47 jw_163 jn_X9_at rfl rfl (Nat.le_of_ble_eq_true rfl) rfl dX8_heightIn_23 (jkF (jr_drop (jle_same (jle_same (jle_same (jle_same (jle_same (jle_same (jle_same jle_nil))))))) k))))))
theorem bk_X8_heightIn_26 {C : JC} {d cl sl : Nat} {Q : State → Prop} {w : JW} {b0 : Bool} {x1 : Int32} {x3 : Int32} {x4 : Int32} {xs0 : Int32} {xs1 : Int32} {d2 : Nat} {r : Int32} {w2 : JW} (hm : jok C MX8_heightIn d cl sl) (hs : jF MX9_at d2 [jR 30 b0, jI x4] w (jI r) w2) (hd2 : d2 + 1 ≤ d) (k : jW C cl sl Q 38 [jR 28 b0, jI x1, jU, jI x3, jI x4, jI (xs1 - xs0), jU] [jI r] w2) : jW C cl sl Q 26 [jR 28 b0, jI x1, jU, jI x3, jI x4, jU, jU] [jI xs0, jI xs1] w := jr_isub hm dX8_heightIn_26 (jr_istore hm (i := 5) (Nat.le_of_ble_eq_true rfl) rfl dX8_heightIn_27 (jr_aload_n hm (i := 0) rfl rfl dX8_heightIn_29 (fg_X8_15 hm dX8_heightIn_30 (jr_iload hm (i := 4) rfl dX8_heightIn_33 (jr_callSN (mc := 0) (ms := 0) hm hs hd2 jw_208 jw_162 jw_47 jw_163 jn_X9_at rfl rfl (Nat.le_of_ble_eq_true rfl) rfl dX8_heightIn_35 (jkF (jr_drop (jle_same (jle_same (jle_same (jle_same (jle_same (jle_same (jle_same jle_nil))))))) k)))))))
theorem bk_X8_heightIn_38 {C : JC} {d cl sl : Nat} {Q : State → Prop} {w : JW} {b0 : Bool} {x1 : Int32} {x3 : Int32} {x4 : Int32} {x5 : Int32} {xs0 : Int32} (hm : jok C MX8_heightIn d cl sl) (kt : x5 < 0 → jW C cl sl Q 70 [jR 28 b0, jI x1, jU, jI x3, jI x4, jU, jU] [] w) (kf : ¬ x5 < 0 → jW C cl sl Q 45 [jR 28 b0, jI x1, jU, jI x3, jI x4, jI x5, jI xs0] [] w) : jW C cl sl Q 38 [jR 28 b0, jI x1, jU, jI x3, jI x4, jI x5, jU] [jI xs0] w := jr_istore hm (i := 6) (Nat.le_of_ble_eq_true rfl) rfl dX8_heightIn_38 (jr_iload hm (i := 5) rfl dX8_heightIn_40 (jr_if_lt hm dX8_heightIn_42 (by decide) (fun h => jr_drop (jle_same (jle_same (jle_same (jle_same (jle_same (jle_drop (jle_drop jle_nil))))))) (kt h)) (fun h => jr_drop (jle_same (jle_same (jle_same (jle_same (jle_same (jle_same (jle_same jle_nil))))))) (kf h))))
theorem bk_X8_heightIn_45 {C : JC} {d cl sl : Nat} {Q : State → Prop} {w : JW} {b0 : Bool} {x1 : Int32} {x3 : Int32} {x4 : Int32} {x5 : Int32} {x6 : Int32} (hm : jok C MX8_heightIn d cl sl) (kt : x6 ≤ 0 → jW C cl sl Q 70 [jR 28 b0, jI x1, jU, jI x3, jI x4, jU, jU] [] w) (kf : ¬ x6 ≤ 0 → jW C cl sl Q 50 [jR 28 b0, jI x1, jU, jI x3, jI x4, jI x5, jI x6] [] w) : jW C cl sl Q 45 [jR 28 b0, jI x1, jU, jI x3, jI x4, jI x5, jI x6] [] w := jr_iload hm (i := 6) rfl dX8_heightIn_45 (jr_if_le hm dX8_heightIn_47 (by decide) (fun h => jr_drop (jle_same (jle_same (jle_same (jle_same (jle_same (jle_drop (jle_drop jle_nil))))))) (kt h)) (fun h => jr_drop (jle_same (jle_same (jle_same (jle_same (jle_same (jle_same (jle_same jle_nil))))))) (kf h)))
theorem bk_X8_heightIn_50 {C : JC} {d cl sl : Nat} {Q : State → Prop} {w : JW} {b0 : Bool} {x1 : Int32} {x3 : Int32} {x4 : Int32} {x5 : Int32} {x6 : Int32} (hm : jok C MX8_heightIn d cl sl) (h1 : ¬ x6 = 0) (kt : ¬ x5 - x5 / x6 * x6 = 0 → jW C cl sl Q 70 [jR 28 b0, jI x1, jU, jI x3, jI x4, jU, jU] [] w) (kf : x5 - x5 / x6 * x6 = 0 → jW C cl sl Q 58 [jR 28 b0, jI x1, jU, jI x3, jI x4, jU, jU] [] w) : jW C cl sl Q 50 [jR 28 b0, jI x1, jU, jI x3, jI x4, jI x5, jI x6] [] w := jr_iload hm (i := 5) rfl dX8_heightIn_50 (jr_iload hm (i := 6) rfl dX8_heightIn_52 (jr_irem hm h1 dX8_heightIn_54 (jr_if_ne hm dX8_heightIn_55 (by decide) (fun h => jr_drop (jle_same (jle_same (jle_same (jle_same (jle_same (jle_drop (jle_drop jle_nil))))))) (kt h)) (fun h => jr_drop (jle_same (jle_same (jle_same (jle_same (jle_same (jle_drop (jle_drop jle_nil))))))) (kf h)))))
theorem bk_X8_heightIn_58 {C : JC} {d cl sl : Nat} {Q : State → Prop} {w : JW} {b0 : Bool} {x1 : Int32} {x3 : Int32} {x4 : Int32} {d2 : Nat} {r : Int32} {w2 : JW} (hm : jok C MX8_heightIn d cl sl) (hs : jF MX9_at d2 [jR 29 b0, jI x4] w (jI r) w2) (hd2 : d2 + 1 ≤ d) (k : jW C cl sl Q 68 [jR 28 b0, jI x1, jU, jU, jI x4, jU, jU] [jI r, jI x3] w2) : jW C cl sl Q 58 [jR 28 b0, jI x1, jU, jI x3, jI x4, jU, jU] [] w := jr_iload_n hm (i := 3) rfl rfl dX8_heightIn_58 (jr_aload_n hm (i := 0) rfl rfl dX8_heightIn_59 (fg_X8_9 hm dX8_heightIn_60 (jr_iload hm (i := 4) rfl dX8_heightIn_63 (jr_callSN (mc := 0) (ms := 0) hm hs hd2 jw_208 jw_162 jw_47 jw_163 jn_X9_at rfl rfl (Nat.le_of_ble_eq_true rfl) rfl dX8_heightIn_65 (jkF (jr_drop (jle_same (jle_same (jle_same (jle_drop (jle_same (jle_same (jle_same jle_nil))))))) k))))))
theorem bk_X8_heightIn_68 {C : JC} {d cl sl : Nat} {Q : State → Prop} {w : JW} {b0 : Bool} {x1 : Int32} {x4 : Int32} {xs0 : Int32} {xs1 : Int32} (hm : jok C MX8_heightIn d cl sl) (k : jW C cl sl Q 70 [jR 28 b0, jI x1, jU, jI (xs1 + xs0), jI x4, jU, jU] [] w) : jW C cl sl Q 68 [jR 28 b0, jI x1, jU, jU, jI x4, jU, jU] [jI xs0, jI xs1] w := jr_iadd hm dX8_heightIn_68 (jr_istore_n hm (i := 3) rfl (Nat.le_of_ble_eq_true rfl) rfl dX8_heightIn_69 (jr_drop (jle_same (jle_same (jle_same (jle_same (jle_same (jle_same (jle_same jle_nil))))))) k))
theorem bk_X8_heightIn_70 {C : JC} {d cl sl : Nat} {Q : State → Prop} {w : JW} {b0 : Bool} {x1 : Int32} {x3 : Int32} {x4 : Int32} (hm : jok C MX8_heightIn d cl sl) (k : jW C cl sl Q 7 [jR 28 b0, jI x1, jU, jI x3, jI (x4 + 1), jU, jU] [] w) : jW C cl sl Q 70 [jR 28 b0, jI x1, jU, jI x3, jI x4, jU, jU] [] w := jr_iinc hm (i := 4) (v := x4 + 1) rfl rfl rfl dX8_heightIn_70 (jr_goto hm dX8_heightIn_73 (by decide) (jr_drop (jle_same (jle_same (jle_same (jle_same (jle_same (jle_same (jle_same jle_nil))))))) k))
theorem bk_X8_heightIn_76 {C : JC} {d cl sl : Nat} {w : JW} {x3 : Int32} {P : JV → JW → Prop} (hm : jok C MX8_heightIn d cl sl) (hp : P (jI x3) w) : jW C cl sl (jQQ C cl sl P) 76 [jU, jU, jU, jI x3, jU, jU, jU] [] w := jr_iload_n hm (i := 3) rfl rfl dX8_heightIn_76 (jr_ireturn hm rfl dX8_heightIn_77 hp)
theorem dX8_isStill_0 : decode cX8_isStill 0 = .ok (.iload_n 1, 1) := by decide +kernel
theorem dX8_isStill_1 : decode cX8_isStill 1 = .ok (.bipush 24, 2) := by decide +kernel
theorem dX8_isStill_3 : decode cX8_isStill 3 = .ok (.irem, 1) := by decide +kernel
theorem dX8_isStill_4 : decode cX8_isStill 4 = .ok (.istore_n 2, 1) := by decide +kernel
theorem dX8_isStill_5 : decode cX8_isStill 5 = .ok (.iconst 0, 1) := by decide +kernel
theorem dX8_isStill_6 : decode cX8_isStill 6 = .ok (.istore_n 3, 1) := by decide +kernel
theorem dX8_isStill_7 : decode cX8_isStill 7 = .ok (.iload_n 3, 1) := by decide +kernel
theorem dX8_isStill_8 : decode cX8_isStill 8 = .ok (.aload_n 0, 1) := by decide +kernel
theorem dX8_isStill_9 : decode cX8_isStill 9 = .ok (.getfield 31, 3) := by decide +kernel
theorem dX8_isStill_12 : decode cX8_isStill 12 = .ok (.if_icmp .ge 87, 3) := by decide +kernel
theorem dX8_isStill_15 : decode cX8_isStill 15 = .ok (.aload_n 0, 1) := by decide +kernel
theorem dX8_isStill_16 : decode cX8_isStill 16 = .ok (.getfield 21, 3) := by decide +kernel
theorem dX8_isStill_19 : decode cX8_isStill 19 = .ok (.iload_n 3, 1) := by decide +kernel
theorem dX8_isStill_20 : decode cX8_isStill 20 = .ok (.invokestatic 38, 3) := by decide +kernel
theorem dX8_isStill_23 : decode cX8_isStill 23 = .ok (.istore 4, 2) := by decide +kernel
theorem dX8_isStill_25 : decode cX8_isStill 25 = .ok (.aload_n 0, 1) := by decide +kernel
theorem dX8_isStill_26 : decode cX8_isStill 26 = .ok (.getfield 24, 3) := by decide +kernel
theorem dX8_isStill_29 : decode cX8_isStill 29 = .ok (.iload_n 3, 1) := by decide +kernel
theorem dX8_isStill_30 : decode cX8_isStill 30 = .ok (.invokestatic 38, 3) := by decide +kernel
theorem dX8_isStill_33 : decode cX8_isStill 33 = .ok (.istore 5, 2) := by decide +kernel
theorem dX8_isStill_35 : decode cX8_isStill 35 = .ok (.iload_n 2, 1) := by decide +kernel
theorem dX8_isStill_36 : decode cX8_isStill 36 = .ok (.iload 4, 2) := by decide +kernel
theorem dX8_isStill_38 : decode cX8_isStill 38 = .ok (.if_icmp .lt 7, 3) := by decide +kernel
theorem dX8_isStill_41 : decode cX8_isStill 41 = .ok (.iconst 1, 1) := by decide +kernel
theorem dX8_isStill_42 : decode cX8_isStill 42 = .ok (.goto 4, 3) := by decide +kernel
theorem dX8_isStill_45 : decode cX8_isStill 45 = .ok (.iconst 0, 1) := by decide +kernel
theorem dX8_isStill_46 : decode cX8_isStill 46 = .ok (.istore 6, 2) := by decide +kernel
theorem dX8_isStill_48 : decode cX8_isStill 48 = .ok (.iload_n 2, 1) := by decide +kernel
theorem dX8_isStill_49 : decode cX8_isStill 49 = .ok (.iload 5, 2) := by decide +kernel
theorem dX8_isStill_51 : decode cX8_isStill 51 = .ok (.if_icmp .ge 7, 3) := by decide +kernel
theorem dX8_isStill_54 : decode cX8_isStill 54 = .ok (.iconst 1, 1) := by decide +kernel
theorem dX8_isStill_55 : decode cX8_isStill 55 = .ok (.goto 4, 3) := by decide +kernel
theorem dX8_isStill_58 : decode cX8_isStill 58 = .ok (.iconst 0, 1) := by decide +kernel
theorem dX8_isStill_59 : decode cX8_isStill 59 = .ok (.istore 7, 2) := by decide +kernel
theorem dX8_isStill_61 : decode cX8_isStill 61 = .ok (.iload 4, 2) := by decide +kernel
theorem dX8_isStill_63 : decode cX8_isStill 63 = .ok (.iload 5, 2) := by decide +kernel
theorem dX8_isStill_65 : decode cX8_isStill 65 = .ok (.if_icmp .ge 16, 3) := by decide +kernel
theorem dX8_isStill_68 : decode cX8_isStill 68 = .ok (.iload 6, 2) := by decide +kernel
theorem dX8_isStill_70 : decode cX8_isStill 70 = .ok (.ifCond .eq 23, 3) := by decide +kernel
theorem dX8_isStill_73 : decode cX8_isStill 73 = .ok (.iload 7, 2) := by decide +kernel
theorem dX8_isStill_75 : decode cX8_isStill 75 = .ok (.ifCond .eq 18, 3) := by decide +kernel
theorem dX8_isStill_78 : decode cX8_isStill 78 = .ok (.goto 13, 3) := by decide +kernel
theorem dX8_isStill_81 : decode cX8_isStill 81 = .ok (.iload 6, 2) := by decide +kernel
theorem dX8_isStill_83 : decode cX8_isStill 83 = .ok (.ifCond .ne 8, 3) := by decide +kernel
theorem dX8_isStill_86 : decode cX8_isStill 86 = .ok (.iload 7, 2) := by decide +kernel
theorem dX8_isStill_88 : decode cX8_isStill 88 = .ok (.ifCond .eq 5, 3) := by decide +kernel
theorem dX8_isStill_91 : decode cX8_isStill 91 = .ok (.iconst 1, 1) := by decide +kernel
theorem dX8_isStill_92 : decode cX8_isStill 92 = .ok (.ireturn, 1) := by decide +kernel
theorem dX8_isStill_93 : decode cX8_isStill 93 = .ok (.iinc 3 1, 3) := by decide +kernel
theorem dX8_isStill_96 : decode cX8_isStill 96 = .ok (.goto (-89), 3) := by decide +kernel
theorem dX8_isStill_99 : decode cX8_isStill 99 = .ok (.iconst 0, 1) := by decide +kernel
theorem dX8_isStill_100 : decode cX8_isStill 100 = .ok (.ireturn, 1) := by decide +kernel
theorem bk_X8_isStill_0 {C : JC} {d cl sl : Nat} {Q : State → Prop} {w : JW} {b0 : Bool} {x1 : Int32} (hm : jok C MX8_isStill d cl sl) (k : jW C cl sl Q 7 [jR 28 b0, jU, jI (x1 - x1 / 24 * 24), jI 0, jU, jU, jU, jU] [] w) : jW C cl sl Q 0 [jR 28 b0, jI x1, jU, jU, jU, jU, jU, jU] [] w := jr_iload_n hm (i := 1) rfl rfl dX8_isStill_0 (jr_bipush hm (v := 24) (by decide) dX8_isStill_1 (jr_irem hm (by decide) dX8_isStill_3 (jr_istore_n hm (i := 2) rfl (Nat.le_of_ble_eq_true rfl) rfl dX8_isStill_4 (jr_iconst hm (v := 0) (by decide) dX8_isStill_5 (jr_istore_n hm (i := 3) rfl (Nat.le_of_ble_eq_true rfl) rfl dX8_isStill_6 (jr_drop (jle_same (jle_drop (jle_same (jle_same (jle_same (jle_same (jle_same (jle_same jle_nil)))))))) k))))))
theorem bk_X8_isStill_7 {C : JC} {d cl sl : Nat} {Q : State → Prop} {w : JW} {b0 : Bool} {x2 : Int32} {x3 : Int32} (hm : jok C MX8_isStill d cl sl) (kt : (w.1 28 b0 6) ≤ x3 → jW C cl sl Q 99 [jU, jU, jU, jU, jU, jU, jU, jU] [] w) (kf : ¬ (w.1 28 b0 6) ≤ x3 → jW C cl sl Q 15 [jR 28 b0, jU, jI x2, jI x3, jU, jU, jU, jU] [] w) : jW C cl sl Q 7 [jR 28 b0, jU, jI x2, jI x3, jU, jU, jU, jU] [] w := jr_iload_n hm (i := 3) rfl rfl dX8_isStill_7 (jr_aload_n hm (i := 0) rfl rfl dX8_isStill_8 (fg_X8_31 hm dX8_isStill_9 (jr_icmp_ge hm dX8_isStill_12 (by decide) (fun h => jr_drop (jle_drop (jle_same (jle_drop (jle_drop (jle_same (jle_same (jle_same (jle_same jle_nil)))))))) (kt h)) (fun h => jr_drop (jle_same (jle_same (jle_same (jle_same (jle_same (jle_same (jle_same (jle_same jle_nil)))))))) (kf h)))))
theorem bk_X8_isStill_15 {C : JC} {d cl sl : Nat} {Q : State → Prop} {w : JW} {b0 : Bool} {x2 : Int32} {x3 : Int32} {d2 : Nat} {r : Int32} {w2 : JW} (hm : jok C MX8_isStill d cl sl) (hs : jF MX9_at d2 [jR 32 b0, jI x3] w (jI r) w2) (hd2 : d2 + 1 ≤ d) (k : jW C cl sl Q 23 [jR 28 b0, jU, jI x2, jI x3, jU, jU, jU, jU] [jI r] w2) : jW C cl sl Q 15 [jR 28 b0, jU, jI x2, jI x3, jU, jU, jU, jU] [] w := jr_aload_n hm (i := 0) rfl rfl dX8_isStill_15 (fg_X8_21 hm dX8_isStill_16 (jr_iload_n hm (i := 3) rfl rfl dX8_isStill_19 (jr_callSN (mc := 0) (ms := 0) hm hs hd2 jw_208 jw_162 jw_47 jw_163 jn_X9_at rfl rfl (Nat.le_of_ble_eq_true rfl) rfl dX8_isStill_20 (jkF (jr_drop (jle_same (jle_same (jle_same (jle_same (jle_same (jle_same (jle_same (jle_same jle_nil)))))))) k)))))
theorem bk_X8_isStill_23 {C : JC} {d cl sl : Nat} {Q : State → Prop} {w : JW} {b0 : Bool} {x2 : Int32} {x3 : Int32} {xs0 : Int32} {d2 : Nat} {r : Int32} {w2 : JW} (hm : jok C MX8_isStill d cl sl) (hs : jF MX9_at d2 [jR 33 b0, jI x3] w (jI r) w2) (hd2 : d2 + 1 ≤ d) (k : jW C cl sl Q 33 [jR 28 b0, jU, jI x2, jI x3, jI xs0, jU, jU, jU] [jI r] w2) : jW C cl sl Q 23 [jR 28 b0, jU, jI x2, jI x3, jU, jU, jU, jU] [jI xs0] w := jr_istore hm (i := 4) (Nat.le_of_ble_eq_true rfl) rfl dX8_isStill_23 (jr_aload_n hm (i := 0) rfl rfl dX8_isStill_25 (fg_X8_24 hm dX8_isStill_26 (jr_iload_n hm (i := 3) rfl rfl dX8_isStill_29 (jr_callSN (mc := 0) (ms := 0) hm hs hd2 jw_208 jw_162 jw_47 jw_163 jn_X9_at rfl rfl (Nat.le_of_ble_eq_true rfl) rfl dX8_isStill_30 (jkF (jr_drop (jle_same (jle_same (jle_same (jle_same (jle_same (jle_same (jle_same (jle_same jle_nil)))))))) k))))))
theorem bk_X8_isStill_33 {C : JC} {d cl sl : Nat} {Q : State → Prop} {w : JW} {b0 : Bool} {x2 : Int32} {x3 : Int32} {x4 : Int32} {xs0 : Int32} (hm : jok C MX8_isStill d cl sl) (kt : x2 < x4 → jW C cl sl Q 45 [jR 28 b0, jU, jI x2, jI x3, jI x4, jI xs0, jU, jU] [] w) (kf : ¬ x2 < x4 → jW C cl sl Q 41 [jR 28 b0, jU, jI x2, jI x3, jI x4, jI xs0, jU, jU] [] w) : jW C cl sl Q 33 [jR 28 b0, jU, jI x2, jI x3, jI x4, jU, jU, jU] [jI xs0] w := jr_istore hm (i := 5) (Nat.le_of_ble_eq_true rfl) rfl dX8_isStill_33 (jr_iload_n hm (i := 2) rfl rfl dX8_isStill_35 (jr_iload hm (i := 4) rfl dX8_isStill_36 (jr_icmp_lt hm dX8_isStill_38 (by decide) (fun h => jr_drop (jle_same (jle_same (jle_same (jle_same (jle_same (jle_same (jle_same (jle_same jle_nil)))))))) (kt h)) (fun h => jr_drop (jle_same (jle_same (jle_same (jle_same (jle_same (jle_same (jle_same (jle_same jle_nil)))))))) (kf h)))))
theorem bk_X8_isStill_41 {C : JC} {d cl sl : Nat} {Q : State → Prop} {w : JW} {b0 : Bool} {x2 : Int32} {x3 : Int32} {x4 : Int32} {x5 : Int32} (hm : jok C MX8_isStill d cl sl) (k : jW C cl sl Q 46 [jR 28 b0, jU, jI x2, jI x3, jI x4, jI x5, jU, jU] [jI 1] w) : jW C cl sl Q 41 [jR 28 b0, jU, jI x2, jI x3, jI x4, jI x5, jU, jU] [] w := jr_iconst hm (v := 1) (by decide) dX8_isStill_41 (jr_goto hm dX8_isStill_42 (by decide) (jr_drop (jle_same (jle_same (jle_same (jle_same (jle_same (jle_same (jle_same (jle_same jle_nil)))))))) k))
theorem bk_X8_isStill_45 {C : JC} {d cl sl : Nat} {Q : State → Prop} {w : JW} {b0 : Bool} {x2 : Int32} {x3 : Int32} {x4 : Int32} {x5 : Int32} (hm : jok C MX8_isStill d cl sl) (k : jW C cl sl Q 46 [jR 28 b0, jU, jI x2, jI x3, jI x4, jI x5, jU, jU] [jI 0] w) : jW C cl sl Q 45 [jR 28 b0, jU, jI x2, jI x3, jI x4, jI x5, jU, jU] [] w := jr_iconst hm (v := 0) (by decide) dX8_isStill_45 (jr_drop (jle_same (jle_same (jle_same (jle_same (jle_same (jle_same (jle_same (jle_same jle_nil)))))))) k)
theorem bk_X8_isStill_46 {C : JC} {d cl sl : Nat} {Q : State → Prop} {w : JW} {b0 : Bool} {x2 : Int32} {x3 : Int32} {x4 : Int32} {x5 : Int32} {xs0 : Int32} (hm : jok C MX8_isStill d cl sl) (kt : x5 ≤ x2 → jW C cl sl Q 58 [jR 28 b0, jU, jI x2, jI x3, jI x4, jI x5, jI xs0, jU] [] w) (kf : ¬ x5 ≤ x2 → jW C cl sl Q 54 [jR 28 b0, jU, jI x2, jI x3, jI x4, jI x5, jI xs0, jU] [] w) : jW C cl sl Q 46 [jR 28 b0, jU, jI x2, jI x3, jI x4, jI x5, jU, jU] [jI xs0] w := jr_istore hm (i := 6) (Nat.le_of_ble_eq_true rfl) rfl dX8_isStill_46 (jr_iload_n hm (i := 2) rfl rfl dX8_isStill_48 (jr_iload hm (i := 5) rfl dX8_isStill_49 (jr_icmp_ge hm dX8_isStill_51 (by decide) (fun h => jr_drop (jle_same (jle_same (jle_same (jle_same (jle_same (jle_same (jle_same (jle_same jle_nil)))))))) (kt h)) (fun h => jr_drop (jle_same (jle_same (jle_same (jle_same (jle_same (jle_same (jle_same (jle_same jle_nil)))))))) (kf h)))))
theorem bk_X8_isStill_54 {C : JC} {d cl sl : Nat} {Q : State → Prop} {w : JW} {b0 : Bool} {x2 : Int32} {x3 : Int32} {x4 : Int32} {x5 : Int32} {x6 : Int32} (hm : jok C MX8_isStill d cl sl) (k : jW C cl sl Q 59 [jR 28 b0, jU, jI x2, jI x3, jI x4, jI x5, jI x6, jU] [jI 1] w) : jW C cl sl Q 54 [jR 28 b0, jU, jI x2, jI x3, jI x4, jI x5, jI x6, jU] [] w := jr_iconst hm (v := 1) (by decide) dX8_isStill_54 (jr_goto hm dX8_isStill_55 (by decide) (jr_drop (jle_same (jle_same (jle_same (jle_same (jle_same (jle_same (jle_same (jle_same jle_nil)))))))) k))
theorem bk_X8_isStill_58 {C : JC} {d cl sl : Nat} {Q : State → Prop} {w : JW} {b0 : Bool} {x2 : Int32} {x3 : Int32} {x4 : Int32} {x5 : Int32} {x6 : Int32} (hm : jok C MX8_isStill d cl sl) (k : jW C cl sl Q 59 [jR 28 b0, jU, jI x2, jI x3, jI x4, jI x5, jI x6, jU] [jI 0] w) : jW C cl sl Q 58 [jR 28 b0, jU, jI x2, jI x3, jI x4, jI x5, jI x6, jU] [] w := jr_iconst hm (v := 0) (by decide) dX8_isStill_58 (jr_drop (jle_same (jle_same (jle_same (jle_same (jle_same (jle_same (jle_same (jle_same jle_nil)))))))) k)
theorem bk_X8_isStill_59 {C : JC} {d cl sl : Nat} {Q : State → Prop} {w : JW} {b0 : Bool} {x2 : Int32} {x3 : Int32} {x4 : Int32} {x5 : Int32} {x6 : Int32} {xs0 : Int32} (hm : jok C MX8_isStill d cl sl) (kt : x5 ≤ x4 → jW C cl sl Q 81 [jR 28 b0, jU, jI x2, jI x3, jU, jU, jI x6, jI xs0] [] w) (kf : ¬ x5 ≤ x4 → jW C cl sl Q 68 [jR 28 b0, jU, jI x2, jI x3, jU, jU, jI x6, jI xs0] [] w) : jW C cl sl Q 59 [jR 28 b0, jU, jI x2, jI x3, jI x4, jI x5, jI x6, jU] [jI xs0] w := jr_istore hm (i := 7) (Nat.le_of_ble_eq_true rfl) rfl dX8_isStill_59 (jr_iload hm (i := 4) rfl dX8_isStill_61 (jr_iload hm (i := 5) rfl dX8_isStill_63 (jr_icmp_ge hm dX8_isStill_65 (by decide) (fun h => jr_drop (jle_same (jle_same (jle_same (jle_same (jle_drop (jle_drop (jle_same (jle_same jle_nil)))))))) (kt h)) (fun h => jr_drop (jle_same (jle_same (jle_same (jle_same (jle_drop (jle_drop (jle_same (jle_same jle_nil)))))))) (kf h)))))
theorem bk_X8_isStill_68 {C : JC} {d cl sl : Nat} {Q : State → Prop} {w : JW} {b0 : Bool} {x2 : Int32} {x3 : Int32} {x6 : Int32} {x7 : Int32} (hm : jok C MX8_isStill d cl sl) (kt : x6 = 0 → jW C cl sl Q 93 [jR 28 b0, jU, jI x2, jI x3, jU, jU, jU, jU] [] w) (kf : ¬ x6 = 0 → jW C cl sl Q 73 [jR 28 b0, jU, jI x2, jI x3, jU, jU, jU, jI x7] [] w) : jW C cl sl Q 68 [jR 28 b0, jU, jI x2, jI x3, jU, jU, jI x6, jI x7] [] w := jr_iload hm (i := 6) rfl dX8_isStill_68 (jr_if_eq hm dX8_isStill_70 (by decide) (fun h => jr_drop (jle_same (jle_same (jle_same (jle_same (jle_same (jle_same (jle_drop (jle_drop jle_nil)))))))) (kt h)) (fun h => jr_drop (jle_same (jle_same (jle_same (jle_same (jle_same (jle_same (jle_drop (jle_same jle_nil)))))))) (kf h)))
theorem bk_X8_isStill_73 {C : JC} {d cl sl : Nat} {Q : State → Prop} {w : JW} {b0 : Bool} {x2 : Int32} {x3 : Int32} {x7 : Int32} (hm : jok C MX8_isStill d cl sl) (kt : x7 = 0 → jW C cl sl Q 93 [jR 28 b0, jU, jI x2, jI x3, jU, jU, jU, jU] [] w) (kf : ¬ x7 = 0 → jW C cl sl Q 78 [jU, jU, jU, jU, jU, jU, jU, jU] [] w) : jW C cl sl Q 73 [jR 28 b0, jU, jI x2, jI x3, jU, jU, jU, jI x7] [] w := jr_iload hm (i := 7) rfl dX8_isStill_73 (jr_if_eq hm dX8_isStill_75 (by decide) (fun h => jr_drop (jle_same (jle_same (jle_same (jle_same (jle_same (jle_same (jle_same (jle_drop jle_nil)))))))) (kt h)) (fun h => jr_drop (jle_drop (jle_same (jle_drop (jle_drop (jle_same (jle_same (jle_same (jle_drop jle_nil)))))))) (kf h)))
theorem bk_X8_isStill_78 {C : JC} {d cl sl : Nat} {Q : State → Prop} {w : JW}  (hm : jok C MX8_isStill d cl sl) (k : jW C cl sl Q 91 [jU, jU, jU, jU, jU, jU, jU, jU] [] w) : jW C cl sl Q 78 [jU, jU, jU, jU, jU, jU, jU, jU] [] w := jr_goto hm dX8_isStill_78 (by decide) (jr_drop (jle_same (jle_same (jle_same (jle_same (jle_same (jle_same (jle_same (jle_same jle_nil)))))))) k)
theorem bk_X8_isStill_81 {C : JC} {d cl sl : Nat} {Q : State → Prop} {w : JW} {b0 : Bool} {x2 : Int32} {x3 : Int32} {x6 : Int32} {x7 : Int32} (hm : jok C MX8_isStill d cl sl) (kt : ¬ x6 = 0 → jW C cl sl Q 91 [jU, jU, jU, jU, jU, jU, jU, jU] [] w) (kf : x6 = 0 → jW C cl sl Q 86 [jR 28 b0, jU, jI x2, jI x3, jU, jU, jU, jI x7] [] w) : jW C cl sl Q 81 [jR 28 b0, jU, jI x2, jI x3, jU, jU, jI x6, jI x7] [] w := jr_iload hm (i := 6) rfl dX8_isStill_81 (jr_if_ne hm dX8_isStill_83 (by decide) (fun h => jr_drop (jle_drop (jle_same (jle_drop (jle_drop (jle_same (jle_same (jle_drop (jle_drop jle_nil)))))))) (kt h)) (fun h => jr_drop (jle_same (jle_same (jle_same (jle_same (jle_same (jle_same (jle_drop (jle_same jle_nil)))))))) (kf h)))
theorem bk_X8_isStill_86 {C : JC} {d cl sl : Nat} {Q : State → Prop} {w : JW} {b0 : Bool} {x2 : Int32} {x3 : Int32} {x7 : Int32} (hm : jok C MX8_isStill d cl sl) (kt : x7 = 0 → jW C cl sl Q 93 [jR 28 b0, jU, jI x2, jI x3, jU, jU, jU, jU] [] w) (kf : ¬ x7 = 0 → jW C cl sl Q 91 [jU, jU, jU, jU, jU, jU, jU, jU] [] w) : jW C cl sl Q 86 [jR 28 b0, jU, jI x2, jI x3, jU, jU, jU, jI x7] [] w := jr_iload hm (i := 7) rfl dX8_isStill_86 (jr_if_eq hm dX8_isStill_88 (by decide) (fun h => jr_drop (jle_same (jle_same (jle_same (jle_same (jle_same (jle_same (jle_same (jle_drop jle_nil)))))))) (kt h)) (fun h => jr_drop (jle_drop (jle_same (jle_drop (jle_drop (jle_same (jle_same (jle_same (jle_drop jle_nil)))))))) (kf h)))
theorem bk_X8_isStill_91 {C : JC} {d cl sl : Nat} {w : JW} {P : JV → JW → Prop} (hm : jok C MX8_isStill d cl sl) (hp : P (jI 1) w) : jW C cl sl (jQQ C cl sl P) 91 [jU, jU, jU, jU, jU, jU, jU, jU] [] w := jr_iconst hm (v := 1) (by decide) dX8_isStill_91 (jr_zreturn hm rfl rfl dX8_isStill_92 hp)
theorem bk_X8_isStill_93 {C : JC} {d cl sl : Nat} {Q : State → Prop} {w : JW} {b0 : Bool} {x2 : Int32} {x3 : Int32} (hm : jok C MX8_isStill d cl sl) (k : jW C cl sl Q 7 [jR 28 b0, jU, jI x2, jI (x3 + 1), jU, jU, jU, jU] [] w) : jW C cl sl Q 93 [jR 28 b0, jU, jI x2, jI x3, jU, jU, jU, jU] [] w := jr_iinc hm (i := 3) (v := x3 + 1) rfl rfl rfl dX8_isStill_93 (jr_goto hm dX8_isStill_96 (by decide) (jr_drop (jle_same (jle_same (jle_same (jle_same (jle_same (jle_same (jle_same (jle_same jle_nil)))))))) k))
theorem bk_X8_isStill_99 {C : JC} {d cl sl : Nat} {w : JW} {P : JV → JW → Prop} (hm : jok C MX8_isStill d cl sl) (hp : P (jI 0) w) : jW C cl sl (jQQ C cl sl P) 99 [jU, jU, jU, jU, jU, jU, jU, jU] [] w := jr_iconst hm (v := 0) (by decide) dX8_isStill_99 (jr_zreturn hm rfl rfl dX8_isStill_100 hp)
theorem dX0_holds_0 : decode cX0_holds 0 = .ok (.aload_n 1, 1) := by decide +kernel
theorem dX0_holds_1 : decode cX0_holds 1 = .ok (.getfield 15, 3) := by decide +kernel
theorem dX0_holds_4 : decode cX0_holds 4 = .ok (.iload_n 2, 1) := by decide +kernel
theorem dX0_holds_5 : decode cX0_holds 5 = .ok (.invokestatic 20, 3) := by decide +kernel
theorem dX0_holds_8 : decode cX0_holds 8 = .ok (.istore 4, 2) := by decide +kernel
theorem dX0_holds_10 : decode cX0_holds 10 = .ok (.aload_n 1, 1) := by decide +kernel
theorem dX0_holds_11 : decode cX0_holds 11 = .ok (.getfield 24, 3) := by decide +kernel
theorem dX0_holds_14 : decode cX0_holds 14 = .ok (.iload_n 2, 1) := by decide +kernel
theorem dX0_holds_15 : decode cX0_holds 15 = .ok (.invokestatic 20, 3) := by decide +kernel
theorem dX0_holds_18 : decode cX0_holds 18 = .ok (.istore 5, 2) := by decide +kernel
theorem dX0_holds_20 : decode cX0_holds 20 = .ok (.iload 4, 2) := by decide +kernel
theorem dX0_holds_22 : decode cX0_holds 22 = .ok (.iload 5, 2) := by decide +kernel
theorem dX0_holds_24 : decode cX0_holds 24 = .ok (.if_icmp .ne 5, 3) := by decide +kernel
theorem dX0_holds_27 : decode cX0_holds 27 = .ok (.iconst 1, 1) := by decide +kernel
theorem dX0_holds_28 : decode cX0_holds 28 = .ok (.ireturn, 1) := by decide +kernel
theorem dX0_holds_29 : decode cX0_holds 29 = .ok (.aload_n 0, 1) := by decide +kernel
theorem dX0_holds_30 : decode cX0_holds 30 = .ok (.iconst 0, 1) := by decide +kernel
theorem dX0_holds_31 : decode cX0_holds 31 = .ok (.putfield 27, 3) := by decide +kernel
theorem dX0_holds_34 : decode cX0_holds 34 = .ok (.iload 4, 2) := by decide +kernel
theorem dX0_holds_36 : decode cX0_holds 36 = .ok (.istore 6, 2) := by decide +kernel
theorem dX0_holds_38 : decode cX0_holds 38 = .ok (.iload 6, 2) := by decide +kernel
theorem dX0_holds_40 : decode cX0_holds 40 = .ok (.iload 5, 2) := by decide +kernel
theorem dX0_holds_42 : decode cX0_holds 42 = .ok (.if_icmp .ge 110, 3) := by decide +kernel
theorem dX0_holds_45 : decode cX0_holds 45 = .ok (.aload_n 1, 1) := by decide +kernel
theorem dX0_holds_46 : decode cX0_holds 46 = .ok (.getfield 31, 3) := by decide +kernel
theorem dX0_holds_49 : decode cX0_holds 49 = .ok (.iload 6, 2) := by decide +kernel
theorem dX0_holds_51 : decode cX0_holds 51 = .ok (.invokestatic 20, 3) := by decide +kernel
theorem dX0_holds_54 : decode cX0_holds 54 = .ok (.istore 7, 2) := by decide +kernel
theorem dX0_holds_56 : decode cX0_holds 56 = .ok (.iload 7, 2) := by decide +kernel
theorem dX0_holds_58 : decode cX0_holds 58 = .ok (.bipush 49, 2) := by decide +kernel
theorem dX0_holds_60 : decode cX0_holds 60 = .ok (.if_icmp .ne 15, 3) := by decide +kernel
theorem dX0_holds_63 : decode cX0_holds 63 = .ok (.aload_n 0, 1) := by decide +kernel
theorem dX0_holds_64 : decode cX0_holds 64 = .ok (.aload_n 0, 1) := by decide +kernel
theorem dX0_holds_65 : decode cX0_holds 65 = .ok (.invokevirtual 34, 3) := by decide +kernel
theorem dX0_holds_68 : decode cX0_holds 68 = .ok (.ineg, 1) := by decide +kernel
theorem dX0_holds_69 : decode cX0_holds 69 = .ok (.invokevirtual 38, 3) := by decide +kernel
theorem dX0_holds_72 : decode cX0_holds 72 = .ok (.goto 74, 3) := by decide +kernel
theorem dX0_holds_75 : decode cX0_holds 75 = .ok (.iload 7, 2) := by decide +kernel
theorem dX0_holds_77 : decode cX0_holds 77 = .ok (.bipush 25, 2) := by decide +kernel
theorem dX0_holds_79 : decode cX0_holds 79 = .ok (.if_icmp .ne 16, 3) := by decide +kernel
theorem dX0_holds_82 : decode cX0_holds 82 = .ok (.aload_n 0, 1) := by decide +kernel
theorem dX0_holds_83 : decode cX0_holds 83 = .ok (.iconst 1, 1) := by decide +kernel
theorem dX0_holds_84 : decode cX0_holds 84 = .ok (.aload_n 0, 1) := by decide +kernel
theorem dX0_holds_85 : decode cX0_holds 85 = .ok (.invokevirtual 34, 3) := by decide +kernel
theorem dX0_holds_88 : decode cX0_holds 88 = .ok (.isub, 1) := by decide +kernel
theorem dX0_holds_89 : decode cX0_holds 89 = .ok (.invokevirtual 38, 3) := by decide +kernel
theorem dX0_holds_92 : decode cX0_holds 92 = .ok (.goto 54, 3) := by decide +kernel
theorem dX0_holds_95 : decode cX0_holds 95 = .ok (.iload 7, 2) := by decide +kernel
theorem dX0_holds_97 : decode cX0_holds 97 = .ok (.invokestatic 42, 3) := by decide +kernel
theorem dX0_holds_100 : decode cX0_holds 100 = .ok (.ifCond .eq 25, 3) := by decide +kernel
theorem dX0_holds_103 : decode cX0_holds 103 = .ok (.aload_n 0, 1) := by decide +kernel
theorem dX0_holds_104 : decode cX0_holds 104 = .ok (.iload 7, 2) := by decide +kernel
theorem dX0_holds_106 : decode cX0_holds 106 = .ok (.aload_n 1, 1) := by decide +kernel
theorem dX0_holds_107 : decode cX0_holds 107 = .ok (.getfield 46, 3) := by decide +kernel
theorem dX0_holds_110 : decode cX0_holds 110 = .ok (.iload 6, 2) := by decide +kernel
theorem dX0_holds_112 : decode cX0_holds 112 = .ok (.invokestatic 20, 3) := by decide +kernel
theorem dX0_holds_115 : decode cX0_holds 115 = .ok (.aload_n 3, 1) := by decide +kernel
theorem dX0_holds_116 : decode cX0_holds 116 = .ok (.invokestatic 49, 3) := by decide +kernel
theorem dX0_holds_119 : decode cX0_holds 119 = .ok (.invokevirtual 38, 3) := by decide +kernel
theorem dX0_holds_122 : decode cX0_holds 122 = .ok (.goto 24, 3) := by decide +kernel
theorem dX0_holds_125 : decode cX0_holds 125 = .ok (.aload_n 0, 1) := by decide +kernel
theorem dX0_holds_126 : decode cX0_holds 126 = .ok (.invokevirtual 34, 3) := by decide +kernel
theorem dX0_holds_129 : decode cX0_holds 129 = .ok (.istore 8, 2) := by decide +kernel
theorem dX0_holds_131 : decode cX0_holds 131 = .ok (.aload_n 0, 1) := by decide +kernel
theorem dX0_holds_132 : decode cX0_holds 132 = .ok (.iload 7, 2) := by decide +kernel
theorem dX0_holds_134 : decode cX0_holds 134 = .ok (.aload_n 0, 1) := by decide +kernel
theorem dX0_holds_135 : decode cX0_holds 135 = .ok (.invokevirtual 34, 3) := by decide +kernel
theorem dX0_holds_138 : decode cX0_holds 138 = .ok (.iload 8, 2) := by decide +kernel
theorem dX0_holds_140 : decode cX0_holds 140 = .ok (.invokestatic 53, 3) := by decide +kernel
theorem dX0_holds_143 : decode cX0_holds 143 = .ok (.invokevirtual 38, 3) := by decide +kernel
theorem dX0_holds_146 : decode cX0_holds 146 = .ok (.iinc 6 1, 3) := by decide +kernel
theorem dX0_holds_149 : decode cX0_holds 149 = .ok (.goto (-111), 3) := by decide +kernel
theorem dX0_holds_152 : decode cX0_holds 152 = .ok (.aload_n 0, 1) := by decide +kernel
theorem dX0_holds_153 : decode cX0_holds 153 = .ok (.invokevirtual 34, 3) := by decide +kernel
theorem dX0_holds_156 : decode cX0_holds 156 = .ok (.ifCond .eq 7, 3) := by decide +kernel
theorem dX0_holds_159 : decode cX0_holds 159 = .ok (.iconst 1, 1) := by decide +kernel
theorem dX0_holds_160 : decode cX0_holds 160 = .ok (.goto 4, 3) := by decide +kernel
theorem dX0_holds_163 : decode cX0_holds 163 = .ok (.iconst 0, 1) := by decide +kernel
theorem dX0_holds_164 : decode cX0_holds 164 = .ok (.ireturn, 1) := by decide +kernel
theorem bk_X0_holds_0 {C : JC} {d cl sl : Nat} {Q : State → Prop} {w : JW} {b1 : Bool} {x2 : Int32} {b3 : Bool} {d2 : Nat} {r : Int32} {w2 : JW} (hm : jok C MX0_holds d cl sl) (hs : jF MX9_at d2 [jR 37 b1, jI x2] w (jI r) w2) (hd2 : d2 + 1 ≤ d) (k : jW C cl sl Q 8 [jR 12 false, jR 34 b1, jI x2, jR 14 b3, jU, jU, jU, jU, jU] [jI r] w2) : jW C cl sl Q 0 [jR 12 false, jR 34 b1, jI x2, jR 14 b3, jU, jU, jU, jU, jU] [] w := jr_aload_n hm (i := 1) rfl rfl dX0_holds_0 (fg_X0_15 hm dX0_holds_1 (jr_iload_n hm (i := 2) rfl rfl dX0_holds_4 (jr_callSN (mc := 0) (ms := 0) hm hs hd2 jw_214 jw_162 jw_47 jw_163 jn_X9_at rfl rfl (Nat.le_of_ble_eq_true rfl) rfl dX0_holds_5 (jkF (jr_drop (jle_same (jle_same (jle_same (jle_same (jle_same (jle_same (jle_same (jle_same (jle_same jle_nil))))))))) k)))))
theorem bk_X0_holds_8 {C : JC} {d cl sl : Nat} {Q : State → Prop} {w : JW} {b1 : Bool} {x2 : Int32} {b3 : Bool} {xs0 : Int32} {d2 : Nat} {r : Int32} {w2 : JW} (hm : jok C MX0_holds d cl sl) (hs : jF MX9_at d2 [jR 38 b1, jI x2] w (jI r) w2) (hd2 : d2 + 1 ≤ d) (k : jW C cl sl Q 18 [jR 12 false, jR 34 b1, jU, jR 14 b3, jI xs0, jU, jU, jU, jU] [jI r] w2) : jW C cl sl Q 8 [jR 12 false, jR 34 b1, jI x2, jR 14 b3, jU, jU, jU, jU, jU] [jI xs0] w := jr_istore hm (i := 4) (Nat.le_of_ble_eq_true rfl) rfl dX0_holds_8 (jr_aload_n hm (i := 1) rfl rfl dX0_holds_10 (fg_X0_24 hm dX0_holds_11 (jr_iload_n hm (i := 2) rfl rfl dX0_holds_14 (jr_callSN (mc := 0) (ms := 0) hm hs hd2 jw_214 jw_162 jw_47 jw_163 jn_X9_at rfl rfl (Nat.le_of_ble_eq_true rfl) rfl dX0_holds_15 (jkF (jr_drop (jle_same (jle_same (jle_drop (jle_same (jle_same (jle_same (jle_same (jle_same (jle_same jle_nil))))))))) k))))))
theorem bk_X0_holds_18 {C : JC} {d cl sl : Nat} {Q : State → Prop} {w : JW} {b1 : Bool} {b3 : Bool} {x4 : Int32} {xs0 : Int32} (hm : jok C MX0_holds d cl sl) (kt : ¬ x4 = xs0 → jW C cl sl Q 29 [jR 12 false, jR 34 b1, jU, jR 14 b3, jI x4, jI xs0, jU, jU, jU] [] w) (kf : x4 = xs0 → jW C cl sl Q 27 [jU, jU, jU, jU, jU, jU, jU, jU, jU] [] w) : jW C cl sl Q 18 [jR 12 false, jR 34 b1, jU, jR 14 b3, jI x4, jU, jU, jU, jU] [jI xs0] w := jr_istore hm (i := 5) (Nat.le_of_ble_eq_true rfl) rfl dX0_holds_18 (jr_iload hm (i := 4) rfl dX0_holds_20 (jr_iload hm (i := 5) rfl dX0_holds_22 (jr_icmp_ne hm dX0_holds_24 (by decide) (fun h => jr_drop (jle_same (jle_same (jle_same (jle_same (jle_same (jle_same (jle_same (jle_same (jle_same jle_nil))))))))) (kt h)) (fun h => jr_drop (jle_drop (jle_drop (jle_same (jle_drop (jle_drop (jle_drop (jle_same (jle_same (jle_same jle_nil))))))))) (kf h)))))
theorem bk_X0_holds_27 {C : JC} {d cl sl : Nat} {w : JW} {P : JV → JW → Prop} (hm : jok C MX0_holds d cl sl) (hp : P (jI 1) w) : jW C cl sl (jQQ C cl sl P) 27 [jU, jU, jU, jU, jU, jU, jU, jU, jU] [] w := jr_iconst hm (v := 1) (by decide) dX0_holds_27 (jr_zreturn hm rfl rfl dX0_holds_28 hp)
theorem bk_X0_holds_29 {C : JC} {d cl sl : Nat} {Q : State → Prop} {w : JW} {b1 : Bool} {b3 : Bool} {x4 : Int32} {x5 : Int32} (hm : jok C MX0_holds d cl sl) (k : jW C cl sl Q 38 [jR 12 false, jR 34 b1, jU, jR 14 b3, jU, jI x5, jI x4, jU, jU] [] (jset w 12 false 1 0)) : jW C cl sl Q 29 [jR 12 false, jR 34 b1, jU, jR 14 b3, jI x4, jI x5, jU, jU, jU] [] w := jr_aload_n hm (i := 0) rfl rfl dX0_holds_29 (jr_iconst hm (v := 0) (by decide) dX0_holds_30 (fp_X0_27 hm dX0_holds_31 (jr_iload hm (i := 4) rfl dX0_holds_34 (jr_istore hm (i := 6) (Nat.le_of_ble_eq_true rfl) rfl dX0_holds_36 (jr_drop (jle_same (jle_same (jle_same (jle_same (jle_drop (jle_same (jle_same (jle_same (jle_same jle_nil))))))))) k)))))
theorem bk_X0_holds_38 {C : JC} {d cl sl : Nat} {Q : State → Prop} {w : JW} {b1 : Bool} {b3 : Bool} {x5 : Int32} {x6 : Int32} (hm : jok C MX0_holds d cl sl) (kt : x5 ≤ x6 → jW C cl sl Q 152 [jR 12 false, jU, jU, jU, jU, jU, jU, jU, jU] [] w) (kf : ¬ x5 ≤ x6 → jW C cl sl Q 45 [jR 12 false, jR 34 b1, jU, jR 14 b3, jU, jI x5, jI x6, jU, jU] [] w) : jW C cl sl Q 38 [jR 12 false, jR 34 b1, jU, jR 14 b3, jU, jI x5, jI x6, jU, jU] [] w := jr_iload hm (i := 6) rfl dX0_holds_38 (jr_iload hm (i := 5) rfl dX0_holds_40 (jr_icmp_ge hm dX0_holds_42 (by decide) (fun h => jr_drop (jle_same (jle_drop (jle_same (jle_drop (jle_same (jle_drop (jle_drop (jle_same (jle_same jle_nil))))))))) (kt h)) (fun h => jr_drop (jle_same (jle_same (jle_same (jle_same (jle_same (jle_same (jle_same (jle_same (jle_same jle_nil))))))))) (kf h))))
theorem bk_X0_holds_45 {C : JC} {d cl sl : Nat} {Q : State → Prop} {w : JW} {b1 : Bool} {b3 : Bool} {x5 : Int32} {x6 : Int32} {d2 : Nat} {r : Int32} {w2 : JW} (hm : jok C MX0_holds d cl sl) (hs : jF MX9_at d2 [jR 39 b1, jI x6] w (jI r) w2) (hd2 : d2 + 1 ≤ d) (k : jW C cl sl Q 54 [jR 12 false, jR 34 b1, jU, jR 14 b3, jU, jI x5, jI x6, jU, jU] [jI r] w2) : jW C cl sl Q 45 [jR 12 false, jR 34 b1, jU, jR 14 b3, jU, jI x5, jI x6, jU, jU] [] w := jr_aload_n hm (i := 1) rfl rfl dX0_holds_45 (fg_X0_31 hm dX0_holds_46 (jr_iload hm (i := 6) rfl dX0_holds_49 (jr_callSN (mc := 0) (ms := 0) hm hs hd2 jw_214 jw_162 jw_47 jw_163 jn_X9_at rfl rfl (Nat.le_of_ble_eq_true rfl) rfl dX0_holds_51 (jkF (jr_drop (jle_same (jle_same (jle_same (jle_same (jle_same (jle_same (jle_same (jle_same (jle_same jle_nil))))))))) k)))))
theorem bk_X0_holds_54 {C : JC} {d cl sl : Nat} {Q : State → Prop} {w : JW} {b1 : Bool} {b3 : Bool} {x5 : Int32} {x6 : Int32} {xs0 : Int32} (hm : jok C MX0_holds d cl sl) (kt : ¬ xs0 = 49 → jW C cl sl Q 75 [jR 12 false, jR 34 b1, jU, jR 14 b3, jU, jI x5, jI x6, jI xs0, jU] [] w) (kf : xs0 = 49 → jW C cl sl Q 63 [jR 12 false, jR 34 b1, jU, jR 14 b3, jU, jI x5, jI x6, jU, jU] [] w) : jW C cl sl Q 54 [jR 12 false, jR 34 b1, jU, jR 14 b3, jU, jI x5, jI x6, jU, jU] [jI xs0] w := jr_istore hm (i := 7) (Nat.le_of_ble_eq_true rfl) rfl dX0_holds_54 (jr_iload hm (i := 7) rfl dX0_holds_56 (jr_bipush hm (v := 49) (by decide) dX0_holds_58 (jr_icmp_ne hm dX0_holds_60 (by decide) (fun h => jr_drop (jle_same (jle_same (jle_same (jle_same (jle_same (jle_same (jle_same (jle_same (jle_same jle_nil))))))))) (kt h)) (fun h => jr_drop (jle_same (jle_same (jle_same (jle_same (jle_same (jle_same (jle_same (jle_drop (jle_same jle_nil))))))))) (kf h)))))
theorem bk_X0_holds_63 {C : JC} {d cl sl : Nat} {Q : State → Prop} {w : JW} {b1 : Bool} {b3 : Bool} {x5 : Int32} {x6 : Int32} {d2 : Nat} {r : Int32} {w2 : JW} (hm : jok C MX0_holds d cl sl) (hs : jF MX0_pop d2 [jR 12 false] w (jI r) w2) (hd2 : d2 + 1 ≤ d) (k : jW C cl sl Q 68 [jR 12 false, jR 34 b1, jU, jR 14 b3, jU, jI x5, jI x6, jU, jU] [jI r, jR 12 false] w2) : jW C cl sl Q 63 [jR 12 false, jR 34 b1, jU, jR 14 b3, jU, jI x5, jI x6, jU, jU] [] w := jr_aload_n hm (i := 0) rfl rfl dX0_holds_63 (jr_aload_n hm (i := 0) rfl rfl dX0_holds_64 (jr_callV (mc := 0) (ms := 0) hm hs hd2 jw_215 jw_217 jw_4 jw_55 jw_219 jn_X0_pop rfl jo_12 (fun _ _ _ _ _ => ⟨_, rfl⟩) rfl rfl (Nat.le_of_ble_eq_true rfl) rfl dX0_holds_65 (jkF (jr_drop (jle_same (jle_same (jle_same (jle_same (jle_same (jle_same (jle_same (jle_same (jle_same jle_nil))))))))) k))))
theorem bk_X0_holds_68 {C : JC} {d cl sl : Nat} {Q : State → Prop} {w : JW} {b1 : Bool} {b3 : Bool} {x5 : Int32} {x6 : Int32} {xs0 : Int32} {d2 : Nat} {w2 : JW} (hm : jok C MX0_holds d cl sl) (hs : jF MX0_push d2 [jR 12 false, jI (-xs0)] w (jU) w2) (hd2 : d2 + 1 ≤ d) (k : jW C cl sl Q 72 [jR 12 false, jR 34 b1, jU, jR 14 b3, jU, jI x5, jI x6, jU, jU] [] w2) : jW C cl sl Q 68 [jR 12 false, jR 34 b1, jU, jR 14 b3, jU, jI x5, jI x6, jU, jU] [jI xs0, jR 12 false] w := jr_ineg hm dX0_holds_68 (jr_callV (mc := 0) (ms := 0) hm hs hd2 jw_220 jw_222 jw_5 jw_55 jw_223 jn_X0_push rfl jo_12 (fun _ _ _ _ _ => ⟨_, rfl⟩) rfl rfl (Nat.le_of_ble_eq_true rfl) rfl dX0_holds_69 (jkF (jr_drop (jle_same (jle_same (jle_same (jle_same (jle_same (jle_same (jle_same (jle_same (jle_same jle_nil))))))))) k)))
theorem bk_X0_holds_72 {C : JC} {d cl sl : Nat} {Q : State → Prop} {w : JW} {b1 : Bool} {b3 : Bool} {x5 : Int32} {x6 : Int32} (hm : jok C MX0_holds d cl sl) (k : jW C cl sl Q 146 [jR 12 false, jR 34 b1, jU, jR 14 b3, jU, jI x5, jI x6, jU, jU] [] w) : jW C cl sl Q 72 [jR 12 false, jR 34 b1, jU, jR 14 b3, jU, jI x5, jI x6, jU, jU] [] w := jr_goto hm dX0_holds_72 (by decide) (jr_drop (jle_same (jle_same (jle_same (jle_same (jle_same (jle_same (jle_same (jle_same (jle_same jle_nil))))))))) k)
theorem bk_X0_holds_75 {C : JC} {d cl sl : Nat} {Q : State → Prop} {w : JW} {b1 : Bool} {b3 : Bool} {x5 : Int32} {x6 : Int32} {x7 : Int32} (hm : jok C MX0_holds d cl sl) (kt : ¬ x7 = 25 → jW C cl sl Q 95 [jR 12 false, jR 34 b1, jU, jR 14 b3, jU, jI x5, jI x6, jI x7, jU] [] w) (kf : x7 = 25 → jW C cl sl Q 82 [jR 12 false, jR 34 b1, jU, jR 14 b3, jU, jI x5, jI x6, jU, jU] [] w) : jW C cl sl Q 75 [jR 12 false, jR 34 b1, jU, jR 14 b3, jU, jI x5, jI x6, jI x7, jU] [] w := jr_iload hm (i := 7) rfl dX0_holds_75 (jr_bipush hm (v := 25) (by decide) dX0_holds_77 (jr_icmp_ne hm dX0_holds_79 (by decide) (fun h => jr_drop (jle_same (jle_same (jle_same (jle_same (jle_same (jle_same (jle_same (jle_same (jle_same jle_nil))))))))) (kt h)) (fun h => jr_drop (jle_same (jle_same (jle_same (jle_same (jle_same (jle_same (jle_same (jle_drop (jle_same jle_nil))))))))) (kf h))))
theorem bk_X0_holds_82 {C : JC} {d cl sl : Nat} {Q : State → Prop} {w : JW} {b1 : Bool} {b3 : Bool} {x5 : Int32} {x6 : Int32} {d2 : Nat} {r : Int32} {w2 : JW} (hm : jok C MX0_holds d cl sl) (hs : jF MX0_pop d2 [jR 12 false] w (jI r) w2) (hd2 : d2 + 1 ≤ d) (k : jW C cl sl Q 88 [jR 12 false, jR 34 b1, jU, jR 14 b3, jU, jI x5, jI x6, jU, jU] [jI r, jI 1, jR 12 false] w2) : jW C cl sl Q 82 [jR 12 false, jR 34 b1, jU, jR 14 b3, jU, jI x5, jI x6, jU, jU] [] w := jr_aload_n hm (i := 0) rfl rfl dX0_holds_82 (jr_iconst hm (v := 1) (by decide) dX0_holds_83 (jr_aload_n hm (i := 0) rfl rfl dX0_holds_84 (jr_callV (mc := 0) (ms := 0) hm hs hd2 jw_215 jw_217 jw_4 jw_55 jw_219 jn_X0_pop rfl jo_12 (fun _ _ _ _ _ => ⟨_, rfl⟩) rfl rfl (Nat.le_of_ble_eq_true rfl) rfl dX0_holds_85 (jkF (jr_drop (jle_same (jle_same (jle_same (jle_same (jle_same (jle_same (jle_same (jle_same (jle_same jle_nil))))))))) k)))))
theorem bk_X0_holds_88 {C : JC} {d cl sl : Nat} {Q : State → Prop} {w : JW} {b1 : Bool} {b3 : Bool} {x5 : Int32} {x6 : Int32} {xs0 : Int32} {xs1 : Int32} {d2 : Nat} {w2 : JW} (hm : jok C MX0_holds d cl sl) (hs : jF MX0_push d2 [jR 12 false, jI (xs1 - xs0)] w (jU) w2) (hd2 : d2 + 1 ≤ d) (k : jW C cl sl Q 92 [jR 12 false, jR 34 b1, jU, jR 14 b3, jU, jI x5, jI x6, jU, jU] [] w2) : jW C cl sl Q 88 [jR 12 false, jR 34 b1, jU, jR 14 b3, jU, jI x5, jI x6, jU, jU] [jI xs0, jI xs1, jR 12 false] w := jr_isub hm dX0_holds_88 (jr_callV (mc := 0) (ms := 0) hm hs hd2 jw_220 jw_222 jw_5 jw_55 jw_223 jn_X0_push rfl jo_12 (fun _ _ _ _ _ => ⟨_, rfl⟩) rfl rfl (Nat.le_of_ble_eq_true rfl) rfl dX0_holds_89 (jkF (jr_drop (jle_same (jle_same (jle_same (jle_same (jle_same (jle_same (jle_same (jle_same (jle_same jle_nil))))))))) k)))
theorem bk_X0_holds_92 {C : JC} {d cl sl : Nat} {Q : State → Prop} {w : JW} {b1 : Bool} {b3 : Bool} {x5 : Int32} {x6 : Int32} (hm : jok C MX0_holds d cl sl) (k : jW C cl sl Q 146 [jR 12 false, jR 34 b1, jU, jR 14 b3, jU, jI x5, jI x6, jU, jU] [] w) : jW C cl sl Q 92 [jR 12 false, jR 34 b1, jU, jR 14 b3, jU, jI x5, jI x6, jU, jU] [] w := jr_goto hm dX0_holds_92 (by decide) (jr_drop (jle_same (jle_same (jle_same (jle_same (jle_same (jle_same (jle_same (jle_same (jle_same jle_nil))))))))) k)
theorem bk_X0_holds_95 {C : JC} {d cl sl : Nat} {Q : State → Prop} {w : JW} {b1 : Bool} {b3 : Bool} {x5 : Int32} {x6 : Int32} {x7 : Int32} {d2 : Nat} {r : Int32} {w2 : JW} (hm : jok C MX0_holds d cl sl) (hs : jF MX0_isOperand d2 [jI x7] w (jI r) w2) (hd2 : d2 + 1 ≤ d) (k : jW C cl sl Q 100 [jR 12 false, jR 34 b1, jU, jR 14 b3, jU, jI x5, jI x6, jI x7, jU] [jI r] w2) : jW C cl sl Q 95 [jR 12 false, jR 34 b1, jU, jR 14 b3, jU, jI x5, jI x6, jI x7, jU] [] w := jr_iload hm (i := 7) rfl dX0_holds_95 (jr_callS (mc := 0) (ms := 0) hm hs hd2 jw_227 jw_228 jw_55 jw_229 jn_X0_isOperand rfl rfl (Nat.le_of_ble_eq_true rfl) rfl dX0_holds_97 (jkF (jr_drop (jle_same (jle_same (jle_same (jle_same (jle_same (jle_same (jle_same (jle_same (jle_same jle_nil))))))))) k)))
theorem bk_X0_holds_100 {C : JC} {d cl sl : Nat} {Q : State → Prop} {w : JW} {b1 : Bool} {b3 : Bool} {x5 : Int32} {x6 : Int32} {x7 : Int32} {xs0 : Int32} (hm : jok C MX0_holds d cl sl) (kt : xs0 = 0 → jW C cl sl Q 125 [jR 12 false, jR 34 b1, jU, jR 14 b3, jU, jI x5, jI x6, jI x7, jU] [] w) (kf : ¬ xs0 = 0 → jW C cl sl Q 103 [jR 12 false, jR 34 b1, jU, jR 14 b3, jU, jI x5, jI x6, jI x7, jU] [] w) : jW C cl sl Q 100 [jR 12 false, jR 34 b1, jU, jR 14 b3, jU, jI x5, jI x6, jI x7, jU] [jI xs0] w := jr_if_eq hm dX0_holds_100 (by decide) (fun h => jr_drop (jle_same (jle_same (jle_same (jle_same (jle_same (jle_same (jle_same (jle_same (jle_same jle_nil))))))))) (kt h)) (fun h => jr_drop (jle_same (jle_same (jle_same (jle_same (jle_same (jle_same (jle_same (jle_same (jle_same jle_nil))))))))) (kf h))
theorem bk_X0_holds_103 {C : JC} {d cl sl : Nat} {Q : State → Prop} {w : JW} {b1 : Bool} {b3 : Bool} {x5 : Int32} {x6 : Int32} {x7 : Int32} {d2 : Nat} {r : Int32} {w2 : JW} (hm : jok C MX0_holds d cl sl) (hs : jF MX9_at d2 [jR 40 b1, jI x6] w (jI r) w2) (hd2 : d2 + 1 ≤ d) (k : jW C cl sl Q 115 [jR 12 false, jR 34 b1, jU, jR 14 b3, jU, jI x5, jI x6, jU, jU] [jI r, jI x7, jR 12 false] w2) : jW C cl sl Q 103 [jR 12 false, jR 34 b1, jU, jR 14 b3, jU, jI x5, jI x6, jI x7, jU] [] w := jr_aload_n hm (i := 0) rfl rfl dX0_holds_103 (jr_iload hm (i := 7) rfl dX0_holds_104 (jr_aload_n hm (i := 1) rfl rfl dX0_holds_106 (fg_X0_46 hm dX0_holds_107 (jr_iload hm (i := 6) rfl dX0_holds_110 (jr_callSN (mc := 0) (ms := 0) hm hs hd2 jw_214 jw_162 jw_47 jw_163 jn_X9_at rfl rfl (Nat.le_of_ble_eq_true rfl) rfl dX0_holds_112 (jkF (jr_drop (jle_same (jle_same (jle_same (jle_same (jle_same (jle_same (jle_same (jle_drop (jle_same jle_nil))))))))) k)))))))
theorem bk_X0_holds_115 {C : JC} {d cl sl : Nat} {Q : State → Prop} {w : JW} {b1 : Bool} {b3 : Bool} {x5 : Int32} {x6 : Int32} {xs0 : Int32} {xs1 : Int32} {d2 : Nat} {r : Int32} {w2 : JW} (hm : jok C MX0_holds d cl sl) (hs : jF MX0_reading d2 [jI xs1, jI xs0, jR 14 b3] w (jI r) w2) (hd2 : d2 + 1 ≤ d) (k : jW C cl sl Q 119 [jR 12 false, jR 34 b1, jU, jR 14 b3, jU, jI x5, jI x6, jU, jU] [jI r, jR 12 false] w2) : jW C cl sl Q 115 [jR 12 false, jR 34 b1, jU, jR 14 b3, jU, jI x5, jI x6, jU, jU] [jI xs0, jI xs1, jR 12 false] w := jr_aload_n hm (i := 3) rfl rfl dX0_holds_115 (jr_callS (mc := 0) (ms := 0) hm hs hd2 jw_230 jw_231 jw_55 jw_232 jn_X0_reading rfl rfl (Nat.le_of_ble_eq_true rfl) rfl dX0_holds_116 (jkF (jr_drop (jle_same (jle_same (jle_same (jle_same (jle_same (jle_same (jle_same (jle_same (jle_same jle_nil))))))))) k)))
theorem bk_X0_holds_119 {C : JC} {d cl sl : Nat} {Q : State → Prop} {w : JW} {b1 : Bool} {b3 : Bool} {x5 : Int32} {x6 : Int32} {xs0 : Int32} {d2 : Nat} {w2 : JW} (hm : jok C MX0_holds d cl sl) (hs : jF MX0_push d2 [jR 12 false, jI xs0] w (jU) w2) (hd2 : d2 + 1 ≤ d) (k : jW C cl sl Q 122 [jR 12 false, jR 34 b1, jU, jR 14 b3, jU, jI x5, jI x6, jU, jU] [] w2) : jW C cl sl Q 119 [jR 12 false, jR 34 b1, jU, jR 14 b3, jU, jI x5, jI x6, jU, jU] [jI xs0, jR 12 false] w := jr_callV (mc := 0) (ms := 0) hm hs hd2 jw_220 jw_222 jw_5 jw_55 jw_223 jn_X0_push rfl jo_12 (fun _ _ _ _ _ => ⟨_, rfl⟩) rfl rfl (Nat.le_of_ble_eq_true rfl) rfl dX0_holds_119 (jkF (jr_drop (jle_same (jle_same (jle_same (jle_same (jle_same (jle_same (jle_same (jle_same (jle_same jle_nil))))))))) k))
theorem bk_X0_holds_122 {C : JC} {d cl sl : Nat} {Q : State → Prop} {w : JW} {b1 : Bool} {b3 : Bool} {x5 : Int32} {x6 : Int32} (hm : jok C MX0_holds d cl sl) (k : jW C cl sl Q 146 [jR 12 false, jR 34 b1, jU, jR 14 b3, jU, jI x5, jI x6, jU, jU] [] w) : jW C cl sl Q 122 [jR 12 false, jR 34 b1, jU, jR 14 b3, jU, jI x5, jI x6, jU, jU] [] w := jr_goto hm dX0_holds_122 (by decide) (jr_drop (jle_same (jle_same (jle_same (jle_same (jle_same (jle_same (jle_same (jle_same (jle_same jle_nil))))))))) k)
theorem bk_X0_holds_125 {C : JC} {d cl sl : Nat} {Q : State → Prop} {w : JW} {b1 : Bool} {b3 : Bool} {x5 : Int32} {x6 : Int32} {x7 : Int32} {d2 : Nat} {r : Int32} {w2 : JW} (hm : jok C MX0_holds d cl sl) (hs : jF MX0_pop d2 [jR 12 false] w (jI r) w2) (hd2 : d2 + 1 ≤ d) (k : jW C cl sl Q 129 [jR 12 false, jR 34 b1, jU, jR 14 b3, jU, jI x5, jI x6, jI x7, jU] [jI r] w2) : jW C cl sl Q 125 [jR 12 false, jR 34 b1, jU, jR 14 b3, jU, jI x5, jI x6, jI x7, jU] [] w := jr_aload_n hm (i := 0) rfl rfl dX0_holds_125 (jr_callV (mc := 0) (ms := 0) hm hs hd2 jw_215 jw_217 jw_4 jw_55 jw_219 jn_X0_pop rfl jo_12 (fun _ _ _ _ _ => ⟨_, rfl⟩) rfl rfl (Nat.le_of_ble_eq_true rfl) rfl dX0_holds_126 (jkF (jr_drop (jle_same (jle_same (jle_same (jle_same (jle_same (jle_same (jle_same (jle_same (jle_same jle_nil))))))))) k)))
theorem bk_X0_holds_129 {C : JC} {d cl sl : Nat} {Q : State → Prop} {w : JW} {b1 : Bool} {b3 : Bool} {x5 : Int32} {x6 : Int32} {x7 : Int32} {xs0 : Int32} {d2 : Nat} {r : Int32} {w2 : JW} (hm : jok C MX0_holds d cl sl) (hs : jF MX0_pop d2 [jR 12 false] w (jI r) w2) (hd2 : d2 + 1 ≤ d) (k : jW C cl sl Q 138 [jR 12 false, jR 34 b1, jU, jR 14 b3, jU, jI x5, jI x6, jU, jI xs0] [jI r, jI x7, jR 12 false] w2) : jW C cl sl Q 129 [jR 12 false, jR 34 b1, jU, jR 14 b3, jU, jI x5, jI x6, jI x7, jU] [jI xs0] w := jr_istore hm (i := 8) (Nat.le_of_ble_eq_true rfl) rfl dX0_holds_129 (jr_aload_n hm (i := 0) rfl rfl dX0_holds_131 (jr_iload hm (i := 7) rfl dX0_holds_132 (jr_aload_n hm (i := 0) rfl rfl dX0_holds_134 (jr_callV (mc := 0) (ms := 0) hm hs hd2 jw_215 jw_217 jw_4 jw_55 jw_219 jn_X0_pop rfl jo_12 (fun _ _ _ _ _ => ⟨_, rfl⟩) rfl rfl (Nat.le_of_ble_eq_true rfl) rfl dX0_holds_135 (jkF (jr_drop (jle_same (jle_same (jle_same (jle_same (jle_same (jle_same (jle_same (jle_drop (jle_same jle_nil))))))))) k))))))
theorem bk_X0_holds_138 {C : JC} {d cl sl : Nat} {Q : State → Prop} {w : JW} {b1 : Bool} {b3 : Bool} {x5 : Int32} {x6 : Int32} {x8 : Int32} {xs0 : Int32} {xs1 : Int32} {d2 : Nat} {r : Int32} {w2 : JW} (hm : jok C MX0_holds d cl sl) (hs : jF MX0_joined d2 [jI xs1, jI xs0, jI x8] w (jI r) w2) (hd2 : d2 + 1 ≤ d) (k : jW C cl sl Q 143 [jR 12 false, jR 34 b1, jU, jR 14 b3, jU, jI x5, jI x6, jU, jU] [jI r, jR 12 false] w2) : jW C cl sl Q 138 [jR 12 false, jR 34 b1, jU, jR 14 b3, jU, jI x5, jI x6, jU, jI x8] [jI xs0, jI xs1, jR 12 false] w := jr_iload hm (i := 8) rfl dX0_holds_138 (jr_callS (mc := 0) (ms := 0) hm hs hd2 jw_237 jw_238 jw_55 jw_239 jn_X0_joined rfl rfl (Nat.le_of_ble_eq_true rfl) rfl dX0_holds_140 (jkF (jr_drop (jle_same (jle_same (jle_same (jle_same (jle_same (jle_same (jle_same (jle_same (jle_drop jle_nil))))))))) k)))
theorem bk_X0_holds_143 {C : JC} {d cl sl : Nat} {Q : State → Prop} {w : JW} {b1 : Bool} {b3 : Bool} {x5 : Int32} {x6 : Int32} {xs0 : Int32} {d2 : Nat} {w2 : JW} (hm : jok C MX0_holds d cl sl) (hs : jF MX0_push d2 [jR 12 false, jI xs0] w (jU) w2) (hd2 : d2 + 1 ≤ d) (k : jW C cl sl Q 146 [jR 12 false, jR 34 b1, jU, jR 14 b3, jU, jI x5, jI x6, jU, jU] [] w2) : jW C cl sl Q 143 [jR 12 false, jR 34 b1, jU, jR 14 b3, jU, jI x5, jI x6, jU, jU] [jI xs0, jR 12 false] w := jr_callV (mc := 0) (ms := 0) hm hs hd2 jw_220 jw_222 jw_5 jw_55 jw_223 jn_X0_push rfl jo_12 (fun _ _ _ _ _ => ⟨_, rfl⟩) rfl rfl (Nat.le_of_ble_eq_true rfl) rfl dX0_holds_143 (jkF (jr_drop (jle_same (jle_same (jle_same (jle_same (jle_same (jle_same (jle_same (jle_same (jle_same jle_nil))))))))) k))
theorem bk_X0_holds_146 {C : JC} {d cl sl : Nat} {Q : State → Prop} {w : JW} {b1 : Bool} {b3 : Bool} {x5 : Int32} {x6 : Int32} (hm : jok C MX0_holds d cl sl) (k : jW C cl sl Q 38 [jR 12 false, jR 34 b1, jU, jR 14 b3, jU, jI x5, jI (x6 + 1), jU, jU] [] w) : jW C cl sl Q 146 [jR 12 false, jR 34 b1, jU, jR 14 b3, jU, jI x5, jI x6, jU, jU] [] w := jr_iinc hm (i := 6) (v := x6 + 1) rfl rfl rfl dX0_holds_146 (jr_goto hm dX0_holds_149 (by decide) (jr_drop (jle_same (jle_same (jle_same (jle_same (jle_same (jle_same (jle_same (jle_same (jle_same jle_nil))))))))) k))
theorem bk_X0_holds_152 {C : JC} {d cl sl : Nat} {Q : State → Prop} {w : JW} {d2 : Nat} {r : Int32} {w2 : JW} (hm : jok C MX0_holds d cl sl) (hs : jF MX0_pop d2 [jR 12 false] w (jI r) w2) (hd2 : d2 + 1 ≤ d) (k : jW C cl sl Q 156 [jU, jU, jU, jU, jU, jU, jU, jU, jU] [jI r] w2) : jW C cl sl Q 152 [jR 12 false, jU, jU, jU, jU, jU, jU, jU, jU] [] w := jr_aload_n hm (i := 0) rfl rfl dX0_holds_152 (jr_callV (mc := 0) (ms := 0) hm hs hd2 jw_215 jw_217 jw_4 jw_55 jw_219 jn_X0_pop rfl jo_12 (fun _ _ _ _ _ => ⟨_, rfl⟩) rfl rfl (Nat.le_of_ble_eq_true rfl) rfl dX0_holds_153 (jkF (jr_drop (jle_drop (jle_same (jle_same (jle_same (jle_same (jle_same (jle_same (jle_same (jle_same jle_nil))))))))) k)))
theorem bk_X0_holds_156 {C : JC} {d cl sl : Nat} {Q : State → Prop} {w : JW} {xs0 : Int32} (hm : jok C MX0_holds d cl sl) (kt : xs0 = 0 → jW C cl sl Q 163 [jU, jU, jU, jU, jU, jU, jU, jU, jU] [] w) (kf : ¬ xs0 = 0 → jW C cl sl Q 159 [jU, jU, jU, jU, jU, jU, jU, jU, jU] [] w) : jW C cl sl Q 156 [jU, jU, jU, jU, jU, jU, jU, jU, jU] [jI xs0] w := jr_if_eq hm dX0_holds_156 (by decide) (fun h => jr_drop (jle_same (jle_same (jle_same (jle_same (jle_same (jle_same (jle_same (jle_same (jle_same jle_nil))))))))) (kt h)) (fun h => jr_drop (jle_same (jle_same (jle_same (jle_same (jle_same (jle_same (jle_same (jle_same (jle_same jle_nil))))))))) (kf h))
theorem bk_X0_holds_159 {C : JC} {d cl sl : Nat} {Q : State → Prop} {w : JW}  (hm : jok C MX0_holds d cl sl) (k : jW C cl sl Q 164 [jU, jU, jU, jU, jU, jU, jU, jU, jU] [jI 1] w) : jW C cl sl Q 159 [jU, jU, jU, jU, jU, jU, jU, jU, jU] [] w := jr_iconst hm (v := 1) (by decide) dX0_holds_159 (jr_goto hm dX0_holds_160 (by decide) (jr_drop (jle_same (jle_same (jle_same (jle_same (jle_same (jle_same (jle_same (jle_same (jle_same jle_nil))))))))) k))
theorem bk_X0_holds_163 {C : JC} {d cl sl : Nat} {Q : State → Prop} {w : JW}  (hm : jok C MX0_holds d cl sl) (k : jW C cl sl Q 164 [jU, jU, jU, jU, jU, jU, jU, jU, jU] [jI 0] w) : jW C cl sl Q 163 [jU, jU, jU, jU, jU, jU, jU, jU, jU] [] w := jr_iconst hm (v := 0) (by decide) dX0_holds_163 (jr_drop (jle_same (jle_same (jle_same (jle_same (jle_same (jle_same (jle_same (jle_same (jle_same jle_nil))))))))) k)
theorem bk_X0_holds_164 {C : JC} {d cl sl : Nat} {w : JW} {xs0 : Int32} {P : JV → JW → Prop} (hm : jok C MX0_holds d cl sl) (hz : narrow .boolean (.int xs0) = .int xs0) (hp : P (jI xs0) w) : jW C cl sl (jQQ C cl sl P) 164 [jU, jU, jU, jU, jU, jU, jU, jU, jU] [jI xs0] w := jr_zreturn hm rfl hz dX0_holds_164 hp
theorem dX0_push_0 : decode cX0_push 0 = .ok (.aload_n 0, 1) := by decide +kernel
theorem dX0_push_1 : decode cX0_push 1 = .ok (.getfield 9, 3) := by decide +kernel
theorem dX0_push_4 : decode cX0_push 4 = .ok (.aload_n 0, 1) := by decide +kernel
theorem dX0_push_5 : decode cX0_push 5 = .ok (.getfield 27, 3) := by decide +kernel
theorem dX0_push_8 : decode cX0_push 8 = .ok (.iload_n 1, 1) := by decide +kernel
theorem dX0_push_9 : decode cX0_push 9 = .ok (.invokestatic 57, 3) := by decide +kernel
theorem dX0_push_12 : decode cX0_push 12 = .ok (.aload_n 0, 1) := by decide +kernel
theorem dX0_push_13 : decode cX0_push 13 = .ok (.dup, 1) := by decide +kernel
theorem dX0_push_14 : decode cX0_push 14 = .ok (.getfield 27, 3) := by decide +kernel
theorem dX0_push_17 : decode cX0_push 17 = .ok (.iconst 1, 1) := by decide +kernel
theorem dX0_push_18 : decode cX0_push 18 = .ok (.iadd, 1) := by decide +kernel
theorem dX0_push_19 : decode cX0_push 19 = .ok (.putfield 27, 3) := by decide +kernel
theorem dX0_push_22 : decode cX0_push 22 = .ok (.return_, 1) := by decide +kernel
theorem bk_X0_push_0 {C : JC} {d cl sl : Nat} {Q : State → Prop} {w : JW} {x1 : Int32} {d2 : Nat} {w2 : JW} (hm : jok C MX0_push d cl sl) (hs : jF MX9_put d2 [jR 13 false, jI (w.1 12 false 1), jI x1] w (jU) w2) (hd2 : d2 + 1 ≤ d) (k : jW C cl sl Q 12 [jR 12 false, jU] [] w2) : jW C cl sl Q 0 [jR 12 false, jI x1] [] w := jr_aload_n hm (i := 0) rfl rfl dX0_push_0 (fg_X0_9 hm dX0_push_1 (jr_aload_n hm (i := 0) rfl rfl dX0_push_4 (fg_X0_27 hm dX0_push_5 (jr_iload_n hm (i := 1) rfl rfl dX0_push_8 (jr_callSN (mc := 0) (ms := 0) hm hs hd2 jw_224 jw_225 jw_47 jw_226 jn_X9_put rfl rfl (Nat.le_of_ble_eq_true rfl) rfl dX0_push_9 (jkF (jr_drop (jle_same (jle_drop jle_nil)) k)))))))
theorem bk_X0_push_12 {C : JC} {d cl sl : Nat} {w : JW} {P : JV → JW → Prop} (hm : jok C MX0_push d cl sl) (hp : P (jU) (jset w 12 false 1 ((w.1 12 false 1) + 1))) : jW C cl sl (jQQ C cl sl P) 12 [jR 12 false, jU] [] w := jr_aload_n hm (i := 0) rfl rfl dX0_push_12 (jr_dupR hm dX0_push_13 (fg_X0_27 hm dX0_push_14 (jr_iconst hm (v := 1) (by decide) dX0_push_17 (jr_iadd hm dX0_push_18 (fp_X0_27 hm dX0_push_19 (jr_return hm rfl dX0_push_22 hp))))))
theorem dX0_pop_0 : decode cX0_pop 0 = .ok (.aload_n 0, 1) := by decide +kernel
theorem dX0_pop_1 : decode cX0_pop 1 = .ok (.dup, 1) := by decide +kernel
theorem dX0_pop_2 : decode cX0_pop 2 = .ok (.getfield 27, 3) := by decide +kernel
theorem dX0_pop_5 : decode cX0_pop 5 = .ok (.iconst 1, 1) := by decide +kernel
theorem dX0_pop_6 : decode cX0_pop 6 = .ok (.isub, 1) := by decide +kernel
theorem dX0_pop_7 : decode cX0_pop 7 = .ok (.putfield 27, 3) := by decide +kernel
theorem dX0_pop_10 : decode cX0_pop 10 = .ok (.aload_n 0, 1) := by decide +kernel
theorem dX0_pop_11 : decode cX0_pop 11 = .ok (.getfield 9, 3) := by decide +kernel
theorem dX0_pop_14 : decode cX0_pop 14 = .ok (.aload_n 0, 1) := by decide +kernel
theorem dX0_pop_15 : decode cX0_pop 15 = .ok (.getfield 27, 3) := by decide +kernel
theorem dX0_pop_18 : decode cX0_pop 18 = .ok (.invokestatic 20, 3) := by decide +kernel
theorem dX0_pop_21 : decode cX0_pop 21 = .ok (.ireturn, 1) := by decide +kernel
theorem bk_X0_pop_0 {C : JC} {d cl sl : Nat} {Q : State → Prop} {w : JW} {d2 : Nat} {r : Int32} {w2 : JW} (hm : jok C MX0_pop d cl sl) (hs : jF MX9_at d2 [jR 13 false, jI ((jset w 12 false 1 ((w.1 12 false 1) - 1)).1 12 false 1)] (jset w 12 false 1 ((w.1 12 false 1) - 1)) (jI r) w2) (hd2 : d2 + 1 ≤ d) (k : jW C cl sl Q 21 [jU] [jI r] w2) : jW C cl sl Q 0 [jR 12 false] [] w := jr_aload_n hm (i := 0) rfl rfl dX0_pop_0 (jr_dupR hm dX0_pop_1 (fg_X0_27 hm dX0_pop_2 (jr_iconst hm (v := 1) (by decide) dX0_pop_5 (jr_isub hm dX0_pop_6 (fp_X0_27 hm dX0_pop_7 (jr_aload_n hm (i := 0) rfl rfl dX0_pop_10 (fg_X0_9 hm dX0_pop_11 (jr_aload_n hm (i := 0) rfl rfl dX0_pop_14 (fg_X0_27 hm dX0_pop_15 (jr_callSN (mc := 0) (ms := 0) hm hs hd2 jw_214 jw_162 jw_47 jw_163 jn_X9_at rfl rfl (Nat.le_of_ble_eq_true rfl) rfl dX0_pop_18 (jkF (jr_drop (jle_drop jle_nil) k))))))))))))
theorem bk_X0_pop_21 {C : JC} {d cl sl : Nat} {w : JW} {xs0 : Int32} {P : JV → JW → Prop} (hm : jok C MX0_pop d cl sl) (hp : P (jI xs0) w) : jW C cl sl (jQQ C cl sl P) 21 [jU] [jI xs0] w := jr_ireturn hm rfl dX0_pop_21 hp
theorem dX0_isOperand_0 : decode cX0_isOperand 0 = .ok (.iload_n 0, 1) := by decide +kernel
theorem dX0_isOperand_1 : decode cX0_isOperand 1 = .ok (.bipush 31, 2) := by decide +kernel
theorem dX0_isOperand_3 : decode cX0_isOperand 3 = .ok (.if_icmp .eq 15, 3) := by decide +kernel
theorem dX0_isOperand_6 : decode cX0_isOperand 6 = .ok (.iload_n 0, 1) := by decide +kernel
theorem dX0_isOperand_7 : decode cX0_isOperand 7 = .ok (.bipush 18, 2) := by decide +kernel
theorem dX0_isOperand_9 : decode cX0_isOperand 9 = .ok (.if_icmp .lt 13, 3) := by decide +kernel
theorem dX0_isOperand_12 : decode cX0_isOperand 12 = .ok (.iload_n 0, 1) := by decide +kernel
theorem dX0_isOperand_13 : decode cX0_isOperand 13 = .ok (.bipush 24, 2) := by decide +kernel
theorem dX0_isOperand_15 : decode cX0_isOperand 15 = .ok (.if_icmp .gt 7, 3) := by decide +kernel
theorem dX0_isOperand_18 : decode cX0_isOperand 18 = .ok (.iconst 1, 1) := by decide +kernel
theorem dX0_isOperand_19 : decode cX0_isOperand 19 = .ok (.goto 4, 3) := by decide +kernel
theorem dX0_isOperand_22 : decode cX0_isOperand 22 = .ok (.iconst 0, 1) := by decide +kernel
theorem dX0_isOperand_23 : decode cX0_isOperand 23 = .ok (.ireturn, 1) := by decide +kernel
theorem bk_X0_isOperand_0 {C : JC} {d cl sl : Nat} {Q : State → Prop} {w : JW} {x0 : Int32} (hm : jok C MX0_isOperand d cl sl) (kt : x0 = 31 → jW C cl sl Q 18 [jU] [] w) (kf : ¬ x0 = 31 → jW C cl sl Q 6 [jI x0] [] w) : jW C cl sl Q 0 [jI x0] [] w := jr_iload_n hm (i := 0) rfl rfl dX0_isOperand_0 (jr_bipush hm (v := 31) (by decide) dX0_isOperand_1 (jr_icmp_eq hm dX0_isOperand_3 (by decide) (fun h => jr_drop (jle_drop jle_nil) (kt h)) (fun h => jr_drop (jle_same jle_nil) (kf h))))
theorem bk_X0_isOperand_6 {C : JC} {d cl sl : Nat} {Q : State → Prop} {w : JW} {x0 : Int32} (hm : jok C MX0_isOperand d cl sl) (kt : x0 < 18 → jW C cl sl Q 22 [jU] [] w) (kf : ¬ x0 < 18 → jW C cl sl Q 12 [jI x0] [] w) : jW C cl sl Q 6 [jI x0] [] w := jr_iload_n hm (i := 0) rfl rfl dX0_isOperand_6 (jr_bipush hm (v := 18) (by decide) dX0_isOperand_7 (jr_icmp_lt hm dX0_isOperand_9 (by decide) (fun h => jr_drop (jle_drop jle_nil) (kt h)) (fun h => jr_drop (jle_same jle_nil) (kf h))))
theorem bk_X0_isOperand_12 {C : JC} {d cl sl : Nat} {Q : State → Prop} {w : JW} {x0 : Int32} (hm : jok C MX0_isOperand d cl sl) (kt : 24 < x0 → jW C cl sl Q 22 [jU] [] w) (kf : ¬ 24 < x0 → jW C cl sl Q 18 [jU] [] w) : jW C cl sl Q 12 [jI x0] [] w := jr_iload_n hm (i := 0) rfl rfl dX0_isOperand_12 (jr_bipush hm (v := 24) (by decide) dX0_isOperand_13 (jr_icmp_gt hm dX0_isOperand_15 (by decide) (fun h => jr_drop (jle_drop jle_nil) (kt h)) (fun h => jr_drop (jle_drop jle_nil) (kf h))))
theorem bk_X0_isOperand_18 {C : JC} {d cl sl : Nat} {Q : State → Prop} {w : JW}  (hm : jok C MX0_isOperand d cl sl) (k : jW C cl sl Q 23 [jU] [jI 1] w) : jW C cl sl Q 18 [jU] [] w := jr_iconst hm (v := 1) (by decide) dX0_isOperand_18 (jr_goto hm dX0_isOperand_19 (by decide) (jr_drop (jle_same jle_nil) k))
theorem bk_X0_isOperand_22 {C : JC} {d cl sl : Nat} {Q : State → Prop} {w : JW}  (hm : jok C MX0_isOperand d cl sl) (k : jW C cl sl Q 23 [jU] [jI 0] w) : jW C cl sl Q 22 [jU] [] w := jr_iconst hm (v := 0) (by decide) dX0_isOperand_22 (jr_drop (jle_same jle_nil) k)
theorem bk_X0_isOperand_23 {C : JC} {d cl sl : Nat} {w : JW} {xs0 : Int32} {P : JV → JW → Prop} (hm : jok C MX0_isOperand d cl sl) (hz : narrow .boolean (.int xs0) = .int xs0) (hp : P (jI xs0) w) : jW C cl sl (jQQ C cl sl P) 23 [jU] [jI xs0] w := jr_zreturn hm rfl hz dX0_isOperand_23 hp
theorem dX0_reading_0 : decode cX0_reading 0 = .ok (.iload_n 0, 1) := by decide +kernel
theorem dX0_reading_1 : decode cX0_reading 1 = .ok (.tableswitch 103 18 24 #[43, 48, 58, 67, 76, 53, 85], 43) := by decide +kernel
theorem dX0_reading_44 : decode cX0_reading 44 = .ok (.aload_n 2, 1) := by decide +kernel
theorem dX0_reading_45 : decode cX0_reading 45 = .ok (.invokevirtual 61, 3) := by decide +kernel
theorem dX0_reading_48 : decode cX0_reading 48 = .ok (.ireturn, 1) := by decide +kernel
theorem dX0_reading_49 : decode cX0_reading 49 = .ok (.aload_n 2, 1) := by decide +kernel
theorem dX0_reading_50 : decode cX0_reading 50 = .ok (.getfield 66, 3) := by decide +kernel
theorem dX0_reading_53 : decode cX0_reading 53 = .ok (.ireturn, 1) := by decide +kernel
theorem dX0_reading_54 : decode cX0_reading 54 = .ok (.aload_n 2, 1) := by decide +kernel
theorem dX0_reading_55 : decode cX0_reading 55 = .ok (.getfield 69, 3) := by decide +kernel
theorem dX0_reading_58 : decode cX0_reading 58 = .ok (.ireturn, 1) := by decide +kernel
theorem dX0_reading_59 : decode cX0_reading 59 = .ok (.aload_n 2, 1) := by decide +kernel
theorem dX0_reading_60 : decode cX0_reading 60 = .ok (.getfield 72, 3) := by decide +kernel
theorem dX0_reading_63 : decode cX0_reading 63 = .ok (.iload_n 1, 1) := by decide +kernel
theorem dX0_reading_64 : decode cX0_reading 64 = .ok (.invokestatic 20, 3) := by decide +kernel
theorem dX0_reading_67 : decode cX0_reading 67 = .ok (.ireturn, 1) := by decide +kernel
theorem dX0_reading_68 : decode cX0_reading 68 = .ok (.aload_n 2, 1) := by decide +kernel
theorem dX0_reading_69 : decode cX0_reading 69 = .ok (.getfield 75, 3) := by decide +kernel
theorem dX0_reading_72 : decode cX0_reading 72 = .ok (.iload_n 1, 1) := by decide +kernel
theorem dX0_reading_73 : decode cX0_reading 73 = .ok (.invokestatic 20, 3) := by decide +kernel
theorem dX0_reading_76 : decode cX0_reading 76 = .ok (.ireturn, 1) := by decide +kernel
theorem dX0_reading_77 : decode cX0_reading 77 = .ok (.aload_n 2, 1) := by decide +kernel
theorem dX0_reading_78 : decode cX0_reading 78 = .ok (.getfield 78, 3) := by decide +kernel
theorem dX0_reading_81 : decode cX0_reading 81 = .ok (.iload_n 1, 1) := by decide +kernel
theorem dX0_reading_82 : decode cX0_reading 82 = .ok (.invokestatic 20, 3) := by decide +kernel
theorem dX0_reading_85 : decode cX0_reading 85 = .ok (.ireturn, 1) := by decide +kernel
theorem dX0_reading_86 : decode cX0_reading 86 = .ok (.aload_n 2, 1) := by decide +kernel
theorem dX0_reading_87 : decode cX0_reading 87 = .ok (.getfield 78, 3) := by decide +kernel
theorem dX0_reading_90 : decode cX0_reading 90 = .ok (.iload_n 1, 1) := by decide +kernel
theorem dX0_reading_91 : decode cX0_reading 91 = .ok (.invokestatic 20, 3) := by decide +kernel
theorem dX0_reading_94 : decode cX0_reading 94 = .ok (.iconst 1, 1) := by decide +kernel
theorem dX0_reading_95 : decode cX0_reading 95 = .ok (.if_icmp .lt 7, 3) := by decide +kernel
theorem dX0_reading_98 : decode cX0_reading 98 = .ok (.iconst 1, 1) := by decide +kernel
theorem dX0_reading_99 : decode cX0_reading 99 = .ok (.goto 4, 3) := by decide +kernel
theorem dX0_reading_102 : decode cX0_reading 102 = .ok (.iconst 0, 1) := by decide +kernel
theorem dX0_reading_103 : decode cX0_reading 103 = .ok (.ireturn, 1) := by decide +kernel
theorem dX0_reading_104 : decode cX0_reading 104 = .ok (.iload_n 1, 1) := by decide +kernel
theorem dX0_reading_105 : decode cX0_reading 105 = .ok (.ireturn, 1) := by decide +kernel
theorem bk_X0_reading_0 {C : JC} {d cl sl : Nat} {Q : State → Prop} {w : JW} {x0 : Int32} {x1 : Int32} {b2 : Bool} (hm : jok C MX0_reading d cl sl) (k18 : x0 = 18 → jW C cl sl Q 44 [jU, jU, jR 14 b2] [] w) (k19 : x0 = 19 → jW C cl sl Q 49 [jU, jU, jR 14 b2] [] w) (k20 : x0 = 20 → jW C cl sl Q 59 [jU, jI x1, jR 14 b2] [] w) (k21 : x0 = 21 → jW C cl sl Q 68 [jU, jI x1, jR 14 b2] [] w) (k22 : x0 = 22 → jW C cl sl Q 77 [jU, jI x1, jR 14 b2] [] w) (k23 : x0 = 23 → jW C cl sl Q 54 [jU, jU, jR 14 b2] [] w) (k24 : x0 = 24 → jW C cl sl Q 86 [jU, jI x1, jR 14 b2] [] w) (kd : ¬ x0 = 18 → ¬ x0 = 19 → ¬ x0 = 20 → ¬ x0 = 21 → ¬ x0 = 22 → ¬ x0 = 23 → ¬ x0 = 24 → jW C cl sl Q 104 [jU, jI x1, jU] [] w) : jW C cl sl Q 0 [jI x0, jI x1, jR 14 b2] [] w := by
  by_cases e18 : x0 = 18
  · exact jr_iload_n hm (i := 0) rfl rfl dX0_reading_0 (jr_tab_in hm dX0_reading_1 (by rw [e18]; decide) (by rw [e18]; decide) (off := 43) (by rw [e18]; rfl) (by decide) (jr_drop (jle_drop (jle_drop (jle_same jle_nil))) (k18 e18)))
  by_cases e19 : x0 = 19
  · exact jr_iload_n hm (i := 0) rfl rfl dX0_reading_0 (jr_tab_in hm dX0_reading_1 (by rw [e19]; decide) (by rw [e19]; decide) (off := 48) (by rw [e19]; rfl) (by decide) (jr_drop (jle_drop (jle_drop (jle_same jle_nil))) (k19 e19)))
  by_cases e20 : x0 = 20
  · exact jr_iload_n hm (i := 0) rfl rfl dX0_reading_0 (jr_tab_in hm dX0_reading_1 (by rw [e20]; decide) (by rw [e20]; decide) (off := 58) (by rw [e20]; rfl) (by decide) (jr_drop (jle_drop (jle_same (jle_same jle_nil))) (k20 e20)))
  by_cases e21 : x0 = 21
  · exact jr_iload_n hm (i := 0) rfl rfl dX0_reading_0 (jr_tab_in hm dX0_reading_1 (by rw [e21]; decide) (by rw [e21]; decide) (off := 67) (by rw [e21]; rfl) (by decide) (jr_drop (jle_drop (jle_same (jle_same jle_nil))) (k21 e21)))
  by_cases e22 : x0 = 22
  · exact jr_iload_n hm (i := 0) rfl rfl dX0_reading_0 (jr_tab_in hm dX0_reading_1 (by rw [e22]; decide) (by rw [e22]; decide) (off := 76) (by rw [e22]; rfl) (by decide) (jr_drop (jle_drop (jle_same (jle_same jle_nil))) (k22 e22)))
  by_cases e23 : x0 = 23
  · exact jr_iload_n hm (i := 0) rfl rfl dX0_reading_0 (jr_tab_in hm dX0_reading_1 (by rw [e23]; decide) (by rw [e23]; decide) (off := 53) (by rw [e23]; rfl) (by decide) (jr_drop (jle_drop (jle_drop (jle_same jle_nil))) (k23 e23)))
  by_cases e24 : x0 = 24
  · exact jr_iload_n hm (i := 0) rfl rfl dX0_reading_0 (jr_tab_in hm dX0_reading_1 (by rw [e24]; decide) (by rw [e24]; decide) (off := 85) (by rw [e24]; rfl) (by decide) (jr_drop (jle_drop (jle_same (jle_same jle_nil))) (k24 e24)))
  have t18 : ¬ (x0).toInt = 18 := fun e => e18 (Int32.toInt_inj.mp (e.trans (by decide)))
  have t19 : ¬ (x0).toInt = 19 := fun e => e19 (Int32.toInt_inj.mp (e.trans (by decide)))
  have t20 : ¬ (x0).toInt = 20 := fun e => e20 (Int32.toInt_inj.mp (e.trans (by decide)))
  have t21 : ¬ (x0).toInt = 21 := fun e => e21 (Int32.toInt_inj.mp (e.trans (by decide)))
  have t22 : ¬ (x0).toInt = 22 := fun e => e22 (Int32.toInt_inj.mp (e.trans (by decide)))
  have t23 : ¬ (x0).toInt = 23 := fun e => e23 (Int32.toInt_inj.mp (e.trans (by decide)))
  have t24 : ¬ (x0).toInt = 24 := fun e => e24 (Int32.toInt_inj.mp (e.trans (by decide)))
  exact jr_iload_n hm (i := 0) rfl rfl dX0_reading_0 (jr_tab_out hm dX0_reading_1 (by omega) (by decide) (jr_drop (jle_drop (jle_same (jle_drop jle_nil))) (kd e18 e19 e20 e21 e22 e23 e24)))
theorem bk_X0_reading_44 {C : JC} {d cl sl : Nat} {Q : State → Prop} {w : JW} {b2 : Bool} {d2 : Nat} {r : Int32} {w2 : JW} (hm : jok C MX0_reading d cl sl) (hs : jF MX1_hourOfDay d2 [jR 14 b2] w (jI r) w2) (hd2 : d2 + 1 ≤ d) (k : jW C cl sl Q 48 [jU, jU, jU] [jI r] w2) : jW C cl sl Q 44 [jU, jU, jR 14 b2] [] w := jr_aload_n hm (i := 2) rfl rfl dX0_reading_44 (jr_callV (mc := 0) (ms := 0) hm hs hd2 jw_233 jw_234 jw_235 jw_56 jw_236 jn_X1_hourOfDay rfl (jo_14 b2) (fun _ _ _ _ _ => ⟨_, rfl⟩) rfl rfl (Nat.le_of_ble_eq_true rfl) rfl dX0_reading_45 (jkF (jr_drop (jle_same (jle_same (jle_drop jle_nil))) k)))
theorem bk_X0_reading_48 {C : JC} {d cl sl : Nat} {w : JW} {xs0 : Int32} {P : JV → JW → Prop} (hm : jok C MX0_reading d cl sl) (hp : P (jI xs0) w) : jW C cl sl (jQQ C cl sl P) 48 [jU, jU, jU] [jI xs0] w := jr_ireturn hm rfl dX0_reading_48 hp
theorem bk_X0_reading_49 {C : JC} {d cl sl : Nat} {w : JW} {b2 : Bool} {P : JV → JW → Prop} (hm : jok C MX0_reading d cl sl) (hp : P (jI (w.1 14 b2 6)) w) : jW C cl sl (jQQ C cl sl P) 49 [jU, jU, jR 14 b2] [] w := jr_aload_n hm (i := 2) rfl rfl dX0_reading_49 (fg_X0_66 hm dX0_reading_50 (jr_ireturn hm rfl dX0_reading_53 hp))
theorem bk_X0_reading_54 {C : JC} {d cl sl : Nat} {w : JW} {b2 : Bool} {P : JV → JW → Prop} (hm : jok C MX0_reading d cl sl) (hp : P (jI (w.1 14 b2 7)) w) : jW C cl sl (jQQ C cl sl P) 54 [jU, jU, jR 14 b2] [] w := jr_aload_n hm (i := 2) rfl rfl dX0_reading_54 (fg_X0_69 hm dX0_reading_55 (jr_ireturn hm rfl dX0_reading_58 hp))
theorem bk_X0_reading_59 {C : JC} {d cl sl : Nat} {Q : State → Prop} {w : JW} {x1 : Int32} {b2 : Bool} {d2 : Nat} {r : Int32} {w2 : JW} (hm : jok C MX0_reading d cl sl) (hs : jF MX9_at d2 [jR 15 b2, jI x1] w (jI r) w2) (hd2 : d2 + 1 ≤ d) (k : jW C cl sl Q 67 [jU, jU, jU] [jI r] w2) : jW C cl sl Q 59 [jU, jI x1, jR 14 b2] [] w := jr_aload_n hm (i := 2) rfl rfl dX0_reading_59 (fg_X0_72 hm dX0_reading_60 (jr_iload_n hm (i := 1) rfl rfl dX0_reading_63 (jr_callSN (mc := 0) (ms := 0) hm hs hd2 jw_214 jw_162 jw_47 jw_163 jn_X9_at rfl rfl (Nat.le_of_ble_eq_true rfl) rfl dX0_reading_64 (jkF (jr_drop (jle_same (jle_drop (jle_drop jle_nil))) k)))))
theorem bk_X0_reading_67 {C : JC} {d cl sl : Nat} {w : JW} {xs0 : Int32} {P : JV → JW → Prop} (hm : jok C MX0_reading d cl sl) (hp : P (jI xs0) w) : jW C cl sl (jQQ C cl sl P) 67 [jU, jU, jU] [jI xs0] w := jr_ireturn hm rfl dX0_reading_67 hp
theorem bk_X0_reading_68 {C : JC} {d cl sl : Nat} {Q : State → Prop} {w : JW} {x1 : Int32} {b2 : Bool} {d2 : Nat} {r : Int32} {w2 : JW} (hm : jok C MX0_reading d cl sl) (hs : jF MX9_at d2 [jR 16 b2, jI x1] w (jI r) w2) (hd2 : d2 + 1 ≤ d) (k : jW C cl sl Q 76 [jU, jU, jU] [jI r] w2) : jW C cl sl Q 68 [jU, jI x1, jR 14 b2] [] w := jr_aload_n hm (i := 2) rfl rfl dX0_reading_68 (fg_X0_75 hm dX0_reading_69 (jr_iload_n hm (i := 1) rfl rfl dX0_reading_72 (jr_callSN (mc := 0) (ms := 0) hm hs hd2 jw_214 jw_162 jw_47 jw_163 jn_X9_at rfl rfl (Nat.le_of_ble_eq_true rfl) rfl dX0_reading_73 (jkF (jr_drop (jle_same (jle_drop (jle_drop jle_nil))) k)))))
theorem bk_X0_reading_76 {C : JC} {d cl sl : Nat} {w : JW} {xs0 : Int32} {P : JV → JW → Prop} (hm : jok C MX0_reading d cl sl) (hp : P (jI xs0) w) : jW C cl sl (jQQ C cl sl P) 76 [jU, jU, jU] [jI xs0] w := jr_ireturn hm rfl dX0_reading_76 hp
theorem bk_X0_reading_77 {C : JC} {d cl sl : Nat} {Q : State → Prop} {w : JW} {x1 : Int32} {b2 : Bool} {d2 : Nat} {r : Int32} {w2 : JW} (hm : jok C MX0_reading d cl sl) (hs : jF MX9_at d2 [jR 17 b2, jI x1] w (jI r) w2) (hd2 : d2 + 1 ≤ d) (k : jW C cl sl Q 85 [jU, jU, jU] [jI r] w2) : jW C cl sl Q 77 [jU, jI x1, jR 14 b2] [] w := jr_aload_n hm (i := 2) rfl rfl dX0_reading_77 (fg_X0_78 hm dX0_reading_78 (jr_iload_n hm (i := 1) rfl rfl dX0_reading_81 (jr_callSN (mc := 0) (ms := 0) hm hs hd2 jw_214 jw_162 jw_47 jw_163 jn_X9_at rfl rfl (Nat.le_of_ble_eq_true rfl) rfl dX0_reading_82 (jkF (jr_drop (jle_same (jle_drop (jle_drop jle_nil))) k)))))
theorem bk_X0_reading_85 {C : JC} {d cl sl : Nat} {w : JW} {xs0 : Int32} {P : JV → JW → Prop} (hm : jok C MX0_reading d cl sl) (hp : P (jI xs0) w) : jW C cl sl (jQQ C cl sl P) 85 [jU, jU, jU] [jI xs0] w := jr_ireturn hm rfl dX0_reading_85 hp
theorem bk_X0_reading_86 {C : JC} {d cl sl : Nat} {Q : State → Prop} {w : JW} {x1 : Int32} {b2 : Bool} {d2 : Nat} {r : Int32} {w2 : JW} (hm : jok C MX0_reading d cl sl) (hs : jF MX9_at d2 [jR 17 b2, jI x1] w (jI r) w2) (hd2 : d2 + 1 ≤ d) (k : jW C cl sl Q 94 [jU, jU, jU] [jI r] w2) : jW C cl sl Q 86 [jU, jI x1, jR 14 b2] [] w := jr_aload_n hm (i := 2) rfl rfl dX0_reading_86 (fg_X0_78 hm dX0_reading_87 (jr_iload_n hm (i := 1) rfl rfl dX0_reading_90 (jr_callSN (mc := 0) (ms := 0) hm hs hd2 jw_214 jw_162 jw_47 jw_163 jn_X9_at rfl rfl (Nat.le_of_ble_eq_true rfl) rfl dX0_reading_91 (jkF (jr_drop (jle_same (jle_drop (jle_drop jle_nil))) k)))))
theorem bk_X0_reading_94 {C : JC} {d cl sl : Nat} {Q : State → Prop} {w : JW} {xs0 : Int32} (hm : jok C MX0_reading d cl sl) (kt : xs0 < 1 → jW C cl sl Q 102 [jU, jU, jU] [] w) (kf : ¬ xs0 < 1 → jW C cl sl Q 98 [jU, jU, jU] [] w) : jW C cl sl Q 94 [jU, jU, jU] [jI xs0] w := jr_iconst hm (v := 1) (by decide) dX0_reading_94 (jr_icmp_lt hm dX0_reading_95 (by decide) (fun h => jr_drop (jle_same (jle_same (jle_same jle_nil))) (kt h)) (fun h => jr_drop (jle_same (jle_same (jle_same jle_nil))) (kf h)))
theorem bk_X0_reading_98 {C : JC} {d cl sl : Nat} {Q : State → Prop} {w : JW}  (hm : jok C MX0_reading d cl sl) (k : jW C cl sl Q 103 [jU, jU, jU] [jI 1] w) : jW C cl sl Q 98 [jU, jU, jU] [] w := jr_iconst hm (v := 1) (by decide) dX0_reading_98 (jr_goto hm dX0_reading_99 (by decide) (jr_drop (jle_same (jle_same (jle_same jle_nil))) k))
theorem bk_X0_reading_102 {C : JC} {d cl sl : Nat} {Q : State → Prop} {w : JW}  (hm : jok C MX0_reading d cl sl) (k : jW C cl sl Q 103 [jU, jU, jU] [jI 0] w) : jW C cl sl Q 102 [jU, jU, jU] [] w := jr_iconst hm (v := 0) (by decide) dX0_reading_102 (jr_drop (jle_same (jle_same (jle_same jle_nil))) k)
theorem bk_X0_reading_103 {C : JC} {d cl sl : Nat} {w : JW} {xs0 : Int32} {P : JV → JW → Prop} (hm : jok C MX0_reading d cl sl) (hp : P (jI xs0) w) : jW C cl sl (jQQ C cl sl P) 103 [jU, jU, jU] [jI xs0] w := jr_ireturn hm rfl dX0_reading_103 hp
theorem bk_X0_reading_104 {C : JC} {d cl sl : Nat} {w : JW} {x1 : Int32} {P : JV → JW → Prop} (hm : jok C MX0_reading d cl sl) (hp : P (jI x1) w) : jW C cl sl (jQQ C cl sl P) 104 [jU, jI x1, jU] [] w := jr_iload_n hm (i := 1) rfl rfl dX0_reading_104 (jr_ireturn hm rfl dX0_reading_105 hp)
theorem dX0_joined_0 : decode cX0_joined 0 = .ok (.iload_n 0, 1) := by decide +kernel
theorem dX0_joined_1 : decode cX0_joined 1 = .ok (.tableswitch 194 26 46 #[190, 194, 123, 129, 194, 194, 194, 194, 194, 194, 194, 194, 99, 103, 107, 111, 135, 146, 157, 168, 179], 99) := by decide +kernel
theorem dX0_joined_100 : decode cX0_joined 100 = .ok (.iload_n 1, 1) := by decide +kernel
theorem dX0_joined_101 : decode cX0_joined 101 = .ok (.iload_n 2, 1) := by decide +kernel
theorem dX0_joined_102 : decode cX0_joined 102 = .ok (.iadd, 1) := by decide +kernel
theorem dX0_joined_103 : decode cX0_joined 103 = .ok (.ireturn, 1) := by decide +kernel
theorem dX0_joined_104 : decode cX0_joined 104 = .ok (.iload_n 1, 1) := by decide +kernel
theorem dX0_joined_105 : decode cX0_joined 105 = .ok (.iload_n 2, 1) := by decide +kernel
theorem dX0_joined_106 : decode cX0_joined 106 = .ok (.isub, 1) := by decide +kernel
theorem dX0_joined_107 : decode cX0_joined 107 = .ok (.ireturn, 1) := by decide +kernel
theorem dX0_joined_108 : decode cX0_joined 108 = .ok (.iload_n 1, 1) := by decide +kernel
theorem dX0_joined_109 : decode cX0_joined 109 = .ok (.iload_n 2, 1) := by decide +kernel
theorem dX0_joined_110 : decode cX0_joined 110 = .ok (.imul, 1) := by decide +kernel
theorem dX0_joined_111 : decode cX0_joined 111 = .ok (.ireturn, 1) := by decide +kernel
theorem dX0_joined_112 : decode cX0_joined 112 = .ok (.iload_n 2, 1) := by decide +kernel
theorem dX0_joined_113 : decode cX0_joined 113 = .ok (.ifCond .ne 7, 3) := by decide +kernel
theorem dX0_joined_116 : decode cX0_joined 116 = .ok (.iconst 0, 1) := by decide +kernel
theorem dX0_joined_117 : decode cX0_joined 117 = .ok (.goto 6, 3) := by decide +kernel
theorem dX0_joined_120 : decode cX0_joined 120 = .ok (.iload_n 1, 1) := by decide +kernel
theorem dX0_joined_121 : decode cX0_joined 121 = .ok (.iload_n 2, 1) := by decide +kernel
theorem dX0_joined_122 : decode cX0_joined 122 = .ok (.idiv, 1) := by decide +kernel
theorem dX0_joined_123 : decode cX0_joined 123 = .ok (.ireturn, 1) := by decide +kernel
theorem dX0_joined_124 : decode cX0_joined 124 = .ok (.iload_n 1, 1) := by decide +kernel
theorem dX0_joined_125 : decode cX0_joined 125 = .ok (.iload_n 2, 1) := by decide +kernel
theorem dX0_joined_126 : decode cX0_joined 126 = .ok (.invokestatic 81, 3) := by decide +kernel
theorem dX0_joined_129 : decode cX0_joined 129 = .ok (.ireturn, 1) := by decide +kernel
theorem dX0_joined_130 : decode cX0_joined 130 = .ok (.iload_n 1, 1) := by decide +kernel
theorem dX0_joined_131 : decode cX0_joined 131 = .ok (.iload_n 2, 1) := by decide +kernel
theorem dX0_joined_132 : decode cX0_joined 132 = .ok (.invokestatic 87, 3) := by decide +kernel
theorem dX0_joined_135 : decode cX0_joined 135 = .ok (.ireturn, 1) := by decide +kernel
theorem dX0_joined_136 : decode cX0_joined 136 = .ok (.iload_n 1, 1) := by decide +kernel
theorem dX0_joined_137 : decode cX0_joined 137 = .ok (.iload_n 2, 1) := by decide +kernel
theorem dX0_joined_138 : decode cX0_joined 138 = .ok (.if_icmp .ge 7, 3) := by decide +kernel
theorem dX0_joined_141 : decode cX0_joined 141 = .ok (.iconst 1, 1) := by decide +kernel
theorem dX0_joined_142 : decode cX0_joined 142 = .ok (.goto 4, 3) := by decide +kernel
theorem dX0_joined_145 : decode cX0_joined 145 = .ok (.iconst 0, 1) := by decide +kernel
theorem dX0_joined_146 : decode cX0_joined 146 = .ok (.ireturn, 1) := by decide +kernel
theorem dX0_joined_147 : decode cX0_joined 147 = .ok (.iload_n 1, 1) := by decide +kernel
theorem dX0_joined_148 : decode cX0_joined 148 = .ok (.iload_n 2, 1) := by decide +kernel
theorem dX0_joined_149 : decode cX0_joined 149 = .ok (.if_icmp .le 7, 3) := by decide +kernel
theorem dX0_joined_152 : decode cX0_joined 152 = .ok (.iconst 1, 1) := by decide +kernel
theorem dX0_joined_153 : decode cX0_joined 153 = .ok (.goto 4, 3) := by decide +kernel
theorem dX0_joined_156 : decode cX0_joined 156 = .ok (.iconst 0, 1) := by decide +kernel
theorem dX0_joined_157 : decode cX0_joined 157 = .ok (.ireturn, 1) := by decide +kernel
theorem dX0_joined_158 : decode cX0_joined 158 = .ok (.iload_n 1, 1) := by decide +kernel
theorem dX0_joined_159 : decode cX0_joined 159 = .ok (.iload_n 2, 1) := by decide +kernel
theorem dX0_joined_160 : decode cX0_joined 160 = .ok (.if_icmp .ne 7, 3) := by decide +kernel
theorem dX0_joined_163 : decode cX0_joined 163 = .ok (.iconst 1, 1) := by decide +kernel
theorem dX0_joined_164 : decode cX0_joined 164 = .ok (.goto 4, 3) := by decide +kernel
theorem dX0_joined_167 : decode cX0_joined 167 = .ok (.iconst 0, 1) := by decide +kernel
theorem dX0_joined_168 : decode cX0_joined 168 = .ok (.ireturn, 1) := by decide +kernel
theorem dX0_joined_169 : decode cX0_joined 169 = .ok (.iload_n 1, 1) := by decide +kernel
theorem dX0_joined_170 : decode cX0_joined 170 = .ok (.iload_n 2, 1) := by decide +kernel
theorem dX0_joined_171 : decode cX0_joined 171 = .ok (.if_icmp .gt 7, 3) := by decide +kernel
theorem dX0_joined_174 : decode cX0_joined 174 = .ok (.iconst 1, 1) := by decide +kernel
theorem dX0_joined_175 : decode cX0_joined 175 = .ok (.goto 4, 3) := by decide +kernel
theorem dX0_joined_178 : decode cX0_joined 178 = .ok (.iconst 0, 1) := by decide +kernel
theorem dX0_joined_179 : decode cX0_joined 179 = .ok (.ireturn, 1) := by decide +kernel
theorem dX0_joined_180 : decode cX0_joined 180 = .ok (.iload_n 1, 1) := by decide +kernel
theorem dX0_joined_181 : decode cX0_joined 181 = .ok (.iload_n 2, 1) := by decide +kernel
theorem dX0_joined_182 : decode cX0_joined 182 = .ok (.if_icmp .lt 7, 3) := by decide +kernel
theorem dX0_joined_185 : decode cX0_joined 185 = .ok (.iconst 1, 1) := by decide +kernel
theorem dX0_joined_186 : decode cX0_joined 186 = .ok (.goto 4, 3) := by decide +kernel
theorem dX0_joined_189 : decode cX0_joined 189 = .ok (.iconst 0, 1) := by decide +kernel
theorem dX0_joined_190 : decode cX0_joined 190 = .ok (.ireturn, 1) := by decide +kernel
theorem dX0_joined_191 : decode cX0_joined 191 = .ok (.iload_n 1, 1) := by decide +kernel
theorem dX0_joined_192 : decode cX0_joined 192 = .ok (.iload_n 2, 1) := by decide +kernel
theorem dX0_joined_193 : decode cX0_joined 193 = .ok (.iand, 1) := by decide +kernel
theorem dX0_joined_194 : decode cX0_joined 194 = .ok (.ireturn, 1) := by decide +kernel
theorem dX0_joined_195 : decode cX0_joined 195 = .ok (.iload_n 1, 1) := by decide +kernel
theorem dX0_joined_196 : decode cX0_joined 196 = .ok (.iload_n 2, 1) := by decide +kernel
theorem dX0_joined_197 : decode cX0_joined 197 = .ok (.ior, 1) := by decide +kernel
theorem dX0_joined_198 : decode cX0_joined 198 = .ok (.ireturn, 1) := by decide +kernel
theorem bk_X0_joined_0 {C : JC} {d cl sl : Nat} {Q : State → Prop} {w : JW} {x0 : Int32} {x1 : Int32} {x2 : Int32} (hm : jok C MX0_joined d cl sl) (k26 : x0 = 26 → jW C cl sl Q 191 [jU, jI x1, jI x2] [] w) (k28 : x0 = 28 → jW C cl sl Q 124 [jU, jI x1, jI x2] [] w) (k29 : x0 = 29 → jW C cl sl Q 130 [jU, jI x1, jI x2] [] w) (k38 : x0 = 38 → jW C cl sl Q 100 [jU, jI x1, jI x2] [] w) (k39 : x0 = 39 → jW C cl sl Q 104 [jU, jI x1, jI x2] [] w) (k40 : x0 = 40 → jW C cl sl Q 108 [jU, jI x1, jI x2] [] w) (k41 : x0 = 41 → jW C cl sl Q 112 [jU, jI x1, jI x2] [] w) (k42 : x0 = 42 → jW C cl sl Q 136 [jU, jI x1, jI x2] [] w) (k43 : x0 = 43 → jW C cl sl Q 147 [jU, jI x1, jI x2] [] w) (k44 : x0 = 44 → jW C cl sl Q 158 [jU, jI x1, jI x2] [] w) (k45 : x0 = 45 → jW C cl sl Q 169 [jU, jI x1, jI x2] [] w) (k46 : x0 = 46 → jW C cl sl Q 180 [jU, jI x1, jI x2] [] w) (kd : ¬ x0 = 26 → ¬ x0 = 28 → ¬ x0 = 29 → ¬ x0 = 38 → ¬ x0 = 39 → ¬ x0 = 40 → ¬ x0 = 41 → ¬ x0 = 42 → ¬ x0 = 43 → ¬ x0 = 44 → ¬ x0 = 45 → ¬ x0 = 46 → jW C cl sl Q 195 [jU, jI x1, jI x2] [] w) : jW C cl sl Q 0 [jI x0, jI x1, jI x2] [] w := by
  by_cases e26 : x0 = 26
  · exact jr_iload_n hm (i := 0) rfl rfl dX0_joined_0 (jr_tab_in hm dX0_joined_1 (by rw [e26]; decide) (by rw [e26]; decide) (off := 190) (by rw [e26]; rfl) (by decide) (jr_drop (jle_drop (jle_same (jle_same jle_nil))) (k26 e26)))
  by_cases e27 : x0 = 27
  · exact jr_iload_n hm (i := 0) rfl rfl dX0_joined_0 (jr_tab_in hm dX0_joined_1 (by rw [e27]; decide) (by rw [e27]; decide) (off := 194) (by rw [e27]; rfl) (by decide) (jr_drop (jle_drop (jle_same (jle_same jle_nil))) (kd (by rw [e27]; decide) (by rw [e27]; decide) (by rw [e27]; decide) (by rw [e27]; decide) (by rw [e27]; decide) (by rw [e27]; decide) (by rw [e27]; decide) (by rw [e27]; decide) (by rw [e27]; decide) (by rw [e27]; decide) (by rw [e27]; decide) (by rw [e27]; decide))))
  by_cases e28 : x0 = 28
  · exact jr_iload_n hm (i := 0) rfl rfl dX0_joined_0 (jr_tab_in hm dX0_joined_1 (by rw [e28]; decide) (by rw [e28]; decide) (off := 123) (by rw [e28]; rfl) (by decide) (jr_drop (jle_drop (jle_same (jle_same jle_nil))) (k28 e28)))
  by_cases e29 : x0 = 29
  · exact jr_iload_n hm (i := 0) rfl rfl dX0_joined_0 (jr_tab_in hm dX0_joined_1 (by rw [e29]; decide) (by rw [e29]; decide) (off := 129) (by rw [e29]; rfl) (by decide) (jr_drop (jle_drop (jle_same (jle_same jle_nil))) (k29 e29)))
  by_cases e30 : x0 = 30
  · exact jr_iload_n hm (i := 0) rfl rfl dX0_joined_0 (jr_tab_in hm dX0_joined_1 (by rw [e30]; decide) (by rw [e30]; decide) (off := 194) (by rw [e30]; rfl) (by decide) (jr_drop (jle_drop (jle_same (jle_same jle_nil))) (kd (by rw [e30]; decide) (by rw [e30]; decide) (by rw [e30]; decide) (by rw [e30]; decide) (by rw [e30]; decide) (by rw [e30]; decide) (by rw [e30]; decide) (by rw [e30]; decide) (by rw [e30]; decide) (by rw [e30]; decide) (by rw [e30]; decide) (by rw [e30]; decide))))
  by_cases e31 : x0 = 31
  · exact jr_iload_n hm (i := 0) rfl rfl dX0_joined_0 (jr_tab_in hm dX0_joined_1 (by rw [e31]; decide) (by rw [e31]; decide) (off := 194) (by rw [e31]; rfl) (by decide) (jr_drop (jle_drop (jle_same (jle_same jle_nil))) (kd (by rw [e31]; decide) (by rw [e31]; decide) (by rw [e31]; decide) (by rw [e31]; decide) (by rw [e31]; decide) (by rw [e31]; decide) (by rw [e31]; decide) (by rw [e31]; decide) (by rw [e31]; decide) (by rw [e31]; decide) (by rw [e31]; decide) (by rw [e31]; decide))))
  by_cases e32 : x0 = 32
  · exact jr_iload_n hm (i := 0) rfl rfl dX0_joined_0 (jr_tab_in hm dX0_joined_1 (by rw [e32]; decide) (by rw [e32]; decide) (off := 194) (by rw [e32]; rfl) (by decide) (jr_drop (jle_drop (jle_same (jle_same jle_nil))) (kd (by rw [e32]; decide) (by rw [e32]; decide) (by rw [e32]; decide) (by rw [e32]; decide) (by rw [e32]; decide) (by rw [e32]; decide) (by rw [e32]; decide) (by rw [e32]; decide) (by rw [e32]; decide) (by rw [e32]; decide) (by rw [e32]; decide) (by rw [e32]; decide))))
  by_cases e33 : x0 = 33
  · exact jr_iload_n hm (i := 0) rfl rfl dX0_joined_0 (jr_tab_in hm dX0_joined_1 (by rw [e33]; decide) (by rw [e33]; decide) (off := 194) (by rw [e33]; rfl) (by decide) (jr_drop (jle_drop (jle_same (jle_same jle_nil))) (kd (by rw [e33]; decide) (by rw [e33]; decide) (by rw [e33]; decide) (by rw [e33]; decide) (by rw [e33]; decide) (by rw [e33]; decide) (by rw [e33]; decide) (by rw [e33]; decide) (by rw [e33]; decide) (by rw [e33]; decide) (by rw [e33]; decide) (by rw [e33]; decide))))
  by_cases e34 : x0 = 34
  · exact jr_iload_n hm (i := 0) rfl rfl dX0_joined_0 (jr_tab_in hm dX0_joined_1 (by rw [e34]; decide) (by rw [e34]; decide) (off := 194) (by rw [e34]; rfl) (by decide) (jr_drop (jle_drop (jle_same (jle_same jle_nil))) (kd (by rw [e34]; decide) (by rw [e34]; decide) (by rw [e34]; decide) (by rw [e34]; decide) (by rw [e34]; decide) (by rw [e34]; decide) (by rw [e34]; decide) (by rw [e34]; decide) (by rw [e34]; decide) (by rw [e34]; decide) (by rw [e34]; decide) (by rw [e34]; decide))))
  by_cases e35 : x0 = 35
  · exact jr_iload_n hm (i := 0) rfl rfl dX0_joined_0 (jr_tab_in hm dX0_joined_1 (by rw [e35]; decide) (by rw [e35]; decide) (off := 194) (by rw [e35]; rfl) (by decide) (jr_drop (jle_drop (jle_same (jle_same jle_nil))) (kd (by rw [e35]; decide) (by rw [e35]; decide) (by rw [e35]; decide) (by rw [e35]; decide) (by rw [e35]; decide) (by rw [e35]; decide) (by rw [e35]; decide) (by rw [e35]; decide) (by rw [e35]; decide) (by rw [e35]; decide) (by rw [e35]; decide) (by rw [e35]; decide))))
  by_cases e36 : x0 = 36
  · exact jr_iload_n hm (i := 0) rfl rfl dX0_joined_0 (jr_tab_in hm dX0_joined_1 (by rw [e36]; decide) (by rw [e36]; decide) (off := 194) (by rw [e36]; rfl) (by decide) (jr_drop (jle_drop (jle_same (jle_same jle_nil))) (kd (by rw [e36]; decide) (by rw [e36]; decide) (by rw [e36]; decide) (by rw [e36]; decide) (by rw [e36]; decide) (by rw [e36]; decide) (by rw [e36]; decide) (by rw [e36]; decide) (by rw [e36]; decide) (by rw [e36]; decide) (by rw [e36]; decide) (by rw [e36]; decide))))
  by_cases e37 : x0 = 37
  · exact jr_iload_n hm (i := 0) rfl rfl dX0_joined_0 (jr_tab_in hm dX0_joined_1 (by rw [e37]; decide) (by rw [e37]; decide) (off := 194) (by rw [e37]; rfl) (by decide) (jr_drop (jle_drop (jle_same (jle_same jle_nil))) (kd (by rw [e37]; decide) (by rw [e37]; decide) (by rw [e37]; decide) (by rw [e37]; decide) (by rw [e37]; decide) (by rw [e37]; decide) (by rw [e37]; decide) (by rw [e37]; decide) (by rw [e37]; decide) (by rw [e37]; decide) (by rw [e37]; decide) (by rw [e37]; decide))))
  by_cases e38 : x0 = 38
  · exact jr_iload_n hm (i := 0) rfl rfl dX0_joined_0 (jr_tab_in hm dX0_joined_1 (by rw [e38]; decide) (by rw [e38]; decide) (off := 99) (by rw [e38]; rfl) (by decide) (jr_drop (jle_drop (jle_same (jle_same jle_nil))) (k38 e38)))
  by_cases e39 : x0 = 39
  · exact jr_iload_n hm (i := 0) rfl rfl dX0_joined_0 (jr_tab_in hm dX0_joined_1 (by rw [e39]; decide) (by rw [e39]; decide) (off := 103) (by rw [e39]; rfl) (by decide) (jr_drop (jle_drop (jle_same (jle_same jle_nil))) (k39 e39)))
  by_cases e40 : x0 = 40
  · exact jr_iload_n hm (i := 0) rfl rfl dX0_joined_0 (jr_tab_in hm dX0_joined_1 (by rw [e40]; decide) (by rw [e40]; decide) (off := 107) (by rw [e40]; rfl) (by decide) (jr_drop (jle_drop (jle_same (jle_same jle_nil))) (k40 e40)))
  by_cases e41 : x0 = 41
  · exact jr_iload_n hm (i := 0) rfl rfl dX0_joined_0 (jr_tab_in hm dX0_joined_1 (by rw [e41]; decide) (by rw [e41]; decide) (off := 111) (by rw [e41]; rfl) (by decide) (jr_drop (jle_drop (jle_same (jle_same jle_nil))) (k41 e41)))
  by_cases e42 : x0 = 42
  · exact jr_iload_n hm (i := 0) rfl rfl dX0_joined_0 (jr_tab_in hm dX0_joined_1 (by rw [e42]; decide) (by rw [e42]; decide) (off := 135) (by rw [e42]; rfl) (by decide) (jr_drop (jle_drop (jle_same (jle_same jle_nil))) (k42 e42)))
  by_cases e43 : x0 = 43
  · exact jr_iload_n hm (i := 0) rfl rfl dX0_joined_0 (jr_tab_in hm dX0_joined_1 (by rw [e43]; decide) (by rw [e43]; decide) (off := 146) (by rw [e43]; rfl) (by decide) (jr_drop (jle_drop (jle_same (jle_same jle_nil))) (k43 e43)))
  by_cases e44 : x0 = 44
  · exact jr_iload_n hm (i := 0) rfl rfl dX0_joined_0 (jr_tab_in hm dX0_joined_1 (by rw [e44]; decide) (by rw [e44]; decide) (off := 157) (by rw [e44]; rfl) (by decide) (jr_drop (jle_drop (jle_same (jle_same jle_nil))) (k44 e44)))
  by_cases e45 : x0 = 45
  · exact jr_iload_n hm (i := 0) rfl rfl dX0_joined_0 (jr_tab_in hm dX0_joined_1 (by rw [e45]; decide) (by rw [e45]; decide) (off := 168) (by rw [e45]; rfl) (by decide) (jr_drop (jle_drop (jle_same (jle_same jle_nil))) (k45 e45)))
  by_cases e46 : x0 = 46
  · exact jr_iload_n hm (i := 0) rfl rfl dX0_joined_0 (jr_tab_in hm dX0_joined_1 (by rw [e46]; decide) (by rw [e46]; decide) (off := 179) (by rw [e46]; rfl) (by decide) (jr_drop (jle_drop (jle_same (jle_same jle_nil))) (k46 e46)))
  have t26 : ¬ (x0).toInt = 26 := fun e => e26 (Int32.toInt_inj.mp (e.trans (by decide)))
  have t27 : ¬ (x0).toInt = 27 := fun e => e27 (Int32.toInt_inj.mp (e.trans (by decide)))
  have t28 : ¬ (x0).toInt = 28 := fun e => e28 (Int32.toInt_inj.mp (e.trans (by decide)))
  have t29 : ¬ (x0).toInt = 29 := fun e => e29 (Int32.toInt_inj.mp (e.trans (by decide)))
  have t30 : ¬ (x0).toInt = 30 := fun e => e30 (Int32.toInt_inj.mp (e.trans (by decide)))
  have t31 : ¬ (x0).toInt = 31 := fun e => e31 (Int32.toInt_inj.mp (e.trans (by decide)))
  have t32 : ¬ (x0).toInt = 32 := fun e => e32 (Int32.toInt_inj.mp (e.trans (by decide)))
  have t33 : ¬ (x0).toInt = 33 := fun e => e33 (Int32.toInt_inj.mp (e.trans (by decide)))
  have t34 : ¬ (x0).toInt = 34 := fun e => e34 (Int32.toInt_inj.mp (e.trans (by decide)))
  have t35 : ¬ (x0).toInt = 35 := fun e => e35 (Int32.toInt_inj.mp (e.trans (by decide)))
  have t36 : ¬ (x0).toInt = 36 := fun e => e36 (Int32.toInt_inj.mp (e.trans (by decide)))
  have t37 : ¬ (x0).toInt = 37 := fun e => e37 (Int32.toInt_inj.mp (e.trans (by decide)))
  have t38 : ¬ (x0).toInt = 38 := fun e => e38 (Int32.toInt_inj.mp (e.trans (by decide)))
  have t39 : ¬ (x0).toInt = 39 := fun e => e39 (Int32.toInt_inj.mp (e.trans (by decide)))
  have t40 : ¬ (x0).toInt = 40 := fun e => e40 (Int32.toInt_inj.mp (e.trans (by decide)))
  have t41 : ¬ (x0).toInt = 41 := fun e => e41 (Int32.toInt_inj.mp (e.trans (by decide)))
  have t42 : ¬ (x0).toInt = 42 := fun e => e42 (Int32.toInt_inj.mp (e.trans (by decide)))
  have t43 : ¬ (x0).toInt = 43 := fun e => e43 (Int32.toInt_inj.mp (e.trans (by decide)))
  have t44 : ¬ (x0).toInt = 44 := fun e => e44 (Int32.toInt_inj.mp (e.trans (by decide)))
  have t45 : ¬ (x0).toInt = 45 := fun e => e45 (Int32.toInt_inj.mp (e.trans (by decide)))
  have t46 : ¬ (x0).toInt = 46 := fun e => e46 (Int32.toInt_inj.mp (e.trans (by decide)))
  exact jr_iload_n hm (i := 0) rfl rfl dX0_joined_0 (jr_tab_out hm dX0_joined_1 (by omega) (by decide) (jr_drop (jle_drop (jle_same (jle_same jle_nil))) (kd e26 e28 e29 e38 e39 e40 e41 e42 e43 e44 e45 e46)))
theorem bk_X0_joined_100 {C : JC} {d cl sl : Nat} {w : JW} {x1 : Int32} {x2 : Int32} {P : JV → JW → Prop} (hm : jok C MX0_joined d cl sl) (hp : P (jI (x1 + x2)) w) : jW C cl sl (jQQ C cl sl P) 100 [jU, jI x1, jI x2] [] w := jr_iload_n hm (i := 1) rfl rfl dX0_joined_100 (jr_iload_n hm (i := 2) rfl rfl dX0_joined_101 (jr_iadd hm dX0_joined_102 (jr_ireturn hm rfl dX0_joined_103 hp)))
theorem bk_X0_joined_104 {C : JC} {d cl sl : Nat} {w : JW} {x1 : Int32} {x2 : Int32} {P : JV → JW → Prop} (hm : jok C MX0_joined d cl sl) (hp : P (jI (x1 - x2)) w) : jW C cl sl (jQQ C cl sl P) 104 [jU, jI x1, jI x2] [] w := jr_iload_n hm (i := 1) rfl rfl dX0_joined_104 (jr_iload_n hm (i := 2) rfl rfl dX0_joined_105 (jr_isub hm dX0_joined_106 (jr_ireturn hm rfl dX0_joined_107 hp)))
theorem bk_X0_joined_108 {C : JC} {d cl sl : Nat} {w : JW} {x1 : Int32} {x2 : Int32} {P : JV → JW → Prop} (hm : jok C MX0_joined d cl sl) (hp : P (jI (x1 * x2)) w) : jW C cl sl (jQQ C cl sl P) 108 [jU, jI x1, jI x2] [] w := jr_iload_n hm (i := 1) rfl rfl dX0_joined_108 (jr_iload_n hm (i := 2) rfl rfl dX0_joined_109 (jr_imul hm dX0_joined_110 (jr_ireturn hm rfl dX0_joined_111 hp)))
theorem bk_X0_joined_112 {C : JC} {d cl sl : Nat} {Q : State → Prop} {w : JW} {x1 : Int32} {x2 : Int32} (hm : jok C MX0_joined d cl sl) (kt : ¬ x2 = 0 → jW C cl sl Q 120 [jU, jI x1, jI x2] [] w) (kf : x2 = 0 → jW C cl sl Q 116 [jU, jU, jU] [] w) : jW C cl sl Q 112 [jU, jI x1, jI x2] [] w := jr_iload_n hm (i := 2) rfl rfl dX0_joined_112 (jr_if_ne hm dX0_joined_113 (by decide) (fun h => jr_drop (jle_same (jle_same (jle_same jle_nil))) (kt h)) (fun h => jr_drop (jle_same (jle_drop (jle_drop jle_nil))) (kf h)))
theorem bk_X0_joined_116 {C : JC} {d cl sl : Nat} {Q : State → Prop} {w : JW}  (hm : jok C MX0_joined d cl sl) (k : jW C cl sl Q 123 [jU, jU, jU] [jI 0] w) : jW C cl sl Q 116 [jU, jU, jU] [] w := jr_iconst hm (v := 0) (by decide) dX0_joined_116 (jr_goto hm dX0_joined_117 (by decide) (jr_drop (jle_same (jle_same (jle_same jle_nil))) k))
theorem bk_X0_joined_120 {C : JC} {d cl sl : Nat} {Q : State → Prop} {w : JW} {x1 : Int32} {x2 : Int32} (hm : jok C MX0_joined d cl sl) (h1 : ¬ x2 = 0) (k : jW C cl sl Q 123 [jU, jU, jU] [jI (x1 / x2)] w) : jW C cl sl Q 120 [jU, jI x1, jI x2] [] w := jr_iload_n hm (i := 1) rfl rfl dX0_joined_120 (jr_iload_n hm (i := 2) rfl rfl dX0_joined_121 (jr_idiv hm h1 dX0_joined_122 (jr_drop (jle_same (jle_drop (jle_drop jle_nil))) k)))
theorem bk_X0_joined_123 {C : JC} {d cl sl : Nat} {w : JW} {xs0 : Int32} {P : JV → JW → Prop} (hm : jok C MX0_joined d cl sl) (hp : P (jI xs0) w) : jW C cl sl (jQQ C cl sl P) 123 [jU, jU, jU] [jI xs0] w := jr_ireturn hm rfl dX0_joined_123 hp
theorem bk_X0_joined_124 {C : JC} {d cl sl : Nat} {w : JW} {x1 : Int32} {x2 : Int32} {P : JV → JW → Prop} (hm : jok C MX0_joined d cl sl) (hd1 : 1 ≤ d) (hp : P (jI (if x2 < x1 then x2 else x1)) w) : jW C cl sl (jQQ C cl sl P) 124 [jU, jI x1, jI x2] [] w := jr_iload_n hm (i := 1) rfl rfl dX0_joined_124 (jr_iload_n hm (i := 2) rfl rfl dX0_joined_125 (jr_mmin hm jw_240 jw_241 jw_62 jw_242 hd1 (Nat.le_of_ble_eq_true rfl) rfl dX0_joined_126 (jr_ireturn hm rfl dX0_joined_129 hp)))
theorem bk_X0_joined_130 {C : JC} {d cl sl : Nat} {w : JW} {x1 : Int32} {x2 : Int32} {P : JV → JW → Prop} (hm : jok C MX0_joined d cl sl) (hd1 : 1 ≤ d) (hp : P (jI (if x1 < x2 then x2 else x1)) w) : jW C cl sl (jQQ C cl sl P) 130 [jU, jI x1, jI x2] [] w := jr_iload_n hm (i := 1) rfl rfl dX0_joined_130 (jr_iload_n hm (i := 2) rfl rfl dX0_joined_131 (jr_mmax hm jw_243 jw_244 jw_62 jw_245 hd1 (Nat.le_of_ble_eq_true rfl) rfl dX0_joined_132 (jr_ireturn hm rfl dX0_joined_135 hp)))
theorem bk_X0_joined_136 {C : JC} {d cl sl : Nat} {Q : State → Prop} {w : JW} {x1 : Int32} {x2 : Int32} (hm : jok C MX0_joined d cl sl) (kt : x2 ≤ x1 → jW C cl sl Q 145 [jU, jU, jU] [] w) (kf : ¬ x2 ≤ x1 → jW C cl sl Q 141 [jU, jU, jU] [] w) : jW C cl sl Q 136 [jU, jI x1, jI x2] [] w := jr_iload_n hm (i := 1) rfl rfl dX0_joined_136 (jr_iload_n hm (i := 2) rfl rfl dX0_joined_137 (jr_icmp_ge hm dX0_joined_138 (by decide) (fun h => jr_drop (jle_same (jle_drop (jle_drop jle_nil))) (kt h)) (fun h => jr_drop (jle_same (jle_drop (jle_drop jle_nil))) (kf h))))
theorem bk_X0_joined_141 {C : JC} {d cl sl : Nat} {Q : State → Prop} {w : JW}  (hm : jok C MX0_joined d cl sl) (k : jW C cl sl Q 146 [jU, jU, jU] [jI 1] w) : jW C cl sl Q 141 [jU, jU, jU] [] w := jr_iconst hm (v := 1) (by decide) dX0_joined_141 (jr_goto hm dX0_joined_142 (by decide) (jr_drop (jle_same (jle_same (jle_same jle_nil))) k))
theorem bk_X0_joined_145 {C : JC} {d cl sl : Nat} {Q : State → Prop} {w : JW}  (hm : jok C MX0_joined d cl sl) (k : jW C cl sl Q 146 [jU, jU, jU] [jI 0] w) : jW C cl sl Q 145 [jU, jU, jU] [] w := jr_iconst hm (v := 0) (by decide) dX0_joined_145 (jr_drop (jle_same (jle_same (jle_same jle_nil))) k)
theorem bk_X0_joined_146 {C : JC} {d cl sl : Nat} {w : JW} {xs0 : Int32} {P : JV → JW → Prop} (hm : jok C MX0_joined d cl sl) (hp : P (jI xs0) w) : jW C cl sl (jQQ C cl sl P) 146 [jU, jU, jU] [jI xs0] w := jr_ireturn hm rfl dX0_joined_146 hp
theorem bk_X0_joined_147 {C : JC} {d cl sl : Nat} {Q : State → Prop} {w : JW} {x1 : Int32} {x2 : Int32} (hm : jok C MX0_joined d cl sl) (kt : x1 ≤ x2 → jW C cl sl Q 156 [jU, jU, jU] [] w) (kf : ¬ x1 ≤ x2 → jW C cl sl Q 152 [jU, jU, jU] [] w) : jW C cl sl Q 147 [jU, jI x1, jI x2] [] w := jr_iload_n hm (i := 1) rfl rfl dX0_joined_147 (jr_iload_n hm (i := 2) rfl rfl dX0_joined_148 (jr_icmp_le hm dX0_joined_149 (by decide) (fun h => jr_drop (jle_same (jle_drop (jle_drop jle_nil))) (kt h)) (fun h => jr_drop (jle_same (jle_drop (jle_drop jle_nil))) (kf h))))
theorem bk_X0_joined_152 {C : JC} {d cl sl : Nat} {Q : State → Prop} {w : JW}  (hm : jok C MX0_joined d cl sl) (k : jW C cl sl Q 157 [jU, jU, jU] [jI 1] w) : jW C cl sl Q 152 [jU, jU, jU] [] w := jr_iconst hm (v := 1) (by decide) dX0_joined_152 (jr_goto hm dX0_joined_153 (by decide) (jr_drop (jle_same (jle_same (jle_same jle_nil))) k))
theorem bk_X0_joined_156 {C : JC} {d cl sl : Nat} {Q : State → Prop} {w : JW}  (hm : jok C MX0_joined d cl sl) (k : jW C cl sl Q 157 [jU, jU, jU] [jI 0] w) : jW C cl sl Q 156 [jU, jU, jU] [] w := jr_iconst hm (v := 0) (by decide) dX0_joined_156 (jr_drop (jle_same (jle_same (jle_same jle_nil))) k)
theorem bk_X0_joined_157 {C : JC} {d cl sl : Nat} {w : JW} {xs0 : Int32} {P : JV → JW → Prop} (hm : jok C MX0_joined d cl sl) (hp : P (jI xs0) w) : jW C cl sl (jQQ C cl sl P) 157 [jU, jU, jU] [jI xs0] w := jr_ireturn hm rfl dX0_joined_157 hp
theorem bk_X0_joined_158 {C : JC} {d cl sl : Nat} {Q : State → Prop} {w : JW} {x1 : Int32} {x2 : Int32} (hm : jok C MX0_joined d cl sl) (kt : ¬ x1 = x2 → jW C cl sl Q 167 [jU, jU, jU] [] w) (kf : x1 = x2 → jW C cl sl Q 163 [jU, jU, jU] [] w) : jW C cl sl Q 158 [jU, jI x1, jI x2] [] w := jr_iload_n hm (i := 1) rfl rfl dX0_joined_158 (jr_iload_n hm (i := 2) rfl rfl dX0_joined_159 (jr_icmp_ne hm dX0_joined_160 (by decide) (fun h => jr_drop (jle_same (jle_drop (jle_drop jle_nil))) (kt h)) (fun h => jr_drop (jle_same (jle_drop (jle_drop jle_nil))) (kf h))))
theorem bk_X0_joined_163 {C : JC} {d cl sl : Nat} {Q : State → Prop} {w : JW}  (hm : jok C MX0_joined d cl sl) (k : jW C cl sl Q 168 [jU, jU, jU] [jI 1] w) : jW C cl sl Q 163 [jU, jU, jU] [] w := jr_iconst hm (v := 1) (by decide) dX0_joined_163 (jr_goto hm dX0_joined_164 (by decide) (jr_drop (jle_same (jle_same (jle_same jle_nil))) k))
theorem bk_X0_joined_167 {C : JC} {d cl sl : Nat} {Q : State → Prop} {w : JW}  (hm : jok C MX0_joined d cl sl) (k : jW C cl sl Q 168 [jU, jU, jU] [jI 0] w) : jW C cl sl Q 167 [jU, jU, jU] [] w := jr_iconst hm (v := 0) (by decide) dX0_joined_167 (jr_drop (jle_same (jle_same (jle_same jle_nil))) k)
theorem bk_X0_joined_168 {C : JC} {d cl sl : Nat} {w : JW} {xs0 : Int32} {P : JV → JW → Prop} (hm : jok C MX0_joined d cl sl) (hp : P (jI xs0) w) : jW C cl sl (jQQ C cl sl P) 168 [jU, jU, jU] [jI xs0] w := jr_ireturn hm rfl dX0_joined_168 hp
theorem bk_X0_joined_169 {C : JC} {d cl sl : Nat} {Q : State → Prop} {w : JW} {x1 : Int32} {x2 : Int32} (hm : jok C MX0_joined d cl sl) (kt : x2 < x1 → jW C cl sl Q 178 [jU, jU, jU] [] w) (kf : ¬ x2 < x1 → jW C cl sl Q 174 [jU, jU, jU] [] w) : jW C cl sl Q 169 [jU, jI x1, jI x2] [] w := jr_iload_n hm (i := 1) rfl rfl dX0_joined_169 (jr_iload_n hm (i := 2) rfl rfl dX0_joined_170 (jr_icmp_gt hm dX0_joined_171 (by decide) (fun h => jr_drop (jle_same (jle_drop (jle_drop jle_nil))) (kt h)) (fun h => jr_drop (jle_same (jle_drop (jle_drop jle_nil))) (kf h))))
theorem bk_X0_joined_174 {C : JC} {d cl sl : Nat} {Q : State → Prop} {w : JW}  (hm : jok C MX0_joined d cl sl) (k : jW C cl sl Q 179 [jU, jU, jU] [jI 1] w) : jW C cl sl Q 174 [jU, jU, jU] [] w := jr_iconst hm (v := 1) (by decide) dX0_joined_174 (jr_goto hm dX0_joined_175 (by decide) (jr_drop (jle_same (jle_same (jle_same jle_nil))) k))
theorem bk_X0_joined_178 {C : JC} {d cl sl : Nat} {Q : State → Prop} {w : JW}  (hm : jok C MX0_joined d cl sl) (k : jW C cl sl Q 179 [jU, jU, jU] [jI 0] w) : jW C cl sl Q 178 [jU, jU, jU] [] w := jr_iconst hm (v := 0) (by decide) dX0_joined_178 (jr_drop (jle_same (jle_same (jle_same jle_nil))) k)
theorem bk_X0_joined_179 {C : JC} {d cl sl : Nat} {w : JW} {xs0 : Int32} {P : JV → JW → Prop} (hm : jok C MX0_joined d cl sl) (hp : P (jI xs0) w) : jW C cl sl (jQQ C cl sl P) 179 [jU, jU, jU] [jI xs0] w := jr_ireturn hm rfl dX0_joined_179 hp
theorem bk_X0_joined_180 {C : JC} {d cl sl : Nat} {Q : State → Prop} {w : JW} {x1 : Int32} {x2 : Int32} (hm : jok C MX0_joined d cl sl) (kt : x1 < x2 → jW C cl sl Q 189 [jU, jU, jU] [] w) (kf : ¬ x1 < x2 → jW C cl sl Q 185 [jU, jU, jU] [] w) : jW C cl sl Q 180 [jU, jI x1, jI x2] [] w := jr_iload_n hm (i := 1) rfl rfl dX0_joined_180 (jr_iload_n hm (i := 2) rfl rfl dX0_joined_181 (jr_icmp_lt hm dX0_joined_182 (by decide) (fun h => jr_drop (jle_same (jle_drop (jle_drop jle_nil))) (kt h)) (fun h => jr_drop (jle_same (jle_drop (jle_drop jle_nil))) (kf h))))
theorem bk_X0_joined_185 {C : JC} {d cl sl : Nat} {Q : State → Prop} {w : JW}  (hm : jok C MX0_joined d cl sl) (k : jW C cl sl Q 190 [jU, jU, jU] [jI 1] w) : jW C cl sl Q 185 [jU, jU, jU] [] w := jr_iconst hm (v := 1) (by decide) dX0_joined_185 (jr_goto hm dX0_joined_186 (by decide) (jr_drop (jle_same (jle_same (jle_same jle_nil))) k))
theorem bk_X0_joined_189 {C : JC} {d cl sl : Nat} {Q : State → Prop} {w : JW}  (hm : jok C MX0_joined d cl sl) (k : jW C cl sl Q 190 [jU, jU, jU] [jI 0] w) : jW C cl sl Q 189 [jU, jU, jU] [] w := jr_iconst hm (v := 0) (by decide) dX0_joined_189 (jr_drop (jle_same (jle_same (jle_same jle_nil))) k)
theorem bk_X0_joined_190 {C : JC} {d cl sl : Nat} {w : JW} {xs0 : Int32} {P : JV → JW → Prop} (hm : jok C MX0_joined d cl sl) (hp : P (jI xs0) w) : jW C cl sl (jQQ C cl sl P) 190 [jU, jU, jU] [jI xs0] w := jr_ireturn hm rfl dX0_joined_190 hp
theorem bk_X0_joined_191 {C : JC} {d cl sl : Nat} {w : JW} {x1 : Int32} {x2 : Int32} {P : JV → JW → Prop} (hm : jok C MX0_joined d cl sl) (hp : P (jI (x1 &&& x2)) w) : jW C cl sl (jQQ C cl sl P) 191 [jU, jI x1, jI x2] [] w := jr_iload_n hm (i := 1) rfl rfl dX0_joined_191 (jr_iload_n hm (i := 2) rfl rfl dX0_joined_192 (jr_iand hm dX0_joined_193 (jr_ireturn hm rfl dX0_joined_194 hp)))
theorem bk_X0_joined_195 {C : JC} {d cl sl : Nat} {w : JW} {x1 : Int32} {x2 : Int32} {P : JV → JW → Prop} (hm : jok C MX0_joined d cl sl) (hp : P (jI (x1 ||| x2)) w) : jW C cl sl (jQQ C cl sl P) 195 [jU, jI x1, jI x2] [] w := jr_iload_n hm (i := 1) rfl rfl dX0_joined_195 (jr_iload_n hm (i := 2) rfl rfl dX0_joined_196 (jr_ior hm dX0_joined_197 (jr_ireturn hm rfl dX0_joined_198 hp)))
theorem dX3_begin_0 : decode cX3_begin 0 = .ok (.aload_n 0, 1) := by decide +kernel
theorem dX3_begin_1 : decode cX3_begin 1 = .ok (.iconst 0, 1) := by decide +kernel
theorem dX3_begin_2 : decode cX3_begin 2 = .ok (.putfield 47, 3) := by decide +kernel
theorem dX3_begin_5 : decode cX3_begin 5 = .ok (.aload_n 0, 1) := by decide +kernel
theorem dX3_begin_6 : decode cX3_begin 6 = .ok (.iconst 0, 1) := by decide +kernel
theorem dX3_begin_7 : decode cX3_begin 7 = .ok (.putfield 51, 3) := by decide +kernel
theorem dX3_begin_10 : decode cX3_begin 10 = .ok (.aload_n 0, 1) := by decide +kernel
theorem dX3_begin_11 : decode cX3_begin 11 = .ok (.iconst 0, 1) := by decide +kernel
theorem dX3_begin_12 : decode cX3_begin 12 = .ok (.putfield 54, 3) := by decide +kernel
theorem dX3_begin_15 : decode cX3_begin 15 = .ok (.aload_n 0, 1) := by decide +kernel
theorem dX3_begin_16 : decode cX3_begin 16 = .ok (.getfield 36, 3) := by decide +kernel
theorem dX3_begin_19 : decode cX3_begin 19 = .ok (.invokevirtual 57, 3) := by decide +kernel
theorem dX3_begin_22 : decode cX3_begin 22 = .ok (.aload_n 0, 1) := by decide +kernel
theorem dX3_begin_23 : decode cX3_begin 23 = .ok (.getfield 43, 3) := by decide +kernel
theorem dX3_begin_26 : decode cX3_begin 26 = .ok (.invokevirtual 60, 3) := by decide +kernel
theorem dX3_begin_29 : decode cX3_begin 29 = .ok (.return_, 1) := by decide +kernel
theorem bk_X3_begin_0 {C : JC} {d cl sl : Nat} {Q : State → Prop} {w : JW} {b0 : Bool} {d2 : Nat} {w2 : JW} (hm : jok C MX3_begin d cl sl) (hs : jF MX8_begin d2 [jR 28 b0] (jset (jset (jset w 20 b0 9 0) 20 b0 10 0) 20 b0 11 0) (jU) w2) (hd2 : d2 + 1 ≤ d) (k : jW C cl sl Q 22 [jR 20 b0] [] w2) : jW C cl sl Q 0 [jR 20 b0] [] w := jr_aload_n hm (i := 0) rfl rfl dX3_begin_0 (jr_iconst hm (v := 0) (by decide) dX3_begin_1 (fp_X3_47 hm dX3_begin_2 (jr_aload_n hm (i := 0) rfl rfl dX3_begin_5 (jr_iconst hm (v := 0) (by decide) dX3_begin_6 (fp_X3_51 hm dX3_begin_7 (jr_aload_n hm (i := 0) rfl rfl dX3_begin_10 (jr_iconst hm (v := 0) (by decide) dX3_begin_11 (fp_X3_54 hm dX3_begin_12 (jr_aload_n hm (i := 0) rfl rfl dX3_begin_15 (fg_X3_36 hm dX3_begin_16 (jr_callV (mc := 0) (ms := 0) hm hs hd2 jw_1188 jw_1189 jw_1190 jw_52 jw_1191 jn_X8_begin rfl (jo_28 b0) (fun _ _ _ _ _ => ⟨_, rfl⟩) rfl rfl (Nat.le_of_ble_eq_true rfl) rfl dX3_begin_19 (jkF (jr_drop (jle_same jle_nil) k)))))))))))))
theorem bk_X3_begin_22 {C : JC} {d cl sl : Nat} {Q : State → Prop} {w : JW} {b0 : Bool} {d2 : Nat} {w2 : JW} (hm : jok C MX3_begin d cl sl) (hs : jF MX2_begin d2 [jR 34 b0] w (jU) w2) (hd2 : d2 + 1 ≤ d) (k : jW C cl sl Q 29 [jU] [] w2) : jW C cl sl Q 22 [jR 20 b0] [] w := jr_aload_n hm (i := 0) rfl rfl dX3_begin_22 (fg_X3_43 hm dX3_begin_23 (jr_callV (mc := 0) (ms := 0) hm hs hd2 jw_1192 jw_1193 jw_1194 jw_53 jw_1195 jn_X2_begin rfl (jo_34 b0) (fun _ _ _ _ _ => ⟨_, rfl⟩) rfl rfl (Nat.le_of_ble_eq_true rfl) rfl dX3_begin_26 (jkF (jr_drop (jle_drop jle_nil) k))))
theorem bk_X3_begin_29 {C : JC} {d cl sl : Nat} {w : JW} {P : JV → JW → Prop} (hm : jok C MX3_begin d cl sl) (hp : P (jU) w) : jW C cl sl (jQQ C cl sl P) 29 [jU] [] w := jr_return hm rfl dX3_begin_29 hp
theorem dX3_addCave_0 : decode cX3_addCave 0 = .ok (.aload_n 0, 1) := by decide +kernel
theorem dX3_addCave_1 : decode cX3_addCave 1 = .ok (.getfield 9, 3) := by decide +kernel
theorem dX3_addCave_4 : decode cX3_addCave 4 = .ok (.aload_n 0, 1) := by decide +kernel
theorem dX3_addCave_5 : decode cX3_addCave 5 = .ok (.getfield 47, 3) := by decide +kernel
theorem dX3_addCave_8 : decode cX3_addCave 8 = .ok (.iload_n 1, 1) := by decide +kernel
theorem dX3_addCave_9 : decode cX3_addCave 9 = .ok (.invokestatic 61, 3) := by decide +kernel
theorem dX3_addCave_12 : decode cX3_addCave 12 = .ok (.aload_n 0, 1) := by decide +kernel
theorem dX3_addCave_13 : decode cX3_addCave 13 = .ok (.getfield 15, 3) := by decide +kernel
theorem dX3_addCave_16 : decode cX3_addCave 16 = .ok (.aload_n 0, 1) := by decide +kernel
theorem dX3_addCave_17 : decode cX3_addCave 17 = .ok (.getfield 47, 3) := by decide +kernel
theorem dX3_addCave_20 : decode cX3_addCave 20 = .ok (.iload_n 2, 1) := by decide +kernel
theorem dX3_addCave_21 : decode cX3_addCave 21 = .ok (.invokestatic 61, 3) := by decide +kernel
theorem dX3_addCave_24 : decode cX3_addCave 24 = .ok (.aload_n 0, 1) := by decide +kernel
theorem dX3_addCave_25 : decode cX3_addCave 25 = .ok (.dup, 1) := by decide +kernel
theorem dX3_addCave_26 : decode cX3_addCave 26 = .ok (.getfield 47, 3) := by decide +kernel
theorem dX3_addCave_29 : decode cX3_addCave 29 = .ok (.iconst 1, 1) := by decide +kernel
theorem dX3_addCave_30 : decode cX3_addCave 30 = .ok (.iadd, 1) := by decide +kernel
theorem dX3_addCave_31 : decode cX3_addCave 31 = .ok (.putfield 47, 3) := by decide +kernel
theorem dX3_addCave_34 : decode cX3_addCave 34 = .ok (.return_, 1) := by decide +kernel
theorem bk_X3_addCave_0 {C : JC} {d cl sl : Nat} {Q : State → Prop} {w : JW} {b0 : Bool} {x1 : Int32} {x2 : Int32} {d2 : Nat} {w2 : JW} (hm : jok C MX3_addCave d cl sl) (hs : jF MX9_put d2 [jR 21 b0, jI (w.1 20 b0 9), jI x1] w (jU) w2) (hd2 : d2 + 1 ≤ d) (k : jW C cl sl Q 12 [jR 20 b0, jU, jI x2] [] w2) : jW C cl sl Q 0 [jR 20 b0, jI x1, jI x2] [] w := jr_aload_n hm (i := 0) rfl rfl dX3_addCave_0 (fg_X3_9 hm dX3_addCave_1 (jr_aload_n hm (i := 0) rfl rfl dX3_addCave_4 (fg_X3_47 hm dX3_addCave_5 (jr_iload_n hm (i := 1) rfl rfl dX3_addCave_8 (jr_callSN (mc := 0) (ms := 0) hm hs hd2 jw_1246 jw_225 jw_47 jw_226 jn_X9_put rfl rfl (Nat.le_of_ble_eq_true rfl) rfl dX3_addCave_9 (jkF (jr_drop (jle_same (jle_drop (jle_same jle_nil))) k)))))))
theorem bk_X3_addCave_12 {C : JC} {d cl sl : Nat} {Q : State → Prop} {w : JW} {b0 : Bool} {x2 : Int32} {d2 : Nat} {w2 : JW} (hm : jok C MX3_addCave d cl sl) (hs : jF MX9_put d2 [jR 22 b0, jI (w.1 20 b0 9), jI x2] w (jU) w2) (hd2 : d2 + 1 ≤ d) (k : jW C cl sl Q 24 [jR 20 b0, jU, jU] [] w2) : jW C cl sl Q 12 [jR 20 b0, jU, jI x2] [] w := jr_aload_n hm (i := 0) rfl rfl dX3_addCave_12 (fg_X3_15 hm dX3_addCave_13 (jr_aload_n hm (i := 0) rfl rfl dX3_addCave_16 (fg_X3_47 hm dX3_addCave_17 (jr_iload_n hm (i := 2) rfl rfl dX3_addCave_20 (jr_callSN (mc := 0) (ms := 0) hm hs hd2 jw_1246 jw_225 jw_47 jw_226 jn_X9_put rfl rfl (Nat.le_of_ble_eq_true rfl) rfl dX3_addCave_21 (jkF (jr_drop (jle_same (jle_same (jle_drop jle_nil))) k)))))))
theorem bk_X3_addCave_24 {C : JC} {d cl sl : Nat} {w : JW} {b0 : Bool} {P : JV → JW → Prop} (hm : jok C MX3_addCave d cl sl) (hp : P (jU) (jset w 20 b0 9 ((w.1 20 b0 9) + 1))) : jW C cl sl (jQQ C cl sl P) 24 [jR 20 b0, jU, jU] [] w := jr_aload_n hm (i := 0) rfl rfl dX3_addCave_24 (jr_dupR hm dX3_addCave_25 (fg_X3_47 hm dX3_addCave_26 (jr_iconst hm (v := 1) (by decide) dX3_addCave_29 (jr_iadd hm dX3_addCave_30 (fp_X3_47 hm dX3_addCave_31 (jr_return hm rfl dX3_addCave_34 hp))))))
theorem dX3_addPipe_0 : decode cX3_addPipe 0 = .ok (.aload_n 0, 1) := by decide +kernel
theorem dX3_addPipe_1 : decode cX3_addPipe 1 = .ok (.getfield 18, 3) := by decide +kernel
theorem dX3_addPipe_4 : decode cX3_addPipe 4 = .ok (.aload_n 0, 1) := by decide +kernel
theorem dX3_addPipe_5 : decode cX3_addPipe 5 = .ok (.getfield 51, 3) := by decide +kernel
theorem dX3_addPipe_8 : decode cX3_addPipe 8 = .ok (.iload_n 1, 1) := by decide +kernel
theorem dX3_addPipe_9 : decode cX3_addPipe 9 = .ok (.invokestatic 61, 3) := by decide +kernel
theorem dX3_addPipe_12 : decode cX3_addPipe 12 = .ok (.aload_n 0, 1) := by decide +kernel
theorem dX3_addPipe_13 : decode cX3_addPipe 13 = .ok (.getfield 21, 3) := by decide +kernel
theorem dX3_addPipe_16 : decode cX3_addPipe 16 = .ok (.aload_n 0, 1) := by decide +kernel
theorem dX3_addPipe_17 : decode cX3_addPipe 17 = .ok (.getfield 51, 3) := by decide +kernel
theorem dX3_addPipe_20 : decode cX3_addPipe 20 = .ok (.iload_n 2, 1) := by decide +kernel
theorem dX3_addPipe_21 : decode cX3_addPipe 21 = .ok (.invokestatic 61, 3) := by decide +kernel
theorem dX3_addPipe_24 : decode cX3_addPipe 24 = .ok (.aload_n 0, 1) := by decide +kernel
theorem dX3_addPipe_25 : decode cX3_addPipe 25 = .ok (.getfield 24, 3) := by decide +kernel
theorem dX3_addPipe_28 : decode cX3_addPipe 28 = .ok (.aload_n 0, 1) := by decide +kernel
theorem dX3_addPipe_29 : decode cX3_addPipe 29 = .ok (.getfield 51, 3) := by decide +kernel
theorem dX3_addPipe_32 : decode cX3_addPipe 32 = .ok (.iload_n 3, 1) := by decide +kernel
theorem dX3_addPipe_33 : decode cX3_addPipe 33 = .ok (.invokestatic 61, 3) := by decide +kernel
theorem dX3_addPipe_36 : decode cX3_addPipe 36 = .ok (.aload_n 0, 1) := by decide +kernel
theorem dX3_addPipe_37 : decode cX3_addPipe 37 = .ok (.dup, 1) := by decide +kernel
theorem dX3_addPipe_38 : decode cX3_addPipe 38 = .ok (.getfield 51, 3) := by decide +kernel
theorem dX3_addPipe_41 : decode cX3_addPipe 41 = .ok (.iconst 1, 1) := by decide +kernel
theorem dX3_addPipe_42 : decode cX3_addPipe 42 = .ok (.iadd, 1) := by decide +kernel
theorem dX3_addPipe_43 : decode cX3_addPipe 43 = .ok (.putfield 51, 3) := by decide +kernel
theorem dX3_addPipe_46 : decode cX3_addPipe 46 = .ok (.return_, 1) := by decide +kernel
theorem bk_X3_addPipe_0 {C : JC} {d cl sl : Nat} {Q : State → Prop} {w : JW} {b0 : Bool} {x1 : Int32} {x2 : Int32} {x3 : Int32} {d2 : Nat} {w2 : JW} (hm : jok C MX3_addPipe d cl sl) (hs : jF MX9_put d2 [jR 23 b0, jI (w.1 20 b0 10), jI x1] w (jU) w2) (hd2 : d2 + 1 ≤ d) (k : jW C cl sl Q 12 [jR 20 b0, jU, jI x2, jI x3] [] w2) : jW C cl sl Q 0 [jR 20 b0, jI x1, jI x2, jI x3] [] w := jr_aload_n hm (i := 0) rfl rfl dX3_addPipe_0 (fg_X3_18 hm dX3_addPipe_1 (jr_aload_n hm (i := 0) rfl rfl dX3_addPipe_4 (fg_X3_51 hm dX3_addPipe_5 (jr_iload_n hm (i := 1) rfl rfl dX3_addPipe_8 (jr_callSN (mc := 0) (ms := 0) hm hs hd2 jw_1246 jw_225 jw_47 jw_226 jn_X9_put rfl rfl (Nat.le_of_ble_eq_true rfl) rfl dX3_addPipe_9 (jkF (jr_drop (jle_same (jle_drop (jle_same (jle_same jle_nil)))) k)))))))
theorem bk_X3_addPipe_12 {C : JC} {d cl sl : Nat} {Q : State → Prop} {w : JW} {b0 : Bool} {x2 : Int32} {x3 : Int32} {d2 : Nat} {w2 : JW} (hm : jok C MX3_addPipe d cl sl) (hs : jF MX9_put d2 [jR 24 b0, jI (w.1 20 b0 10), jI x2] w (jU) w2) (hd2 : d2 + 1 ≤ d) (k : jW C cl sl Q 24 [jR 20 b0, jU, jU, jI x3] [] w2) : jW C cl sl Q 12 [jR 20 b0, jU, jI x2, jI x3] [] w := jr_aload_n hm (i := 0) rfl rfl dX3_addPipe_12 (fg_X3_21 hm dX3_addPipe_13 (jr_aload_n hm (i := 0) rfl rfl dX3_addPipe_16 (fg_X3_51 hm dX3_addPipe_17 (jr_iload_n hm (i := 2) rfl rfl dX3_addPipe_20 (jr_callSN (mc := 0) (ms := 0) hm hs hd2 jw_1246 jw_225 jw_47 jw_226 jn_X9_put rfl rfl (Nat.le_of_ble_eq_true rfl) rfl dX3_addPipe_21 (jkF (jr_drop (jle_same (jle_same (jle_drop (jle_same jle_nil)))) k)))))))
theorem bk_X3_addPipe_24 {C : JC} {d cl sl : Nat} {Q : State → Prop} {w : JW} {b0 : Bool} {x3 : Int32} {d2 : Nat} {w2 : JW} (hm : jok C MX3_addPipe d cl sl) (hs : jF MX9_put d2 [jR 25 b0, jI (w.1 20 b0 10), jI x3] w (jU) w2) (hd2 : d2 + 1 ≤ d) (k : jW C cl sl Q 36 [jR 20 b0, jU, jU, jU] [] w2) : jW C cl sl Q 24 [jR 20 b0, jU, jU, jI x3] [] w := jr_aload_n hm (i := 0) rfl rfl dX3_addPipe_24 (fg_X3_24 hm dX3_addPipe_25 (jr_aload_n hm (i := 0) rfl rfl dX3_addPipe_28 (fg_X3_51 hm dX3_addPipe_29 (jr_iload_n hm (i := 3) rfl rfl dX3_addPipe_32 (jr_callSN (mc := 0) (ms := 0) hm hs hd2 jw_1246 jw_225 jw_47 jw_226 jn_X9_put rfl rfl (Nat.le_of_ble_eq_true rfl) rfl dX3_addPipe_33 (jkF (jr_drop (jle_same (jle_same (jle_same (jle_drop jle_nil)))) k)))))))
theorem bk_X3_addPipe_36 {C : JC} {d cl sl : Nat} {w : JW} {b0 : Bool} {P : JV → JW → Prop} (hm : jok C MX3_addPipe d cl sl) (hp : P (jU) (jset w 20 b0 10 ((w.1 20 b0 10) + 1))) : jW C cl sl (jQQ C cl sl P) 36 [jR 20 b0, jU, jU, jU] [] w := jr_aload_n hm (i := 0) rfl rfl dX3_addPipe_36 (jr_dupR hm dX3_addPipe_37 (fg_X3_51 hm dX3_addPipe_38 (jr_iconst hm (v := 1) (by decide) dX3_addPipe_41 (jr_iadd hm dX3_addPipe_42 (fp_X3_51 hm dX3_addPipe_43 (jr_return hm rfl dX3_addPipe_46 hp))))))
theorem dX3_beginChord_0 : decode cX3_beginChord 0 = .ok (.aload_n 0, 1) := by decide +kernel
theorem dX3_beginChord_1 : decode cX3_beginChord 1 = .ok (.getfield 27, 3) := by decide +kernel
theorem dX3_beginChord_4 : decode cX3_beginChord 4 = .ok (.aload_n 0, 1) := by decide +kernel
theorem dX3_beginChord_5 : decode cX3_beginChord 5 = .ok (.getfield 54, 3) := by decide +kernel
theorem dX3_beginChord_8 : decode cX3_beginChord 8 = .ok (.iconst 0, 1) := by decide +kernel
theorem dX3_beginChord_9 : decode cX3_beginChord 9 = .ok (.invokestatic 61, 3) := by decide +kernel
theorem dX3_beginChord_12 : decode cX3_beginChord 12 = .ok (.return_, 1) := by decide +kernel
theorem bk_X3_beginChord_0 {C : JC} {d cl sl : Nat} {Q : State → Prop} {w : JW} {b0 : Bool} {d2 : Nat} {w2 : JW} (hm : jok C MX3_beginChord d cl sl) (hs : jF MX9_put d2 [jR 26 b0, jI (w.1 20 b0 11), jI 0] w (jU) w2) (hd2 : d2 + 1 ≤ d) (k : jW C cl sl Q 12 [jU] [] w2) : jW C cl sl Q 0 [jR 20 b0] [] w := jr_aload_n hm (i := 0) rfl rfl dX3_beginChord_0 (fg_X3_27 hm dX3_beginChord_1 (jr_aload_n hm (i := 0) rfl rfl dX3_beginChord_4 (fg_X3_54 hm dX3_beginChord_5 (jr_iconst hm (v := 0) (by decide) dX3_beginChord_8 (jr_callSN (mc := 0) (ms := 0) hm hs hd2 jw_1246 jw_225 jw_47 jw_226 jn_X9_put rfl rfl (Nat.le_of_ble_eq_true rfl) rfl dX3_beginChord_9 (jkF (jr_drop (jle_drop jle_nil) k)))))))
theorem bk_X3_beginChord_12 {C : JC} {d cl sl : Nat} {w : JW} {P : JV → JW → Prop} (hm : jok C MX3_beginChord d cl sl) (hp : P (jU) w) : jW C cl sl (jQQ C cl sl P) 12 [jU] [] w := jr_return hm rfl dX3_beginChord_12 hp
theorem dX3_addNote_0 : decode cX3_addNote 0 = .ok (.aload_n 0, 1) := by decide +kernel
theorem dX3_addNote_1 : decode cX3_addNote 1 = .ok (.aload_n 0, 1) := by decide +kernel
theorem dX3_addNote_2 : decode cX3_addNote 2 = .ok (.getfield 54, 3) := by decide +kernel
theorem dX3_addNote_5 : decode cX3_addNote 5 = .ok (.invokevirtual 65, 3) := by decide +kernel
theorem dX3_addNote_8 : decode cX3_addNote 8 = .ok (.istore_n 2, 1) := by decide +kernel
theorem dX3_addNote_9 : decode cX3_addNote 9 = .ok (.aload_n 0, 1) := by decide +kernel
theorem dX3_addNote_10 : decode cX3_addNote 10 = .ok (.getfield 30, 3) := by decide +kernel
theorem dX3_addNote_13 : decode cX3_addNote 13 = .ok (.aload_n 0, 1) := by decide +kernel
theorem dX3_addNote_14 : decode cX3_addNote 14 = .ok (.getfield 54, 3) := by decide +kernel
theorem dX3_addNote_17 : decode cX3_addNote 17 = .ok (.bipush 6, 2) := by decide +kernel
theorem dX3_addNote_19 : decode cX3_addNote 19 = .ok (.imul, 1) := by decide +kernel
theorem dX3_addNote_20 : decode cX3_addNote 20 = .ok (.iload_n 2, 1) := by decide +kernel
theorem dX3_addNote_21 : decode cX3_addNote 21 = .ok (.iadd, 1) := by decide +kernel
theorem dX3_addNote_22 : decode cX3_addNote 22 = .ok (.iload_n 1, 1) := by decide +kernel
theorem dX3_addNote_23 : decode cX3_addNote 23 = .ok (.invokestatic 61, 3) := by decide +kernel
theorem dX3_addNote_26 : decode cX3_addNote 26 = .ok (.aload_n 0, 1) := by decide +kernel
theorem dX3_addNote_27 : decode cX3_addNote 27 = .ok (.getfield 27, 3) := by decide +kernel
theorem dX3_addNote_30 : decode cX3_addNote 30 = .ok (.aload_n 0, 1) := by decide +kernel
theorem dX3_addNote_31 : decode cX3_addNote 31 = .ok (.getfield 54, 3) := by decide +kernel
theorem dX3_addNote_34 : decode cX3_addNote 34 = .ok (.iload_n 2, 1) := by decide +kernel
theorem dX3_addNote_35 : decode cX3_addNote 35 = .ok (.iconst 1, 1) := by decide +kernel
theorem dX3_addNote_36 : decode cX3_addNote 36 = .ok (.iadd, 1) := by decide +kernel
theorem dX3_addNote_37 : decode cX3_addNote 37 = .ok (.invokestatic 61, 3) := by decide +kernel
theorem dX3_addNote_40 : decode cX3_addNote 40 = .ok (.return_, 1) := by decide +kernel
theorem bk_X3_addNote_0 {C : JC} {d cl sl : Nat} {Q : State → Prop} {w : JW} {b0 : Bool} {x1 : Int32} {d2 : Nat} {r : Int32} {w2 : JW} (hm : jok C MX3_addNote d cl sl) (hs : jF MX3_sizeOf d2 [jR 20 b0, jI (w.1 20 b0 11)] w (jI r) w2) (hd2 : d2 + 1 ≤ d) (k : jW C cl sl Q 8 [jR 20 b0, jI x1, jU] [jI r] w2) : jW C cl sl Q 0 [jR 20 b0, jI x1, jU] [] w := jr_aload_n hm (i := 0) rfl rfl dX3_addNote_0 (jr_aload_n hm (i := 0) rfl rfl dX3_addNote_1 (fg_X3_54 hm dX3_addNote_2 (jr_callV (mc := 0) (ms := 0) hm hs hd2 jw_172 jw_173 jw_174 jw_51 jw_175 jn_X3_sizeOf rfl (jo_20 b0) (fun _ _ _ _ _ => ⟨_, rfl⟩) rfl rfl (Nat.le_of_ble_eq_true rfl) rfl dX3_addNote_5 (jkF (jr_drop (jle_same (jle_same (jle_same jle_nil))) k)))))
theorem bk_X3_addNote_8 {C : JC} {d cl sl : Nat} {Q : State → Prop} {w : JW} {b0 : Bool} {x1 : Int32} {xs0 : Int32} {d2 : Nat} {w2 : JW} (hm : jok C MX3_addNote d cl sl) (hs : jF MX9_put d2 [jR 27 b0, jI (((w.1 20 b0 11) * 6) + xs0), jI x1] w (jU) w2) (hd2 : d2 + 1 ≤ d) (k : jW C cl sl Q 26 [jR 20 b0, jU, jI xs0] [] w2) : jW C cl sl Q 8 [jR 20 b0, jI x1, jU] [jI xs0] w := jr_istore_n hm (i := 2) rfl (Nat.le_of_ble_eq_true rfl) rfl dX3_addNote_8 (jr_aload_n hm (i := 0) rfl rfl dX3_addNote_9 (fg_X3_30 hm dX3_addNote_10 (jr_aload_n hm (i := 0) rfl rfl dX3_addNote_13 (fg_X3_54 hm dX3_addNote_14 (jr_bipush hm (v := 6) (by decide) dX3_addNote_17 (jr_imul hm dX3_addNote_19 (jr_iload_n hm (i := 2) rfl rfl dX3_addNote_20 (jr_iadd hm dX3_addNote_21 (jr_iload_n hm (i := 1) rfl rfl dX3_addNote_22 (jr_callSN (mc := 0) (ms := 0) hm hs hd2 jw_1246 jw_225 jw_47 jw_226 jn_X9_put rfl rfl (Nat.le_of_ble_eq_true rfl) rfl dX3_addNote_23 (jkF (jr_drop (jle_same (jle_drop (jle_same jle_nil))) k))))))))))))
theorem bk_X3_addNote_26 {C : JC} {d cl sl : Nat} {Q : State → Prop} {w : JW} {b0 : Bool} {x2 : Int32} {d2 : Nat} {w2 : JW} (hm : jok C MX3_addNote d cl sl) (hs : jF MX9_put d2 [jR 26 b0, jI (w.1 20 b0 11), jI (x2 + 1)] w (jU) w2) (hd2 : d2 + 1 ≤ d) (k : jW C cl sl Q 40 [jU, jU, jU] [] w2) : jW C cl sl Q 26 [jR 20 b0, jU, jI x2] [] w := jr_aload_n hm (i := 0) rfl rfl dX3_addNote_26 (fg_X3_27 hm dX3_addNote_27 (jr_aload_n hm (i := 0) rfl rfl dX3_addNote_30 (fg_X3_54 hm dX3_addNote_31 (jr_iload_n hm (i := 2) rfl rfl dX3_addNote_34 (jr_iconst hm (v := 1) (by decide) dX3_addNote_35 (jr_iadd hm dX3_addNote_36 (jr_callSN (mc := 0) (ms := 0) hm hs hd2 jw_1246 jw_225 jw_47 jw_226 jn_X9_put rfl rfl (Nat.le_of_ble_eq_true rfl) rfl dX3_addNote_37 (jkF (jr_drop (jle_drop (jle_same (jle_drop jle_nil))) k)))))))))
theorem bk_X3_addNote_40 {C : JC} {d cl sl : Nat} {w : JW} {P : JV → JW → Prop} (hm : jok C MX3_addNote d cl sl) (hp : P (jU) w) : jW C cl sl (jQQ C cl sl P) 40 [jU, jU, jU] [] w := jr_return hm rfl dX3_addNote_40 hp
theorem dX3_endChord_0 : decode cX3_endChord 0 = .ok (.aload_n 0, 1) := by decide +kernel
theorem dX3_endChord_1 : decode cX3_endChord 1 = .ok (.dup, 1) := by decide +kernel
theorem dX3_endChord_2 : decode cX3_endChord 2 = .ok (.getfield 54, 3) := by decide +kernel
theorem dX3_endChord_5 : decode cX3_endChord 5 = .ok (.iconst 1, 1) := by decide +kernel
theorem dX3_endChord_6 : decode cX3_endChord 6 = .ok (.iadd, 1) := by decide +kernel
theorem dX3_endChord_7 : decode cX3_endChord 7 = .ok (.putfield 54, 3) := by decide +kernel
theorem dX3_endChord_10 : decode cX3_endChord 10 = .ok (.return_, 1) := by decide +kernel
theorem bk_X3_endChord_0 {C : JC} {d cl sl : Nat} {w : JW} {b0 : Bool} {P : JV → JW → Prop} (hm : jok C MX3_endChord d cl sl) (hp : P (jU) (jset w 20 b0 11 ((w.1 20 b0 11) + 1))) : jW C cl sl (jQQ C cl sl P) 0 [jR 20 b0] [] w := jr_aload_n hm (i := 0) rfl rfl dX3_endChord_0 (jr_dupR hm dX3_endChord_1 (fg_X3_54 hm dX3_endChord_2 (jr_iconst hm (v := 1) (by decide) dX3_endChord_5 (jr_iadd hm dX3_endChord_6 (fp_X3_54 hm dX3_endChord_7 (jr_return hm rfl dX3_endChord_10 hp))))))
theorem dX3_sizeOf_0 : decode cX3_sizeOf 0 = .ok (.aload_n 0, 1) := by decide +kernel
theorem dX3_sizeOf_1 : decode cX3_sizeOf 1 = .ok (.getfield 27, 3) := by decide +kernel
theorem dX3_sizeOf_4 : decode cX3_sizeOf 4 = .ok (.iload_n 1, 1) := by decide +kernel
theorem dX3_sizeOf_5 : decode cX3_sizeOf 5 = .ok (.invokestatic 69, 3) := by decide +kernel
theorem dX3_sizeOf_8 : decode cX3_sizeOf 8 = .ok (.ireturn, 1) := by decide +kernel
theorem bk_X3_sizeOf_0 {C : JC} {d cl sl : Nat} {Q : State → Prop} {w : JW} {b0 : Bool} {x1 : Int32} {d2 : Nat} {r : Int32} {w2 : JW} (hm : jok C MX3_sizeOf d cl sl) (hs : jF MX9_at d2 [jR 26 b0, jI x1] w (jI r) w2) (hd2 : d2 + 1 ≤ d) (k : jW C cl sl Q 8 [jU, jU] [jI r] w2) : jW C cl sl Q 0 [jR 20 b0, jI x1] [] w := jr_aload_n hm (i := 0) rfl rfl dX3_sizeOf_0 (fg_X3_27 hm dX3_sizeOf_1 (jr_iload_n hm (i := 1) rfl rfl dX3_sizeOf_4 (jr_callSN (mc := 0) (ms := 0) hm hs hd2 jw_176 jw_162 jw_47 jw_163 jn_X9_at rfl rfl (Nat.le_of_ble_eq_true rfl) rfl dX3_sizeOf_5 (jkF (jr_drop (jle_drop (jle_drop jle_nil)) k)))))
theorem bk_X3_sizeOf_8 {C : JC} {d cl sl : Nat} {w : JW} {xs0 : Int32} {P : JV → JW → Prop} (hm : jok C MX3_sizeOf d cl sl) (hp : P (jI xs0) w) : jW C cl sl (jQQ C cl sl P) 8 [jU, jU] [jI xs0] w := jr_ireturn hm rfl dX3_sizeOf_8 hp
theorem dX3_noteAt_0 : decode cX3_noteAt 0 = .ok (.aload_n 0, 1) := by decide +kernel
theorem dX3_noteAt_1 : decode cX3_noteAt 1 = .ok (.getfield 30, 3) := by decide +kernel
theorem dX3_noteAt_4 : decode cX3_noteAt 4 = .ok (.iload_n 1, 1) := by decide +kernel
theorem dX3_noteAt_5 : decode cX3_noteAt 5 = .ok (.bipush 6, 2) := by decide +kernel
theorem dX3_noteAt_7 : decode cX3_noteAt 7 = .ok (.imul, 1) := by decide +kernel
theorem dX3_noteAt_8 : decode cX3_noteAt 8 = .ok (.iload_n 2, 1) := by decide +kernel
theorem dX3_noteAt_9 : decode cX3_noteAt 9 = .ok (.iadd, 1) := by decide +kernel
theorem dX3_noteAt_10 : decode cX3_noteAt 10 = .ok (.invokestatic 69, 3) := by decide +kernel
theorem dX3_noteAt_13 : decode cX3_noteAt 13 = .ok (.ireturn, 1) := by decide +kernel
theorem bk_X3_noteAt_0 {C : JC} {d cl sl : Nat} {Q : State → Prop} {w : JW} {b0 : Bool} {x1 : Int32} {x2 : Int32} {d2 : Nat} {r : Int32} {w2 : JW} (hm : jok C MX3_noteAt d cl sl) (hs : jF MX9_at d2 [jR 27 b0, jI ((x1 * 6) + x2)] w (jI r) w2) (hd2 : d2 + 1 ≤ d) (k : jW C cl sl Q 13 [jU, jU, jU] [jI r] w2) : jW C cl sl Q 0 [jR 20 b0, jI x1, jI x2] [] w := jr_aload_n hm (i := 0) rfl rfl dX3_noteAt_0 (fg_X3_30 hm dX3_noteAt_1 (jr_iload_n hm (i := 1) rfl rfl dX3_noteAt_4 (jr_bipush hm (v := 6) (by decide) dX3_noteAt_5 (jr_imul hm dX3_noteAt_7 (jr_iload_n hm (i := 2) rfl rfl dX3_noteAt_8 (jr_iadd hm dX3_noteAt_9 (jr_callSN (mc := 0) (ms := 0) hm hs hd2 jw_176 jw_162 jw_47 jw_163 jn_X9_at rfl rfl (Nat.le_of_ble_eq_true rfl) rfl dX3_noteAt_10 (jkF (jr_drop (jle_drop (jle_drop (jle_drop jle_nil))) k)))))))))
theorem bk_X3_noteAt_13 {C : JC} {d cl sl : Nat} {w : JW} {xs0 : Int32} {P : JV → JW → Prop} (hm : jok C MX3_noteAt d cl sl) (hp : P (jI xs0) w) : jW C cl sl (jQQ C cl sl P) 13 [jU, jU, jU] [jI xs0] w := jr_ireturn hm rfl dX3_noteAt_13 hp
theorem dX3_hasNote_0 : decode cX3_hasNote 0 = .ok (.aload_n 0, 1) := by decide +kernel
theorem dX3_hasNote_1 : decode cX3_hasNote 1 = .ok (.iload_n 1, 1) := by decide +kernel
theorem dX3_hasNote_2 : decode cX3_hasNote 2 = .ok (.invokevirtual 65, 3) := by decide +kernel
theorem dX3_hasNote_5 : decode cX3_hasNote 5 = .ok (.istore_n 3, 1) := by decide +kernel
theorem dX3_hasNote_6 : decode cX3_hasNote 6 = .ok (.iconst 0, 1) := by decide +kernel
theorem dX3_hasNote_7 : decode cX3_hasNote 7 = .ok (.istore 4, 2) := by decide +kernel
theorem dX3_hasNote_9 : decode cX3_hasNote 9 = .ok (.iload 4, 2) := by decide +kernel
theorem dX3_hasNote_11 : decode cX3_hasNote 11 = .ok (.iload_n 3, 1) := by decide +kernel
theorem dX3_hasNote_12 : decode cX3_hasNote 12 = .ok (.if_icmp .ge 22, 3) := by decide +kernel
theorem dX3_hasNote_15 : decode cX3_hasNote 15 = .ok (.aload_n 0, 1) := by decide +kernel
theorem dX3_hasNote_16 : decode cX3_hasNote 16 = .ok (.iload_n 1, 1) := by decide +kernel
theorem dX3_hasNote_17 : decode cX3_hasNote 17 = .ok (.iload 4, 2) := by decide +kernel
theorem dX3_hasNote_19 : decode cX3_hasNote 19 = .ok (.invokevirtual 73, 3) := by decide +kernel
theorem dX3_hasNote_22 : decode cX3_hasNote 22 = .ok (.iload_n 2, 1) := by decide +kernel
theorem dX3_hasNote_23 : decode cX3_hasNote 23 = .ok (.if_icmp .ne 5, 3) := by decide +kernel
theorem dX3_hasNote_26 : decode cX3_hasNote 26 = .ok (.iconst 1, 1) := by decide +kernel
theorem dX3_hasNote_27 : decode cX3_hasNote 27 = .ok (.ireturn, 1) := by decide +kernel
theorem dX3_hasNote_28 : decode cX3_hasNote 28 = .ok (.iinc 4 1, 3) := by decide +kernel
theorem dX3_hasNote_31 : decode cX3_hasNote 31 = .ok (.goto (-22), 3) := by decide +kernel
theorem dX3_hasNote_34 : decode cX3_hasNote 34 = .ok (.iconst 0, 1) := by decide +kernel
theorem dX3_hasNote_35 : decode cX3_hasNote 35 = .ok (.ireturn, 1) := by decide +kernel
theorem bk_X3_hasNote_0 {C : JC} {d cl sl : Nat} {Q : State → Prop} {w : JW} {b0 : Bool} {x1 : Int32} {x2 : Int32} {d2 : Nat} {r : Int32} {w2 : JW} (hm : jok C MX3_hasNote d cl sl) (hs : jF MX3_sizeOf d2 [jR 20 b0, jI x1] w (jI r) w2) (hd2 : d2 + 1 ≤ d) (k : jW C cl sl Q 5 [jR 20 b0, jI x1, jI x2, jU, jU] [jI r] w2) : jW C cl sl Q 0 [jR 20 b0, jI x1, jI x2, jU, jU] [] w := jr_aload_n hm (i := 0) rfl rfl dX3_hasNote_0 (jr_iload_n hm (i := 1) rfl rfl dX3_hasNote_1 (jr_callV (mc := 0) (ms := 0) hm hs hd2 jw_172 jw_173 jw_174 jw_51 jw_175 jn_X3_sizeOf rfl (jo_20 b0) (fun _ _ _ _ _ => ⟨_, rfl⟩) rfl rfl (Nat.le_of_ble_eq_true rfl) rfl dX3_hasNote_2 (jkF (jr_drop (jle_same (jle_same (jle_same (jle_same (jle_same jle_nil))))) k))))
theorem bk_X3_hasNote_5 {C : JC} {d cl sl : Nat} {Q : State → Prop} {w : JW} {b0 : Bool} {x1 : Int32} {x2 : Int32} {xs0 : Int32} (hm : jok C MX3_hasNote d cl sl) (k : jW C cl sl Q 9 [jR 20 b0, jI x1, jI x2, jI xs0, jI 0] [] w) : jW C cl sl Q 5 [jR 20 b0, jI x1, jI x2, jU, jU] [jI xs0] w := jr_istore_n hm (i := 3) rfl (Nat.le_of_ble_eq_true rfl) rfl dX3_hasNote_5 (jr_iconst hm (v := 0) (by decide) dX3_hasNote_6 (jr_istore hm (i := 4) (Nat.le_of_ble_eq_true rfl) rfl dX3_hasNote_7 (jr_drop (jle_same (jle_same (jle_same (jle_same (jle_same jle_nil))))) k)))
theorem bk_X3_hasNote_9 {C : JC} {d cl sl : Nat} {Q : State → Prop} {w : JW} {b0 : Bool} {x1 : Int32} {x2 : Int32} {x3 : Int32} {x4 : Int32} (hm : jok C MX3_hasNote d cl sl) (kt : x3 ≤ x4 → jW C cl sl Q 34 [jU, jU, jU, jU, jU] [] w) (kf : ¬ x3 ≤ x4 → jW C cl sl Q 15 [jR 20 b0, jI x1, jI x2, jI x3, jI x4] [] w) : jW C cl sl Q 9 [jR 20 b0, jI x1, jI x2, jI x3, jI x4] [] w := jr_iload hm (i := 4) rfl dX3_hasNote_9 (jr_iload_n hm (i := 3) rfl rfl dX3_hasNote_11 (jr_icmp_ge hm dX3_hasNote_12 (by decide) (fun h => jr_drop (jle_drop (jle_drop (jle_drop (jle_drop (jle_drop jle_nil))))) (kt h)) (fun h => jr_drop (jle_same (jle_same (jle_same (jle_same (jle_same jle_nil))))) (kf h))))
theorem bk_X3_hasNote_15 {C : JC} {d cl sl : Nat} {Q : State → Prop} {w : JW} {b0 : Bool} {x1 : Int32} {x2 : Int32} {x3 : Int32} {x4 : Int32} {d2 : Nat} {r : Int32} {w2 : JW} (hm : jok C MX3_hasNote d cl sl) (hs : jF MX3_noteAt d2 [jR 20 b0, jI x1, jI x4] w (jI r) w2) (hd2 : d2 + 1 ≤ d) (k : jW C cl sl Q 22 [jR 20 b0, jI x1, jI x2, jI x3, jI x4] [jI r] w2) : jW C cl sl Q 15 [jR 20 b0, jI x1, jI x2, jI x3, jI x4] [] w := jr_aload_n hm (i := 0) rfl rfl dX3_hasNote_15 (jr_iload_n hm (i := 1) rfl rfl dX3_hasNote_16 (jr_iload hm (i := 4) rfl dX3_hasNote_17 (jr_callV (mc := 0) (ms := 0) hm hs hd2 jw_177 jw_178 jw_179 jw_51 jw_180 jn_X3_noteAt rfl (jo_20 b0) (fun _ _ _ _ _ => ⟨_, rfl⟩) rfl rfl (Nat.le_of_ble_eq_true rfl) rfl dX3_hasNote_19 (jkF (jr_drop (jle_same (jle_same (jle_same (jle_same (jle_same jle_nil))))) k)))))
theorem bk_X3_hasNote_22 {C : JC} {d cl sl : Nat} {Q : State → Prop} {w : JW} {b0 : Bool} {x1 : Int32} {x2 : Int32} {x3 : Int32} {x4 : Int32} {xs0 : Int32} (hm : jok C MX3_hasNote d cl sl) (kt : ¬ xs0 = x2 → jW C cl sl Q 28 [jR 20 b0, jI x1, jI x2, jI x3, jI x4] [] w) (kf : xs0 = x2 → jW C cl sl Q 26 [jU, jU, jU, jU, jU] [] w) : jW C cl sl Q 22 [jR 20 b0, jI x1, jI x2, jI x3, jI x4] [jI xs0] w := jr_iload_n hm (i := 2) rfl rfl dX3_hasNote_22 (jr_icmp_ne hm dX3_hasNote_23 (by decide) (fun h => jr_drop (jle_same (jle_same (jle_same (jle_same (jle_same jle_nil))))) (kt h)) (fun h => jr_drop (jle_drop (jle_drop (jle_drop (jle_drop (jle_drop jle_nil))))) (kf h)))
theorem bk_X3_hasNote_26 {C : JC} {d cl sl : Nat} {w : JW} {P : JV → JW → Prop} (hm : jok C MX3_hasNote d cl sl) (hp : P (jI 1) w) : jW C cl sl (jQQ C cl sl P) 26 [jU, jU, jU, jU, jU] [] w := jr_iconst hm (v := 1) (by decide) dX3_hasNote_26 (jr_zreturn hm rfl rfl dX3_hasNote_27 hp)
theorem bk_X3_hasNote_28 {C : JC} {d cl sl : Nat} {Q : State → Prop} {w : JW} {b0 : Bool} {x1 : Int32} {x2 : Int32} {x3 : Int32} {x4 : Int32} (hm : jok C MX3_hasNote d cl sl) (k : jW C cl sl Q 9 [jR 20 b0, jI x1, jI x2, jI x3, jI (x4 + 1)] [] w) : jW C cl sl Q 28 [jR 20 b0, jI x1, jI x2, jI x3, jI x4] [] w := jr_iinc hm (i := 4) (v := x4 + 1) rfl rfl rfl dX3_hasNote_28 (jr_goto hm dX3_hasNote_31 (by decide) (jr_drop (jle_same (jle_same (jle_same (jle_same (jle_same jle_nil))))) k))
theorem bk_X3_hasNote_34 {C : JC} {d cl sl : Nat} {w : JW} {P : JV → JW → Prop} (hm : jok C MX3_hasNote d cl sl) (hp : P (jI 0) w) : jW C cl sl (jQQ C cl sl P) 34 [jU, jU, jU, jU, jU] [] w := jr_iconst hm (v := 0) (by decide) dX3_hasNote_34 (jr_zreturn hm rfl rfl dX3_hasNote_35 hp)
theorem dX3_pipesIn_0 : decode cX3_pipesIn 0 = .ok (.iconst 0, 1) := by decide +kernel
theorem dX3_pipesIn_1 : decode cX3_pipesIn 1 = .ok (.istore_n 2, 1) := by decide +kernel
theorem dX3_pipesIn_2 : decode cX3_pipesIn 2 = .ok (.iconst 0, 1) := by decide +kernel
theorem dX3_pipesIn_3 : decode cX3_pipesIn 3 = .ok (.istore_n 3, 1) := by decide +kernel
theorem dX3_pipesIn_4 : decode cX3_pipesIn 4 = .ok (.iload_n 3, 1) := by decide +kernel
theorem dX3_pipesIn_5 : decode cX3_pipesIn 5 = .ok (.aload_n 0, 1) := by decide +kernel
theorem dX3_pipesIn_6 : decode cX3_pipesIn 6 = .ok (.getfield 51, 3) := by decide +kernel
theorem dX3_pipesIn_9 : decode cX3_pipesIn 9 = .ok (.if_icmp .ge 24, 3) := by decide +kernel
theorem dX3_pipesIn_12 : decode cX3_pipesIn 12 = .ok (.aload_n 0, 1) := by decide +kernel
theorem dX3_pipesIn_13 : decode cX3_pipesIn 13 = .ok (.getfield 18, 3) := by decide +kernel
theorem dX3_pipesIn_16 : decode cX3_pipesIn 16 = .ok (.iload_n 3, 1) := by decide +kernel
theorem dX3_pipesIn_17 : decode cX3_pipesIn 17 = .ok (.invokestatic 69, 3) := by decide +kernel
theorem dX3_pipesIn_20 : decode cX3_pipesIn 20 = .ok (.iload_n 1, 1) := by decide +kernel
theorem dX3_pipesIn_21 : decode cX3_pipesIn 21 = .ok (.if_icmp .ne 6, 3) := by decide +kernel
theorem dX3_pipesIn_24 : decode cX3_pipesIn 24 = .ok (.iinc 2 1, 3) := by decide +kernel
theorem dX3_pipesIn_27 : decode cX3_pipesIn 27 = .ok (.iinc 3 1, 3) := by decide +kernel
theorem dX3_pipesIn_30 : decode cX3_pipesIn 30 = .ok (.goto (-26), 3) := by decide +kernel
theorem dX3_pipesIn_33 : decode cX3_pipesIn 33 = .ok (.iload_n 2, 1) := by decide +kernel
theorem dX3_pipesIn_34 : decode cX3_pipesIn 34 = .ok (.ireturn, 1) := by decide +kernel
theorem bk_X3_pipesIn_0 {C : JC} {d cl sl : Nat} {Q : State → Prop} {w : JW} {b0 : Bool} {x1 : Int32} (hm : jok C MX3_pipesIn d cl sl) (k : jW C cl sl Q 4 [jR 20 b0, jI x1, jI 0, jI 0] [] w) : jW C cl sl Q 0 [jR 20 b0, jI x1, jU, jU] [] w := jr_iconst hm (v := 0) (by decide) dX3_pipesIn_0 (jr_istore_n hm (i := 2) rfl (Nat.le_of_ble_eq_true rfl) rfl dX3_pipesIn_1 (jr_iconst hm (v := 0) (by decide) dX3_pipesIn_2 (jr_istore_n hm (i := 3) rfl (Nat.le_of_ble_eq_true rfl) rfl dX3_pipesIn_3 (jr_drop (jle_same (jle_same (jle_same (jle_same jle_nil)))) k))))
theorem bk_X3_pipesIn_4 {C : JC} {d cl sl : Nat} {Q : State → Prop} {w : JW} {b0 : Bool} {x1 : Int32} {x2 : Int32} {x3 : Int32} (hm : jok C MX3_pipesIn d cl sl) (kt : (w.1 20 b0 10) ≤ x3 → jW C cl sl Q 33 [jU, jU, jI x2, jU] [] w) (kf : ¬ (w.1 20 b0 10) ≤ x3 → jW C cl sl Q 12 [jR 20 b0, jI x1, jI x2, jI x3] [] w) : jW C cl sl Q 4 [jR 20 b0, jI x1, jI x2, jI x3] [] w := jr_iload_n hm (i := 3) rfl rfl dX3_pipesIn_4 (jr_aload_n hm (i := 0) rfl rfl dX3_pipesIn_5 (fg_X3_51 hm dX3_pipesIn_6 (jr_icmp_ge hm dX3_pipesIn_9 (by decide) (fun h => jr_drop (jle_drop (jle_drop (jle_same (jle_drop jle_nil)))) (kt h)) (fun h => jr_drop (jle_same (jle_same (jle_same (jle_same jle_nil)))) (kf h)))))
theorem bk_X3_pipesIn_12 {C : JC} {d cl sl : Nat} {Q : State → Prop} {w : JW} {b0 : Bool} {x1 : Int32} {x2 : Int32} {x3 : Int32} {d2 : Nat} {r : Int32} {w2 : JW} (hm : jok C MX3_pipesIn d cl sl) (hs : jF MX9_at d2 [jR 23 b0, jI x3] w (jI r) w2) (hd2 : d2 + 1 ≤ d) (k : jW C cl sl Q 20 [jR 20 b0, jI x1, jI x2, jI x3] [jI r] w2) : jW C cl sl Q 12 [jR 20 b0, jI x1, jI x2, jI x3] [] w := jr_aload_n hm (i := 0) rfl rfl dX3_pipesIn_12 (fg_X3_18 hm dX3_pipesIn_13 (jr_iload_n hm (i := 3) rfl rfl dX3_pipesIn_16 (jr_callSN (mc := 0) (ms := 0) hm hs hd2 jw_176 jw_162 jw_47 jw_163 jn_X9_at rfl rfl (Nat.le_of_ble_eq_true rfl) rfl dX3_pipesIn_17 (jkF (jr_drop (jle_same (jle_same (jle_same (jle_same jle_nil)))) k)))))
theorem bk_X3_pipesIn_20 {C : JC} {d cl sl : Nat} {Q : State → Prop} {w : JW} {b0 : Bool} {x1 : Int32} {x2 : Int32} {x3 : Int32} {xs0 : Int32} (hm : jok C MX3_pipesIn d cl sl) (kt : ¬ xs0 = x1 → jW C cl sl Q 27 [jR 20 b0, jI x1, jI x2, jI x3] [] w) (kf : xs0 = x1 → jW C cl sl Q 24 [jR 20 b0, jI x1, jI x2, jI x3] [] w) : jW C cl sl Q 20 [jR 20 b0, jI x1, jI x2, jI x3] [jI xs0] w := jr_iload_n hm (i := 1) rfl rfl dX3_pipesIn_20 (jr_icmp_ne hm dX3_pipesIn_21 (by decide) (fun h => jr_drop (jle_same (jle_same (jle_same (jle_same jle_nil)))) (kt h)) (fun h => jr_drop (jle_same (jle_same (jle_same (jle_same jle_nil)))) (kf h)))
theorem bk_X3_pipesIn_24 {C : JC} {d cl sl : Nat} {Q : State → Prop} {w : JW} {b0 : Bool} {x1 : Int32} {x2 : Int32} {x3 : Int32} (hm : jok C MX3_pipesIn d cl sl) (k : jW C cl sl Q 27 [jR 20 b0, jI x1, jI (x2 + 1), jI x3] [] w) : jW C cl sl Q 24 [jR 20 b0, jI x1, jI x2, jI x3] [] w := jr_iinc hm (i := 2) (v := x2 + 1) rfl rfl rfl dX3_pipesIn_24 (jr_drop (jle_same (jle_same (jle_same (jle_same jle_nil)))) k)
theorem bk_X3_pipesIn_27 {C : JC} {d cl sl : Nat} {Q : State → Prop} {w : JW} {b0 : Bool} {x1 : Int32} {x2 : Int32} {x3 : Int32} (hm : jok C MX3_pipesIn d cl sl) (k : jW C cl sl Q 4 [jR 20 b0, jI x1, jI x2, jI (x3 + 1)] [] w) : jW C cl sl Q 27 [jR 20 b0, jI x1, jI x2, jI x3] [] w := jr_iinc hm (i := 3) (v := x3 + 1) rfl rfl rfl dX3_pipesIn_27 (jr_goto hm dX3_pipesIn_30 (by decide) (jr_drop (jle_same (jle_same (jle_same (jle_same jle_nil)))) k))
theorem bk_X3_pipesIn_33 {C : JC} {d cl sl : Nat} {w : JW} {x2 : Int32} {P : JV → JW → Prop} (hm : jok C MX3_pipesIn d cl sl) (hp : P (jI x2) w) : jW C cl sl (jQQ C cl sl P) 33 [jU, jU, jI x2, jU] [] w := jr_iload_n hm (i := 2) rfl rfl dX3_pipesIn_33 (jr_ireturn hm rfl dX3_pipesIn_34 hp)
theorem dX3_needOf_0 : decode cX3_needOf 0 = .ok (.aload_n 0, 1) := by decide +kernel
theorem dX3_needOf_1 : decode cX3_needOf 1 = .ok (.getfield 21, 3) := by decide +kernel
theorem dX3_needOf_4 : decode cX3_needOf 4 = .ok (.iload_n 1, 1) := by decide +kernel
theorem dX3_needOf_5 : decode cX3_needOf 5 = .ok (.invokestatic 69, 3) := by decide +kernel
theorem dX3_needOf_8 : decode cX3_needOf 8 = .ok (.iconst 2, 1) := by decide +kernel
theorem dX3_needOf_9 : decode cX3_needOf 9 = .ok (.idiv, 1) := by decide +kernel
theorem dX3_needOf_10 : decode cX3_needOf 10 = .ok (.iload_n 2, 1) := by decide +kernel
theorem dX3_needOf_11 : decode cX3_needOf 11 = .ok (.iconst 1, 1) := by decide +kernel
theorem dX3_needOf_12 : decode cX3_needOf 12 = .ok (.aload_n 0, 1) := by decide +kernel
theorem dX3_needOf_13 : decode cX3_needOf 13 = .ok (.getfield 24, 3) := by decide +kernel
theorem dX3_needOf_16 : decode cX3_needOf 16 = .ok (.iload_n 1, 1) := by decide +kernel
theorem dX3_needOf_17 : decode cX3_needOf 17 = .ok (.invokestatic 69, 3) := by decide +kernel
theorem dX3_needOf_20 : decode cX3_needOf 20 = .ok (.iadd, 1) := by decide +kernel
theorem dX3_needOf_21 : decode cX3_needOf 21 = .ok (.imul, 1) := by decide +kernel
theorem dX3_needOf_22 : decode cX3_needOf 22 = .ok (.iadd, 1) := by decide +kernel
theorem dX3_needOf_23 : decode cX3_needOf 23 = .ok (.ireturn, 1) := by decide +kernel
theorem bk_X3_needOf_0 {C : JC} {d cl sl : Nat} {Q : State → Prop} {w : JW} {b0 : Bool} {x1 : Int32} {x2 : Int32} {d2 : Nat} {r : Int32} {w2 : JW} (hm : jok C MX3_needOf d cl sl) (hs : jF MX9_at d2 [jR 24 b0, jI x1] w (jI r) w2) (hd2 : d2 + 1 ≤ d) (k : jW C cl sl Q 8 [jR 20 b0, jI x1, jI x2] [jI r] w2) : jW C cl sl Q 0 [jR 20 b0, jI x1, jI x2] [] w := jr_aload_n hm (i := 0) rfl rfl dX3_needOf_0 (fg_X3_21 hm dX3_needOf_1 (jr_iload_n hm (i := 1) rfl rfl dX3_needOf_4 (jr_callSN (mc := 0) (ms := 0) hm hs hd2 jw_176 jw_162 jw_47 jw_163 jn_X9_at rfl rfl (Nat.le_of_ble_eq_true rfl) rfl dX3_needOf_5 (jkF (jr_drop (jle_same (jle_same (jle_same jle_nil))) k)))))
theorem bk_X3_needOf_8 {C : JC} {d cl sl : Nat} {Q : State → Prop} {w : JW} {b0 : Bool} {x1 : Int32} {x2 : Int32} {xs0 : Int32} {d2 : Nat} {r : Int32} {w2 : JW} (hm : jok C MX3_needOf d cl sl) (hs : jF MX9_at d2 [jR 25 b0, jI x1] w (jI r) w2) (hd2 : d2 + 1 ≤ d) (k : jW C cl sl Q 20 [jU, jU, jU] [jI r, jI 1, jI x2, jI (xs0 / 2)] w2) : jW C cl sl Q 8 [jR 20 b0, jI x1, jI x2] [jI xs0] w := jr_iconst hm (v := 2) (by decide) dX3_needOf_8 (jr_idiv hm (by decide) dX3_needOf_9 (jr_iload_n hm (i := 2) rfl rfl dX3_needOf_10 (jr_iconst hm (v := 1) (by decide) dX3_needOf_11 (jr_aload_n hm (i := 0) rfl rfl dX3_needOf_12 (fg_X3_24 hm dX3_needOf_13 (jr_iload_n hm (i := 1) rfl rfl dX3_needOf_16 (jr_callSN (mc := 0) (ms := 0) hm hs hd2 jw_176 jw_162 jw_47 jw_163 jn_X9_at rfl rfl (Nat.le_of_ble_eq_true rfl) rfl dX3_needOf_17 (jkF (jr_drop (jle_drop (jle_drop (jle_drop jle_nil))) k)))))))))
theorem bk_X3_needOf_20 {C : JC} {d cl sl : Nat} {w : JW} {xs0 : Int32} {xs1 : Int32} {xs2 : Int32} {xs3 : Int32} {P : JV → JW → Prop} (hm : jok C MX3_needOf d cl sl) (hp : P (jI (xs3 + (xs2 * (xs1 + xs0)))) w) : jW C cl sl (jQQ C cl sl P) 20 [jU, jU, jU] [jI xs0, jI xs1, jI xs2, jI xs3] w := jr_iadd hm dX3_needOf_20 (jr_imul hm dX3_needOf_21 (jr_iadd hm dX3_needOf_22 (jr_ireturn hm rfl dX3_needOf_23 hp)))
theorem dX3_chordSounds_0 : decode cX3_chordSounds 0 = .ok (.aload_n 0, 1) := by decide +kernel
theorem dX3_chordSounds_1 : decode cX3_chordSounds 1 = .ok (.iload_n 1, 1) := by decide +kernel
theorem dX3_chordSounds_2 : decode cX3_chordSounds 2 = .ok (.invokevirtual 65, 3) := by decide +kernel
theorem dX3_chordSounds_5 : decode cX3_chordSounds 5 = .ok (.istore_n 3, 1) := by decide +kernel
theorem dX3_chordSounds_6 : decode cX3_chordSounds 6 = .ok (.iconst 0, 1) := by decide +kernel
theorem dX3_chordSounds_7 : decode cX3_chordSounds 7 = .ok (.istore 4, 2) := by decide +kernel
theorem dX3_chordSounds_9 : decode cX3_chordSounds 9 = .ok (.iload 4, 2) := by decide +kernel
theorem dX3_chordSounds_11 : decode cX3_chordSounds 11 = .ok (.iload_n 3, 1) := by decide +kernel
theorem dX3_chordSounds_12 : decode cX3_chordSounds 12 = .ok (.if_icmp .ge 25, 3) := by decide +kernel
theorem dX3_chordSounds_15 : decode cX3_chordSounds 15 = .ok (.aload_n 2, 1) := by decide +kernel
theorem dX3_chordSounds_16 : decode cX3_chordSounds 16 = .ok (.aload_n 0, 1) := by decide +kernel
theorem dX3_chordSounds_17 : decode cX3_chordSounds 17 = .ok (.iload_n 1, 1) := by decide +kernel
theorem dX3_chordSounds_18 : decode cX3_chordSounds 18 = .ok (.iload 4, 2) := by decide +kernel
theorem dX3_chordSounds_20 : decode cX3_chordSounds 20 = .ok (.invokevirtual 73, 3) := by decide +kernel
theorem dX3_chordSounds_23 : decode cX3_chordSounds 23 = .ok (.invokevirtual 77, 3) := by decide +kernel
theorem dX3_chordSounds_26 : decode cX3_chordSounds 26 = .ok (.ifCond .ne 5, 3) := by decide +kernel
theorem dX3_chordSounds_29 : decode cX3_chordSounds 29 = .ok (.iconst 0, 1) := by decide +kernel
theorem dX3_chordSounds_30 : decode cX3_chordSounds 30 = .ok (.ireturn, 1) := by decide +kernel
theorem dX3_chordSounds_31 : decode cX3_chordSounds 31 = .ok (.iinc 4 1, 3) := by decide +kernel
theorem dX3_chordSounds_34 : decode cX3_chordSounds 34 = .ok (.goto (-25), 3) := by decide +kernel
theorem dX3_chordSounds_37 : decode cX3_chordSounds 37 = .ok (.iconst 1, 1) := by decide +kernel
theorem dX3_chordSounds_38 : decode cX3_chordSounds 38 = .ok (.ireturn, 1) := by decide +kernel
theorem bk_X3_chordSounds_0 {C : JC} {d cl sl : Nat} {Q : State → Prop} {w : JW} {b0 : Bool} {x1 : Int32} {b2 : Bool} {d2 : Nat} {r : Int32} {w2 : JW} (hm : jok C MX3_chordSounds d cl sl) (hs : jF MX3_sizeOf d2 [jR 20 b0, jI x1] w (jI r) w2) (hd2 : d2 + 1 ≤ d) (k : jW C cl sl Q 5 [jR 20 b0, jI x1, jR 14 b2, jU, jU] [jI r] w2) : jW C cl sl Q 0 [jR 20 b0, jI x1, jR 14 b2, jU, jU] [] w := jr_aload_n hm (i := 0) rfl rfl dX3_chordSounds_0 (jr_iload_n hm (i := 1) rfl rfl dX3_chordSounds_1 (jr_callV (mc := 0) (ms := 0) hm hs hd2 jw_172 jw_173 jw_174 jw_51 jw_175 jn_X3_sizeOf rfl (jo_20 b0) (fun _ _ _ _ _ => ⟨_, rfl⟩) rfl rfl (Nat.le_of_ble_eq_true rfl) rfl dX3_chordSounds_2 (jkF (jr_drop (jle_same (jle_same (jle_same (jle_same (jle_same jle_nil))))) k))))
theorem bk_X3_chordSounds_5 {C : JC} {d cl sl : Nat} {Q : State → Prop} {w : JW} {b0 : Bool} {x1 : Int32} {b2 : Bool} {xs0 : Int32} (hm : jok C MX3_chordSounds d cl sl) (k : jW C cl sl Q 9 [jR 20 b0, jI x1, jR 14 b2, jI xs0, jI 0] [] w) : jW C cl sl Q 5 [jR 20 b0, jI x1, jR 14 b2, jU, jU] [jI xs0] w := jr_istore_n hm (i := 3) rfl (Nat.le_of_ble_eq_true rfl) rfl dX3_chordSounds_5 (jr_iconst hm (v := 0) (by decide) dX3_chordSounds_6 (jr_istore hm (i := 4) (Nat.le_of_ble_eq_true rfl) rfl dX3_chordSounds_7 (jr_drop (jle_same (jle_same (jle_same (jle_same (jle_same jle_nil))))) k)))
theorem bk_X3_chordSounds_9 {C : JC} {d cl sl : Nat} {Q : State → Prop} {w : JW} {b0 : Bool} {x1 : Int32} {b2 : Bool} {x3 : Int32} {x4 : Int32} (hm : jok C MX3_chordSounds d cl sl) (kt : x3 ≤ x4 → jW C cl sl Q 37 [jU, jU, jU, jU, jU] [] w) (kf : ¬ x3 ≤ x4 → jW C cl sl Q 15 [jR 20 b0, jI x1, jR 14 b2, jI x3, jI x4] [] w) : jW C cl sl Q 9 [jR 20 b0, jI x1, jR 14 b2, jI x3, jI x4] [] w := jr_iload hm (i := 4) rfl dX3_chordSounds_9 (jr_iload_n hm (i := 3) rfl rfl dX3_chordSounds_11 (jr_icmp_ge hm dX3_chordSounds_12 (by decide) (fun h => jr_drop (jle_drop (jle_drop (jle_drop (jle_drop (jle_drop jle_nil))))) (kt h)) (fun h => jr_drop (jle_same (jle_same (jle_same (jle_same (jle_same jle_nil))))) (kf h))))
theorem bk_X3_chordSounds_15 {C : JC} {d cl sl : Nat} {Q : State → Prop} {w : JW} {b0 : Bool} {x1 : Int32} {b2 : Bool} {x3 : Int32} {x4 : Int32} {d2 : Nat} {r : Int32} {w2 : JW} (hm : jok C MX3_chordSounds d cl sl) (hs : jF MX3_noteAt d2 [jR 20 b0, jI x1, jI x4] w (jI r) w2) (hd2 : d2 + 1 ≤ d) (k : jW C cl sl Q 23 [jR 20 b0, jI x1, jR 14 b2, jI x3, jI x4] [jI r, jR 14 b2] w2) : jW C cl sl Q 15 [jR 20 b0, jI x1, jR 14 b2, jI x3, jI x4] [] w := jr_aload_n hm (i := 2) rfl rfl dX3_chordSounds_15 (jr_aload_n hm (i := 0) rfl rfl dX3_chordSounds_16 (jr_iload_n hm (i := 1) rfl rfl dX3_chordSounds_17 (jr_iload hm (i := 4) rfl dX3_chordSounds_18 (jr_callV (mc := 0) (ms := 0) hm hs hd2 jw_177 jw_178 jw_179 jw_51 jw_180 jn_X3_noteAt rfl (jo_20 b0) (fun _ _ _ _ _ => ⟨_, rfl⟩) rfl rfl (Nat.le_of_ble_eq_true rfl) rfl dX3_chordSounds_20 (jkF (jr_drop (jle_same (jle_same (jle_same (jle_same (jle_same jle_nil))))) k))))))
theorem bk_X3_chordSounds_23 {C : JC} {d cl sl : Nat} {Q : State → Prop} {w : JW} {b0 : Bool} {x1 : Int32} {b2 : Bool} {x3 : Int32} {x4 : Int32} {xs0 : Int32} {bs1 : Bool} {d2 : Nat} {r : Int32} {w2 : JW} (hm : jok C MX3_chordSounds d cl sl) (hs : jF MX1_sounds d2 [jR 14 bs1, jI xs0] w (jI r) w2) (hd2 : d2 + 1 ≤ d) (k : jW C cl sl Q 26 [jR 20 b0, jI x1, jR 14 b2, jI x3, jI x4] [jI r] w2) : jW C cl sl Q 23 [jR 20 b0, jI x1, jR 14 b2, jI x3, jI x4] [jI xs0, jR 14 bs1] w := jr_callV (mc := 0) (ms := 0) hm hs hd2 jw_181 jw_158 jw_159 jw_56 jw_160 jn_X1_sounds rfl (jo_14 bs1) (fun _ _ _ _ _ => ⟨_, rfl⟩) rfl rfl (Nat.le_of_ble_eq_true rfl) rfl dX3_chordSounds_23 (jkF (jr_drop (jle_same (jle_same (jle_same (jle_same (jle_same jle_nil))))) k))
theorem bk_X3_chordSounds_26 {C : JC} {d cl sl : Nat} {Q : State → Prop} {w : JW} {b0 : Bool} {x1 : Int32} {b2 : Bool} {x3 : Int32} {x4 : Int32} {xs0 : Int32} (hm : jok C MX3_chordSounds d cl sl) (kt : ¬ xs0 = 0 → jW C cl sl Q 31 [jR 20 b0, jI x1, jR 14 b2, jI x3, jI x4] [] w) (kf : xs0 = 0 → jW C cl sl Q 29 [jU, jU, jU, jU, jU] [] w) : jW C cl sl Q 26 [jR 20 b0, jI x1, jR 14 b2, jI x3, jI x4] [jI xs0] w := jr_if_ne hm dX3_chordSounds_26 (by decide) (fun h => jr_drop (jle_same (jle_same (jle_same (jle_same (jle_same jle_nil))))) (kt h)) (fun h => jr_drop (jle_drop (jle_drop (jle_drop (jle_drop (jle_drop jle_nil))))) (kf h))
theorem bk_X3_chordSounds_29 {C : JC} {d cl sl : Nat} {w : JW} {P : JV → JW → Prop} (hm : jok C MX3_chordSounds d cl sl) (hp : P (jI 0) w) : jW C cl sl (jQQ C cl sl P) 29 [jU, jU, jU, jU, jU] [] w := jr_iconst hm (v := 0) (by decide) dX3_chordSounds_29 (jr_zreturn hm rfl rfl dX3_chordSounds_30 hp)
theorem bk_X3_chordSounds_31 {C : JC} {d cl sl : Nat} {Q : State → Prop} {w : JW} {b0 : Bool} {x1 : Int32} {b2 : Bool} {x3 : Int32} {x4 : Int32} (hm : jok C MX3_chordSounds d cl sl) (k : jW C cl sl Q 9 [jR 20 b0, jI x1, jR 14 b2, jI x3, jI (x4 + 1)] [] w) : jW C cl sl Q 31 [jR 20 b0, jI x1, jR 14 b2, jI x3, jI x4] [] w := jr_iinc hm (i := 4) (v := x4 + 1) rfl rfl rfl dX3_chordSounds_31 (jr_goto hm dX3_chordSounds_34 (by decide) (jr_drop (jle_same (jle_same (jle_same (jle_same (jle_same jle_nil))))) k))
theorem bk_X3_chordSounds_37 {C : JC} {d cl sl : Nat} {w : JW} {P : JV → JW → Prop} (hm : jok C MX3_chordSounds d cl sl) (hp : P (jI 1) w) : jW C cl sl (jQQ C cl sl P) 37 [jU, jU, jU, jU, jU] [] w := jr_iconst hm (v := 1) (by decide) dX3_chordSounds_37 (jr_zreturn hm rfl rfl dX3_chordSounds_38 hp)
theorem dX3_spanOf_0 : decode cX3_spanOf 0 = .ok (.bipush 40, 2) := by decide +kernel
theorem dX3_spanOf_2 : decode cX3_spanOf 2 = .ok (.istore_n 2, 1) := by decide +kernel
theorem dX3_spanOf_3 : decode cX3_spanOf 3 = .ok (.iconst 0, 1) := by decide +kernel
theorem dX3_spanOf_4 : decode cX3_spanOf 4 = .ok (.istore_n 3, 1) := by decide +kernel
theorem dX3_spanOf_5 : decode cX3_spanOf 5 = .ok (.aload_n 0, 1) := by decide +kernel
theorem dX3_spanOf_6 : decode cX3_spanOf 6 = .ok (.iload_n 1, 1) := by decide +kernel
theorem dX3_spanOf_7 : decode cX3_spanOf 7 = .ok (.invokevirtual 65, 3) := by decide +kernel
theorem dX3_spanOf_10 : decode cX3_spanOf 10 = .ok (.istore 4, 2) := by decide +kernel
theorem dX3_spanOf_12 : decode cX3_spanOf 12 = .ok (.iconst 0, 1) := by decide +kernel
theorem dX3_spanOf_13 : decode cX3_spanOf 13 = .ok (.istore 5, 2) := by decide +kernel
theorem dX3_spanOf_15 : decode cX3_spanOf 15 = .ok (.iload 5, 2) := by decide +kernel
theorem dX3_spanOf_17 : decode cX3_spanOf 17 = .ok (.iload 4, 2) := by decide +kernel
theorem dX3_spanOf_19 : decode cX3_spanOf 19 = .ok (.if_icmp .ge 39, 3) := by decide +kernel
theorem dX3_spanOf_22 : decode cX3_spanOf 22 = .ok (.aload_n 0, 1) := by decide +kernel
theorem dX3_spanOf_23 : decode cX3_spanOf 23 = .ok (.getfield 21, 3) := by decide +kernel
theorem dX3_spanOf_26 : decode cX3_spanOf 26 = .ok (.aload_n 0, 1) := by decide +kernel
theorem dX3_spanOf_27 : decode cX3_spanOf 27 = .ok (.iload_n 1, 1) := by decide +kernel
theorem dX3_spanOf_28 : decode cX3_spanOf 28 = .ok (.iload 5, 2) := by decide +kernel
theorem dX3_spanOf_30 : decode cX3_spanOf 30 = .ok (.invokevirtual 73, 3) := by decide +kernel
theorem dX3_spanOf_33 : decode cX3_spanOf 33 = .ok (.invokestatic 69, 3) := by decide +kernel
theorem dX3_spanOf_36 : decode cX3_spanOf 36 = .ok (.istore 6, 2) := by decide +kernel
theorem dX3_spanOf_38 : decode cX3_spanOf 38 = .ok (.iload_n 2, 1) := by decide +kernel
theorem dX3_spanOf_39 : decode cX3_spanOf 39 = .ok (.iload 6, 2) := by decide +kernel
theorem dX3_spanOf_41 : decode cX3_spanOf 41 = .ok (.invokestatic 83, 3) := by decide +kernel
theorem dX3_spanOf_44 : decode cX3_spanOf 44 = .ok (.istore_n 2, 1) := by decide +kernel
theorem dX3_spanOf_45 : decode cX3_spanOf 45 = .ok (.iload_n 3, 1) := by decide +kernel
theorem dX3_spanOf_46 : decode cX3_spanOf 46 = .ok (.iload 6, 2) := by decide +kernel
theorem dX3_spanOf_48 : decode cX3_spanOf 48 = .ok (.invokestatic 88, 3) := by decide +kernel
theorem dX3_spanOf_51 : decode cX3_spanOf 51 = .ok (.istore_n 3, 1) := by decide +kernel
theorem dX3_spanOf_52 : decode cX3_spanOf 52 = .ok (.iinc 5 1, 3) := by decide +kernel
theorem dX3_spanOf_55 : decode cX3_spanOf 55 = .ok (.goto (-40), 3) := by decide +kernel
theorem dX3_spanOf_58 : decode cX3_spanOf 58 = .ok (.iload_n 3, 1) := by decide +kernel
theorem dX3_spanOf_59 : decode cX3_spanOf 59 = .ok (.iload_n 2, 1) := by decide +kernel
theorem dX3_spanOf_60 : decode cX3_spanOf 60 = .ok (.isub, 1) := by decide +kernel
theorem dX3_spanOf_61 : decode cX3_spanOf 61 = .ok (.ireturn, 1) := by decide +kernel
theorem bk_X3_spanOf_0 {C : JC} {d cl sl : Nat} {Q : State → Prop} {w : JW} {b0 : Bool} {x1 : Int32} {d2 : Nat} {r : Int32} {w2 : JW} (hm : jok C MX3_spanOf d cl sl) (hs : jF MX3_sizeOf d2 [jR 20 b0, jI x1] w (jI r) w2) (hd2 : d2 + 1 ≤ d) (k : jW C cl sl Q 10 [jR 20 b0, jI x1, jI 40, jI 0, jU, jU, jU] [jI r] w2) : jW C cl sl Q 0 [jR 20 b0, jI x1, jU, jU, jU, jU, jU] [] w := jr_bipush hm (v := 40) (by decide) dX3_spanOf_0 (jr_istore_n hm (i := 2) rfl (Nat.le_of_ble_eq_true rfl) rfl dX3_spanOf_2 (jr_iconst hm (v := 0) (by decide) dX3_spanOf_3 (jr_istore_n hm (i := 3) rfl (Nat.le_of_ble_eq_true rfl) rfl dX3_spanOf_4 (jr_aload_n hm (i := 0) rfl rfl dX3_spanOf_5 (jr_iload_n hm (i := 1) rfl rfl dX3_spanOf_6 (jr_callV (mc := 0) (ms := 0) hm hs hd2 jw_172 jw_173 jw_174 jw_51 jw_175 jn_X3_sizeOf rfl (jo_20 b0) (fun _ _ _ _ _ => ⟨_, rfl⟩) rfl rfl (Nat.le_of_ble_eq_true rfl) rfl dX3_spanOf_7 (jkF (jr_drop (jle_same (jle_same (jle_same (jle_same (jle_same (jle_same (jle_same jle_nil))))))) k))))))))
theorem bk_X3_spanOf_10 {C : JC} {d cl sl : Nat} {Q : State → Prop} {w : JW} {b0 : Bool} {x1 : Int32} {x2 : Int32} {x3 : Int32} {xs0 : Int32} (hm : jok C MX3_spanOf d cl sl) (k : jW C cl sl Q 15 [jR 20 b0, jI x1, jI x2, jI x3, jI xs0, jI 0, jU] [] w) : jW C cl sl Q 10 [jR 20 b0, jI x1, jI x2, jI x3, jU, jU, jU] [jI xs0] w := jr_istore hm (i := 4) (Nat.le_of_ble_eq_true rfl) rfl dX3_spanOf_10 (jr_iconst hm (v := 0) (by decide) dX3_spanOf_12 (jr_istore hm (i := 5) (Nat.le_of_ble_eq_true rfl) rfl dX3_spanOf_13 (jr_drop (jle_same (jle_same (jle_same (jle_same (jle_same (jle_same (jle_same jle_nil))))))) k)))
theorem bk_X3_spanOf_15 {C : JC} {d cl sl : Nat} {Q : State → Prop} {w : JW} {b0 : Bool} {x1 : Int32} {x2 : Int32} {x3 : Int32} {x4 : Int32} {x5 : Int32} (hm : jok C MX3_spanOf d cl sl) (kt : x4 ≤ x5 → jW C cl sl Q 58 [jU, jU, jI x2, jI x3, jU, jU, jU] [] w) (kf : ¬ x4 ≤ x5 → jW C cl sl Q 22 [jR 20 b0, jI x1, jI x2, jI x3, jI x4, jI x5, jU] [] w) : jW C cl sl Q 15 [jR 20 b0, jI x1, jI x2, jI x3, jI x4, jI x5, jU] [] w := jr_iload hm (i := 5) rfl dX3_spanOf_15 (jr_iload hm (i := 4) rfl dX3_spanOf_17 (jr_icmp_ge hm dX3_spanOf_19 (by decide) (fun h => jr_drop (jle_drop (jle_drop (jle_same (jle_same (jle_drop (jle_drop (jle_same jle_nil))))))) (kt h)) (fun h => jr_drop (jle_same (jle_same (jle_same (jle_same (jle_same (jle_same (jle_same jle_nil))))))) (kf h))))
theorem bk_X3_spanOf_22 {C : JC} {d cl sl : Nat} {Q : State → Prop} {w : JW} {b0 : Bool} {x1 : Int32} {x2 : Int32} {x3 : Int32} {x4 : Int32} {x5 : Int32} {d2 : Nat} {r : Int32} {w2 : JW} (hm : jok C MX3_spanOf d cl sl) (hs : jF MX3_noteAt d2 [jR 20 b0, jI x1, jI x5] w (jI r) w2) (hd2 : d2 + 1 ≤ d) (k : jW C cl sl Q 33 [jR 20 b0, jI x1, jI x2, jI x3, jI x4, jI x5, jU] [jI r, jR 24 b0] w2) : jW C cl sl Q 22 [jR 20 b0, jI x1, jI x2, jI x3, jI x4, jI x5, jU] [] w := jr_aload_n hm (i := 0) rfl rfl dX3_spanOf_22 (fg_X3_21 hm dX3_spanOf_23 (jr_aload_n hm (i := 0) rfl rfl dX3_spanOf_26 (jr_iload_n hm (i := 1) rfl rfl dX3_spanOf_27 (jr_iload hm (i := 5) rfl dX3_spanOf_28 (jr_callV (mc := 0) (ms := 0) hm hs hd2 jw_177 jw_178 jw_179 jw_51 jw_180 jn_X3_noteAt rfl (jo_20 b0) (fun _ _ _ _ _ => ⟨_, rfl⟩) rfl rfl (Nat.le_of_ble_eq_true rfl) rfl dX3_spanOf_30 (jkF (jr_drop (jle_same (jle_same (jle_same (jle_same (jle_same (jle_same (jle_same jle_nil))))))) k)))))))
theorem bk_X3_spanOf_33 {C : JC} {d cl sl : Nat} {Q : State → Prop} {w : JW} {b0 : Bool} {x1 : Int32} {x2 : Int32} {x3 : Int32} {x4 : Int32} {x5 : Int32} {xs0 : Int32} {bs1 : Bool} {d2 : Nat} {r : Int32} {w2 : JW} (hm : jok C MX3_spanOf d cl sl) (hs : jF MX9_at d2 [jR 24 bs1, jI xs0] w (jI r) w2) (hd2 : d2 + 1 ≤ d) (k : jW C cl sl Q 36 [jR 20 b0, jI x1, jI x2, jI x3, jI x4, jI x5, jU] [jI r] w2) : jW C cl sl Q 33 [jR 20 b0, jI x1, jI x2, jI x3, jI x4, jI x5, jU] [jI xs0, jR 24 bs1] w := jr_callSN (mc := 0) (ms := 0) hm hs hd2 jw_176 jw_162 jw_47 jw_163 jn_X9_at rfl rfl (Nat.le_of_ble_eq_true rfl) rfl dX3_spanOf_33 (jkF (jr_drop (jle_same (jle_same (jle_same (jle_same (jle_same (jle_same (jle_same jle_nil))))))) k))
theorem bk_X3_spanOf_36 {C : JC} {d cl sl : Nat} {Q : State → Prop} {w : JW} {b0 : Bool} {x1 : Int32} {x2 : Int32} {x3 : Int32} {x4 : Int32} {x5 : Int32} {xs0 : Int32} (hm : jok C MX3_spanOf d cl sl) (hd1 : 1 ≤ d) (k : jW C cl sl Q 15 [jR 20 b0, jI x1, jI (if xs0 < x2 then xs0 else x2), jI (if x3 < xs0 then xs0 else x3), jI x4, jI (x5 + 1), jU] [] w) : jW C cl sl Q 36 [jR 20 b0, jI x1, jI x2, jI x3, jI x4, jI x5, jU] [jI xs0] w := jr_istore hm (i := 6) (Nat.le_of_ble_eq_true rfl) rfl dX3_spanOf_36 (jr_iload_n hm (i := 2) rfl rfl dX3_spanOf_38 (jr_iload hm (i := 6) rfl dX3_spanOf_39 (jr_mmin hm jw_277 jw_241 jw_62 jw_242 hd1 (Nat.le_of_ble_eq_true rfl) rfl dX3_spanOf_41 (jr_istore_n hm (i := 2) rfl (Nat.le_of_ble_eq_true rfl) rfl dX3_spanOf_44 (jr_iload_n hm (i := 3) rfl rfl dX3_spanOf_45 (jr_iload hm (i := 6) rfl dX3_spanOf_46 (jr_mmax hm jw_278 jw_244 jw_62 jw_245 hd1 (Nat.le_of_ble_eq_true rfl) rfl dX3_spanOf_48 (jr_istore_n hm (i := 3) rfl (Nat.le_of_ble_eq_true rfl) rfl dX3_spanOf_51 (jr_iinc hm (i := 5) (v := x5 + 1) rfl rfl rfl dX3_spanOf_52 (jr_goto hm dX3_spanOf_55 (by decide) (jr_drop (jle_same (jle_same (jle_same (jle_same (jle_same (jle_same (jle_drop jle_nil))))))) k)))))))))))
theorem bk_X3_spanOf_58 {C : JC} {d cl sl : Nat} {w : JW} {x2 : Int32} {x3 : Int32} {P : JV → JW → Prop} (hm : jok C MX3_spanOf d cl sl) (hp : P (jI (x3 - x2)) w) : jW C cl sl (jQQ C cl sl P) 58 [jU, jU, jI x2, jI x3, jU, jU, jU] [] w := jr_iload_n hm (i := 3) rfl rfl dX3_spanOf_58 (jr_iload_n hm (i := 2) rfl rfl dX3_spanOf_59 (jr_isub hm dX3_spanOf_60 (jr_ireturn hm rfl dX3_spanOf_61 hp)))
