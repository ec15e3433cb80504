theorem dX11_lengthOf_0 : decode cX11_lengthOf 0 = .ok (.aload_n 0, 1) := by decide +kernel
theorem dX11_lengthOf_1 : decode cX11_lengthOf 1 = .ok (.getfield 87, 3) := by decide +kernel
theorem dX11_lengthOf_4 : decode cX11_lengthOf 4 = .ok (.getfield 230, 3) := by decide +kernel
theorem dX11_lengthOf_7 : decode cX11_lengthOf 7 = .ok (.iconst 3, 1) := by decide +kernel
theorem dX11_lengthOf_8 : decode cX11_lengthOf 8 = .ok (.iload_n 1, 1) := by decide +kernel
theorem dX11_lengthOf_9 : decode cX11_lengthOf 9 = .ok (.imul, 1) := by decide +kernel
theorem dX11_lengthOf_10 : decode cX11_lengthOf 10 = .ok (.iconst 1, 1) := by decide +kernel
theorem dX11_lengthOf_11 : decode cX11_lengthOf 11 = .ok (.iadd, 1) := by decide +kernel
theorem dX11_lengthOf_12 : decode cX11_lengthOf 12 = .ok (.iaload, 1) := by decide +kernel
theorem dX11_lengthOf_13 : decode cX11_lengthOf 13 = .ok (.ireturn, 1) := by decide +kernel
theorem bk_X11_lengthOf_0 {C : JC} {d cl sl : Nat} {w : JW} {x1 : Int32} {P : JV → JW → Prop} (hm : jok C MX11_lengthOf d cl sl) (h1 : vp_in ((3 * x1) + 1) 36) (hp : P (jI (w.1 55 (w.2.2 41 8) ((3 * x1) + 1).toNatClampNeg)) w) : jW C cl sl (jQQ C cl sl P) 0 [jR 41 false, jI x1] [] w := jr_aload_n hm (i := 0) rfl rfl dX11_lengthOf_0 (fg_X11_87 hm dX11_lengthOf_1 (fg_X11_230 hm dX11_lengthOf_4 (jr_iconst hm (v := 3) (by decide) dX11_lengthOf_7 (jr_iload_n hm (i := 1) rfl rfl dX11_lengthOf_8 (jr_imul hm dX11_lengthOf_9 (jr_iconst hm (v := 1) (by decide) dX11_lengthOf_10 (jr_iadd hm dX11_lengthOf_11 (jr_iaload hm (ja_55 (w.2.2 41 8)) h1 dX11_lengthOf_12 (jr_ireturn hm rfl dX11_lengthOf_13 hp)))))))))
theorem dX11_reedOf_0 : decode cX11_reedOf 0 = .ok (.aload_n 0, 1) := by decide +kernel
theorem dX11_reedOf_1 : decode cX11_reedOf 1 = .ok (.getfield 87, 3) := by decide +kernel
theorem dX11_reedOf_4 : decode cX11_reedOf 4 = .ok (.getfield 230, 3) := by decide +kernel
theorem dX11_reedOf_7 : decode cX11_reedOf 7 = .ok (.iconst 3, 1) := by decide +kernel
theorem dX11_reedOf_8 : decode cX11_reedOf 8 = .ok (.iload_n 1, 1) := by decide +kernel
theorem dX11_reedOf_9 : decode cX11_reedOf 9 = .ok (.imul, 1) := by decide +kernel
theorem dX11_reedOf_10 : decode cX11_reedOf 10 = .ok (.iconst 2, 1) := by decide +kernel
theorem dX11_reedOf_11 : decode cX11_reedOf 11 = .ok (.iadd, 1) := by decide +kernel
theorem dX11_reedOf_12 : decode cX11_reedOf 12 = .ok (.iaload, 1) := by decide +kernel
theorem dX11_reedOf_13 : decode cX11_reedOf 13 = .ok (.ireturn, 1) := by decide +kernel
theorem bk_X11_reedOf_0 {C : JC} {d cl sl : Nat} {w : JW} {x1 : Int32} {P : JV → JW → Prop} (hm : jok C MX11_reedOf d cl sl) (h1 : vp_in ((3 * x1) + 2) 36) (hp : P (jI (w.1 55 (w.2.2 41 8) ((3 * x1) + 2).toNatClampNeg)) w) : jW C cl sl (jQQ C cl sl P) 0 [jR 41 false, jI x1] [] w := jr_aload_n hm (i := 0) rfl rfl dX11_reedOf_0 (fg_X11_87 hm dX11_reedOf_1 (fg_X11_230 hm dX11_reedOf_4 (jr_iconst hm (v := 3) (by decide) dX11_reedOf_7 (jr_iload_n hm (i := 1) rfl rfl dX11_reedOf_8 (jr_imul hm dX11_reedOf_9 (jr_iconst hm (v := 2) (by decide) dX11_reedOf_10 (jr_iadd hm dX11_reedOf_11 (jr_iaload hm (ja_55 (w.2.2 41 8)) h1 dX11_reedOf_12 (jr_ireturn hm rfl dX11_reedOf_13 hp)))))))))
theorem dX11_need_0 : decode cX11_need 0 = .ok (.aload_n 0, 1) := by decide +kernel
theorem dX11_need_1 : decode cX11_need 1 = .ok (.iload_n 2, 1) := by decide +kernel
theorem dX11_need_2 : decode cX11_need 2 = .ok (.invokevirtual 278, 3) := by decide +kernel
theorem dX11_need_5 : decode cX11_need 5 = .ok (.iconst 2, 1) := by decide +kernel
theorem dX11_need_6 : decode cX11_need 6 = .ok (.idiv, 1) := by decide +kernel
theorem dX11_need_7 : decode cX11_need 7 = .ok (.aload_n 1, 1) := by decide +kernel
theorem dX11_need_8 : decode cX11_need 8 = .ok (.bipush 9, 2) := by decide +kernel
theorem dX11_need_10 : decode cX11_need 10 = .ok (.iload_n 2, 1) := by decide +kernel
theorem dX11_need_11 : decode cX11_need 11 = .ok (.iadd, 1) := by decide +kernel
theorem dX11_need_12 : decode cX11_need 12 = .ok (.iaload, 1) := by decide +kernel
theorem dX11_need_13 : decode cX11_need 13 = .ok (.iconst 1, 1) := by decide +kernel
theorem dX11_need_14 : decode cX11_need 14 = .ok (.aload_n 0, 1) := by decide +kernel
theorem dX11_need_15 : decode cX11_need 15 = .ok (.iload_n 2, 1) := by decide +kernel
theorem dX11_need_16 : decode cX11_need 16 = .ok (.invokevirtual 281, 3) := by decide +kernel
theorem dX11_need_19 : decode cX11_need 19 = .ok (.iadd, 1) := by decide +kernel
theorem dX11_need_20 : decode cX11_need 20 = .ok (.imul, 1) := by decide +kernel
theorem dX11_need_21 : decode cX11_need 21 = .ok (.iadd, 1) := by decide +kernel
theorem dX11_need_22 : decode cX11_need 22 = .ok (.ireturn, 1) := by decide +kernel
theorem bk_X11_need_0 {C : JC} {d cl sl : Nat} {Q : State → Prop} {w : JW} {k1 : Nat} {b1 : Bool} {x2 : Int32} {d2 : Nat} {r : Int32} {w2 : JW} (hm : jok C MX11_need d cl sl) (hs : jF MX11_lengthOf d2 [jR 41 false, jI x2] w (jI r) w2) (hd2 : d2 + 1 ≤ d) (k : jW C cl sl Q 5 [jR 41 false, jR k1 b1, jI x2] [jI r] w2) : jW C cl sl Q 0 [jR 41 false, jR k1 b1, jI x2] [] w := jr_aload_n hm (i := 0) rfl rfl dX11_need_0 (jr_iload_n hm (i := 2) rfl rfl dX11_need_1 (jr_callV (mc := 0) (ms := 0) hm hs hd2 jw_1668 jw_1670 jw_100 jw_125 jw_1671 jn_X11_lengthOf rfl jo_41 (fun _ _ _ _ _ => ⟨_, rfl⟩) rfl rfl (Nat.le_of_ble_eq_true rfl) rfl dX11_need_2 (jkF (jr_drop (jle_same (jle_same (jle_same jle_nil))) k))))
theorem bk_X11_need_5 {C : JC} {d cl sl : Nat} {Q : State → Prop} {w : JW} {k1 : Nat} {b1 : Bool} {x2 : Int32} {xs0 : Int32} {n1 : Nat} {d2 : Nat} {r : Int32} {w2 : JW} (hm : jok C MX11_need d cl sl) (hA1 : jIA k1 b1 n1) (h1 : vp_in (9 + x2) n1) (hs : jF MX11_reedOf d2 [jR 41 false, jI x2] w (jI r) w2) (hd2 : d2 + 1 ≤ d) (k : jW C cl sl Q 19 [jU, jU, jU] [jI r, jI 1, jI (w.1 k1 b1 (9 + x2).toNatClampNeg), jI (xs0 / 2)] w2) : jW C cl sl Q 5 [jR 41 false, jR k1 b1, jI x2] [jI xs0] w := jr_iconst hm (v := 2) (by decide) dX11_need_5 (jr_idiv hm (by decide) dX11_need_6 (jr_aload_n hm (i := 1) rfl rfl dX11_need_7 (jr_bipush hm (v := 9) (by decide) dX11_need_8 (jr_iload_n hm (i := 2) rfl rfl dX11_need_10 (jr_iadd hm dX11_need_11 (jr_iaload hm hA1 h1 dX11_need_12 (jr_iconst hm (v := 1) (by decide) dX11_need_13 (jr_aload_n hm (i := 0) rfl rfl dX11_need_14 (jr_iload_n hm (i := 2) rfl rfl dX11_need_15 (jr_callV (mc := 0) (ms := 0) hm hs hd2 jw_1672 jw_1674 jw_101 jw_125 jw_1675 jn_X11_reedOf rfl jo_41 (fun _ _ _ _ _ => ⟨_, rfl⟩) rfl rfl (Nat.le_of_ble_eq_true rfl) rfl dX11_need_16 (jkF (jr_drop (jle_drop (jle_drop (jle_drop jle_nil))) k))))))))))))
theorem bk_X11_need_19 {C : JC} {d cl sl : Nat} {w : JW} {xs0 : Int32} {xs1 : Int32} {xs2 : Int32} {xs3 : Int32} {P : JV → JW → Prop} (hm : jok C MX11_need d cl sl) (hp : P (jI (xs3 + (xs2 * (xs1 + xs0)))) w) : jW C cl sl (jQQ C cl sl P) 19 [jU, jU, jU] [jI xs0, jI xs1, jI xs2, jI xs3] w := jr_iadd hm dX11_need_19 (jr_imul hm dX11_need_20 (jr_iadd hm dX11_need_21 (jr_ireturn hm rfl dX11_need_22 hp)))
theorem dX11_isQuiet_0 : decode cX11_isQuiet 0 = .ok (.iload_n 1, 1) := by decide +kernel
theorem dX11_isQuiet_1 : decode cX11_isQuiet 1 = .ok (.bipush 24, 2) := by decide +kernel
theorem dX11_isQuiet_3 : decode cX11_isQuiet 3 = .ok (.irem, 1) := by decide +kernel
theorem dX11_isQuiet_4 : decode cX11_isQuiet 4 = .ok (.istore_n 2, 1) := by decide +kernel
theorem dX11_isQuiet_5 : decode cX11_isQuiet 5 = .ok (.iconst 0, 1) := by decide +kernel
theorem dX11_isQuiet_6 : decode cX11_isQuiet 6 = .ok (.istore_n 3, 1) := by decide +kernel
theorem dX11_isQuiet_7 : decode cX11_isQuiet 7 = .ok (.iconst 0, 1) := by decide +kernel
theorem dX11_isQuiet_8 : decode cX11_isQuiet 8 = .ok (.istore 4, 2) := by decide +kernel
theorem dX11_isQuiet_10 : decode cX11_isQuiet 10 = .ok (.iload 4, 2) := by decide +kernel
theorem dX11_isQuiet_12 : decode cX11_isQuiet 12 = .ok (.iconst 2, 1) := by decide +kernel
theorem dX11_isQuiet_13 : decode cX11_isQuiet 13 = .ok (.aload_n 0, 1) := by decide +kernel
theorem dX11_isQuiet_14 : decode cX11_isQuiet 14 = .ok (.getfield 87, 3) := by decide +kernel
theorem dX11_isQuiet_17 : decode cX11_isQuiet 17 = .ok (.getfield 239, 3) := by decide +kernel
theorem dX11_isQuiet_20 : decode cX11_isQuiet 20 = .ok (.imul, 1) := by decide +kernel
theorem dX11_isQuiet_21 : decode cX11_isQuiet 21 = .ok (.if_icmp .ge 89, 3) := by decide +kernel
theorem dX11_isQuiet_24 : decode cX11_isQuiet 24 = .ok (.aload_n 0, 1) := by decide +kernel
theorem dX11_isQuiet_25 : decode cX11_isQuiet 25 = .ok (.getfield 87, 3) := by decide +kernel
theorem dX11_isQuiet_28 : decode cX11_isQuiet 28 = .ok (.getfield 242, 3) := by decide +kernel
theorem dX11_isQuiet_31 : decode cX11_isQuiet 31 = .ok (.iload 4, 2) := by decide +kernel
theorem dX11_isQuiet_33 : decode cX11_isQuiet 33 = .ok (.iaload, 1) := by decide +kernel
theorem dX11_isQuiet_34 : decode cX11_isQuiet 34 = .ok (.istore 5, 2) := by decide +kernel
theorem dX11_isQuiet_36 : decode cX11_isQuiet 36 = .ok (.aload_n 0, 1) := by decide +kernel
theorem dX11_isQuiet_37 : decode cX11_isQuiet 37 = .ok (.getfield 87, 3) := by decide +kernel
theorem dX11_isQuiet_40 : decode cX11_isQuiet 40 = .ok (.getfield 242, 3) := by decide +kernel
theorem dX11_isQuiet_43 : decode cX11_isQuiet 43 = .ok (.iload 4, 2) := by decide +kernel
theorem dX11_isQuiet_45 : decode cX11_isQuiet 45 = .ok (.iconst 1, 1) := by decide +kernel
theorem dX11_isQuiet_46 : decode cX11_isQuiet 46 = .ok (.iadd, 1) := by decide +kernel
theorem dX11_isQuiet_47 : decode cX11_isQuiet 47 = .ok (.iaload, 1) := by decide +kernel
theorem dX11_isQuiet_48 : decode cX11_isQuiet 48 = .ok (.istore 6, 2) := by decide +kernel
theorem dX11_isQuiet_50 : decode cX11_isQuiet 50 = .ok (.iload_n 3, 1) := by decide +kernel
theorem dX11_isQuiet_51 : decode cX11_isQuiet 51 = .ok (.iload 5, 2) := by decide +kernel
theorem dX11_isQuiet_53 : decode cX11_isQuiet 53 = .ok (.iload 6, 2) := by decide +kernel
theorem dX11_isQuiet_55 : decode cX11_isQuiet 55 = .ok (.if_icmp .ge 23, 3) := by decide +kernel
theorem dX11_isQuiet_58 : decode cX11_isQuiet 58 = .ok (.iload_n 2, 1) := by decide +kernel
theorem dX11_isQuiet_59 : decode cX11_isQuiet 59 = .ok (.iload 5, 2) := by decide +kernel
theorem dX11_isQuiet_61 : decode cX11_isQuiet 61 = .ok (.if_icmp .lt 13, 3) := by decide +kernel
theorem dX11_isQuiet_64 : decode cX11_isQuiet 64 = .ok (.iload_n 2, 1) := by decide +kernel
theorem dX11_isQuiet_65 : decode cX11_isQuiet 65 = .ok (.iload 6, 2) := by decide +kernel
theorem dX11_isQuiet_67 : decode cX11_isQuiet 67 = .ok (.if_icmp .ge 7, 3) := by decide +kernel
theorem dX11_isQuiet_70 : decode cX11_isQuiet 70 = .ok (.iconst 1, 1) := by decide +kernel
theorem dX11_isQuiet_71 : decode cX11_isQuiet 71 = .ok (.goto 31, 3) := by decide +kernel
theorem dX11_isQuiet_74 : decode cX11_isQuiet 74 = .ok (.iconst 0, 1) := by decide +kernel
theorem dX11_isQuiet_75 : decode cX11_isQuiet 75 = .ok (.goto 27, 3) := by decide +kernel
theorem dX11_isQuiet_78 : decode cX11_isQuiet 78 = .ok (.iload 5, 2) := by decide +kernel
theorem dX11_isQuiet_80 : decode cX11_isQuiet 80 = .ok (.iload 6, 2) := by decide +kernel
theorem dX11_isQuiet_82 : decode cX11_isQuiet 82 = .ok (.if_icmp .eq 15, 3) := by decide +kernel
theorem dX11_isQuiet_85 : decode cX11_isQuiet 85 = .ok (.iload_n 2, 1) := by decide +kernel
theorem dX11_isQuiet_86 : decode cX11_isQuiet 86 = .ok (.iload 5, 2) := by decide +kernel
theorem dX11_isQuiet_88 : decode cX11_isQuiet 88 = .ok (.if_icmp .ge 9, 3) := by decide +kernel
theorem dX11_isQuiet_91 : decode cX11_isQuiet 91 = .ok (.iload_n 2, 1) := by decide +kernel
theorem dX11_isQuiet_92 : decode cX11_isQuiet 92 = .ok (.iload 6, 2) := by decide +kernel
theorem dX11_isQuiet_94 : decode cX11_isQuiet 94 = .ok (.if_icmp .ge 7, 3) := by decide +kernel
theorem dX11_isQuiet_97 : decode cX11_isQuiet 97 = .ok (.iconst 1, 1) := by decide +kernel
theorem dX11_isQuiet_98 : decode cX11_isQuiet 98 = .ok (.goto 4, 3) := by decide +kernel
theorem dX11_isQuiet_101 : decode cX11_isQuiet 101 = .ok (.iconst 0, 1) := by decide +kernel
theorem dX11_isQuiet_102 : decode cX11_isQuiet 102 = .ok (.ior, 1) := by decide +kernel
theorem dX11_isQuiet_103 : decode cX11_isQuiet 103 = .ok (.istore_n 3, 1) := by decide +kernel
theorem dX11_isQuiet_104 : decode cX11_isQuiet 104 = .ok (.iinc 4 2, 3) := by decide +kernel
theorem dX11_isQuiet_107 : decode cX11_isQuiet 107 = .ok (.goto (-97), 3) := by decide +kernel
theorem dX11_isQuiet_110 : decode cX11_isQuiet 110 = .ok (.iload_n 3, 1) := by decide +kernel
theorem dX11_isQuiet_111 : decode cX11_isQuiet 111 = .ok (.ireturn, 1) := by decide +kernel
theorem bk_X11_isQuiet_0 {C : JC} {d cl sl : Nat} {Q : State → Prop} {w : JW} {x1 : Int32} (hm : jok C MX11_isQuiet d cl sl) (k : jW C cl sl Q 10 [jR 41 false, jU, jI (x1 - x1 / 24 * 24), jI 0, jI 0, jU, jU] [] w) : jW C cl sl Q 0 [jR 41 false, jI x1, jU, jU, jU, jU, jU] [] w := jr_iload_n hm (i := 1) rfl rfl dX11_isQuiet_0 (jr_bipush hm (v := 24) (by decide) dX11_isQuiet_1 (jr_irem hm (by decide) dX11_isQuiet_3 (jr_istore_n hm (i := 2) rfl (Nat.le_of_ble_eq_true rfl) rfl dX11_isQuiet_4 (jr_iconst hm (v := 0) (by decide) dX11_isQuiet_5 (jr_istore_n hm (i := 3) rfl (Nat.le_of_ble_eq_true rfl) rfl dX11_isQuiet_6 (jr_iconst hm (v := 0) (by decide) dX11_isQuiet_7 (jr_istore hm (i := 4) (Nat.le_of_ble_eq_true rfl) rfl dX11_isQuiet_8 (jr_drop (jle_same (jle_drop (jle_same (jle_same (jle_same (jle_same (jle_same jle_nil))))))) k))))))))
theorem bk_X11_isQuiet_10 {C : JC} {d cl sl : Nat} {Q : State → Prop} {w : JW} {x2 : Int32} {x3 : Int32} {x4 : Int32} (hm : jok C MX11_isQuiet d cl sl) (kt : 2 * (w.1 53 (w.2.2 41 8) 3) ≤ x4 → jW C cl sl Q 110 [jU, jU, jU, jI x3, jU, jU, jU] [] w) (kf : ¬ 2 * (w.1 53 (w.2.2 41 8) 3) ≤ x4 → jW C cl sl Q 24 [jR 41 false, jU, jI x2, jI x3, jI x4, jU, jU] [] w) : jW C cl sl Q 10 [jR 41 false, jU, jI x2, jI x3, jI x4, jU, jU] [] w := jr_iload hm (i := 4) rfl dX11_isQuiet_10 (jr_iconst hm (v := 2) (by decide) dX11_isQuiet_12 (jr_aload_n hm (i := 0) rfl rfl dX11_isQuiet_13 (fg_X11_87 hm dX11_isQuiet_14 (fg_X11_239 hm dX11_isQuiet_17 (jr_imul hm dX11_isQuiet_20 (jr_icmp_ge hm dX11_isQuiet_21 (by decide) (fun h => jr_drop (jle_drop (jle_same (jle_drop (jle_same (jle_drop (jle_same (jle_same jle_nil))))))) (kt h)) (fun h => jr_drop (jle_same (jle_same (jle_same (jle_same (jle_same (jle_same (jle_same jle_nil))))))) (kf h))))))))
theorem bk_X11_isQuiet_24 {C : JC} {d cl sl : Nat} {Q : State → Prop} {w : JW} {x2 : Int32} {x3 : Int32} {x4 : Int32} (hm : jok C MX11_isQuiet d cl sl) (h1 : vp_in x4 6) (h2 : vp_in (x4 + 1) 6) (kt : (w.1 57 (w.2.2 41 8) (x4 + 1).toNatClampNeg) ≤ (w.1 57 (w.2.2 41 8) x4.toNatClampNeg) → jW C cl sl Q 78 [jR 41 false, jU, jI x2, jU, jI x4, jI (w.1 57 (w.2.2 41 8) x4.toNatClampNeg), jI (w.1 57 (w.2.2 41 8) (x4 + 1).toNatClampNeg)] [jI x3] w) (kf : ¬ (w.1 57 (w.2.2 41 8) (x4 + 1).toNatClampNeg) ≤ (w.1 57 (w.2.2 41 8) x4.toNatClampNeg) → jW C cl sl Q 58 [jR 41 false, jU, jI x2, jU, jI x4, jI (w.1 57 (w.2.2 41 8) x4.toNatClampNeg), jI (w.1 57 (w.2.2 41 8) (x4 + 1).toNatClampNeg)] [jI x3] w) : jW C cl sl Q 24 [jR 41 false, jU, jI x2, jI x3, jI x4, jU, jU] [] w := jr_aload_n hm (i := 0) rfl rfl dX11_isQuiet_24 (fg_X11_87 hm dX11_isQuiet_25 (fg_X11_242 hm dX11_isQuiet_28 (jr_iload hm (i := 4) rfl dX11_isQuiet_31 (jr_iaload hm (ja_57 (w.2.2 41 8)) h1 dX11_isQuiet_33 (jr_istore hm (i := 5) (Nat.le_of_ble_eq_true rfl) rfl dX11_isQuiet_34 (jr_aload_n hm (i := 0) rfl rfl dX11_isQuiet_36 (fg_X11_87 hm dX11_isQuiet_37 (fg_X11_242 hm dX11_isQuiet_40 (jr_iload hm (i := 4) rfl dX11_isQuiet_43 (jr_iconst hm (v := 1) (by decide) dX11_isQuiet_45 (jr_iadd hm dX11_isQuiet_46 (jr_iaload hm (ja_57 (w.2.2 41 8)) h2 dX11_isQuiet_47 (jr_istore hm (i := 6) (Nat.le_of_ble_eq_true rfl) rfl dX11_isQuiet_48 (jr_iload_n hm (i := 3) rfl rfl dX11_isQuiet_50 (jr_iload hm (i := 5) rfl dX11_isQuiet_51 (jr_iload hm (i := 6) rfl dX11_isQuiet_53 (jr_icmp_ge hm dX11_isQuiet_55 (by decide) (fun h => jr_drop (jle_same (jle_same (jle_same (jle_drop (jle_same (jle_same (jle_same jle_nil))))))) (kt h)) (fun h => jr_drop (jle_same (jle_same (jle_same (jle_drop (jle_same (jle_same (jle_same jle_nil))))))) (kf h)))))))))))))))))))
theorem bk_X11_isQuiet_58 {C : JC} {d cl sl : Nat} {Q : State → Prop} {w : JW} {x2 : Int32} {x4 : Int32} {x5 : Int32} {x6 : Int32} {xs0 : Int32} (hm : jok C MX11_isQuiet d cl sl) (kt : x2 < x5 → jW C cl sl Q 74 [jR 41 false, jU, jI x2, jU, jI x4, jU, jU] [jI xs0] w) (kf : ¬ x2 < x5 → jW C cl sl Q 64 [jR 41 false, jU, jI x2, jU, jI x4, jU, jI x6] [jI xs0] w) : jW C cl sl Q 58 [jR 41 false, jU, jI x2, jU, jI x4, jI x5, jI x6] [jI xs0] w := jr_iload_n hm (i := 2) rfl rfl dX11_isQuiet_58 (jr_iload hm (i := 5) rfl dX11_isQuiet_59 (jr_icmp_lt hm dX11_isQuiet_61 (by decide) (fun h => jr_drop (jle_same (jle_same (jle_same (jle_same (jle_same (jle_drop (jle_drop jle_nil))))))) (kt h)) (fun h => jr_drop (jle_same (jle_same (jle_same (jle_same (jle_same (jle_drop (jle_same jle_nil))))))) (kf h))))
theorem bk_X11_isQuiet_64 {C : JC} {d cl sl : Nat} {Q : State → Prop} {w : JW} {x2 : Int32} {x4 : Int32} {x6 : Int32} {xs0 : Int32} (hm : jok C MX11_isQuiet d cl sl) (kt : x6 ≤ x2 → jW C cl sl Q 74 [jR 41 false, jU, jI x2, jU, jI x4, jU, jU] [jI xs0] w) (kf : ¬ x6 ≤ x2 → jW C cl sl Q 70 [jR 41 false, jU, jI x2, jU, jI x4, jU, jU] [jI xs0] w) : jW C cl sl Q 64 [jR 41 false, jU, jI x2, jU, jI x4, jU, jI x6] [jI xs0] w := jr_iload_n hm (i := 2) rfl rfl dX11_isQuiet_64 (jr_iload hm (i := 6) rfl dX11_isQuiet_65 (jr_icmp_ge hm dX11_isQuiet_67 (by decide) (fun h => jr_drop (jle_same (jle_same (jle_same (jle_same (jle_same (jle_same (jle_drop jle_nil))))))) (kt h)) (fun h => jr_drop (jle_same (jle_same (jle_same (jle_same (jle_same (jle_same (jle_drop jle_nil))))))) (kf h))))
theorem bk_X11_isQuiet_70 {C : JC} {d cl sl : Nat} {Q : State → Prop} {w : JW} {x2 : Int32} {x4 : Int32} {xs0 : Int32} (hm : jok C MX11_isQuiet d cl sl) (k : jW C cl sl Q 102 [jR 41 false, jU, jI x2, jU, jI x4, jU, jU] [jI 1, jI xs0] w) : jW C cl sl Q 70 [jR 41 false, jU, jI x2, jU, jI x4, jU, jU] [jI xs0] w := jr_iconst hm (v := 1) (by decide) dX11_isQuiet_70 (jr_goto hm dX11_isQuiet_71 (by decide) (jr_drop (jle_same (jle_same (jle_same (jle_same (jle_same (jle_same (jle_same jle_nil))))))) k))
theorem bk_X11_isQuiet_74 {C : JC} {d cl sl : Nat} {Q : State → Prop} {w : JW} {x2 : Int32} {x4 : Int32} {xs0 : Int32} (hm : jok C MX11_isQuiet d cl sl) (k : jW C cl sl Q 102 [jR 41 false, jU, jI x2, jU, jI x4, jU, jU] [jI 0, jI xs0] w) : jW C cl sl Q 74 [jR 41 false, jU, jI x2, jU, jI x4, jU, jU] [jI xs0] w := jr_iconst hm (v := 0) (by decide) dX11_isQuiet_74 (jr_goto hm dX11_isQuiet_75 (by decide) (jr_drop (jle_same (jle_same (jle_same (jle_same (jle_same (jle_same (jle_same jle_nil))))))) k))
theorem bk_X11_isQuiet_78 {C : JC} {d cl sl : Nat} {Q : State → Prop} {w : JW} {x2 : Int32} {x4 : Int32} {x5 : Int32} {x6 : Int32} {xs0 : Int32} (hm : jok C MX11_isQuiet d cl sl) (kt : x5 = x6 → jW C cl sl Q 97 [jR 41 false, jU, jI x2, jU, jI x4, jU, jU] [jI xs0] w) (kf : ¬ x5 = x6 → jW C cl sl Q 85 [jR 41 false, jU, jI x2, jU, jI x4, jI x5, jI x6] [jI xs0] w) : jW C cl sl Q 78 [jR 41 false, jU, jI x2, jU, jI x4, jI x5, jI x6] [jI xs0] w := jr_iload hm (i := 5) rfl dX11_isQuiet_78 (jr_iload hm (i := 6) rfl dX11_isQuiet_80 (jr_icmp_eq hm dX11_isQuiet_82 (by decide) (fun h => jr_drop (jle_same (jle_same (jle_same (jle_same (jle_same (jle_drop (jle_drop jle_nil))))))) (kt h)) (fun h => jr_drop (jle_same (jle_same (jle_same (jle_same (jle_same (jle_same (jle_same jle_nil))))))) (kf h))))
theorem bk_X11_isQuiet_85 {C : JC} {d cl sl : Nat} {Q : State → Prop} {w : JW} {x2 : Int32} {x4 : Int32} {x5 : Int32} {x6 : Int32} {xs0 : Int32} (hm : jok C MX11_isQuiet d cl sl) (kt : x5 ≤ x2 → jW C cl sl Q 97 [jR 41 false, jU, jI x2, jU, jI x4, jU, jU] [jI xs0] w) (kf : ¬ x5 ≤ x2 → jW C cl sl Q 91 [jR 41 false, jU, jI x2, jU, jI x4, jU, jI x6] [jI xs0] w) : jW C cl sl Q 85 [jR 41 false, jU, jI x2, jU, jI x4, jI x5, jI x6] [jI xs0] w := jr_iload_n hm (i := 2) rfl rfl dX11_isQuiet_85 (jr_iload hm (i := 5) rfl dX11_isQuiet_86 (jr_icmp_ge hm dX11_isQuiet_88 (by decide) (fun h => jr_drop (jle_same (jle_same (jle_same (jle_same (jle_same (jle_drop (jle_drop jle_nil))))))) (kt h)) (fun h => jr_drop (jle_same (jle_same (jle_same (jle_same (jle_same (jle_drop (jle_same jle_nil))))))) (kf h))))
theorem bk_X11_isQuiet_91 {C : JC} {d cl sl : Nat} {Q : State → Prop} {w : JW} {x2 : Int32} {x4 : Int32} {x6 : Int32} {xs0 : Int32} (hm : jok C MX11_isQuiet d cl sl) (kt : x6 ≤ x2 → jW C cl sl Q 101 [jR 41 false, jU, jI x2, jU, jI x4, jU, jU] [jI xs0] w) (kf : ¬ x6 ≤ x2 → jW C cl sl Q 97 [jR 41 false, jU, jI x2, jU, jI x4, jU, jU] [jI xs0] w) : jW C cl sl Q 91 [jR 41 false, jU, jI x2, jU, jI x4, jU, jI x6] [jI xs0] w := jr_iload_n hm (i := 2) rfl rfl dX11_isQuiet_91 (jr_iload hm (i := 6) rfl dX11_isQuiet_92 (jr_icmp_ge hm dX11_isQuiet_94 (by decide) (fun h => jr_drop (jle_same (jle_same (jle_same (jle_same (jle_same (jle_same (jle_drop jle_nil))))))) (kt h)) (fun h => jr_drop (jle_same (jle_same (jle_same (jle_same (jle_same (jle_same (jle_drop jle_nil))))))) (kf h))))
theorem bk_X11_isQuiet_97 {C : JC} {d cl sl : Nat} {Q : State → Prop} {w : JW} {x2 : Int32} {x4 : Int32} {xs0 : Int32} (hm : jok C MX11_isQuiet d cl sl) (k : jW C cl sl Q 102 [jR 41 false, jU, jI x2, jU, jI x4, jU, jU] [jI 1, jI xs0] w) : jW C cl sl Q 97 [jR 41 false, jU, jI x2, jU, jI x4, jU, jU] [jI xs0] w := jr_iconst hm (v := 1) (by decide) dX11_isQuiet_97 (jr_goto hm dX11_isQuiet_98 (by decide) (jr_drop (jle_same (jle_same (jle_same (jle_same (jle_same (jle_same (jle_same jle_nil))))))) k))
theorem bk_X11_isQuiet_101 {C : JC} {d cl sl : Nat} {Q : State → Prop} {w : JW} {x2 : Int32} {x4 : Int32} {xs0 : Int32} (hm : jok C MX11_isQuiet d cl sl) (k : jW C cl sl Q 102 [jR 41 false, jU, jI x2, jU, jI x4, jU, jU] [jI 0, jI xs0] w) : jW C cl sl Q 101 [jR 41 false, jU, jI x2, jU, jI x4, jU, jU] [jI xs0] w := jr_iconst hm (v := 0) (by decide) dX11_isQuiet_101 (jr_drop (jle_same (jle_same (jle_same (jle_same (jle_same (jle_same (jle_same jle_nil))))))) k)
theorem bk_X11_isQuiet_102 {C : JC} {d cl sl : Nat} {Q : State → Prop} {w : JW} {x2 : Int32} {x4 : Int32} {xs0 : Int32} {xs1 : Int32} (hm : jok C MX11_isQuiet d cl sl) (k : jW C cl sl Q 10 [jR 41 false, jU, jI x2, jI (xs1 ||| xs0), jI (x4 + 2), jU, jU] [] w) : jW C cl sl Q 102 [jR 41 false, jU, jI x2, jU, jI x4, jU, jU] [jI xs0, jI xs1] w := jr_ior hm dX11_isQuiet_102 (jr_istore_n hm (i := 3) rfl (Nat.le_of_ble_eq_true rfl) rfl dX11_isQuiet_103 (jr_iinc hm (i := 4) (v := x4 + 2) rfl rfl rfl dX11_isQuiet_104 (jr_goto hm dX11_isQuiet_107 (by decide) (jr_drop (jle_same (jle_same (jle_same (jle_same (jle_same (jle_same (jle_same jle_nil))))))) k))))
theorem bk_X11_isQuiet_110 {C : JC} {d cl sl : Nat} {w : JW} {x3 : Int32} {P : JV → JW → Prop} (hm : jok C MX11_isQuiet d cl sl) (hz : narrow .boolean (.int x3) = .int x3) (hp : P (jI x3) w) : jW C cl sl (jQQ C cl sl P) 110 [jU, jU, jU, jI x3, jU, jU, jU] [] w := jr_iload_n hm (i := 3) rfl rfl dX11_isQuiet_110 (jr_zreturn hm rfl hz dX11_isQuiet_111 hp)
theorem dX11_heightOf_0 : decode cX11_heightOf 0 = .ok (.iconst 2, 1) := by decide +kernel
theorem dX11_heightOf_1 : decode cX11_heightOf 1 = .ok (.iload_n 2, 1) := by decide +kernel
theorem dX11_heightOf_2 : decode cX11_heightOf 2 = .ok (.imul, 1) := by decide +kernel
theorem dX11_heightOf_3 : decode cX11_heightOf 3 = .ok (.istore_n 3, 1) := by decide +kernel
theorem dX11_heightOf_4 : decode cX11_heightOf 4 = .ok (.iconst 0, 1) := by decide +kernel
theorem dX11_heightOf_5 : decode cX11_heightOf 5 = .ok (.istore 4, 2) := by decide +kernel
theorem dX11_heightOf_7 : decode cX11_heightOf 7 = .ok (.iload 4, 2) := by decide +kernel
theorem dX11_heightOf_9 : decode cX11_heightOf 9 = .ok (.iconst 3, 1) := by decide +kernel
theorem dX11_heightOf_10 : decode cX11_heightOf 10 = .ok (.aload_n 0, 1) := by decide +kernel
theorem dX11_heightOf_11 : decode cX11_heightOf 11 = .ok (.getfield 87, 3) := by decide +kernel
theorem dX11_heightOf_14 : decode cX11_heightOf 14 = .ok (.getfield 233, 3) := by decide +kernel
theorem dX11_heightOf_17 : decode cX11_heightOf 17 = .ok (.imul, 1) := by decide +kernel
theorem dX11_heightOf_18 : decode cX11_heightOf 18 = .ok (.if_icmp .ge 61, 3) := by decide +kernel
theorem dX11_heightOf_21 : decode cX11_heightOf 21 = .ok (.iload_n 1, 1) := by decide +kernel
theorem dX11_heightOf_22 : decode cX11_heightOf 22 = .ok (.aload_n 0, 1) := by decide +kernel
theorem dX11_heightOf_23 : decode cX11_heightOf 23 = .ok (.getfield 87, 3) := by decide +kernel
theorem dX11_heightOf_26 : decode cX11_heightOf 26 = .ok (.getfield 236, 3) := by decide +kernel
theorem dX11_heightOf_29 : decode cX11_heightOf 29 = .ok (.iload 4, 2) := by decide +kernel
theorem dX11_heightOf_31 : decode cX11_heightOf 31 = .ok (.iconst 2, 1) := by decide +kernel
theorem dX11_heightOf_32 : decode cX11_heightOf 32 = .ok (.iadd, 1) := by decide +kernel
theorem dX11_heightOf_33 : decode cX11_heightOf 33 = .ok (.iaload, 1) := by decide +kernel
theorem dX11_heightOf_34 : decode cX11_heightOf 34 = .ok (.isub, 1) := by decide +kernel
theorem dX11_heightOf_35 : decode cX11_heightOf 35 = .ok (.istore 5, 2) := by decide +kernel
theorem dX11_heightOf_37 : decode cX11_heightOf 37 = .ok (.iload 5, 2) := by decide +kernel
theorem dX11_heightOf_39 : decode cX11_heightOf 39 = .ok (.ifCond .lt 34, 3) := by decide +kernel
theorem dX11_heightOf_42 : decode cX11_heightOf 42 = .ok (.iload 5, 2) := by decide +kernel
theorem dX11_heightOf_44 : decode cX11_heightOf 44 = .ok (.aload_n 0, 1) := by decide +kernel
theorem dX11_heightOf_45 : decode cX11_heightOf 45 = .ok (.getfield 87, 3) := by decide +kernel
theorem dX11_heightOf_48 : decode cX11_heightOf 48 = .ok (.getfield 236, 3) := by decide +kernel
theorem dX11_heightOf_51 : decode cX11_heightOf 51 = .ok (.iload 4, 2) := by decide +kernel
theorem dX11_heightOf_53 : decode cX11_heightOf 53 = .ok (.iconst 1, 1) := by decide +kernel
theorem dX11_heightOf_54 : decode cX11_heightOf 54 = .ok (.iadd, 1) := by decide +kernel
theorem dX11_heightOf_55 : decode cX11_heightOf 55 = .ok (.iaload, 1) := by decide +kernel
theorem dX11_heightOf_56 : decode cX11_heightOf 56 = .ok (.irem, 1) := by decide +kernel
theorem dX11_heightOf_57 : decode cX11_heightOf 57 = .ok (.ifCond .ne 16, 3) := by decide +kernel
theorem dX11_heightOf_60 : decode cX11_heightOf 60 = .ok (.iload_n 3, 1) := by decide +kernel
theorem dX11_heightOf_61 : decode cX11_heightOf 61 = .ok (.aload_n 0, 1) := by decide +kernel
theorem dX11_heightOf_62 : decode cX11_heightOf 62 = .ok (.getfield 87, 3) := by decide +kernel
theorem dX11_heightOf_65 : decode cX11_heightOf 65 = .ok (.getfield 236, 3) := by decide +kernel
theorem dX11_heightOf_68 : decode cX11_heightOf 68 = .ok (.iload 4, 2) := by decide +kernel
theorem dX11_heightOf_70 : decode cX11_heightOf 70 = .ok (.iaload, 1) := by decide +kernel
theorem dX11_heightOf_71 : decode cX11_heightOf 71 = .ok (.iadd, 1) := by decide +kernel
theorem dX11_heightOf_72 : decode cX11_heightOf 72 = .ok (.istore_n 3, 1) := by decide +kernel
theorem dX11_heightOf_73 : decode cX11_heightOf 73 = .ok (.iinc 4 3, 3) := by decide +kernel
theorem dX11_heightOf_76 : decode cX11_heightOf 76 = .ok (.goto (-69), 3) := by decide +kernel
theorem dX11_heightOf_79 : decode cX11_heightOf 79 = .ok (.iload_n 3, 1) := by decide +kernel
theorem dX11_heightOf_80 : decode cX11_heightOf 80 = .ok (.ireturn, 1) := by decide +kernel
theorem bk_X11_heightOf_0 {C : JC} {d cl sl : Nat} {Q : State → Prop} {w : JW} {x1 : Int32} {x2 : Int32} (hm : jok C MX11_heightOf d cl sl) (k : jW C cl sl Q 7 [jR 41 false, jI x1, jU, jI (2 * x2), jI 0, jU] [] w) : jW C cl sl Q 0 [jR 41 false, jI x1, jI x2, jU, jU, jU] [] w := jr_iconst hm (v := 2) (by decide) dX11_heightOf_0 (jr_iload_n hm (i := 2) rfl rfl dX11_heightOf_1 (jr_imul hm dX11_heightOf_2 (jr_istore_n hm (i := 3) rfl (Nat.le_of_ble_eq_true rfl) rfl dX11_heightOf_3 (jr_iconst hm (v := 0) (by decide) dX11_heightOf_4 (jr_istore hm (i := 4) (Nat.le_of_ble_eq_true rfl) rfl dX11_heightOf_5 (jr_drop (jle_same (jle_same (jle_drop (jle_same (jle_same (jle_same jle_nil)))))) k))))))
theorem bk_X11_heightOf_7 {C : JC} {d cl sl : Nat} {Q : State → Prop} {w : JW} {x1 : Int32} {x3 : Int32} {x4 : Int32} (hm : jok C MX11_heightOf d cl sl) (kt : 3 * (w.1 53 (w.2.2 41 8) 2) ≤ x4 → jW C cl sl Q 79 [jU, jU, jU, jI x3, jU, jU] [] w) (kf : ¬ 3 * (w.1 53 (w.2.2 41 8) 2) ≤ x4 → jW C cl sl Q 21 [jR 41 false, jI x1, jU, jI x3, jI x4, jU] [] w) : jW C cl sl Q 7 [jR 41 false, jI x1, jU, jI x3, jI x4, jU] [] w := jr_iload hm (i := 4) rfl dX11_heightOf_7 (jr_iconst hm (v := 3) (by decide) dX11_heightOf_9 (jr_aload_n hm (i := 0) rfl rfl dX11_heightOf_10 (fg_X11_87 hm dX11_heightOf_11 (fg_X11_233 hm dX11_heightOf_14 (jr_imul hm dX11_heightOf_17 (jr_icmp_ge hm dX11_heightOf_18 (by decide) (fun h => jr_drop (jle_drop (jle_drop (jle_same (jle_same (jle_drop (jle_same jle_nil)))))) (kt h)) (fun h => jr_drop (jle_same (jle_same (jle_same (jle_same (jle_same (jle_same jle_nil)))))) (kf h))))))))
theorem bk_X11_heightOf_21 {C : JC} {d cl sl : Nat} {Q : State → Prop} {w : JW} {x1 : Int32} {x3 : Int32} {x4 : Int32} (hm : jok C MX11_heightOf d cl sl) (h1 : vp_in (x4 + 2) 15) (kt : x1 - (w.1 56 (w.2.2 41 8) (x4 + 2).toNatClampNeg) < 0 → jW C cl sl Q 73 [jR 41 false, jI x1, jU, jI x3, jI x4, jU] [] w) (kf : ¬ x1 - (w.1 56 (w.2.2 41 8) (x4 + 2).toNatClampNeg) < 0 → jW C cl sl Q 42 [jR 41 false, jI x1, jU, jI x3, jI x4, jI (x1 - (w.1 56 (w.2.2 41 8) (x4 + 2).toNatClampNeg))] [] w) : jW C cl sl Q 21 [jR 41 false, jI x1, jU, jI x3, jI x4, jU] [] w := jr_iload_n hm (i := 1) rfl rfl dX11_heightOf_21 (jr_aload_n hm (i := 0) rfl rfl dX11_heightOf_22 (fg_X11_87 hm dX11_heightOf_23 (fg_X11_236 hm dX11_heightOf_26 (jr_iload hm (i := 4) rfl dX11_heightOf_29 (jr_iconst hm (v := 2) (by decide) dX11_heightOf_31 (jr_iadd hm dX11_heightOf_32 (jr_iaload hm (ja_56 (w.2.2 41 8)) h1 dX11_heightOf_33 (jr_isub hm dX11_heightOf_34 (jr_istore hm (i := 5) (Nat.le_of_ble_eq_true rfl) rfl dX11_heightOf_35 (jr_iload hm (i := 5) rfl dX11_heightOf_37 (jr_if_lt hm dX11_heightOf_39 (by decide) (fun h => jr_drop (jle_same (jle_same (jle_same (jle_same (jle_same (jle_drop jle_nil)))))) (kt h)) (fun h => jr_drop (jle_same (jle_same (jle_same (jle_same (jle_same (jle_same jle_nil)))))) (kf h)))))))))))))
theorem bk_X11_heightOf_42 {C : JC} {d cl sl : Nat} {Q : State → Prop} {w : JW} {x1 : Int32} {x3 : Int32} {x4 : Int32} {x5 : Int32} (hm : jok C MX11_heightOf d cl sl) (h1 : vp_in (x4 + 1) 15) (h2 : ¬ (w.1 56 (w.2.2 41 8) (x4 + 1).toNatClampNeg) = 0) (kt : ¬ x5 - x5 / (w.1 56 (w.2.2 41 8) (x4 + 1).toNatClampNeg) * (w.1 56 (w.2.2 41 8) (x4 + 1).toNatClampNeg) = 0 → jW C cl sl Q 73 [jR 41 false, jI x1, jU, jI x3, jI x4, jU] [] w) (kf : x5 - x5 / (w.1 56 (w.2.2 41 8) (x4 + 1).toNatClampNeg) * (w.1 56 (w.2.2 41 8) (x4 + 1).toNatClampNeg) = 0 → jW C cl sl Q 60 [jR 41 false, jI x1, jU, jI x3, jI x4, jU] [] w) : jW C cl sl Q 42 [jR 41 false, jI x1, jU, jI x3, jI x4, jI x5] [] w := jr_iload hm (i := 5) rfl dX11_heightOf_42 (jr_aload_n hm (i := 0) rfl rfl dX11_heightOf_44 (fg_X11_87 hm dX11_heightOf_45 (fg_X11_236 hm dX11_heightOf_48 (jr_iload hm (i := 4) rfl dX11_heightOf_51 (jr_iconst hm (v := 1) (by decide) dX11_heightOf_53 (jr_iadd hm dX11_heightOf_54 (jr_iaload hm (ja_56 (w.2.2 41 8)) h1 dX11_heightOf_55 (jr_irem hm h2 dX11_heightOf_56 (jr_if_ne hm dX11_heightOf_57 (by decide) (fun h => jr_drop (jle_same (jle_same (jle_same (jle_same (jle_same (jle_drop jle_nil)))))) (kt h)) (fun h => jr_drop (jle_same (jle_same (jle_same (jle_same (jle_same (jle_drop jle_nil)))))) (kf h)))))))))))
theorem bk_X11_heightOf_60 {C : JC} {d cl sl : Nat} {Q : State → Prop} {w : JW} {x1 : Int32} {x3 : Int32} {x4 : Int32} (hm : jok C MX11_heightOf d cl sl) (h1 : vp_in x4 15) (k : jW C cl sl Q 73 [jR 41 false, jI x1, jU, jI (x3 + (w.1 56 (w.2.2 41 8) x4.toNatClampNeg)), jI x4, jU] [] w) : jW C cl sl Q 60 [jR 41 false, jI x1, jU, jI x3, jI x4, jU] [] w := jr_iload_n hm (i := 3) rfl rfl dX11_heightOf_60 (jr_aload_n hm (i := 0) rfl rfl dX11_heightOf_61 (fg_X11_87 hm dX11_heightOf_62 (fg_X11_236 hm dX11_heightOf_65 (jr_iload hm (i := 4) rfl dX11_heightOf_68 (jr_iaload hm (ja_56 (w.2.2 41 8)) h1 dX11_heightOf_70 (jr_iadd hm dX11_heightOf_71 (jr_istore_n hm (i := 3) rfl (Nat.le_of_ble_eq_true rfl) rfl dX11_heightOf_72 (jr_drop (jle_same (jle_same (jle_same (jle_same (jle_same (jle_same jle_nil)))))) k))))))))
theorem bk_X11_heightOf_73 {C : JC} {d cl sl : Nat} {Q : State → Prop} {w : JW} {x1 : Int32} {x3 : Int32} {x4 : Int32} (hm : jok C MX11_heightOf d cl sl) (k : jW C cl sl Q 7 [jR 41 false, jI x1, jU, jI x3, jI (x4 + 3), jU] [] w) : jW C cl sl Q 73 [jR 41 false, jI x1, jU, jI x3, jI x4, jU] [] w := jr_iinc hm (i := 4) (v := x4 + 3) rfl rfl rfl dX11_heightOf_73 (jr_goto hm dX11_heightOf_76 (by decide) (jr_drop (jle_same (jle_same (jle_same (jle_same (jle_same (jle_same jle_nil)))))) k))
theorem bk_X11_heightOf_79 {C : JC} {d cl sl : Nat} {w : JW} {x3 : Int32} {P : JV → JW → Prop} (hm : jok C MX11_heightOf d cl sl) (hp : P (jI x3) w) : jW C cl sl (jQQ C cl sl P) 79 [jU, jU, jU, jI x3, jU, jU] [] w := jr_iload_n hm (i := 3) rfl rfl dX11_heightOf_79 (jr_ireturn hm rfl dX11_heightOf_80 hp)
theorem dX11_reckon_0 : decode cX11_reckon 0 = .ok (.aload_n 0, 1) := by decide +kernel
theorem dX11_reckon_1 : decode cX11_reckon 1 = .ok (.getfield 87, 3) := by decide +kernel
theorem dX11_reckon_4 : decode cX11_reckon 4 = .ok (.getfield 284, 3) := by decide +kernel
theorem dX11_reckon_7 : decode cX11_reckon 7 = .ok (.iload_n 1, 1) := by decide +kernel
theorem dX11_reckon_8 : decode cX11_reckon 8 = .ok (.iaload, 1) := by decide +kernel
theorem dX11_reckon_9 : decode cX11_reckon 9 = .ok (.istore_n 3, 1) := by decide +kernel
theorem dX11_reckon_10 : decode cX11_reckon 10 = .ok (.aload_n 0, 1) := by decide +kernel
theorem dX11_reckon_11 : decode cX11_reckon 11 = .ok (.getfield 87, 3) := by decide +kernel
theorem dX11_reckon_14 : decode cX11_reckon 14 = .ok (.getfield 286, 3) := by decide +kernel
theorem dX11_reckon_17 : decode cX11_reckon 17 = .ok (.iload_n 1, 1) := by decide +kernel
theorem dX11_reckon_18 : decode cX11_reckon 18 = .ok (.iaload, 1) := by decide +kernel
theorem dX11_reckon_19 : decode cX11_reckon 19 = .ok (.istore 4, 2) := by decide +kernel
theorem dX11_reckon_21 : decode cX11_reckon 21 = .ok (.aload_n 0, 1) := by decide +kernel
theorem dX11_reckon_22 : decode cX11_reckon 22 = .ok (.getfield 87, 3) := by decide +kernel
theorem dX11_reckon_25 : decode cX11_reckon 25 = .ok (.getfield 289, 3) := by decide +kernel
theorem dX11_reckon_28 : decode cX11_reckon 28 = .ok (.iload_n 1, 1) := by decide +kernel
theorem dX11_reckon_29 : decode cX11_reckon 29 = .ok (.iaload, 1) := by decide +kernel
theorem dX11_reckon_30 : decode cX11_reckon 30 = .ok (.lookupswitch 240 #[(18, 116), (19, 123), (20, 131), (21, 137), (22, 144), (23, 127), (28, 159), (29, 176), (35, 114), (42, 193), (45, 225), (47, 208), (110, 151)], 114) := by decide +kernel
theorem dX11_reckon_144 : decode cX11_reckon 144 = .ok (.iload_n 3, 1) := by decide +kernel
theorem dX11_reckon_145 : decode cX11_reckon 145 = .ok (.ireturn, 1) := by decide +kernel
theorem dX11_reckon_146 : decode cX11_reckon 146 = .ok (.aload_n 2, 1) := by decide +kernel
theorem dX11_reckon_147 : decode cX11_reckon 147 = .ok (.iconst 0, 1) := by decide +kernel
theorem dX11_reckon_148 : decode cX11_reckon 148 = .ok (.iaload, 1) := by decide +kernel
theorem dX11_reckon_149 : decode cX11_reckon 149 = .ok (.bipush 24, 2) := by decide +kernel
theorem dX11_reckon_151 : decode cX11_reckon 151 = .ok (.irem, 1) := by decide +kernel
theorem dX11_reckon_152 : decode cX11_reckon 152 = .ok (.ireturn, 1) := by decide +kernel
theorem dX11_reckon_153 : decode cX11_reckon 153 = .ok (.aload_n 2, 1) := by decide +kernel
theorem dX11_reckon_154 : decode cX11_reckon 154 = .ok (.iconst 1, 1) := by decide +kernel
theorem dX11_reckon_155 : decode cX11_reckon 155 = .ok (.iaload, 1) := by decide +kernel
theorem dX11_reckon_156 : decode cX11_reckon 156 = .ok (.ireturn, 1) := by decide +kernel
theorem dX11_reckon_157 : decode cX11_reckon 157 = .ok (.aload_n 2, 1) := by decide +kernel
theorem dX11_reckon_158 : decode cX11_reckon 158 = .ok (.iconst 2, 1) := by decide +kernel
theorem dX11_reckon_159 : decode cX11_reckon 159 = .ok (.iaload, 1) := by decide +kernel
theorem dX11_reckon_160 : decode cX11_reckon 160 = .ok (.ireturn, 1) := by decide +kernel
theorem dX11_reckon_161 : decode cX11_reckon 161 = .ok (.aload_n 2, 1) := by decide +kernel
theorem dX11_reckon_162 : decode cX11_reckon 162 = .ok (.iconst 4, 1) := by decide +kernel
theorem dX11_reckon_163 : decode cX11_reckon 163 = .ok (.iload_n 3, 1) := by decide +kernel
theorem dX11_reckon_164 : decode cX11_reckon 164 = .ok (.iadd, 1) := by decide +kernel
theorem dX11_reckon_165 : decode cX11_reckon 165 = .ok (.iaload, 1) := by decide +kernel
theorem dX11_reckon_166 : decode cX11_reckon 166 = .ok (.ireturn, 1) := by decide +kernel
theorem dX11_reckon_167 : decode cX11_reckon 167 = .ok (.aload_n 2, 1) := by decide +kernel
theorem dX11_reckon_168 : decode cX11_reckon 168 = .ok (.bipush 9, 2) := by decide +kernel
theorem dX11_reckon_170 : decode cX11_reckon 170 = .ok (.iload_n 3, 1) := by decide +kernel
theorem dX11_reckon_171 : decode cX11_reckon 171 = .ok (.iadd, 1) := by decide +kernel
theorem dX11_reckon_172 : decode cX11_reckon 172 = .ok (.iaload, 1) := by decide +kernel
theorem dX11_reckon_173 : decode cX11_reckon 173 = .ok (.ireturn, 1) := by decide +kernel
theorem dX11_reckon_174 : decode cX11_reckon 174 = .ok (.aload_n 2, 1) := by decide +kernel
theorem dX11_reckon_175 : decode cX11_reckon 175 = .ok (.bipush 21, 2) := by decide +kernel
theorem dX11_reckon_177 : decode cX11_reckon 177 = .ok (.iload_n 3, 1) := by decide +kernel
theorem dX11_reckon_178 : decode cX11_reckon 178 = .ok (.iadd, 1) := by decide +kernel
theorem dX11_reckon_179 : decode cX11_reckon 179 = .ok (.iaload, 1) := by decide +kernel
theorem dX11_reckon_180 : decode cX11_reckon 180 = .ok (.ireturn, 1) := by decide +kernel
theorem dX11_reckon_181 : decode cX11_reckon 181 = .ok (.aload_n 0, 1) := by decide +kernel
theorem dX11_reckon_182 : decode cX11_reckon 182 = .ok (.iload_n 3, 1) := by decide +kernel
theorem dX11_reckon_183 : decode cX11_reckon 183 = .ok (.aload_n 2, 1) := by decide +kernel
theorem dX11_reckon_184 : decode cX11_reckon 184 = .ok (.invokevirtual 292, 3) := by decide +kernel
theorem dX11_reckon_187 : decode cX11_reckon 187 = .ok (.ineg, 1) := by decide +kernel
theorem dX11_reckon_188 : decode cX11_reckon 188 = .ok (.ireturn, 1) := by decide +kernel
theorem dX11_reckon_189 : decode cX11_reckon 189 = .ok (.aload_n 0, 1) := by decide +kernel
theorem dX11_reckon_190 : decode cX11_reckon 190 = .ok (.iload_n 3, 1) := by decide +kernel
theorem dX11_reckon_191 : decode cX11_reckon 191 = .ok (.aload_n 2, 1) := by decide +kernel
theorem dX11_reckon_192 : decode cX11_reckon 192 = .ok (.invokevirtual 292, 3) := by decide +kernel
theorem dX11_reckon_195 : decode cX11_reckon 195 = .ok (.aload_n 0, 1) := by decide +kernel
theorem dX11_reckon_196 : decode cX11_reckon 196 = .ok (.iload 4, 2) := by decide +kernel
theorem dX11_reckon_198 : decode cX11_reckon 198 = .ok (.aload_n 2, 1) := by decide +kernel
theorem dX11_reckon_199 : decode cX11_reckon 199 = .ok (.invokevirtual 292, 3) := by decide +kernel
theorem dX11_reckon_202 : decode cX11_reckon 202 = .ok (.invokestatic 248, 3) := by decide +kernel
theorem dX11_reckon_205 : decode cX11_reckon 205 = .ok (.ireturn, 1) := by decide +kernel
theorem dX11_reckon_206 : decode cX11_reckon 206 = .ok (.aload_n 0, 1) := by decide +kernel
theorem dX11_reckon_207 : decode cX11_reckon 207 = .ok (.iload_n 3, 1) := by decide +kernel
theorem dX11_reckon_208 : decode cX11_reckon 208 = .ok (.aload_n 2, 1) := by decide +kernel
theorem dX11_reckon_209 : decode cX11_reckon 209 = .ok (.invokevirtual 292, 3) := by decide +kernel
theorem dX11_reckon_212 : decode cX11_reckon 212 = .ok (.aload_n 0, 1) := by decide +kernel
theorem dX11_reckon_213 : decode cX11_reckon 213 = .ok (.iload 4, 2) := by decide +kernel
theorem dX11_reckon_215 : decode cX11_reckon 215 = .ok (.aload_n 2, 1) := by decide +kernel
theorem dX11_reckon_216 : decode cX11_reckon 216 = .ok (.invokevirtual 292, 3) := by decide +kernel
theorem dX11_reckon_219 : decode cX11_reckon 219 = .ok (.invokestatic 296, 3) := by decide +kernel
theorem dX11_reckon_222 : decode cX11_reckon 222 = .ok (.ireturn, 1) := by decide +kernel
theorem dX11_reckon_223 : decode cX11_reckon 223 = .ok (.aload_n 0, 1) := by decide +kernel
theorem dX11_reckon_224 : decode cX11_reckon 224 = .ok (.iload_n 3, 1) := by decide +kernel
theorem dX11_reckon_225 : decode cX11_reckon 225 = .ok (.aload_n 2, 1) := by decide +kernel
theorem dX11_reckon_226 : decode cX11_reckon 226 = .ok (.invokevirtual 292, 3) := by decide +kernel
theorem dX11_reckon_229 : decode cX11_reckon 229 = .ok (.aload_n 0, 1) := by decide +kernel
theorem dX11_reckon_230 : decode cX11_reckon 230 = .ok (.iload 4, 2) := by decide +kernel
theorem dX11_reckon_232 : decode cX11_reckon 232 = .ok (.aload_n 2, 1) := by decide +kernel
theorem dX11_reckon_233 : decode cX11_reckon 233 = .ok (.invokevirtual 292, 3) := by decide +kernel
theorem dX11_reckon_236 : decode cX11_reckon 236 = .ok (.imul, 1) := by decide +kernel
theorem dX11_reckon_237 : decode cX11_reckon 237 = .ok (.ireturn, 1) := by decide +kernel
theorem dX11_reckon_238 : decode cX11_reckon 238 = .ok (.aload_n 0, 1) := by decide +kernel
theorem dX11_reckon_239 : decode cX11_reckon 239 = .ok (.iload_n 3, 1) := by decide +kernel
theorem dX11_reckon_240 : decode cX11_reckon 240 = .ok (.aload_n 2, 1) := by decide +kernel
theorem dX11_reckon_241 : decode cX11_reckon 241 = .ok (.invokevirtual 292, 3) := by decide +kernel
theorem dX11_reckon_244 : decode cX11_reckon 244 = .ok (.aload_n 0, 1) := by decide +kernel
theorem dX11_reckon_245 : decode cX11_reckon 245 = .ok (.iload 4, 2) := by decide +kernel
theorem dX11_reckon_247 : decode cX11_reckon 247 = .ok (.aload_n 2, 1) := by decide +kernel
theorem dX11_reckon_248 : decode cX11_reckon 248 = .ok (.invokevirtual 292, 3) := by decide +kernel
theorem dX11_reckon_251 : decode cX11_reckon 251 = .ok (.invokestatic 299, 3) := by decide +kernel
theorem dX11_reckon_254 : decode cX11_reckon 254 = .ok (.ireturn, 1) := by decide +kernel
theorem dX11_reckon_255 : decode cX11_reckon 255 = .ok (.aload_n 0, 1) := by decide +kernel
theorem dX11_reckon_256 : decode cX11_reckon 256 = .ok (.iload_n 3, 1) := by decide +kernel
theorem dX11_reckon_257 : decode cX11_reckon 257 = .ok (.aload_n 2, 1) := by decide +kernel
theorem dX11_reckon_258 : decode cX11_reckon 258 = .ok (.invokevirtual 292, 3) := by decide +kernel
theorem dX11_reckon_261 : decode cX11_reckon 261 = .ok (.aload_n 0, 1) := by decide +kernel
theorem dX11_reckon_262 : decode cX11_reckon 262 = .ok (.iload 4, 2) := by decide +kernel
theorem dX11_reckon_264 : decode cX11_reckon 264 = .ok (.aload_n 2, 1) := by decide +kernel
theorem dX11_reckon_265 : decode cX11_reckon 265 = .ok (.invokevirtual 292, 3) := by decide +kernel
theorem dX11_reckon_268 : decode cX11_reckon 268 = .ok (.isub, 1) := by decide +kernel
theorem dX11_reckon_269 : decode cX11_reckon 269 = .ok (.ireturn, 1) := by decide +kernel
theorem dX11_reckon_270 : decode cX11_reckon 270 = .ok (.aload_n 0, 1) := by decide +kernel
theorem dX11_reckon_271 : decode cX11_reckon 271 = .ok (.iload_n 3, 1) := by decide +kernel
theorem dX11_reckon_272 : decode cX11_reckon 272 = .ok (.aload_n 2, 1) := by decide +kernel
theorem dX11_reckon_273 : decode cX11_reckon 273 = .ok (.invokevirtual 292, 3) := by decide +kernel
theorem dX11_reckon_276 : decode cX11_reckon 276 = .ok (.aload_n 0, 1) := by decide +kernel
theorem dX11_reckon_277 : decode cX11_reckon 277 = .ok (.iload 4, 2) := by decide +kernel
theorem dX11_reckon_279 : decode cX11_reckon 279 = .ok (.aload_n 2, 1) := by decide +kernel
theorem dX11_reckon_280 : decode cX11_reckon 280 = .ok (.invokevirtual 292, 3) := by decide +kernel
theorem dX11_reckon_283 : decode cX11_reckon 283 = .ok (.iadd, 1) := by decide +kernel
theorem dX11_reckon_284 : decode cX11_reckon 284 = .ok (.ireturn, 1) := by decide +kernel
theorem bk_X11_reckon_0 {C : JC} {d cl sl : Nat} {Q : State → Prop} {w : JW} {x1 : Int32} {k2 : Nat} {b2 : Bool} (hm : jok C MX11_reckon d cl sl) (h1 : vp_in x1 401) (h2 : vp_in x1 401) (h3 : vp_in x1 401) (k18 : (w.1 60 (w.2.2 41 8) x1.toNatClampNeg) = 18 → jW C cl sl Q 146 [jU, jU, jR k2 b2, jU, jU] [] w) (k19 : (w.1 60 (w.2.2 41 8) x1.toNatClampNeg) = 19 → jW C cl sl Q 153 [jU, jU, jR k2 b2, jU, jU] [] w) (k20 : (w.1 60 (w.2.2 41 8) x1.toNatClampNeg) = 20 → jW C cl sl Q 161 [jU, jU, jR k2 b2, jI (w.1 61 (w.2.2 41 8) x1.toNatClampNeg), jU] [] w) (k21 : (w.1 60 (w.2.2 41 8) x1.toNatClampNeg) = 21 → jW C cl sl Q 167 [jU, jU, jR k2 b2, jI (w.1 61 (w.2.2 41 8) x1.toNatClampNeg), jU] [] w) (k22 : (w.1 60 (w.2.2 41 8) x1.toNatClampNeg) = 22 → jW C cl sl Q 174 [jU, jU, jR k2 b2, jI (w.1 61 (w.2.2 41 8) x1.toNatClampNeg), jU] [] w) (k23 : (w.1 60 (w.2.2 41 8) x1.toNatClampNeg) = 23 → jW C cl sl Q 157 [jU, jU, jR k2 b2, jU, jU] [] w) (k28 : (w.1 60 (w.2.2 41 8) x1.toNatClampNeg) = 28 → jW C cl sl Q 189 [jR 41 false, jU, jR k2 b2, jI (w.1 61 (w.2.2 41 8) x1.toNatClampNeg), jI (w.1 62 (w.2.2 41 8) x1.toNatClampNeg)] [] w) (k29 : (w.1 60 (w.2.2 41 8) x1.toNatClampNeg) = 29 → jW C cl sl Q 206 [jR 41 false, jU, jR k2 b2, jI (w.1 61 (w.2.2 41 8) x1.toNatClampNeg), jI (w.1 62 (w.2.2 41 8) x1.toNatClampNeg)] [] w) (k35 : (w.1 60 (w.2.2 41 8) x1.toNatClampNeg) = 35 → jW C cl sl Q 144 [jU, jU, jU, jI (w.1 61 (w.2.2 41 8) x1.toNatClampNeg), jU] [] w) (k42 : (w.1 60 (w.2.2 41 8) x1.toNatClampNeg) = 42 → jW C cl sl Q 223 [jR 41 false, jU, jR k2 b2, jI (w.1 61 (w.2.2 41 8) x1.toNatClampNeg), jI (w.1 62 (w.2.2 41 8) x1.toNatClampNeg)] [] w) (k45 : (w.1 60 (w.2.2 41 8) x1.toNatClampNeg) = 45 → jW C cl sl Q 255 [jR 41 false, jU, jR k2 b2, jI (w.1 61 (w.2.2 41 8) x1.toNatClampNeg), jI (w.1 62 (w.2.2 41 8) x1.toNatClampNeg)] [] w) (k47 : (w.1 60 (w.2.2 41 8) x1.toNatClampNeg) = 47 → jW C cl sl Q 238 [jR 41 false, jU, jR k2 b2, jI (w.1 61 (w.2.2 41 8) x1.toNatClampNeg), jI (w.1 62 (w.2.2 41 8) x1.toNatClampNeg)] [] w) (k110 : (w.1 60 (w.2.2 41 8) x1.toNatClampNeg) = 110 → jW C cl sl Q 181 [jR 41 false, jU, jR k2 b2, jI (w.1 61 (w.2.2 41 8) x1.toNatClampNeg), jU] [] w) (kd : ¬ (w.1 60 (w.2.2 41 8) x1.toNatClampNeg) = 18 → ¬ (w.1 60 (w.2.2 41 8) x1.toNatClampNeg) = 19 → ¬ (w.1 60 (w.2.2 41 8) x1.toNatClampNeg) = 20 → ¬ (w.1 60 (w.2.2 41 8) x1.toNatClampNeg) = 21 → ¬ (w.1 60 (w.2.2 41 8) x1.toNatClampNeg) = 22 → ¬ (w.1 60 (w.2.2 41 8) x1.toNatClampNeg) = 23 → ¬ (w.1 60 (w.2.2 41 8) x1.toNatClampNeg) = 28 → ¬ (w.1 60 (w.2.2 41 8) x1.toNatClampNeg) = 29 → ¬ (w.1 60 (w.2.2 41 8) x1.toNatClampNeg) = 35 → ¬ (w.1 60 (w.2.2 41 8) x1.toNatClampNeg) = 42 → ¬ (w.1 60 (w.2.2 41 8) x1.toNatClampNeg) = 45 → ¬ (w.1 60 (w.2.2 41 8) x1.toNatClampNeg) = 47 → ¬ (w.1 60 (w.2.2 41 8) x1.toNatClampNeg) = 110 → jW C cl sl Q 270 [jR 41 false, jU, jR k2 b2, jI (w.1 61 (w.2.2 41 8) x1.toNatClampNeg), jI (w.1 62 (w.2.2 41 8) x1.toNatClampNeg)] [] w) : jW C cl sl Q 0 [jR 41 false, jI x1, jR k2 b2, jU, jU] [] w := by
  by_cases e18 : (w.1 60 (w.2.2 41 8) x1.toNatClampNeg) = 18
  · exact jr_aload_n hm (i := 0) rfl rfl dX11_reckon_0 (fg_X11_87 hm dX11_reckon_1 (fg_X11_284 hm dX11_reckon_4 (jr_iload_n hm (i := 1) rfl rfl dX11_reckon_7 (jr_iaload hm (ja_61 (w.2.2 41 8)) h1 dX11_reckon_8 (jr_istore_n hm (i := 3) rfl (Nat.le_of_ble_eq_true rfl) rfl dX11_reckon_9 (jr_aload_n hm (i := 0) rfl rfl dX11_reckon_10 (fg_X11_87 hm dX11_reckon_11 (fg_X11_286 hm dX11_reckon_14 (jr_iload_n hm (i := 1) rfl rfl dX11_reckon_17 (jr_iaload hm (ja_62 (w.2.2 41 8)) h2 dX11_reckon_18 (jr_istore hm (i := 4) (Nat.le_of_ble_eq_true rfl) rfl dX11_reckon_19 (jr_aload_n hm (i := 0) rfl rfl dX11_reckon_21 (fg_X11_87 hm dX11_reckon_22 (fg_X11_289 hm dX11_reckon_25 (jr_iload_n hm (i := 1) rfl rfl dX11_reckon_28 (jr_iaload hm (ja_60 (w.2.2 41 8)) h3 dX11_reckon_29 (jr_lookup hm dX11_reckon_30 (by decide) (off := 116) (by rw [e18]; rfl) (by decide) (jr_drop (jle_drop (jle_drop (jle_same (jle_drop (jle_drop jle_nil))))) (k18 e18)))))))))))))))))))
  by_cases e19 : (w.1 60 (w.2.2 41 8) x1.toNatClampNeg) = 19
  · exact jr_aload_n hm (i := 0) rfl rfl dX11_reckon_0 (fg_X11_87 hm dX11_reckon_1 (fg_X11_284 hm dX11_reckon_4 (jr_iload_n hm (i := 1) rfl rfl dX11_reckon_7 (jr_iaload hm (ja_61 (w.2.2 41 8)) h1 dX11_reckon_8 (jr_istore_n hm (i := 3) rfl (Nat.le_of_ble_eq_true rfl) rfl dX11_reckon_9 (jr_aload_n hm (i := 0) rfl rfl dX11_reckon_10 (fg_X11_87 hm dX11_reckon_11 (fg_X11_286 hm dX11_reckon_14 (jr_iload_n hm (i := 1) rfl rfl dX11_reckon_17 (jr_iaload hm (ja_62 (w.2.2 41 8)) h2 dX11_reckon_18 (jr_istore hm (i := 4) (Nat.le_of_ble_eq_true rfl) rfl dX11_reckon_19 (jr_aload_n hm (i := 0) rfl rfl dX11_reckon_21 (fg_X11_87 hm dX11_reckon_22 (fg_X11_289 hm dX11_reckon_25 (jr_iload_n hm (i := 1) rfl rfl dX11_reckon_28 (jr_iaload hm (ja_60 (w.2.2 41 8)) h3 dX11_reckon_29 (jr_lookup hm dX11_reckon_30 (by decide) (off := 123) (by rw [e19]; rfl) (by decide) (jr_drop (jle_drop (jle_drop (jle_same (jle_drop (jle_drop jle_nil))))) (k19 e19)))))))))))))))))))
  by_cases e20 : (w.1 60 (w.2.2 41 8) x1.toNatClampNeg) = 20
  · exact jr_aload_n hm (i := 0) rfl rfl dX11_reckon_0 (fg_X11_87 hm dX11_reckon_1 (fg_X11_284 hm dX11_reckon_4 (jr_iload_n hm (i := 1) rfl rfl dX11_reckon_7 (jr_iaload hm (ja_61 (w.2.2 41 8)) h1 dX11_reckon_8 (jr_istore_n hm (i := 3) rfl (Nat.le_of_ble_eq_true rfl) rfl dX11_reckon_9 (jr_aload_n hm (i := 0) rfl rfl dX11_reckon_10 (fg_X11_87 hm dX11_reckon_11 (fg_X11_286 hm dX11_reckon_14 (jr_iload_n hm (i := 1) rfl rfl dX11_reckon_17 (jr_iaload hm (ja_62 (w.2.2 41 8)) h2 dX11_reckon_18 (jr_istore hm (i := 4) (Nat.le_of_ble_eq_true rfl) rfl dX11_reckon_19 (jr_aload_n hm (i := 0) rfl rfl dX11_reckon_21 (fg_X11_87 hm dX11_reckon_22 (fg_X11_289 hm dX11_reckon_25 (jr_iload_n hm (i := 1) rfl rfl dX11_reckon_28 (jr_iaload hm (ja_60 (w.2.2 41 8)) h3 dX11_reckon_29 (jr_lookup hm dX11_reckon_30 (by decide) (off := 131) (by rw [e20]; rfl) (by decide) (jr_drop (jle_drop (jle_drop (jle_same (jle_same (jle_drop jle_nil))))) (k20 e20)))))))))))))))))))
  by_cases e21 : (w.1 60 (w.2.2 41 8) x1.toNatClampNeg) = 21
  · exact jr_aload_n hm (i := 0) rfl rfl dX11_reckon_0 (fg_X11_87 hm dX11_reckon_1 (fg_X11_284 hm dX11_reckon_4 (jr_iload_n hm (i := 1) rfl rfl dX11_reckon_7 (jr_iaload hm (ja_61 (w.2.2 41 8)) h1 dX11_reckon_8 (jr_istore_n hm (i := 3) rfl (Nat.le_of_ble_eq_true rfl) rfl dX11_reckon_9 (jr_aload_n hm (i := 0) rfl rfl dX11_reckon_10 (fg_X11_87 hm dX11_reckon_11 (fg_X11_286 hm dX11_reckon_14 (jr_iload_n hm (i := 1) rfl rfl dX11_reckon_17 (jr_iaload hm (ja_62 (w.2.2 41 8)) h2 dX11_reckon_18 (jr_istore hm (i := 4) (Nat.le_of_ble_eq_true rfl) rfl dX11_reckon_19 (jr_aload_n hm (i := 0) rfl rfl dX11_reckon_21 (fg_X11_87 hm dX11_reckon_22 (fg_X11_289 hm dX11_reckon_25 (jr_iload_n hm (i := 1) rfl rfl dX11_reckon_28 (jr_iaload hm (ja_60 (w.2.2 41 8)) h3 dX11_reckon_29 (jr_lookup hm dX11_reckon_30 (by decide) (off := 137) (by rw [e21]; rfl) (by decide) (jr_drop (jle_drop (jle_drop (jle_same (jle_same (jle_drop jle_nil))))) (k21 e21)))))))))))))))))))
  by_cases e22 : (w.1 60 (w.2.2 41 8) x1.toNatClampNeg) = 22
  · exact jr_aload_n hm (i := 0) rfl rfl dX11_reckon_0 (fg_X11_87 hm dX11_reckon_1 (fg_X11_284 hm dX11_reckon_4 (jr_iload_n hm (i := 1) rfl rfl dX11_reckon_7 (jr_iaload hm (ja_61 (w.2.2 41 8)) h1 dX11_reckon_8 (jr_istore_n hm (i := 3) rfl (Nat.le_of_ble_eq_true rfl) rfl dX11_reckon_9 (jr_aload_n hm (i := 0) rfl rfl dX11_reckon_10 (fg_X11_87 hm dX11_reckon_11 (fg_X11_286 hm dX11_reckon_14 (jr_iload_n hm (i := 1) rfl rfl dX11_reckon_17 (jr_iaload hm (ja_62 (w.2.2 41 8)) h2 dX11_reckon_18 (jr_istore hm (i := 4) (Nat.le_of_ble_eq_true rfl) rfl dX11_reckon_19 (jr_aload_n hm (i := 0) rfl rfl dX11_reckon_21 (fg_X11_87 hm dX11_reckon_22 (fg_X11_289 hm dX11_reckon_25 (jr_iload_n hm (i := 1) rfl rfl dX11_reckon_28 (jr_iaload hm (ja_60 (w.2.2 41 8)) h3 dX11_reckon_29 (jr_lookup hm dX11_reckon_30 (by decide) (off := 144) (by rw [e22]; rfl) (by decide) (jr_drop (jle_drop (jle_drop (jle_same (jle_same (jle_drop jle_nil))))) (k22 e22)))))))))))))))))))
  by_cases e23 : (w.1 60 (w.2.2 41 8) x1.toNatClampNeg) = 23
  · exact jr_aload_n hm (i := 0) rfl rfl dX11_reckon_0 (fg_X11_87 hm dX11_reckon_1 (fg_X11_284 hm dX11_reckon_4 (jr_iload_n hm (i := 1) rfl rfl dX11_reckon_7 (jr_iaload hm (ja_61 (w.2.2 41 8)) h1 dX11_reckon_8 (jr_istore_n hm (i := 3) rfl (Nat.le_of_ble_eq_true rfl) rfl dX11_reckon_9 (jr_aload_n hm (i := 0) rfl rfl dX11_reckon_10 (fg_X11_87 hm dX11_reckon_11 (fg_X11_286 hm dX11_reckon_14 (jr_iload_n hm (i := 1) rfl rfl dX11_reckon_17 (jr_iaload hm (ja_62 (w.2.2 41 8)) h2 dX11_reckon_18 (jr_istore hm (i := 4) (Nat.le_of_ble_eq_true rfl) rfl dX11_reckon_19 (jr_aload_n hm (i := 0) rfl rfl dX11_reckon_21 (fg_X11_87 hm dX11_reckon_22 (fg_X11_289 hm dX11_reckon_25 (jr_iload_n hm (i := 1) rfl rfl dX11_reckon_28 (jr_iaload hm (ja_60 (w.2.2 41 8)) h3 dX11_reckon_29 (jr_lookup hm dX11_reckon_30 (by decide) (off := 127) (by rw [e23]; rfl) (by decide) (jr_drop (jle_drop (jle_drop (jle_same (jle_drop (jle_drop jle_nil))))) (k23 e23)))))))))))))))))))
  by_cases e28 : (w.1 60 (w.2.2 41 8) x1.toNatClampNeg) = 28
  · exact jr_aload_n hm (i := 0) rfl rfl dX11_reckon_0 (fg_X11_87 hm dX11_reckon_1 (fg_X11_284 hm dX11_reckon_4 (jr_iload_n hm (i := 1) rfl rfl dX11_reckon_7 (jr_iaload hm (ja_61 (w.2.2 41 8)) h1 dX11_reckon_8 (jr_istore_n hm (i := 3) rfl (Nat.le_of_ble_eq_true rfl) rfl dX11_reckon_9 (jr_aload_n hm (i := 0) rfl rfl dX11_reckon_10 (fg_X11_87 hm dX11_reckon_11 (fg_X11_286 hm dX11_reckon_14 (jr_iload_n hm (i := 1) rfl rfl dX11_reckon_17 (jr_iaload hm (ja_62 (w.2.2 41 8)) h2 dX11_reckon_18 (jr_istore hm (i := 4) (Nat.le_of_ble_eq_true rfl) rfl dX11_reckon_19 (jr_aload_n hm (i := 0) rfl rfl dX11_reckon_21 (fg_X11_87 hm dX11_reckon_22 (fg_X11_289 hm dX11_reckon_25 (jr_iload_n hm (i := 1) rfl rfl dX11_reckon_28 (jr_iaload hm (ja_60 (w.2.2 41 8)) h3 dX11_reckon_29 (jr_lookup hm dX11_reckon_30 (by decide) (off := 159) (by rw [e28]; rfl) (by decide) (jr_drop (jle_same (jle_drop (jle_same (jle_same (jle_same jle_nil))))) (k28 e28)))))))))))))))))))
  by_cases e29 : (w.1 60 (w.2.2 41 8) x1.toNatClampNeg) = 29
  · exact jr_aload_n hm (i := 0) rfl rfl dX11_reckon_0 (fg_X11_87 hm dX11_reckon_1 (fg_X11_284 hm dX11_reckon_4 (jr_iload_n hm (i := 1) rfl rfl dX11_reckon_7 (jr_iaload hm (ja_61 (w.2.2 41 8)) h1 dX11_reckon_8 (jr_istore_n hm (i := 3) rfl (Nat.le_of_ble_eq_true rfl) rfl dX11_reckon_9 (jr_aload_n hm (i := 0) rfl rfl dX11_reckon_10 (fg_X11_87 hm dX11_reckon_11 (fg_X11_286 hm dX11_reckon_14 (jr_iload_n hm (i := 1) rfl rfl dX11_reckon_17 (jr_iaload hm (ja_62 (w.2.2 41 8)) h2 dX11_reckon_18 (jr_istore hm (i := 4) (Nat.le_of_ble_eq_true rfl) rfl dX11_reckon_19 (jr_aload_n hm (i := 0) rfl rfl dX11_reckon_21 (fg_X11_87 hm dX11_reckon_22 (fg_X11_289 hm dX11_reckon_25 (jr_iload_n hm (i := 1) rfl rfl dX11_reckon_28 (jr_iaload hm (ja_60 (w.2.2 41 8)) h3 dX11_reckon_29 (jr_lookup hm dX11_reckon_30 (by decide) (off := 176) (by rw [e29]; rfl) (by decide) (jr_drop (jle_same (jle_drop (jle_same (jle_same (jle_same jle_nil))))) (k29 e29)))))))))))))))))))
  by_cases e35 : (w.1 60 (w.2.2 41 8) x1.toNatClampNeg) = 35
  · exact jr_aload_n hm (i := 0) rfl rfl dX11_reckon_0 (fg_X11_87 hm dX11_reckon_1 (fg_X11_284 hm dX11_reckon_4 (jr_iload_n hm (i := 1) rfl rfl dX11_reckon_7 (jr_iaload hm (ja_61 (w.2.2 41 8)) h1 dX11_reckon_8 (jr_istore_n hm (i := 3) rfl (Nat.le_of_ble_eq_true rfl) rfl dX11_reckon_9 (jr_aload_n hm (i := 0) rfl rfl dX11_reckon_10 (fg_X11_87 hm dX11_reckon_11 (fg_X11_286 hm dX11_reckon_14 (jr_iload_n hm (i := 1) rfl rfl dX11_reckon_17 (jr_iaload hm (ja_62 (w.2.2 41 8)) h2 dX11_reckon_18 (jr_istore hm (i := 4) (Nat.le_of_ble_eq_true rfl) rfl dX11_reckon_19 (jr_aload_n hm (i := 0) rfl rfl dX11_reckon_21 (fg_X11_87 hm dX11_reckon_22 (fg_X11_289 hm dX11_reckon_25 (jr_iload_n hm (i := 1) rfl rfl dX11_reckon_28 (jr_iaload hm (ja_60 (w.2.2 41 8)) h3 dX11_reckon_29 (jr_lookup hm dX11_reckon_30 (by decide) (off := 114) (by rw [e35]; rfl) (by decide) (jr_drop (jle_drop (jle_drop (jle_drop (jle_same (jle_drop jle_nil))))) (k35 e35)))))))))))))))))))
  by_cases e42 : (w.1 60 (w.2.2 41 8) x1.toNatClampNeg) = 42
  · exact jr_aload_n hm (i := 0) rfl rfl dX11_reckon_0 (fg_X11_87 hm dX11_reckon_1 (fg_X11_284 hm dX11_reckon_4 (jr_iload_n hm (i := 1) rfl rfl dX11_reckon_7 (jr_iaload hm (ja_61 (w.2.2 41 8)) h1 dX11_reckon_8 (jr_istore_n hm (i := 3) rfl (Nat.le_of_ble_eq_true rfl) rfl dX11_reckon_9 (jr_aload_n hm (i := 0) rfl rfl dX11_reckon_10 (fg_X11_87 hm dX11_reckon_11 (fg_X11_286 hm dX11_reckon_14 (jr_iload_n hm (i := 1) rfl rfl dX11_reckon_17 (jr_iaload hm (ja_62 (w.2.2 41 8)) h2 dX11_reckon_18 (jr_istore hm (i := 4) (Nat.le_of_ble_eq_true rfl) rfl dX11_reckon_19 (jr_aload_n hm (i := 0) rfl rfl dX11_reckon_21 (fg_X11_87 hm dX11_reckon_22 (fg_X11_289 hm dX11_reckon_25 (jr_iload_n hm (i := 1) rfl rfl dX11_reckon_28 (jr_iaload hm (ja_60 (w.2.2 41 8)) h3 dX11_reckon_29 (jr_lookup hm dX11_reckon_30 (by decide) (off := 193) (by rw [e42]; rfl) (by decide) (jr_drop (jle_same (jle_drop (jle_same (jle_same (jle_same jle_nil))))) (k42 e42)))))))))))))))))))
  by_cases e45 : (w.1 60 (w.2.2 41 8) x1.toNatClampNeg) = 45
  · exact jr_aload_n hm (i := 0) rfl rfl dX11_reckon_0 (fg_X11_87 hm dX11_reckon_1 (fg_X11_284 hm dX11_reckon_4 (jr_iload_n hm (i := 1) rfl rfl dX11_reckon_7 (jr_iaload hm (ja_61 (w.2.2 41 8)) h1 dX11_reckon_8 (jr_istore_n hm (i := 3) rfl (Nat.le_of_ble_eq_true rfl) rfl dX11_reckon_9 (jr_aload_n hm (i := 0) rfl rfl dX11_reckon_10 (fg_X11_87 hm dX11_reckon_11 (fg_X11_286 hm dX11_reckon_14 (jr_iload_n hm (i := 1) rfl rfl dX11_reckon_17 (jr_iaload hm (ja_62 (w.2.2 41 8)) h2 dX11_reckon_18 (jr_istore hm (i := 4) (Nat.le_of_ble_eq_true rfl) rfl dX11_reckon_19 (jr_aload_n hm (i := 0) rfl rfl dX11_reckon_21 (fg_X11_87 hm dX11_reckon_22 (fg_X11_289 hm dX11_reckon_25 (jr_iload_n hm (i := 1) rfl rfl dX11_reckon_28 (jr_iaload hm (ja_60 (w.2.2 41 8)) h3 dX11_reckon_29 (jr_lookup hm dX11_reckon_30 (by decide) (off := 225) (by rw [e45]; rfl) (by decide) (jr_drop (jle_same (jle_drop (jle_same (jle_same (jle_same jle_nil))))) (k45 e45)))))))))))))))))))
  by_cases e47 : (w.1 60 (w.2.2 41 8) x1.toNatClampNeg) = 47
  · exact jr_aload_n hm (i := 0) rfl rfl dX11_reckon_0 (fg_X11_87 hm dX11_reckon_1 (fg_X11_284 hm dX11_reckon_4 (jr_iload_n hm (i := 1) rfl rfl dX11_reckon_7 (jr_iaload hm (ja_61 (w.2.2 41 8)) h1 dX11_reckon_8 (jr_istore_n hm (i := 3) rfl (Nat.le_of_ble_eq_true rfl) rfl dX11_reckon_9 (jr_aload_n hm (i := 0) rfl rfl dX11_reckon_10 (fg_X11_87 hm dX11_reckon_11 (fg_X11_286 hm dX11_reckon_14 (jr_iload_n hm (i := 1) rfl rfl dX11_reckon_17 (jr_iaload hm (ja_62 (w.2.2 41 8)) h2 dX11_reckon_18 (jr_istore hm (i := 4) (Nat.le_of_ble_eq_true rfl) rfl dX11_reckon_19 (jr_aload_n hm (i := 0) rfl rfl dX11_reckon_21 (fg_X11_87 hm dX11_reckon_22 (fg_X11_289 hm dX11_reckon_25 (jr_iload_n hm (i := 1) rfl rfl dX11_reckon_28 (jr_iaload hm (ja_60 (w.2.2 41 8)) h3 dX11_reckon_29 (jr_lookup hm dX11_reckon_30 (by decide) (off := 208) (by rw [e47]; rfl) (by decide) (jr_drop (jle_same (jle_drop (jle_same (jle_same (jle_same jle_nil))))) (k47 e47)))))))))))))))))))
  by_cases e110 : (w.1 60 (w.2.2 41 8) x1.toNatClampNeg) = 110
  · exact jr_aload_n hm (i := 0) rfl rfl dX11_reckon_0 (fg_X11_87 hm dX11_reckon_1 (fg_X11_284 hm dX11_reckon_4 (jr_iload_n hm (i := 1) rfl rfl dX11_reckon_7 (jr_iaload hm (ja_61 (w.2.2 41 8)) h1 dX11_reckon_8 (jr_istore_n hm (i := 3) rfl (Nat.le_of_ble_eq_true rfl) rfl dX11_reckon_9 (jr_aload_n hm (i := 0) rfl rfl dX11_reckon_10 (fg_X11_87 hm dX11_reckon_11 (fg_X11_286 hm dX11_reckon_14 (jr_iload_n hm (i := 1) rfl rfl dX11_reckon_17 (jr_iaload hm (ja_62 (w.2.2 41 8)) h2 dX11_reckon_18 (jr_istore hm (i := 4) (Nat.le_of_ble_eq_true rfl) rfl dX11_reckon_19 (jr_aload_n hm (i := 0) rfl rfl dX11_reckon_21 (fg_X11_87 hm dX11_reckon_22 (fg_X11_289 hm dX11_reckon_25 (jr_iload_n hm (i := 1) rfl rfl dX11_reckon_28 (jr_iaload hm (ja_60 (w.2.2 41 8)) h3 dX11_reckon_29 (jr_lookup hm dX11_reckon_30 (by decide) (off := 151) (by rw [e110]; rfl) (by decide) (jr_drop (jle_same (jle_drop (jle_same (jle_same (jle_drop jle_nil))))) (k110 e110)))))))))))))))))))
  exact jr_aload_n hm (i := 0) rfl rfl dX11_reckon_0 (fg_X11_87 hm dX11_reckon_1 (fg_X11_284 hm dX11_reckon_4 (jr_iload_n hm (i := 1) rfl rfl dX11_reckon_7 (jr_iaload hm (ja_61 (w.2.2 41 8)) h1 dX11_reckon_8 (jr_istore_n hm (i := 3) rfl (Nat.le_of_ble_eq_true rfl) rfl dX11_reckon_9 (jr_aload_n hm (i := 0) rfl rfl dX11_reckon_10 (fg_X11_87 hm dX11_reckon_11 (fg_X11_286 hm dX11_reckon_14 (jr_iload_n hm (i := 1) rfl rfl dX11_reckon_17 (jr_iaload hm (ja_62 (w.2.2 41 8)) h2 dX11_reckon_18 (jr_istore hm (i := 4) (Nat.le_of_ble_eq_true rfl) rfl dX11_reckon_19 (jr_aload_n hm (i := 0) rfl rfl dX11_reckon_21 (fg_X11_87 hm dX11_reckon_22 (fg_X11_289 hm dX11_reckon_25 (jr_iload_n hm (i := 1) rfl rfl dX11_reckon_28 (jr_iaload hm (ja_60 (w.2.2 41 8)) h3 dX11_reckon_29 (jr_lookup hm dX11_reckon_30 (by decide) (off := 240) ((lv_osw e18 (by decide)).trans ((lv_osw e19 (by decide)).trans ((lv_osw e20 (by decide)).trans ((lv_osw e21 (by decide)).trans ((lv_osw e22 (by decide)).trans ((lv_osw e23 (by decide)).trans ((lv_osw e28 (by decide)).trans ((lv_osw e29 (by decide)).trans ((lv_osw e35 (by decide)).trans ((lv_osw e42 (by decide)).trans ((lv_osw e45 (by decide)).trans ((lv_osw e47 (by decide)).trans ((lv_osw e110 (by decide)).trans rfl))))))))))))) (by decide) (jr_drop (jle_same (jle_drop (jle_same (jle_same (jle_same jle_nil))))) (kd e18 e19 e20 e21 e22 e23 e28 e29 e35 e42 e45 e47 e110)))))))))))))))))))
theorem bk_X11_reckon_144 {C : JC} {d cl sl : Nat} {w : JW} {x3 : Int32} {P : JV → JW → Prop} (hm : jok C MX11_reckon d cl sl) (hp : P (jI x3) w) : jW C cl sl (jQQ C cl sl P) 144 [jU, jU, jU, jI x3, jU] [] w := jr_iload_n hm (i := 3) rfl rfl dX11_reckon_144 (jr_ireturn hm rfl dX11_reckon_145 hp)
theorem bk_X11_reckon_146 {C : JC} {d cl sl : Nat} {w : JW} {k2 : Nat} {b2 : Bool} {n2 : Nat} {P : JV → JW → Prop} (hm : jok C MX11_reckon d cl sl) (hA2 : jIA k2 b2 n2) (h1 : vp_in 0 n2) (hp : P (jI ((w.1 k2 b2 0) - (w.1 k2 b2 0) / 24 * 24)) w) : jW C cl sl (jQQ C cl sl P) 146 [jU, jU, jR k2 b2, jU, jU] [] w := jr_aload_n hm (i := 2) rfl rfl dX11_reckon_146 (jr_iconst hm (v := 0) (by decide) dX11_reckon_147 (jr_iaload hm hA2 h1 dX11_reckon_148 (jr_bipush hm (v := 24) (by decide) dX11_reckon_149 (jr_irem hm (by decide) dX11_reckon_151 (jr_ireturn hm rfl dX11_reckon_152 hp)))))
theorem bk_X11_reckon_153 {C : JC} {d cl sl : Nat} {w : JW} {k2 : Nat} {b2 : Bool} {n2 : Nat} {P : JV → JW → Prop} (hm : jok C MX11_reckon d cl sl) (hA2 : jIA k2 b2 n2) (h1 : vp_in 1 n2) (hp : P (jI (w.1 k2 b2 1)) w) : jW C cl sl (jQQ C cl sl P) 153 [jU, jU, jR k2 b2, jU, jU] [] w := jr_aload_n hm (i := 2) rfl rfl dX11_reckon_153 (jr_iconst hm (v := 1) (by decide) dX11_reckon_154 (jr_iaload hm hA2 h1 dX11_reckon_155 (jr_ireturn hm rfl dX11_reckon_156 hp)))
theorem bk_X11_reckon_157 {C : JC} {d cl sl : Nat} {w : JW} {k2 : Nat} {b2 : Bool} {n2 : Nat} {P : JV → JW → Prop} (hm : jok C MX11_reckon d cl sl) (hA2 : jIA k2 b2 n2) (h1 : vp_in 2 n2) (hp : P (jI (w.1 k2 b2 2)) w) : jW C cl sl (jQQ C cl sl P) 157 [jU, jU, jR k2 b2, jU, jU] [] w := jr_aload_n hm (i := 2) rfl rfl dX11_reckon_157 (jr_iconst hm (v := 2) (by decide) dX11_reckon_158 (jr_iaload hm hA2 h1 dX11_reckon_159 (jr_ireturn hm rfl dX11_reckon_160 hp)))
theorem bk_X11_reckon_161 {C : JC} {d cl sl : Nat} {w : JW} {k2 : Nat} {b2 : Bool} {x3 : Int32} {n2 : Nat} {P : JV → JW → Prop} (hm : jok C MX11_reckon d cl sl) (hA2 : jIA k2 b2 n2) (h1 : vp_in (4 + x3) n2) (hp : P (jI (w.1 k2 b2 (4 + x3).toNatClampNeg)) w) : jW C cl sl (jQQ C cl sl P) 161 [jU, jU, jR k2 b2, jI x3, jU] [] w := jr_aload_n hm (i := 2) rfl rfl dX11_reckon_161 (jr_iconst hm (v := 4) (by decide) dX11_reckon_162 (jr_iload_n hm (i := 3) rfl rfl dX11_reckon_163 (jr_iadd hm dX11_reckon_164 (jr_iaload hm hA2 h1 dX11_reckon_165 (jr_ireturn hm rfl dX11_reckon_166 hp)))))
theorem bk_X11_reckon_167 {C : JC} {d cl sl : Nat} {w : JW} {k2 : Nat} {b2 : Bool} {x3 : Int32} {n2 : Nat} {P : JV → JW → Prop} (hm : jok C MX11_reckon d cl sl) (hA2 : jIA k2 b2 n2) (h1 : vp_in (9 + x3) n2) (hp : P (jI (w.1 k2 b2 (9 + x3).toNatClampNeg)) w) : jW C cl sl (jQQ C cl sl P) 167 [jU, jU, jR k2 b2, jI x3, jU] [] w := jr_aload_n hm (i := 2) rfl rfl dX11_reckon_167 (jr_bipush hm (v := 9) (by decide) dX11_reckon_168 (jr_iload_n hm (i := 3) rfl rfl dX11_reckon_170 (jr_iadd hm dX11_reckon_171 (jr_iaload hm hA2 h1 dX11_reckon_172 (jr_ireturn hm rfl dX11_reckon_173 hp)))))
theorem bk_X11_reckon_174 {C : JC} {d cl sl : Nat} {w : JW} {k2 : Nat} {b2 : Bool} {x3 : Int32} {n2 : Nat} {P : JV → JW → Prop} (hm : jok C MX11_reckon d cl sl) (hA2 : jIA k2 b2 n2) (h1 : vp_in (21 + x3) n2) (hp : P (jI (w.1 k2 b2 (21 + x3).toNatClampNeg)) w) : jW C cl sl (jQQ C cl sl P) 174 [jU, jU, jR k2 b2, jI x3, jU] [] w := jr_aload_n hm (i := 2) rfl rfl dX11_reckon_174 (jr_bipush hm (v := 21) (by decide) dX11_reckon_175 (jr_iload_n hm (i := 3) rfl rfl dX11_reckon_177 (jr_iadd hm dX11_reckon_178 (jr_iaload hm hA2 h1 dX11_reckon_179 (jr_ireturn hm rfl dX11_reckon_180 hp)))))
theorem bk_X11_reckon_181 {C : JC} {d cl sl : Nat} {Q : State → Prop} {w : JW} {k2 : Nat} {b2 : Bool} {x3 : Int32} {d2 : Nat} {r : Int32} {w2 : JW} (hm : jok C MX11_reckon d cl sl) (hs : jF MX11_reckon d2 [jR 41 false, jI x3, jR k2 b2] w (jI r) w2) (hd2 : d2 + 1 ≤ d) (k : jW C cl sl Q 187 [jU, jU, jU, jU, jU] [jI r] w2) : jW C cl sl Q 181 [jR 41 false, jU, jR k2 b2, jI x3, jU] [] w := jr_aload_n hm (i := 0) rfl rfl dX11_reckon_181 (jr_iload_n hm (i := 3) rfl rfl dX11_reckon_182 (jr_aload_n hm (i := 2) rfl rfl dX11_reckon_183 (jr_callV (mc := 0) (ms := 0) hm hs hd2 jw_1644 jw_1646 jw_96 jw_125 jw_1647 jn_X11_reckon rfl jo_41 (fun _ _ _ _ _ => ⟨_, rfl⟩) rfl rfl (Nat.le_of_ble_eq_true rfl) rfl dX11_reckon_184 (jkF (jr_drop (jle_drop (jle_same (jle_drop (jle_drop (jle_same jle_nil))))) k)))))
theorem bk_X11_reckon_187 {C : JC} {d cl sl : Nat} {w : JW} {xs0 : Int32} {P : JV → JW → Prop} (hm : jok C MX11_reckon d cl sl) (hp : P (jI (-xs0)) w) : jW C cl sl (jQQ C cl sl P) 187 [jU, jU, jU, jU, jU] [jI xs0] w := jr_ineg hm dX11_reckon_187 (jr_ireturn hm rfl dX11_reckon_188 hp)
theorem bk_X11_reckon_189 {C : JC} {d cl sl : Nat} {Q : State → Prop} {w : JW} {k2 : Nat} {b2 : Bool} {x3 : Int32} {x4 : Int32} {d2 : Nat} {r : Int32} {w2 : JW} (hm : jok C MX11_reckon d cl sl) (hs : jF MX11_reckon d2 [jR 41 false, jI x3, jR k2 b2] w (jI r) w2) (hd2 : d2 + 1 ≤ d) (k : jW C cl sl Q 195 [jR 41 false, jU, jR k2 b2, jU, jI x4] [jI r] w2) : jW C cl sl Q 189 [jR 41 false, jU, jR k2 b2, jI x3, jI x4] [] w := jr_aload_n hm (i := 0) rfl rfl dX11_reckon_189 (jr_iload_n hm (i := 3) rfl rfl dX11_reckon_190 (jr_aload_n hm (i := 2) rfl rfl dX11_reckon_191 (jr_callV (mc := 0) (ms := 0) hm hs hd2 jw_1644 jw_1646 jw_96 jw_125 jw_1647 jn_X11_reckon rfl jo_41 (fun _ _ _ _ _ => ⟨_, rfl⟩) rfl rfl (Nat.le_of_ble_eq_true rfl) rfl dX11_reckon_192 (jkF (jr_drop (jle_same (jle_same (jle_same (jle_drop (jle_same jle_nil))))) k)))))
theorem bk_X11_reckon_195 {C : JC} {d cl sl : Nat} {Q : State → Prop} {w : JW} {k2 : Nat} {b2 : Bool} {x4 : Int32} {xs0 : Int32} {d2 : Nat} {r : Int32} {w2 : JW} (hm : jok C MX11_reckon d cl sl) (hs : jF MX11_reckon d2 [jR 41 false, jI x4, jR k2 b2] w (jI r) w2) (hd2 : d2 + 1 ≤ d) (k : jW C cl sl Q 202 [jU, jU, jU, jU, jU] [jI r, jI xs0] w2) : jW C cl sl Q 195 [jR 41 false, jU, jR k2 b2, jU, jI x4] [jI xs0] w := jr_aload_n hm (i := 0) rfl rfl dX11_reckon_195 (jr_iload hm (i := 4) rfl dX11_reckon_196 (jr_aload_n hm (i := 2) rfl rfl dX11_reckon_198 (jr_callV (mc := 0) (ms := 0) hm hs hd2 jw_1644 jw_1646 jw_96 jw_125 jw_1647 jn_X11_reckon rfl jo_41 (fun _ _ _ _ _ => ⟨_, rfl⟩) rfl rfl (Nat.le_of_ble_eq_true rfl) rfl dX11_reckon_199 (jkF (jr_drop (jle_drop (jle_same (jle_drop (jle_same (jle_drop jle_nil))))) k)))))
theorem bk_X11_reckon_202 {C : JC} {d cl sl : Nat} {w : JW} {xs0 : Int32} {xs1 : Int32} {P : JV → JW → Prop} (hm : jok C MX11_reckon d cl sl) (hd1 : 1 ≤ d) (hp : P (jI (if xs0 < xs1 then xs0 else xs1)) w) : jW C cl sl (jQQ C cl sl P) 202 [jU, jU, jU, jU, jU] [jI xs0, jI xs1] w := jr_mmin hm jw_1530 jw_561 jw_136 jw_562 hd1 (Nat.le_of_ble_eq_true rfl) rfl dX11_reckon_202 (jr_ireturn hm rfl dX11_reckon_205 hp)
theorem bk_X11_reckon_206 {C : JC} {d cl sl : Nat} {Q : State → Prop} {w : JW} {k2 : Nat} {b2 : Bool} {x3 : Int32} {x4 : Int32} {d2 : Nat} {r : Int32} {w2 : JW} (hm : jok C MX11_reckon d cl sl) (hs : jF MX11_reckon d2 [jR 41 false, jI x3, jR k2 b2] w (jI r) w2) (hd2 : d2 + 1 ≤ d) (k : jW C cl sl Q 212 [jR 41 false, jU, jR k2 b2, jU, jI x4] [jI r] w2) : jW C cl sl Q 206 [jR 41 false, jU, jR k2 b2, jI x3, jI x4] [] w := jr_aload_n hm (i := 0) rfl rfl dX11_reckon_206 (jr_iload_n hm (i := 3) rfl rfl dX11_reckon_207 (jr_aload_n hm (i := 2) rfl rfl dX11_reckon_208 (jr_callV (mc := 0) (ms := 0) hm hs hd2 jw_1644 jw_1646 jw_96 jw_125 jw_1647 jn_X11_reckon rfl jo_41 (fun _ _ _ _ _ => ⟨_, rfl⟩) rfl rfl (Nat.le_of_ble_eq_true rfl) rfl dX11_reckon_209 (jkF (jr_drop (jle_same (jle_same (jle_same (jle_drop (jle_same jle_nil))))) k)))))
theorem bk_X11_reckon_212 {C : JC} {d cl sl : Nat} {Q : State → Prop} {w : JW} {k2 : Nat} {b2 : Bool} {x4 : Int32} {xs0 : Int32} {d2 : Nat} {r : Int32} {w2 : JW} (hm : jok C MX11_reckon d cl sl) (hs : jF MX11_reckon d2 [jR 41 false, jI x4, jR k2 b2] w (jI r) w2) (hd2 : d2 + 1 ≤ d) (k : jW C cl sl Q 219 [jU, jU, jU, jU, jU] [jI r, jI xs0] w2) : jW C cl sl Q 212 [jR 41 false, jU, jR k2 b2, jU, jI x4] [jI xs0] w := jr_aload_n hm (i := 0) rfl rfl dX11_reckon_212 (jr_iload hm (i := 4) rfl dX11_reckon_213 (jr_aload_n hm (i := 2) rfl rfl dX11_reckon_215 (jr_callV (mc := 0) (ms := 0) hm hs hd2 jw_1644 jw_1646 jw_96 jw_125 jw_1647 jn_X11_reckon rfl jo_41 (fun _ _ _ _ _ => ⟨_, rfl⟩) rfl rfl (Nat.le_of_ble_eq_true rfl) rfl dX11_reckon_216 (jkF (jr_drop (jle_drop (jle_same (jle_drop (jle_same (jle_drop jle_nil))))) k)))))
theorem bk_X11_reckon_219 {C : JC} {d cl sl : Nat} {w : JW} {xs0 : Int32} {xs1 : Int32} {P : JV → JW → Prop} (hm : jok C MX11_reckon d cl sl) (hd1 : 1 ≤ d) (hp : P (jI (if xs1 < xs0 then xs0 else xs1)) w) : jW C cl sl (jQQ C cl sl P) 219 [jU, jU, jU, jU, jU] [jI xs0, jI xs1] w := jr_mmax hm jw_1648 jw_558 jw_136 jw_559 hd1 (Nat.le_of_ble_eq_true rfl) rfl dX11_reckon_219 (jr_ireturn hm rfl dX11_reckon_222 hp)
theorem bk_X11_reckon_223 {C : JC} {d cl sl : Nat} {Q : State → Prop} {w : JW} {k2 : Nat} {b2 : Bool} {x3 : Int32} {x4 : Int32} {d2 : Nat} {r : Int32} {w2 : JW} (hm : jok C MX11_reckon d cl sl) (hs : jF MX11_reckon d2 [jR 41 false, jI x3, jR k2 b2] w (jI r) w2) (hd2 : d2 + 1 ≤ d) (k : jW C cl sl Q 229 [jR 41 false, jU, jR k2 b2, jU, jI x4] [jI r] w2) : jW C cl sl Q 223 [jR 41 false, jU, jR k2 b2, jI x3, jI x4] [] w := jr_aload_n hm (i := 0) rfl rfl dX11_reckon_223 (jr_iload_n hm (i := 3) rfl rfl dX11_reckon_224 (jr_aload_n hm (i := 2) rfl rfl dX11_reckon_225 (jr_callV (mc := 0) (ms := 0) hm hs hd2 jw_1644 jw_1646 jw_96 jw_125 jw_1647 jn_X11_reckon rfl jo_41 (fun _ _ _ _ _ => ⟨_, rfl⟩) rfl rfl (Nat.le_of_ble_eq_true rfl) rfl dX11_reckon_226 (jkF (jr_drop (jle_same (jle_same (jle_same (jle_drop (jle_same jle_nil))))) k)))))
theorem bk_X11_reckon_229 {C : JC} {d cl sl : Nat} {Q : State → Prop} {w : JW} {k2 : Nat} {b2 : Bool} {x4 : Int32} {xs0 : Int32} {d2 : Nat} {r : Int32} {w2 : JW} (hm : jok C MX11_reckon d cl sl) (hs : jF MX11_reckon d2 [jR 41 false, jI x4, jR k2 b2] w (jI r) w2) (hd2 : d2 + 1 ≤ d) (k : jW C cl sl Q 236 [jU, jU, jU, jU, jU] [jI r, jI xs0] w2) : jW C cl sl Q 229 [jR 41 false, jU, jR k2 b2, jU, jI x4] [jI xs0] w := jr_aload_n hm (i := 0) rfl rfl dX11_reckon_229 (jr_iload hm (i := 4) rfl dX11_reckon_230 (jr_aload_n hm (i := 2) rfl rfl dX11_reckon_232 (jr_callV (mc := 0) (ms := 0) hm hs hd2 jw_1644 jw_1646 jw_96 jw_125 jw_1647 jn_X11_reckon rfl jo_41 (fun _ _ _ _ _ => ⟨_, rfl⟩) rfl rfl (Nat.le_of_ble_eq_true rfl) rfl dX11_reckon_233 (jkF (jr_drop (jle_drop (jle_same (jle_drop (jle_same (jle_drop jle_nil))))) k)))))
theorem bk_X11_reckon_236 {C : JC} {d cl sl : Nat} {w : JW} {xs0 : Int32} {xs1 : Int32} {P : JV → JW → Prop} (hm : jok C MX11_reckon d cl sl) (hp : P (jI (xs1 * xs0)) w) : jW C cl sl (jQQ C cl sl P) 236 [jU, jU, jU, jU, jU] [jI xs0, jI xs1] w := jr_imul hm dX11_reckon_236 (jr_ireturn hm rfl dX11_reckon_237 hp)
theorem bk_X11_reckon_238 {C : JC} {d cl sl : Nat} {Q : State → Prop} {w : JW} {k2 : Nat} {b2 : Bool} {x3 : Int32} {x4 : Int32} {d2 : Nat} {r : Int32} {w2 : JW} (hm : jok C MX11_reckon d cl sl) (hs : jF MX11_reckon d2 [jR 41 false, jI x3, jR k2 b2] w (jI r) w2) (hd2 : d2 + 1 ≤ d) (k : jW C cl sl Q 244 [jR 41 false, jU, jR k2 b2, jU, jI x4] [jI r] w2) : jW C cl sl Q 238 [jR 41 false, jU, jR k2 b2, jI x3, jI x4] [] w := jr_aload_n hm (i := 0) rfl rfl dX11_reckon_238 (jr_iload_n hm (i := 3) rfl rfl dX11_reckon_239 (jr_aload_n hm (i := 2) rfl rfl dX11_reckon_240 (jr_callV (mc := 0) (ms := 0) hm hs hd2 jw_1644 jw_1646 jw_96 jw_125 jw_1647 jn_X11_reckon rfl jo_41 (fun _ _ _ _ _ => ⟨_, rfl⟩) rfl rfl (Nat.le_of_ble_eq_true rfl) rfl dX11_reckon_241 (jkF (jr_drop (jle_same (jle_same (jle_same (jle_drop (jle_same jle_nil))))) k)))))
theorem bk_X11_reckon_244 {C : JC} {d cl sl : Nat} {Q : State → Prop} {w : JW} {k2 : Nat} {b2 : Bool} {x4 : Int32} {xs0 : Int32} {d2 : Nat} {r : Int32} {w2 : JW} (hm : jok C MX11_reckon d cl sl) (hs : jF MX11_reckon d2 [jR 41 false, jI x4, jR k2 b2] w (jI r) w2) (hd2 : d2 + 1 ≤ d) (k : jW C cl sl Q 251 [jU, jU, jU, jU, jU] [jI r, jI xs0] w2) : jW C cl sl Q 244 [jR 41 false, jU, jR k2 b2, jU, jI x4] [jI xs0] w := jr_aload_n hm (i := 0) rfl rfl dX11_reckon_244 (jr_iload hm (i := 4) rfl dX11_reckon_245 (jr_aload_n hm (i := 2) rfl rfl dX11_reckon_247 (jr_callV (mc := 0) (ms := 0) hm hs hd2 jw_1644 jw_1646 jw_96 jw_125 jw_1647 jn_X11_reckon rfl jo_41 (fun _ _ _ _ _ => ⟨_, rfl⟩) rfl rfl (Nat.le_of_ble_eq_true rfl) rfl dX11_reckon_248 (jkF (jr_drop (jle_drop (jle_same (jle_drop (jle_same (jle_drop jle_nil))))) k)))))
theorem bk_X11_reckon_251 {C : JC} {d cl sl : Nat} {Q : State → Prop} {w : JW} {xs0 : Int32} {xs1 : Int32} {d2 : Nat} {r : Int32} {w2 : JW} (hm : jok C MX11_reckon d cl sl) (hs : jF MX11_parts d2 [jI xs1, jI xs0] w (jI r) w2) (hd2 : d2 + 1 ≤ d) (k : jW C cl sl Q 254 [jU, jU, jU, jU, jU] [jI r] w2) : jW C cl sl Q 251 [jU, jU, jU, jU, jU] [jI xs0, jI xs1] w := jr_callS (mc := 0) (ms := 0) hm hs hd2 jw_1649 jw_1650 jw_125 jw_1651 jn_X11_parts rfl rfl (Nat.le_of_ble_eq_true rfl) rfl dX11_reckon_251 (jkF (jr_drop (jle_same (jle_same (jle_same (jle_same (jle_same jle_nil))))) k))
theorem bk_X11_reckon_254 {C : JC} {d cl sl : Nat} {w : JW} {xs0 : Int32} {P : JV → JW → Prop} (hm : jok C MX11_reckon d cl sl) (hp : P (jI xs0) w) : jW C cl sl (jQQ C cl sl P) 254 [jU, jU, jU, jU, jU] [jI xs0] w := jr_ireturn hm rfl dX11_reckon_254 hp
theorem bk_X11_reckon_255 {C : JC} {d cl sl : Nat} {Q : State → Prop} {w : JW} {k2 : Nat} {b2 : Bool} {x3 : Int32} {x4 : Int32} {d2 : Nat} {r : Int32} {w2 : JW} (hm : jok C MX11_reckon d cl sl) (hs : jF MX11_reckon d2 [jR 41 false, jI x3, jR k2 b2] w (jI r) w2) (hd2 : d2 + 1 ≤ d) (k : jW C cl sl Q 261 [jR 41 false, jU, jR k2 b2, jU, jI x4] [jI r] w2) : jW C cl sl Q 255 [jR 41 false, jU, jR k2 b2, jI x3, jI x4] [] w := jr_aload_n hm (i := 0) rfl rfl dX11_reckon_255 (jr_iload_n hm (i := 3) rfl rfl dX11_reckon_256 (jr_aload_n hm (i := 2) rfl rfl dX11_reckon_257 (jr_callV (mc := 0) (ms := 0) hm hs hd2 jw_1644 jw_1646 jw_96 jw_125 jw_1647 jn_X11_reckon rfl jo_41 (fun _ _ _ _ _ => ⟨_, rfl⟩) rfl rfl (Nat.le_of_ble_eq_true rfl) rfl dX11_reckon_258 (jkF (jr_drop (jle_same (jle_same (jle_same (jle_drop (jle_same jle_nil))))) k)))))
theorem bk_X11_reckon_261 {C : JC} {d cl sl : Nat} {Q : State → Prop} {w : JW} {k2 : Nat} {b2 : Bool} {x4 : Int32} {xs0 : Int32} {d2 : Nat} {r : Int32} {w2 : JW} (hm : jok C MX11_reckon d cl sl) (hs : jF MX11_reckon d2 [jR 41 false, jI x4, jR k2 b2] w (jI r) w2) (hd2 : d2 + 1 ≤ d) (k : jW C cl sl Q 268 [jU, jU, jU, jU, jU] [jI r, jI xs0] w2) : jW C cl sl Q 261 [jR 41 false, jU, jR k2 b2, jU, jI x4] [jI xs0] w := jr_aload_n hm (i := 0) rfl rfl dX11_reckon_261 (jr_iload hm (i := 4) rfl dX11_reckon_262 (jr_aload_n hm (i := 2) rfl rfl dX11_reckon_264 (jr_callV (mc := 0) (ms := 0) hm hs hd2 jw_1644 jw_1646 jw_96 jw_125 jw_1647 jn_X11_reckon rfl jo_41 (fun _ _ _ _ _ => ⟨_, rfl⟩) rfl rfl (Nat.le_of_ble_eq_true rfl) rfl dX11_reckon_265 (jkF (jr_drop (jle_drop (jle_same (jle_drop (jle_same (jle_drop jle_nil))))) k)))))
theorem bk_X11_reckon_268 {C : JC} {d cl sl : Nat} {w : JW} {xs0 : Int32} {xs1 : Int32} {P : JV → JW → Prop} (hm : jok C MX11_reckon d cl sl) (hp : P (jI (xs1 - xs0)) w) : jW C cl sl (jQQ C cl sl P) 268 [jU, jU, jU, jU, jU] [jI xs0, jI xs1] w := jr_isub hm dX11_reckon_268 (jr_ireturn hm rfl dX11_reckon_269 hp)
theorem bk_X11_reckon_270 {C : JC} {d cl sl : Nat} {Q : State → Prop} {w : JW} {k2 : Nat} {b2 : Bool} {x3 : Int32} {x4 : Int32} {d2 : Nat} {r : Int32} {w2 : JW} (hm : jok C MX11_reckon d cl sl) (hs : jF MX11_reckon d2 [jR 41 false, jI x3, jR k2 b2] w (jI r) w2) (hd2 : d2 + 1 ≤ d) (k : jW C cl sl Q 276 [jR 41 false, jU, jR k2 b2, jU, jI x4] [jI r] w2) : jW C cl sl Q 270 [jR 41 false, jU, jR k2 b2, jI x3, jI x4] [] w := jr_aload_n hm (i := 0) rfl rfl dX11_reckon_270 (jr_iload_n hm (i := 3) rfl rfl dX11_reckon_271 (jr_aload_n hm (i := 2) rfl rfl dX11_reckon_272 (jr_callV (mc := 0) (ms := 0) hm hs hd2 jw_1644 jw_1646 jw_96 jw_125 jw_1647 jn_X11_reckon rfl jo_41 (fun _ _ _ _ _ => ⟨_, rfl⟩) rfl rfl (Nat.le_of_ble_eq_true rfl) rfl dX11_reckon_273 (jkF (jr_drop (jle_same (jle_same (jle_same (jle_drop (jle_same jle_nil))))) k)))))
theorem bk_X11_reckon_276 {C : JC} {d cl sl : Nat} {Q : State → Prop} {w : JW} {k2 : Nat} {b2 : Bool} {x4 : Int32} {xs0 : Int32} {d2 : Nat} {r : Int32} {w2 : JW} (hm : jok C MX11_reckon d cl sl) (hs : jF MX11_reckon d2 [jR 41 false, jI x4, jR k2 b2] w (jI r) w2) (hd2 : d2 + 1 ≤ d) (k : jW C cl sl Q 283 [jU, jU, jU, jU, jU] [jI r, jI xs0] w2) : jW C cl sl Q 276 [jR 41 false, jU, jR k2 b2, jU, jI x4] [jI xs0] w := jr_aload_n hm (i := 0) rfl rfl dX11_reckon_276 (jr_iload hm (i := 4) rfl dX11_reckon_277 (jr_aload_n hm (i := 2) rfl rfl dX11_reckon_279 (jr_callV (mc := 0) (ms := 0) hm hs hd2 jw_1644 jw_1646 jw_96 jw_125 jw_1647 jn_X11_reckon rfl jo_41 (fun _ _ _ _ _ => ⟨_, rfl⟩) rfl rfl (Nat.le_of_ble_eq_true rfl) rfl dX11_reckon_280 (jkF (jr_drop (jle_drop (jle_same (jle_drop (jle_same (jle_drop jle_nil))))) k)))))
theorem bk_X11_reckon_283 {C : JC} {d cl sl : Nat} {w : JW} {xs0 : Int32} {xs1 : Int32} {P : JV → JW → Prop} (hm : jok C MX11_reckon d cl sl) (hp : P (jI (xs1 + xs0)) w) : jW C cl sl (jQQ C cl sl P) 283 [jU, jU, jU, jU, jU] [jI xs0, jI xs1] w := jr_iadd hm dX11_reckon_283 (jr_ireturn hm rfl dX11_reckon_284 hp)
theorem dX11_parts_0 : decode cX11_parts 0 = .ok (.iload_n 1, 1) := by decide +kernel
theorem dX11_parts_1 : decode cX11_parts 1 = .ok (.ifCond .ne 7, 3) := by decide +kernel
theorem dX11_parts_4 : decode cX11_parts 4 = .ok (.iconst 0, 1) := by decide +kernel
theorem dX11_parts_5 : decode cX11_parts 5 = .ok (.goto 16, 3) := by decide +kernel
theorem dX11_parts_8 : decode cX11_parts 8 = .ok (.iload_n 1, 1) := by decide +kernel
theorem dX11_parts_9 : decode cX11_parts 9 = .ok (.iconst (-1), 1) := by decide +kernel
theorem dX11_parts_10 : decode cX11_parts 10 = .ok (.if_icmp .ne 8, 3) := by decide +kernel
theorem dX11_parts_13 : decode cX11_parts 13 = .ok (.iload_n 0, 1) := by decide +kernel
theorem dX11_parts_14 : decode cX11_parts 14 = .ok (.ineg, 1) := by decide +kernel
theorem dX11_parts_15 : decode cX11_parts 15 = .ok (.goto 6, 3) := by decide +kernel
theorem dX11_parts_18 : decode cX11_parts 18 = .ok (.iload_n 0, 1) := by decide +kernel
theorem dX11_parts_19 : decode cX11_parts 19 = .ok (.iload_n 1, 1) := by decide +kernel
theorem dX11_parts_20 : decode cX11_parts 20 = .ok (.idiv, 1) := by decide +kernel
theorem dX11_parts_21 : decode cX11_parts 21 = .ok (.ireturn, 1) := by decide +kernel
theorem bk_X11_parts_0 {C : JC} {d cl sl : Nat} {Q : State → Prop} {w : JW} {x0 : Int32} {x1 : Int32} (hm : jok C MX11_parts d cl sl) (kt : ¬ x1 = 0 → jW C cl sl Q 8 [jI x0, jI x1] [] w) (kf : x1 = 0 → jW C cl sl Q 4 [jU, jU] [] w) : jW C cl sl Q 0 [jI x0, jI x1] [] w := jr_iload_n hm (i := 1) rfl rfl dX11_parts_0 (jr_if_ne hm dX11_parts_1 (by decide) (fun h => jr_drop (jle_same (jle_same jle_nil)) (kt h)) (fun h => jr_drop (jle_drop (jle_drop jle_nil)) (kf h)))
theorem bk_X11_parts_4 {C : JC} {d cl sl : Nat} {Q : State → Prop} {w : JW}  (hm : jok C MX11_parts d cl sl) (k : jW C cl sl Q 21 [jU, jU] [jI 0] w) : jW C cl sl Q 4 [jU, jU] [] w := jr_iconst hm (v := 0) (by decide) dX11_parts_4 (jr_goto hm dX11_parts_5 (by decide) (jr_drop (jle_same (jle_same jle_nil)) k))
theorem bk_X11_parts_8 {C : JC} {d cl sl : Nat} {Q : State → Prop} {w : JW} {x0 : Int32} {x1 : Int32} (hm : jok C MX11_parts d cl sl) (kt : ¬ x1 = (-1) → jW C cl sl Q 18 [jI x0, jI x1] [] w) (kf : x1 = (-1) → jW C cl sl Q 13 [jI x0, jU] [] w) : jW C cl sl Q 8 [jI x0, jI x1] [] w := jr_iload_n hm (i := 1) rfl rfl dX11_parts_8 (jr_iconst hm (v := (-1)) (by decide) dX11_parts_9 (jr_icmp_ne hm dX11_parts_10 (by decide) (fun h => jr_drop (jle_same (jle_same jle_nil)) (kt h)) (fun h => jr_drop (jle_same (jle_drop jle_nil)) (kf h))))
theorem bk_X11_parts_13 {C : JC} {d cl sl : Nat} {Q : State → Prop} {w : JW} {x0 : Int32} (hm : jok C MX11_parts d cl sl) (k : jW C cl sl Q 21 [jU, jU] [jI (-x0)] w) : jW C cl sl Q 13 [jI x0, jU] [] w := jr_iload_n hm (i := 0) rfl rfl dX11_parts_13 (jr_ineg hm dX11_parts_14 (jr_goto hm dX11_parts_15 (by decide) (jr_drop (jle_drop (jle_same jle_nil)) k)))
theorem bk_X11_parts_18 {C : JC} {d cl sl : Nat} {Q : State → Prop} {w : JW} {x0 : Int32} {x1 : Int32} (hm : jok C MX11_parts d cl sl) (h1 : ¬ x1 = 0) (k : jW C cl sl Q 21 [jU, jU] [jI (x0 / x1)] w) : jW C cl sl Q 18 [jI x0, jI x1] [] w := jr_iload_n hm (i := 0) rfl rfl dX11_parts_18 (jr_iload_n hm (i := 1) rfl rfl dX11_parts_19 (jr_idiv hm h1 dX11_parts_20 (jr_drop (jle_drop (jle_drop jle_nil)) k)))
theorem bk_X11_parts_21 {C : JC} {d cl sl : Nat} {w : JW} {xs0 : Int32} {P : JV → JW → Prop} (hm : jok C MX11_parts d cl sl) (hp : P (jI xs0) w) : jW C cl sl (jQQ C cl sl P) 21 [jU, jU] [jI xs0] w := jr_ireturn hm rfl dX11_parts_21 hp
theorem dX11_holds_0 : decode cX11_holds 0 = .ok (.aload_n 0, 1) := by decide +kernel
theorem dX11_holds_1 : decode cX11_holds 1 = .ok (.getfield 87, 3) := by decide +kernel
theorem dX11_holds_4 : decode cX11_holds 4 = .ok (.getfield 284, 3) := by decide +kernel
theorem dX11_holds_7 : decode cX11_holds 7 = .ok (.iload_n 1, 1) := by decide +kernel
theorem dX11_holds_8 : decode cX11_holds 8 = .ok (.iaload, 1) := by decide +kernel
theorem dX11_holds_9 : decode cX11_holds 9 = .ok (.istore_n 3, 1) := by decide +kernel
theorem dX11_holds_10 : decode cX11_holds 10 = .ok (.aload_n 0, 1) := by decide +kernel
theorem dX11_holds_11 : decode cX11_holds 11 = .ok (.getfield 87, 3) := by decide +kernel
theorem dX11_holds_14 : decode cX11_holds 14 = .ok (.getfield 286, 3) := by decide +kernel
theorem dX11_holds_17 : decode cX11_holds 17 = .ok (.iload_n 1, 1) := by decide +kernel
theorem dX11_holds_18 : decode cX11_holds 18 = .ok (.iaload, 1) := by decide +kernel
theorem dX11_holds_19 : decode cX11_holds 19 = .ok (.istore 4, 2) := by decide +kernel
theorem dX11_holds_21 : decode cX11_holds 21 = .ok (.aload_n 0, 1) := by decide +kernel
theorem dX11_holds_22 : decode cX11_holds 22 = .ok (.getfield 87, 3) := by decide +kernel
theorem dX11_holds_25 : decode cX11_holds 25 = .ok (.getfield 289, 3) := by decide +kernel
theorem dX11_holds_28 : decode cX11_holds 28 = .ok (.iload_n 1, 1) := by decide +kernel
theorem dX11_holds_29 : decode cX11_holds 29 = .ok (.iaload, 1) := by decide +kernel
theorem dX11_holds_30 : decode cX11_holds 30 = .ok (.lookupswitch 222 #[(24, 74), (25, 89), (26, 104), (27, 119), (60, 134), (62, 156), (103, 200), (108, 178)], 74) := by decide +kernel
theorem dX11_holds_104 : decode cX11_holds 104 = .ok (.aload_n 2, 1) := by decide +kernel
theorem dX11_holds_105 : decode cX11_holds 105 = .ok (.bipush 21, 2) := by decide +kernel
theorem dX11_holds_107 : decode cX11_holds 107 = .ok (.iload_n 3, 1) := by decide +kernel
theorem dX11_holds_108 : decode cX11_holds 108 = .ok (.iadd, 1) := by decide +kernel
theorem dX11_holds_109 : decode cX11_holds 109 = .ok (.iaload, 1) := by decide +kernel
theorem dX11_holds_110 : decode cX11_holds 110 = .ok (.ifCond .le 7, 3) := by decide +kernel
theorem dX11_holds_113 : decode cX11_holds 113 = .ok (.iconst 1, 1) := by decide +kernel
theorem dX11_holds_114 : decode cX11_holds 114 = .ok (.goto 4, 3) := by decide +kernel
theorem dX11_holds_117 : decode cX11_holds 117 = .ok (.iconst 0, 1) := by decide +kernel
theorem dX11_holds_118 : decode cX11_holds 118 = .ok (.ireturn, 1) := by decide +kernel
theorem dX11_holds_119 : decode cX11_holds 119 = .ok (.aload_n 0, 1) := by decide +kernel
theorem dX11_holds_120 : decode cX11_holds 120 = .ok (.iload_n 3, 1) := by decide +kernel
theorem dX11_holds_121 : decode cX11_holds 121 = .ok (.aload_n 2, 1) := by decide +kernel
theorem dX11_holds_122 : decode cX11_holds 122 = .ok (.invokevirtual 302, 3) := by decide +kernel
theorem dX11_holds_125 : decode cX11_holds 125 = .ok (.ifCond .ne 7, 3) := by decide +kernel
theorem dX11_holds_128 : decode cX11_holds 128 = .ok (.iconst 1, 1) := by decide +kernel
theorem dX11_holds_129 : decode cX11_holds 129 = .ok (.goto 4, 3) := by decide +kernel
theorem dX11_holds_132 : decode cX11_holds 132 = .ok (.iconst 0, 1) := by decide +kernel
theorem dX11_holds_133 : decode cX11_holds 133 = .ok (.ireturn, 1) := by decide +kernel
theorem dX11_holds_134 : decode cX11_holds 134 = .ok (.aload_n 0, 1) := by decide +kernel
theorem dX11_holds_135 : decode cX11_holds 135 = .ok (.iload_n 3, 1) := by decide +kernel
theorem dX11_holds_136 : decode cX11_holds 136 = .ok (.aload_n 2, 1) := by decide +kernel
theorem dX11_holds_137 : decode cX11_holds 137 = .ok (.invokevirtual 302, 3) := by decide +kernel
theorem dX11_holds_140 : decode cX11_holds 140 = .ok (.aload_n 0, 1) := by decide +kernel
theorem dX11_holds_141 : decode cX11_holds 141 = .ok (.iload 4, 2) := by decide +kernel
theorem dX11_holds_143 : decode cX11_holds 143 = .ok (.aload_n 2, 1) := by decide +kernel
theorem dX11_holds_144 : decode cX11_holds 144 = .ok (.invokevirtual 302, 3) := by decide +kernel
theorem dX11_holds_147 : decode cX11_holds 147 = .ok (.iand, 1) := by decide +kernel
theorem dX11_holds_148 : decode cX11_holds 148 = .ok (.ireturn, 1) := by decide +kernel
theorem dX11_holds_149 : decode cX11_holds 149 = .ok (.aload_n 0, 1) := by decide +kernel
theorem dX11_holds_150 : decode cX11_holds 150 = .ok (.iload_n 3, 1) := by decide +kernel
theorem dX11_holds_151 : decode cX11_holds 151 = .ok (.aload_n 2, 1) := by decide +kernel
theorem dX11_holds_152 : decode cX11_holds 152 = .ok (.invokevirtual 302, 3) := by decide +kernel
theorem dX11_holds_155 : decode cX11_holds 155 = .ok (.aload_n 0, 1) := by decide +kernel
theorem dX11_holds_156 : decode cX11_holds 156 = .ok (.iload 4, 2) := by decide +kernel
theorem dX11_holds_158 : decode cX11_holds 158 = .ok (.aload_n 2, 1) := by decide +kernel
theorem dX11_holds_159 : decode cX11_holds 159 = .ok (.invokevirtual 302, 3) := by decide +kernel
theorem dX11_holds_162 : decode cX11_holds 162 = .ok (.ior, 1) := by decide +kernel
theorem dX11_holds_163 : decode cX11_holds 163 = .ok (.ireturn, 1) := by decide +kernel
theorem dX11_holds_164 : decode cX11_holds 164 = .ok (.aload_n 0, 1) := by decide +kernel
theorem dX11_holds_165 : decode cX11_holds 165 = .ok (.iload_n 3, 1) := by decide +kernel
theorem dX11_holds_166 : decode cX11_holds 166 = .ok (.aload_n 2, 1) := by decide +kernel
theorem dX11_holds_167 : decode cX11_holds 167 = .ok (.invokevirtual 292, 3) := by decide +kernel
theorem dX11_holds_170 : decode cX11_holds 170 = .ok (.aload_n 0, 1) := by decide +kernel
theorem dX11_holds_171 : decode cX11_holds 171 = .ok (.iload 4, 2) := by decide +kernel
theorem dX11_holds_173 : decode cX11_holds 173 = .ok (.aload_n 2, 1) := by decide +kernel
theorem dX11_holds_174 : decode cX11_holds 174 = .ok (.invokevirtual 292, 3) := by decide +kernel
theorem dX11_holds_177 : decode cX11_holds 177 = .ok (.if_icmp .ge 7, 3) := by decide +kernel
theorem dX11_holds_180 : decode cX11_holds 180 = .ok (.iconst 1, 1) := by decide +kernel
theorem dX11_holds_181 : decode cX11_holds 181 = .ok (.goto 4, 3) := by decide +kernel
theorem dX11_holds_184 : decode cX11_holds 184 = .ok (.iconst 0, 1) := by decide +kernel
theorem dX11_holds_185 : decode cX11_holds 185 = .ok (.ireturn, 1) := by decide +kernel
theorem dX11_holds_186 : decode cX11_holds 186 = .ok (.aload_n 0, 1) := by decide +kernel
theorem dX11_holds_187 : decode cX11_holds 187 = .ok (.iload_n 3, 1) := by decide +kernel
theorem dX11_holds_188 : decode cX11_holds 188 = .ok (.aload_n 2, 1) := by decide +kernel
theorem dX11_holds_189 : decode cX11_holds 189 = .ok (.invokevirtual 292, 3) := by decide +kernel
theorem dX11_holds_192 : decode cX11_holds 192 = .ok (.aload_n 0, 1) := by decide +kernel
theorem dX11_holds_193 : decode cX11_holds 193 = .ok (.iload 4, 2) := by decide +kernel
theorem dX11_holds_195 : decode cX11_holds 195 = .ok (.aload_n 2, 1) := by decide +kernel
theorem dX11_holds_196 : decode cX11_holds 196 = .ok (.invokevirtual 292, 3) := by decide +kernel
theorem dX11_holds_199 : decode cX11_holds 199 = .ok (.if_icmp .le 7, 3) := by decide +kernel
theorem dX11_holds_202 : decode cX11_holds 202 = .ok (.iconst 1, 1) := by decide +kernel
theorem dX11_holds_203 : decode cX11_holds 203 = .ok (.goto 4, 3) := by decide +kernel
theorem dX11_holds_206 : decode cX11_holds 206 = .ok (.iconst 0, 1) := by decide +kernel
theorem dX11_holds_207 : decode cX11_holds 207 = .ok (.ireturn, 1) := by decide +kernel
theorem dX11_holds_208 : decode cX11_holds 208 = .ok (.aload_n 0, 1) := by decide +kernel
theorem dX11_holds_209 : decode cX11_holds 209 = .ok (.iload_n 3, 1) := by decide +kernel
theorem dX11_holds_210 : decode cX11_holds 210 = .ok (.aload_n 2, 1) := by decide +kernel
theorem dX11_holds_211 : decode cX11_holds 211 = .ok (.invokevirtual 292, 3) := by decide +kernel
theorem dX11_holds_214 : decode cX11_holds 214 = .ok (.aload_n 0, 1) := by decide +kernel
theorem dX11_holds_215 : decode cX11_holds 215 = .ok (.iload 4, 2) := by decide +kernel
theorem dX11_holds_217 : decode cX11_holds 217 = .ok (.aload_n 2, 1) := by decide +kernel
theorem dX11_holds_218 : decode cX11_holds 218 = .ok (.invokevirtual 292, 3) := by decide +kernel
theorem dX11_holds_221 : decode cX11_holds 221 = .ok (.if_icmp .gt 7, 3) := by decide +kernel
theorem dX11_holds_224 : decode cX11_holds 224 = .ok (.iconst 1, 1) := by decide +kernel
theorem dX11_holds_225 : decode cX11_holds 225 = .ok (.goto 4, 3) := by decide +kernel
theorem dX11_holds_228 : decode cX11_holds 228 = .ok (.iconst 0, 1) := by decide +kernel
theorem dX11_holds_229 : decode cX11_holds 229 = .ok (.ireturn, 1) := by decide +kernel
theorem dX11_holds_230 : decode cX11_holds 230 = .ok (.aload_n 0, 1) := by decide +kernel
theorem dX11_holds_231 : decode cX11_holds 231 = .ok (.iload_n 3, 1) := by decide +kernel
theorem dX11_holds_232 : decode cX11_holds 232 = .ok (.aload_n 2, 1) := by decide +kernel
theorem dX11_holds_233 : decode cX11_holds 233 = .ok (.invokevirtual 292, 3) := by decide +kernel
theorem dX11_holds_236 : decode cX11_holds 236 = .ok (.aload_n 0, 1) := by decide +kernel
theorem dX11_holds_237 : decode cX11_holds 237 = .ok (.iload 4, 2) := by decide +kernel
theorem dX11_holds_239 : decode cX11_holds 239 = .ok (.aload_n 2, 1) := by decide +kernel
theorem dX11_holds_240 : decode cX11_holds 240 = .ok (.invokevirtual 292, 3) := by decide +kernel
theorem dX11_holds_243 : decode cX11_holds 243 = .ok (.if_icmp .lt 7, 3) := by decide +kernel
theorem dX11_holds_246 : decode cX11_holds 246 = .ok (.iconst 1, 1) := by decide +kernel
theorem dX11_holds_247 : decode cX11_holds 247 = .ok (.goto 4, 3) := by decide +kernel
theorem dX11_holds_250 : decode cX11_holds 250 = .ok (.iconst 0, 1) := by decide +kernel
theorem dX11_holds_251 : decode cX11_holds 251 = .ok (.ireturn, 1) := by decide +kernel
theorem dX11_holds_252 : decode cX11_holds 252 = .ok (.aload_n 0, 1) := by decide +kernel
theorem dX11_holds_253 : decode cX11_holds 253 = .ok (.iload_n 3, 1) := by decide +kernel
theorem dX11_holds_254 : decode cX11_holds 254 = .ok (.aload_n 2, 1) := by decide +kernel
theorem dX11_holds_255 : decode cX11_holds 255 = .ok (.invokevirtual 292, 3) := by decide +kernel
theorem dX11_holds_258 : decode cX11_holds 258 = .ok (.aload_n 0, 1) := by decide +kernel
theorem dX11_holds_259 : decode cX11_holds 259 = .ok (.iload 4, 2) := by decide +kernel
theorem dX11_holds_261 : decode cX11_holds 261 = .ok (.aload_n 2, 1) := by decide +kernel
theorem dX11_holds_262 : decode cX11_holds 262 = .ok (.invokevirtual 292, 3) := by decide +kernel
theorem dX11_holds_265 : decode cX11_holds 265 = .ok (.if_icmp .ne 7, 3) := by decide +kernel
theorem dX11_holds_268 : decode cX11_holds 268 = .ok (.iconst 1, 1) := by decide +kernel
theorem dX11_holds_269 : decode cX11_holds 269 = .ok (.goto 4, 3) := by decide +kernel
theorem dX11_holds_272 : decode cX11_holds 272 = .ok (.iconst 0, 1) := by decide +kernel
theorem dX11_holds_273 : decode cX11_holds 273 = .ok (.ireturn, 1) := by decide +kernel
theorem bk_X11_holds_0 {C : JC} {d cl sl : Nat} {Q : State → Prop} {w : JW} {x1 : Int32} {k2 : Nat} {b2 : Bool} (hm : jok C MX11_holds d cl sl) (h1 : vp_in x1 401) (h2 : vp_in x1 401) (h3 : vp_in x1 401) (k24 : (w.1 60 (w.2.2 41 8) x1.toNatClampNeg) = 24 → jW C cl sl Q 104 [jU, jU, jR k2 b2, jI (w.1 61 (w.2.2 41 8) x1.toNatClampNeg), jU] [] w) (k25 : (w.1 60 (w.2.2 41 8) x1.toNatClampNeg) = 25 → jW C cl sl Q 119 [jR 41 false, jU, jR k2 b2, jI (w.1 61 (w.2.2 41 8) x1.toNatClampNeg), jU] [] w) (k26 : (w.1 60 (w.2.2 41 8) x1.toNatClampNeg) = 26 → jW C cl sl Q 134 [jR 41 false, jU, jR k2 b2, jI (w.1 61 (w.2.2 41 8) x1.toNatClampNeg), jI (w.1 62 (w.2.2 41 8) x1.toNatClampNeg)] [] w) (k27 : (w.1 60 (w.2.2 41 8) x1.toNatClampNeg) = 27 → jW C cl sl Q 149 [jR 41 false, jU, jR k2 b2, jI (w.1 61 (w.2.2 41 8) x1.toNatClampNeg), jI (w.1 62 (w.2.2 41 8) x1.toNatClampNeg)] [] w) (k60 : (w.1 60 (w.2.2 41 8) x1.toNatClampNeg) = 60 → jW C cl sl Q 164 [jR 41 false, jU, jR k2 b2, jI (w.1 61 (w.2.2 41 8) x1.toNatClampNeg), jI (w.1 62 (w.2.2 41 8) x1.toNatClampNeg)] [] w) (k62 : (w.1 60 (w.2.2 41 8) x1.toNatClampNeg) = 62 → jW C cl sl Q 186 [jR 41 false, jU, jR k2 b2, jI (w.1 61 (w.2.2 41 8) x1.toNatClampNeg), jI (w.1 62 (w.2.2 41 8) x1.toNatClampNeg)] [] w) (k103 : (w.1 60 (w.2.2 41 8) x1.toNatClampNeg) = 103 → jW C cl sl Q 230 [jR 41 false, jU, jR k2 b2, jI (w.1 61 (w.2.2 41 8) x1.toNatClampNeg), jI (w.1 62 (w.2.2 41 8) x1.toNatClampNeg)] [] w) (k108 : (w.1 60 (w.2.2 41 8) x1.toNatClampNeg) = 108 → jW C cl sl Q 208 [jR 41 false, jU, jR k2 b2, jI (w.1 61 (w.2.2 41 8) x1.toNatClampNeg), jI (w.1 62 (w.2.2 41 8) x1.toNatClampNeg)] [] w) (kd : ¬ (w.1 60 (w.2.2 41 8) x1.toNatClampNeg) = 24 → ¬ (w.1 60 (w.2.2 41 8) x1.toNatClampNeg) = 25 → ¬ (w.1 60 (w.2.2 41 8) x1.toNatClampNeg) = 26 → ¬ (w.1 60 (w.2.2 41 8) x1.toNatClampNeg) = 27 → ¬ (w.1 60 (w.2.2 41 8) x1.toNatClampNeg) = 60 → ¬ (w.1 60 (w.2.2 41 8) x1.toNatClampNeg) = 62 → ¬ (w.1 60 (w.2.2 41 8) x1.toNatClampNeg) = 103 → ¬ (w.1 60 (w.2.2 41 8) x1.toNatClampNeg) = 108 → jW C cl sl Q 252 [jR 41 false, jU, jR k2 b2, jI (w.1 61 (w.2.2 41 8) x1.toNatClampNeg), jI (w.1 62 (w.2.2 41 8) x1.toNatClampNeg)] [] w) : jW C cl sl Q 0 [jR 41 false, jI x1, jR k2 b2, jU, jU] [] w := by
  by_cases e24 : (w.1 60 (w.2.2 41 8) x1.toNatClampNeg) = 24
  · exact jr_aload_n hm (i := 0) rfl rfl dX11_holds_0 (fg_X11_87 hm dX11_holds_1 (fg_X11_284 hm dX11_holds_4 (jr_iload_n hm (i := 1) rfl rfl dX11_holds_7 (jr_iaload hm (ja_61 (w.2.2 41 8)) h1 dX11_holds_8 (jr_istore_n hm (i := 3) rfl (Nat.le_of_ble_eq_true rfl) rfl dX11_holds_9 (jr_aload_n hm (i := 0) rfl rfl dX11_holds_10 (fg_X11_87 hm dX11_holds_11 (fg_X11_286 hm dX11_holds_14 (jr_iload_n hm (i := 1) rfl rfl dX11_holds_17 (jr_iaload hm (ja_62 (w.2.2 41 8)) h2 dX11_holds_18 (jr_istore hm (i := 4) (Nat.le_of_ble_eq_true rfl) rfl dX11_holds_19 (jr_aload_n hm (i := 0) rfl rfl dX11_holds_21 (fg_X11_87 hm dX11_holds_22 (fg_X11_289 hm dX11_holds_25 (jr_iload_n hm (i := 1) rfl rfl dX11_holds_28 (jr_iaload hm (ja_60 (w.2.2 41 8)) h3 dX11_holds_29 (jr_lookup hm dX11_holds_30 (by decide) (off := 74) (by rw [e24]; rfl) (by decide) (jr_drop (jle_drop (jle_drop (jle_same (jle_same (jle_drop jle_nil))))) (k24 e24)))))))))))))))))))
  by_cases e25 : (w.1 60 (w.2.2 41 8) x1.toNatClampNeg) = 25
  · exact jr_aload_n hm (i := 0) rfl rfl dX11_holds_0 (fg_X11_87 hm dX11_holds_1 (fg_X11_284 hm dX11_holds_4 (jr_iload_n hm (i := 1) rfl rfl dX11_holds_7 (jr_iaload hm (ja_61 (w.2.2 41 8)) h1 dX11_holds_8 (jr_istore_n hm (i := 3) rfl (Nat.le_of_ble_eq_true rfl) rfl dX11_holds_9 (jr_aload_n hm (i := 0) rfl rfl dX11_holds_10 (fg_X11_87 hm dX11_holds_11 (fg_X11_286 hm dX11_holds_14 (jr_iload_n hm (i := 1) rfl rfl dX11_holds_17 (jr_iaload hm (ja_62 (w.2.2 41 8)) h2 dX11_holds_18 (jr_istore hm (i := 4) (Nat.le_of_ble_eq_true rfl) rfl dX11_holds_19 (jr_aload_n hm (i := 0) rfl rfl dX11_holds_21 (fg_X11_87 hm dX11_holds_22 (fg_X11_289 hm dX11_holds_25 (jr_iload_n hm (i := 1) rfl rfl dX11_holds_28 (jr_iaload hm (ja_60 (w.2.2 41 8)) h3 dX11_holds_29 (jr_lookup hm dX11_holds_30 (by decide) (off := 89) (by rw [e25]; rfl) (by decide) (jr_drop (jle_same (jle_drop (jle_same (jle_same (jle_drop jle_nil))))) (k25 e25)))))))))))))))))))
  by_cases e26 : (w.1 60 (w.2.2 41 8) x1.toNatClampNeg) = 26
  · exact jr_aload_n hm (i := 0) rfl rfl dX11_holds_0 (fg_X11_87 hm dX11_holds_1 (fg_X11_284 hm dX11_holds_4 (jr_iload_n hm (i := 1) rfl rfl dX11_holds_7 (jr_iaload hm (ja_61 (w.2.2 41 8)) h1 dX11_holds_8 (jr_istore_n hm (i := 3) rfl (Nat.le_of_ble_eq_true rfl) rfl dX11_holds_9 (jr_aload_n hm (i := 0) rfl rfl dX11_holds_10 (fg_X11_87 hm dX11_holds_11 (fg_X11_286 hm dX11_holds_14 (jr_iload_n hm (i := 1) rfl rfl dX11_holds_17 (jr_iaload hm (ja_62 (w.2.2 41 8)) h2 dX11_holds_18 (jr_istore hm (i := 4) (Nat.le_of_ble_eq_true rfl) rfl dX11_holds_19 (jr_aload_n hm (i := 0) rfl rfl dX11_holds_21 (fg_X11_87 hm dX11_holds_22 (fg_X11_289 hm dX11_holds_25 (jr_iload_n hm (i := 1) rfl rfl dX11_holds_28 (jr_iaload hm (ja_60 (w.2.2 41 8)) h3 dX11_holds_29 (jr_lookup hm dX11_holds_30 (by decide) (off := 104) (by rw [e26]; rfl) (by decide) (jr_drop (jle_same (jle_drop (jle_same (jle_same (jle_same jle_nil))))) (k26 e26)))))))))))))))))))
  by_cases e27 : (w.1 60 (w.2.2 41 8) x1.toNatClampNeg) = 27
  · exact jr_aload_n hm (i := 0) rfl rfl dX11_holds_0 (fg_X11_87 hm dX11_holds_1 (fg_X11_284 hm dX11_holds_4 (jr_iload_n hm (i := 1) rfl rfl dX11_holds_7 (jr_iaload hm (ja_61 (w.2.2 41 8)) h1 dX11_holds_8 (jr_istore_n hm (i := 3) rfl (Nat.le_of_ble_eq_true rfl) rfl dX11_holds_9 (jr_aload_n hm (i := 0) rfl rfl dX11_holds_10 (fg_X11_87 hm dX11_holds_11 (fg_X11_286 hm dX11_holds_14 (jr_iload_n hm (i := 1) rfl rfl dX11_holds_17 (jr_iaload hm (ja_62 (w.2.2 41 8)) h2 dX11_holds_18 (jr_istore hm (i := 4) (Nat.le_of_ble_eq_true rfl) rfl dX11_holds_19 (jr_aload_n hm (i := 0) rfl rfl dX11_holds_21 (fg_X11_87 hm dX11_holds_22 (fg_X11_289 hm dX11_holds_25 (jr_iload_n hm (i := 1) rfl rfl dX11_holds_28 (jr_iaload hm (ja_60 (w.2.2 41 8)) h3 dX11_holds_29 (jr_lookup hm dX11_holds_30 (by decide) (off := 119) (by rw [e27]; rfl) (by decide) (jr_drop (jle_same (jle_drop (jle_same (jle_same (jle_same jle_nil))))) (k27 e27)))))))))))))))))))
  by_cases e60 : (w.1 60 (w.2.2 41 8) x1.toNatClampNeg) = 60
  · exact jr_aload_n hm (i := 0) rfl rfl dX11_holds_0 (fg_X11_87 hm dX11_holds_1 (fg_X11_284 hm dX11_holds_4 (jr_iload_n hm (i := 1) rfl rfl dX11_holds_7 (jr_iaload hm (ja_61 (w.2.2 41 8)) h1 dX11_holds_8 (jr_istore_n hm (i := 3) rfl (Nat.le_of_ble_eq_true rfl) rfl dX11_holds_9 (jr_aload_n hm (i := 0) rfl rfl dX11_holds_10 (fg_X11_87 hm dX11_holds_11 (fg_X11_286 hm dX11_holds_14 (jr_iload_n hm (i := 1) rfl rfl dX11_holds_17 (jr_iaload hm (ja_62 (w.2.2 41 8)) h2 dX11_holds_18 (jr_istore hm (i := 4) (Nat.le_of_ble_eq_true rfl) rfl dX11_holds_19 (jr_aload_n hm (i := 0) rfl rfl dX11_holds_21 (fg_X11_87 hm dX11_holds_22 (fg_X11_289 hm dX11_holds_25 (jr_iload_n hm (i := 1) rfl rfl dX11_holds_28 (jr_iaload hm (ja_60 (w.2.2 41 8)) h3 dX11_holds_29 (jr_lookup hm dX11_holds_30 (by decide) (off := 134) (by rw [e60]; rfl) (by decide) (jr_drop (jle_same (jle_drop (jle_same (jle_same (jle_same jle_nil))))) (k60 e60)))))))))))))))))))
  by_cases e62 : (w.1 60 (w.2.2 41 8) x1.toNatClampNeg) = 62
  · exact jr_aload_n hm (i := 0) rfl rfl dX11_holds_0 (fg_X11_87 hm dX11_holds_1 (fg_X11_284 hm dX11_holds_4 (jr_iload_n hm (i := 1) rfl rfl dX11_holds_7 (jr_iaload hm (ja_61 (w.2.2 41 8)) h1 dX11_holds_8 (jr_istore_n hm (i := 3) rfl (Nat.le_of_ble_eq_true rfl) rfl dX11_holds_9 (jr_aload_n hm (i := 0) rfl rfl dX11_holds_10 (fg_X11_87 hm dX11_holds_11 (fg_X11_286 hm dX11_holds_14 (jr_iload_n hm (i := 1) rfl rfl dX11_holds_17 (jr_iaload hm (ja_62 (w.2.2 41 8)) h2 dX11_holds_18 (jr_istore hm (i := 4) (Nat.le_of_ble_eq_true rfl) rfl dX11_holds_19 (jr_aload_n hm (i := 0) rfl rfl dX11_holds_21 (fg_X11_87 hm dX11_holds_22 (fg_X11_289 hm dX11_holds_25 (jr_iload_n hm (i := 1) rfl rfl dX11_holds_28 (jr_iaload hm (ja_60 (w.2.2 41 8)) h3 dX11_holds_29 (jr_lookup hm dX11_holds_30 (by decide) (off := 156) (by rw [e62]; rfl) (by decide) (jr_drop (jle_same (jle_drop (jle_same (jle_same (jle_same jle_nil))))) (k62 e62)))))))))))))))))))
  by_cases e103 : (w.1 60 (w.2.2 41 8) x1.toNatClampNeg) = 103
  · exact jr_aload_n hm (i := 0) rfl rfl dX11_holds_0 (fg_X11_87 hm dX11_holds_1 (fg_X11_284 hm dX11_holds_4 (jr_iload_n hm (i := 1) rfl rfl dX11_holds_7 (jr_iaload hm (ja_61 (w.2.2 41 8)) h1 dX11_holds_8 (jr_istore_n hm (i := 3) rfl (Nat.le_of_ble_eq_true rfl) rfl dX11_holds_9 (jr_aload_n hm (i := 0) rfl rfl dX11_holds_10 (fg_X11_87 hm dX11_holds_11 (fg_X11_286 hm dX11_holds_14 (jr_iload_n hm (i := 1) rfl rfl dX11_holds_17 (jr_iaload hm (ja_62 (w.2.2 41 8)) h2 dX11_holds_18 (jr_istore hm (i := 4) (Nat.le_of_ble_eq_true rfl) rfl dX11_holds_19 (jr_aload_n hm (i := 0) rfl rfl dX11_holds_21 (fg_X11_87 hm dX11_holds_22 (fg_X11_289 hm dX11_holds_25 (jr_iload_n hm (i := 1) rfl rfl dX11_holds_28 (jr_iaload hm (ja_60 (w.2.2 41 8)) h3 dX11_holds_29 (jr_lookup hm dX11_holds_30 (by decide) (off := 200) (by rw [e103]; rfl) (by decide) (jr_drop (jle_same (jle_drop (jle_same (jle_same (jle_same jle_nil))))) (k103 e103)))))))))))))))))))
  by_cases e108 : (w.1 60 (w.2.2 41 8) x1.toNatClampNeg) = 108
  · exact jr_aload_n hm (i := 0) rfl rfl dX11_holds_0 (fg_X11_87 hm dX11_holds_1 (fg_X11_284 hm dX11_holds_4 (jr_iload_n hm (i := 1) rfl rfl dX11_holds_7 (jr_iaload hm (ja_61 (w.2.2 41 8)) h1 dX11_holds_8 (jr_istore_n hm (i := 3) rfl (Nat.le_of_ble_eq_true rfl) rfl dX11_holds_9 (jr_aload_n hm (i := 0) rfl rfl dX11_holds_10 (fg_X11_87 hm dX11_holds_11 (fg_X11_286 hm dX11_holds_14 (jr_iload_n hm (i := 1) rfl rfl dX11_holds_17 (jr_iaload hm (ja_62 (w.2.2 41 8)) h2 dX11_holds_18 (jr_istore hm (i := 4) (Nat.le_of_ble_eq_true rfl) rfl dX11_holds_19 (jr_aload_n hm (i := 0) rfl rfl dX11_holds_21 (fg_X11_87 hm dX11_holds_22 (fg_X11_289 hm dX11_holds_25 (jr_iload_n hm (i := 1) rfl rfl dX11_holds_28 (jr_iaload hm (ja_60 (w.2.2 41 8)) h3 dX11_holds_29 (jr_lookup hm dX11_holds_30 (by decide) (off := 178) (by rw [e108]; rfl) (by decide) (jr_drop (jle_same (jle_drop (jle_same (jle_same (jle_same jle_nil))))) (k108 e108)))))))))))))))))))
  exact jr_aload_n hm (i := 0) rfl rfl dX11_holds_0 (fg_X11_87 hm dX11_holds_1 (fg_X11_284 hm dX11_holds_4 (jr_iload_n hm (i := 1) rfl rfl dX11_holds_7 (jr_iaload hm (ja_61 (w.2.2 41 8)) h1 dX11_holds_8 (jr_istore_n hm (i := 3) rfl (Nat.le_of_ble_eq_true rfl) rfl dX11_holds_9 (jr_aload_n hm (i := 0) rfl rfl dX11_holds_10 (fg_X11_87 hm dX11_holds_11 (fg_X11_286 hm dX11_holds_14 (jr_iload_n hm (i := 1) rfl rfl dX11_holds_17 (jr_iaload hm (ja_62 (w.2.2 41 8)) h2 dX11_holds_18 (jr_istore hm (i := 4) (Nat.le_of_ble_eq_true rfl) rfl dX11_holds_19 (jr_aload_n hm (i := 0) rfl rfl dX11_holds_21 (fg_X11_87 hm dX11_holds_22 (fg_X11_289 hm dX11_holds_25 (jr_iload_n hm (i := 1) rfl rfl dX11_holds_28 (jr_iaload hm (ja_60 (w.2.2 41 8)) h3 dX11_holds_29 (jr_lookup hm dX11_holds_30 (by decide) (off := 222) ((lv_osw e24 (by decide)).trans ((lv_osw e25 (by decide)).trans ((lv_osw e26 (by decide)).trans ((lv_osw e27 (by decide)).trans ((lv_osw e60 (by decide)).trans ((lv_osw e62 (by decide)).trans ((lv_osw e103 (by decide)).trans ((lv_osw e108 (by decide)).trans rfl)))))))) (by decide) (jr_drop (jle_same (jle_drop (jle_same (jle_same (jle_same jle_nil))))) (kd e24 e25 e26 e27 e60 e62 e103 e108)))))))))))))))))))
theorem bk_X11_holds_104 {C : JC} {d cl sl : Nat} {Q : State → Prop} {w : JW} {k2 : Nat} {b2 : Bool} {x3 : Int32} {n2 : Nat} (hm : jok C MX11_holds d cl sl) (hA2 : jIA k2 b2 n2) (h1 : vp_in (21 + x3) n2) (kt : (w.1 k2 b2 (21 + x3).toNatClampNeg) ≤ 0 → jW C cl sl Q 117 [jU, jU, jU, jU, jU] [] w) (kf : ¬ (w.1 k2 b2 (21 + x3).toNatClampNeg) ≤ 0 → jW C cl sl Q 113 [jU, jU, jU, jU, jU] [] w) : jW C cl sl Q 104 [jU, jU, jR k2 b2, jI x3, jU] [] w := jr_aload_n hm (i := 2) rfl rfl dX11_holds_104 (jr_bipush hm (v := 21) (by decide) dX11_holds_105 (jr_iload_n hm (i := 3) rfl rfl dX11_holds_107 (jr_iadd hm dX11_holds_108 (jr_iaload hm hA2 h1 dX11_holds_109 (jr_if_le hm dX11_holds_110 (by decide) (fun h => jr_drop (jle_same (jle_same (jle_drop (jle_drop (jle_same jle_nil))))) (kt h)) (fun h => jr_drop (jle_same (jle_same (jle_drop (jle_drop (jle_same jle_nil))))) (kf h)))))))
theorem bk_X11_holds_113 {C : JC} {d cl sl : Nat} {Q : State → Prop} {w : JW}  (hm : jok C MX11_holds d cl sl) (k : jW C cl sl Q 118 [jU, jU, jU, jU, jU] [jI 1] w) : jW C cl sl Q 113 [jU, jU, jU, jU, jU] [] w := jr_iconst hm (v := 1) (by decide) dX11_holds_113 (jr_goto hm dX11_holds_114 (by decide) (jr_drop (jle_same (jle_same (jle_same (jle_same (jle_same jle_nil))))) k))
theorem bk_X11_holds_117 {C : JC} {d cl sl : Nat} {Q : State → Prop} {w : JW}  (hm : jok C MX11_holds d cl sl) (k : jW C cl sl Q 118 [jU, jU, jU, jU, jU] [jI 0] w) : jW C cl sl Q 117 [jU, jU, jU, jU, jU] [] w := jr_iconst hm (v := 0) (by decide) dX11_holds_117 (jr_drop (jle_same (jle_same (jle_same (jle_same (jle_same jle_nil))))) k)
theorem bk_X11_holds_118 {C : JC} {d cl sl : Nat} {w : JW} {xs0 : Int32} {P : JV → JW → Prop} (hm : jok C MX11_holds d cl sl) (hz : narrow .boolean (.int xs0) = .int xs0) (hp : P (jI xs0) w) : jW C cl sl (jQQ C cl sl P) 118 [jU, jU, jU, jU, jU] [jI xs0] w := jr_zreturn hm rfl hz dX11_holds_118 hp
theorem bk_X11_holds_119 {C : JC} {d cl sl : Nat} {Q : State → Prop} {w : JW} {k2 : Nat} {b2 : Bool} {x3 : Int32} {d2 : Nat} {r : Int32} {w2 : JW} (hm : jok C MX11_holds d cl sl) (hs : jF MX11_holds d2 [jR 41 false, jI x3, jR k2 b2] w (jI r) w2) (hd2 : d2 + 1 ≤ d) (k : jW C cl sl Q 125 [jU, jU, jU, jU, jU] [jI r] w2) : jW C cl sl Q 119 [jR 41 false, jU, jR k2 b2, jI x3, jU] [] w := jr_aload_n hm (i := 0) rfl rfl dX11_holds_119 (jr_iload_n hm (i := 3) rfl rfl dX11_holds_120 (jr_aload_n hm (i := 2) rfl rfl dX11_holds_121 (jr_callV (mc := 0) (ms := 0) hm hs hd2 jw_1640 jw_1642 jw_95 jw_125 jw_1643 jn_X11_holds rfl jo_41 (fun _ _ _ _ _ => ⟨_, rfl⟩) rfl rfl (Nat.le_of_ble_eq_true rfl) rfl dX11_holds_122 (jkF (jr_drop (jle_drop (jle_same (jle_drop (jle_drop (jle_same jle_nil))))) k)))))
theorem bk_X11_holds_125 {C : JC} {d cl sl : Nat} {Q : State → Prop} {w : JW} {xs0 : Int32} (hm : jok C MX11_holds d cl sl) (kt : ¬ xs0 = 0 → jW C cl sl Q 132 [jU, jU, jU, jU, jU] [] w) (kf : xs0 = 0 → jW C cl sl Q 128 [jU, jU, jU, jU, jU] [] w) : jW C cl sl Q 125 [jU, jU, jU, jU, jU] [jI xs0] w := jr_if_ne hm dX11_holds_125 (by decide) (fun h => jr_drop (jle_same (jle_same (jle_same (jle_same (jle_same jle_nil))))) (kt h)) (fun h => jr_drop (jle_same (jle_same (jle_same (jle_same (jle_same jle_nil))))) (kf h))
theorem bk_X11_holds_128 {C : JC} {d cl sl : Nat} {Q : State → Prop} {w : JW}  (hm : jok C MX11_holds d cl sl) (k : jW C cl sl Q 133 [jU, jU, jU, jU, jU] [jI 1] w) : jW C cl sl Q 128 [jU, jU, jU, jU, jU] [] w := jr_iconst hm (v := 1) (by decide) dX11_holds_128 (jr_goto hm dX11_holds_129 (by decide) (jr_drop (jle_same (jle_same (jle_same (jle_same (jle_same jle_nil))))) k))
theorem bk_X11_holds_132 {C : JC} {d cl sl : Nat} {Q : State → Prop} {w : JW}  (hm : jok C MX11_holds d cl sl) (k : jW C cl sl Q 133 [jU, jU, jU, jU, jU] [jI 0] w) : jW C cl sl Q 132 [jU, jU, jU, jU, jU] [] w := jr_iconst hm (v := 0) (by decide) dX11_holds_132 (jr_drop (jle_same (jle_same (jle_same (jle_same (jle_same jle_nil))))) k)
theorem bk_X11_holds_133 {C : JC} {d cl sl : Nat} {w : JW} {xs0 : Int32} {P : JV → JW → Prop} (hm : jok C MX11_holds d cl sl) (hz : narrow .boolean (.int xs0) = .int xs0) (hp : P (jI xs0) w) : jW C cl sl (jQQ C cl sl P) 133 [jU, jU, jU, jU, jU] [jI xs0] w := jr_zreturn hm rfl hz dX11_holds_133 hp
theorem bk_X11_holds_134 {C : JC} {d cl sl : Nat} {Q : State → Prop} {w : JW} {k2 : Nat} {b2 : Bool} {x3 : Int32} {x4 : Int32} {d2 : Nat} {r : Int32} {w2 : JW} (hm : jok C MX11_holds d cl sl) (hs : jF MX11_holds d2 [jR 41 false, jI x3, jR k2 b2] w (jI r) w2) (hd2 : d2 + 1 ≤ d) (k : jW C cl sl Q 140 [jR 41 false, jU, jR k2 b2, jU, jI x4] [jI r] w2) : jW C cl sl Q 134 [jR 41 false, jU, jR k2 b2, jI x3, jI x4] [] w := jr_aload_n hm (i := 0) rfl rfl dX11_holds_134 (jr_iload_n hm (i := 3) rfl rfl dX11_holds_135 (jr_aload_n hm (i := 2) rfl rfl dX11_holds_136 (jr_callV (mc := 0) (ms := 0) hm hs hd2 jw_1640 jw_1642 jw_95 jw_125 jw_1643 jn_X11_holds rfl jo_41 (fun _ _ _ _ _ => ⟨_, rfl⟩) rfl rfl (Nat.le_of_ble_eq_true rfl) rfl dX11_holds_137 (jkF (jr_drop (jle_same (jle_same (jle_same (jle_drop (jle_same jle_nil))))) k)))))
theorem bk_X11_holds_140 {C : JC} {d cl sl : Nat} {Q : State → Prop} {w : JW} {k2 : Nat} {b2 : Bool} {x4 : Int32} {xs0 : Int32} {d2 : Nat} {r : Int32} {w2 : JW} (hm : jok C MX11_holds d cl sl) (hs : jF MX11_holds d2 [jR 41 false, jI x4, jR k2 b2] w (jI r) w2) (hd2 : d2 + 1 ≤ d) (k : jW C cl sl Q 147 [jU, jU, jU, jU, jU] [jI r, jI xs0] w2) : jW C cl sl Q 140 [jR 41 false, jU, jR k2 b2, jU, jI x4] [jI xs0] w := jr_aload_n hm (i := 0) rfl rfl dX11_holds_140 (jr_iload hm (i := 4) rfl dX11_holds_141 (jr_aload_n hm (i := 2) rfl rfl dX11_holds_143 (jr_callV (mc := 0) (ms := 0) hm hs hd2 jw_1640 jw_1642 jw_95 jw_125 jw_1643 jn_X11_holds rfl jo_41 (fun _ _ _ _ _ => ⟨_, rfl⟩) rfl rfl (Nat.le_of_ble_eq_true rfl) rfl dX11_holds_144 (jkF (jr_drop (jle_drop (jle_same (jle_drop (jle_same (jle_drop jle_nil))))) k)))))
theorem bk_X11_holds_147 {C : JC} {d cl sl : Nat} {w : JW} {xs0 : Int32} {xs1 : Int32} {P : JV → JW → Prop} (hm : jok C MX11_holds d cl sl) (hz : narrow .boolean (.int (xs1 &&& xs0)) = .int (xs1 &&& xs0)) (hp : P (jI (xs1 &&& xs0)) w) : jW C cl sl (jQQ C cl sl P) 147 [jU, jU, jU, jU, jU] [jI xs0, jI xs1] w := jr_iand hm dX11_holds_147 (jr_zreturn hm rfl hz dX11_holds_148 hp)
theorem bk_X11_holds_149 {C : JC} {d cl sl : Nat} {Q : State → Prop} {w : JW} {k2 : Nat} {b2 : Bool} {x3 : Int32} {x4 : Int32} {d2 : Nat} {r : Int32} {w2 : JW} (hm : jok C MX11_holds d cl sl) (hs : jF MX11_holds d2 [jR 41 false, jI x3, jR k2 b2] w (jI r) w2) (hd2 : d2 + 1 ≤ d) (k : jW C cl sl Q 155 [jR 41 false, jU, jR k2 b2, jU, jI x4] [jI r] w2) : jW C cl sl Q 149 [jR 41 false, jU, jR k2 b2, jI x3, jI x4] [] w := jr_aload_n hm (i := 0) rfl rfl dX11_holds_149 (jr_iload_n hm (i := 3) rfl rfl dX11_holds_150 (jr_aload_n hm (i := 2) rfl rfl dX11_holds_151 (jr_callV (mc := 0) (ms := 0) hm hs hd2 jw_1640 jw_1642 jw_95 jw_125 jw_1643 jn_X11_holds rfl jo_41 (fun _ _ _ _ _ => ⟨_, rfl⟩) rfl rfl (Nat.le_of_ble_eq_true rfl) rfl dX11_holds_152 (jkF (jr_drop (jle_same (jle_same (jle_same (jle_drop (jle_same jle_nil))))) k)))))
theorem bk_X11_holds_155 {C : JC} {d cl sl : Nat} {Q : State → Prop} {w : JW} {k2 : Nat} {b2 : Bool} {x4 : Int32} {xs0 : Int32} {d2 : Nat} {r : Int32} {w2 : JW} (hm : jok C MX11_holds d cl sl) (hs : jF MX11_holds d2 [jR 41 false, jI x4, jR k2 b2] w (jI r) w2) (hd2 : d2 + 1 ≤ d) (k : jW C cl sl Q 162 [jU, jU, jU, jU, jU] [jI r, jI xs0] w2) : jW C cl sl Q 155 [jR 41 false, jU, jR k2 b2, jU, jI x4] [jI xs0] w := jr_aload_n hm (i := 0) rfl rfl dX11_holds_155 (jr_iload hm (i := 4) rfl dX11_holds_156 (jr_aload_n hm (i := 2) rfl rfl dX11_holds_158 (jr_callV (mc := 0) (ms := 0) hm hs hd2 jw_1640 jw_1642 jw_95 jw_125 jw_1643 jn_X11_holds rfl jo_41 (fun _ _ _ _ _ => ⟨_, rfl⟩) rfl rfl (Nat.le_of_ble_eq_true rfl) rfl dX11_holds_159 (jkF (jr_drop (jle_drop (jle_same (jle_drop (jle_same (jle_drop jle_nil))))) k)))))
theorem bk_X11_holds_162 {C : JC} {d cl sl : Nat} {w : JW} {xs0 : Int32} {xs1 : Int32} {P : JV → JW → Prop} (hm : jok C MX11_holds d cl sl) (hz : narrow .boolean (.int (xs1 ||| xs0)) = .int (xs1 ||| xs0)) (hp : P (jI (xs1 ||| xs0)) w) : jW C cl sl (jQQ C cl sl P) 162 [jU, jU, jU, jU, jU] [jI xs0, jI xs1] w := jr_ior hm dX11_holds_162 (jr_zreturn hm rfl hz dX11_holds_163 hp)
theorem bk_X11_holds_164 {C : JC} {d cl sl : Nat} {Q : State → Prop} {w : JW} {k2 : Nat} {b2 : Bool} {x3 : Int32} {x4 : Int32} {d2 : Nat} {r : Int32} {w2 : JW} (hm : jok C MX11_holds d cl sl) (hs : jF MX11_reckon d2 [jR 41 false, jI x3, jR k2 b2] w (jI r) w2) (hd2 : d2 + 1 ≤ d) (k : jW C cl sl Q 170 [jR 41 false, jU, jR k2 b2, jU, jI x4] [jI r] w2) : jW C cl sl Q 164 [jR 41 false, jU, jR k2 b2, jI x3, jI x4] [] w := jr_aload_n hm (i := 0) rfl rfl dX11_holds_164 (jr_iload_n hm (i := 3) rfl rfl dX11_holds_165 (jr_aload_n hm (i := 2) rfl rfl dX11_holds_166 (jr_callV (mc := 0) (ms := 0) hm hs hd2 jw_1644 jw_1646 jw_96 jw_125 jw_1647 jn_X11_reckon rfl jo_41 (fun _ _ _ _ _ => ⟨_, rfl⟩) rfl rfl (Nat.le_of_ble_eq_true rfl) rfl dX11_holds_167 (jkF (jr_drop (jle_same (jle_same (jle_same (jle_drop (jle_same jle_nil))))) k)))))
theorem bk_X11_holds_170 {C : JC} {d cl sl : Nat} {Q : State → Prop} {w : JW} {k2 : Nat} {b2 : Bool} {x4 : Int32} {xs0 : Int32} {d2 : Nat} {r : Int32} {w2 : JW} (hm : jok C MX11_holds d cl sl) (hs : jF MX11_reckon d2 [jR 41 false, jI x4, jR k2 b2] w (jI r) w2) (hd2 : d2 + 1 ≤ d) (k : jW C cl sl Q 177 [jU, jU, jU, jU, jU] [jI r, jI xs0] w2) : jW C cl sl Q 170 [jR 41 false, jU, jR k2 b2, jU, jI x4] [jI xs0] w := jr_aload_n hm (i := 0) rfl rfl dX11_holds_170 (jr_iload hm (i := 4) rfl dX11_holds_171 (jr_aload_n hm (i := 2) rfl rfl dX11_holds_173 (jr_callV (mc := 0) (ms := 0) hm hs hd2 jw_1644 jw_1646 jw_96 jw_125 jw_1647 jn_X11_reckon rfl jo_41 (fun _ _ _ _ _ => ⟨_, rfl⟩) rfl rfl (Nat.le_of_ble_eq_true rfl) rfl dX11_holds_174 (jkF (jr_drop (jle_drop (jle_same (jle_drop (jle_same (jle_drop jle_nil))))) k)))))
theorem bk_X11_holds_177 {C : JC} {d cl sl : Nat} {Q : State → Prop} {w : JW} {xs0 : Int32} {xs1 : Int32} (hm : jok C MX11_holds d cl sl) (kt : xs0 ≤ xs1 → jW C cl sl Q 184 [jU, jU, jU, jU, jU] [] w) (kf : ¬ xs0 ≤ xs1 → jW C cl sl Q 180 [jU, jU, jU, jU, jU] [] w) : jW C cl sl Q 177 [jU, jU, jU, jU, jU] [jI xs0, jI xs1] w := jr_icmp_ge hm dX11_holds_177 (by decide) (fun h => jr_drop (jle_same (jle_same (jle_same (jle_same (jle_same jle_nil))))) (kt h)) (fun h => jr_drop (jle_same (jle_same (jle_same (jle_same (jle_same jle_nil))))) (kf h))
theorem bk_X11_holds_180 {C : JC} {d cl sl : Nat} {Q : State → Prop} {w : JW}  (hm : jok C MX11_holds d cl sl) (k : jW C cl sl Q 185 [jU, jU, jU, jU, jU] [jI 1] w) : jW C cl sl Q 180 [jU, jU, jU, jU, jU] [] w := jr_iconst hm (v := 1) (by decide) dX11_holds_180 (jr_goto hm dX11_holds_181 (by decide) (jr_drop (jle_same (jle_same (jle_same (jle_same (jle_same jle_nil))))) k))
theorem bk_X11_holds_184 {C : JC} {d cl sl : Nat} {Q : State → Prop} {w : JW}  (hm : jok C MX11_holds d cl sl) (k : jW C cl sl Q 185 [jU, jU, jU, jU, jU] [jI 0] w) : jW C cl sl Q 184 [jU, jU, jU, jU, jU] [] w := jr_iconst hm (v := 0) (by decide) dX11_holds_184 (jr_drop (jle_same (jle_same (jle_same (jle_same (jle_same jle_nil))))) k)
theorem bk_X11_holds_185 {C : JC} {d cl sl : Nat} {w : JW} {xs0 : Int32} {P : JV → JW → Prop} (hm : jok C MX11_holds d cl sl) (hz : narrow .boolean (.int xs0) = .int xs0) (hp : P (jI xs0) w) : jW C cl sl (jQQ C cl sl P) 185 [jU, jU, jU, jU, jU] [jI xs0] w := jr_zreturn hm rfl hz dX11_holds_185 hp
theorem bk_X11_holds_186 {C : JC} {d cl sl : Nat} {Q : State → Prop} {w : JW} {k2 : Nat} {b2 : Bool} {x3 : Int32} {x4 : Int32} {d2 : Nat} {r : Int32} {w2 : JW} (hm : jok C MX11_holds d cl sl) (hs : jF MX11_reckon d2 [jR 41 false, jI x3, jR k2 b2] w (jI r) w2) (hd2 : d2 + 1 ≤ d) (k : jW C cl sl Q 192 [jR 41 false, jU, jR k2 b2, jU, jI x4] [jI r] w2) : jW C cl sl Q 186 [jR 41 false, jU, jR k2 b2, jI x3, jI x4] [] w := jr_aload_n hm (i := 0) rfl rfl dX11_holds_186 (jr_iload_n hm (i := 3) rfl rfl dX11_holds_187 (jr_aload_n hm (i := 2) rfl rfl dX11_holds_188 (jr_callV (mc := 0) (ms := 0) hm hs hd2 jw_1644 jw_1646 jw_96 jw_125 jw_1647 jn_X11_reckon rfl jo_41 (fun _ _ _ _ _ => ⟨_, rfl⟩) rfl rfl (Nat.le_of_ble_eq_true rfl) rfl dX11_holds_189 (jkF (jr_drop (jle_same (jle_same (jle_same (jle_drop (jle_same jle_nil))))) k)))))
theorem bk_X11_holds_192 {C : JC} {d cl sl : Nat} {Q : State → Prop} {w : JW} {k2 : Nat} {b2 : Bool} {x4 : Int32} {xs0 : Int32} {d2 : Nat} {r : Int32} {w2 : JW} (hm : jok C MX11_holds d cl sl) (hs : jF MX11_reckon d2 [jR 41 false, jI x4, jR k2 b2] w (jI r) w2) (hd2 : d2 + 1 ≤ d) (k : jW C cl sl Q 199 [jU, jU, jU, jU, jU] [jI r, jI xs0] w2) : jW C cl sl Q 192 [jR 41 false, jU, jR k2 b2, jU, jI x4] [jI xs0] w := jr_aload_n hm (i := 0) rfl rfl dX11_holds_192 (jr_iload hm (i := 4) rfl dX11_holds_193 (jr_aload_n hm (i := 2) rfl rfl dX11_holds_195 (jr_callV (mc := 0) (ms := 0) hm hs hd2 jw_1644 jw_1646 jw_96 jw_125 jw_1647 jn_X11_reckon rfl jo_41 (fun _ _ _ _ _ => ⟨_, rfl⟩) rfl rfl (Nat.le_of_ble_eq_true rfl) rfl dX11_holds_196 (jkF (jr_drop (jle_drop (jle_same (jle_drop (jle_same (jle_drop jle_nil))))) k)))))
theorem bk_X11_holds_199 {C : JC} {d cl sl : Nat} {Q : State → Prop} {w : JW} {xs0 : Int32} {xs1 : Int32} (hm : jok C MX11_holds d cl sl) (kt : xs1 ≤ xs0 → jW C cl sl Q 206 [jU, jU, jU, jU, jU] [] w) (kf : ¬ xs1 ≤ xs0 → jW C cl sl Q 202 [jU, jU, jU, jU, jU] [] w) : jW C cl sl Q 199 [jU, jU, jU, jU, jU] [jI xs0, jI xs1] w := jr_icmp_le hm dX11_holds_199 (by decide) (fun h => jr_drop (jle_same (jle_same (jle_same (jle_same (jle_same jle_nil))))) (kt h)) (fun h => jr_drop (jle_same (jle_same (jle_same (jle_same (jle_same jle_nil))))) (kf h))
theorem bk_X11_holds_202 {C : JC} {d cl sl : Nat} {Q : State → Prop} {w : JW}  (hm : jok C MX11_holds d cl sl) (k : jW C cl sl Q 207 [jU, jU, jU, jU, jU] [jI 1] w) : jW C cl sl Q 202 [jU, jU, jU, jU, jU] [] w := jr_iconst hm (v := 1) (by decide) dX11_holds_202 (jr_goto hm dX11_holds_203 (by decide) (jr_drop (jle_same (jle_same (jle_same (jle_same (jle_same jle_nil))))) k))
theorem bk_X11_holds_206 {C : JC} {d cl sl : Nat} {Q : State → Prop} {w : JW}  (hm : jok C MX11_holds d cl sl) (k : jW C cl sl Q 207 [jU, jU, jU, jU, jU] [jI 0] w) : jW C cl sl Q 206 [jU, jU, jU, jU, jU] [] w := jr_iconst hm (v := 0) (by decide) dX11_holds_206 (jr_drop (jle_same (jle_same (jle_same (jle_same (jle_same jle_nil))))) k)
theorem bk_X11_holds_207 {C : JC} {d cl sl : Nat} {w : JW} {xs0 : Int32} {P : JV → JW → Prop} (hm : jok C MX11_holds d cl sl) (hz : narrow .boolean (.int xs0) = .int xs0) (hp : P (jI xs0) w) : jW C cl sl (jQQ C cl sl P) 207 [jU, jU, jU, jU, jU] [jI xs0] w := jr_zreturn hm rfl hz dX11_holds_207 hp
theorem bk_X11_holds_208 {C : JC} {d cl sl : Nat} {Q : State → Prop} {w : JW} {k2 : Nat} {b2 : Bool} {x3 : Int32} {x4 : Int32} {d2 : Nat} {r : Int32} {w2 : JW} (hm : jok C MX11_holds d cl sl) (hs : jF MX11_reckon d2 [jR 41 false, jI x3, jR k2 b2] w (jI r) w2) (hd2 : d2 + 1 ≤ d) (k : jW C cl sl Q 214 [jR 41 false, jU, jR k2 b2, jU, jI x4] [jI r] w2) : jW C cl sl Q 208 [jR 41 false, jU, jR k2 b2, jI x3, jI x4] [] w := jr_aload_n hm (i := 0) rfl rfl dX11_holds_208 (jr_iload_n hm (i := 3) rfl rfl dX11_holds_209 (jr_aload_n hm (i := 2) rfl rfl dX11_holds_210 (jr_callV (mc := 0) (ms := 0) hm hs hd2 jw_1644 jw_1646 jw_96 jw_125 jw_1647 jn_X11_reckon rfl jo_41 (fun _ _ _ _ _ => ⟨_, rfl⟩) rfl rfl (Nat.le_of_ble_eq_true rfl) rfl dX11_holds_211 (jkF (jr_drop (jle_same (jle_same (jle_same (jle_drop (jle_same jle_nil))))) k)))))
theorem bk_X11_holds_214 {C : JC} {d cl sl : Nat} {Q : State → Prop} {w : JW} {k2 : Nat} {b2 : Bool} {x4 : Int32} {xs0 : Int32} {d2 : Nat} {r : Int32} {w2 : JW} (hm : jok C MX11_holds d cl sl) (hs : jF MX11_reckon d2 [jR 41 false, jI x4, jR k2 b2] w (jI r) w2) (hd2 : d2 + 1 ≤ d) (k : jW C cl sl Q 221 [jU, jU, jU, jU, jU] [jI r, jI xs0] w2) : jW C cl sl Q 214 [jR 41 false, jU, jR k2 b2, jU, jI x4] [jI xs0] w := jr_aload_n hm (i := 0) rfl rfl dX11_holds_214 (jr_iload hm (i := 4) rfl dX11_holds_215 (jr_aload_n hm (i := 2) rfl rfl dX11_holds_217 (jr_callV (mc := 0) (ms := 0) hm hs hd2 jw_1644 jw_1646 jw_96 jw_125 jw_1647 jn_X11_reckon rfl jo_41 (fun _ _ _ _ _ => ⟨_, rfl⟩) rfl rfl (Nat.le_of_ble_eq_true rfl) rfl dX11_holds_218 (jkF (jr_drop (jle_drop (jle_same (jle_drop (jle_same (jle_drop jle_nil))))) k)))))
theorem bk_X11_holds_221 {C : JC} {d cl sl : Nat} {Q : State → Prop} {w : JW} {xs0 : Int32} {xs1 : Int32} (hm : jok C MX11_holds d cl sl) (kt : xs0 < xs1 → jW C cl sl Q 228 [jU, jU, jU, jU, jU] [] w) (kf : ¬ xs0 < xs1 → jW C cl sl Q 224 [jU, jU, jU, jU, jU] [] w) : jW C cl sl Q 221 [jU, jU, jU, jU, jU] [jI xs0, jI xs1] w := jr_icmp_gt hm dX11_holds_221 (by decide) (fun h => jr_drop (jle_same (jle_same (jle_same (jle_same (jle_same jle_nil))))) (kt h)) (fun h => jr_drop (jle_same (jle_same (jle_same (jle_same (jle_same jle_nil))))) (kf h))
theorem bk_X11_holds_224 {C : JC} {d cl sl : Nat} {Q : State → Prop} {w : JW}  (hm : jok C MX11_holds d cl sl) (k : jW C cl sl Q 229 [jU, jU, jU, jU, jU] [jI 1] w) : jW C cl sl Q 224 [jU, jU, jU, jU, jU] [] w := jr_iconst hm (v := 1) (by decide) dX11_holds_224 (jr_goto hm dX11_holds_225 (by decide) (jr_drop (jle_same (jle_same (jle_same (jle_same (jle_same jle_nil))))) k))
theorem bk_X11_holds_228 {C : JC} {d cl sl : Nat} {Q : State → Prop} {w : JW}  (hm : jok C MX11_holds d cl sl) (k : jW C cl sl Q 229 [jU, jU, jU, jU, jU] [jI 0] w) : jW C cl sl Q 228 [jU, jU, jU, jU, jU] [] w := jr_iconst hm (v := 0) (by decide) dX11_holds_228 (jr_drop (jle_same (jle_same (jle_same (jle_same (jle_same jle_nil))))) k)
theorem bk_X11_holds_229 {C : JC} {d cl sl : Nat} {w : JW} {xs0 : Int32} {P : JV → JW → Prop} (hm : jok C MX11_holds d cl sl) (hz : narrow .boolean (.int xs0) = .int xs0) (hp : P (jI xs0) w) : jW C cl sl (jQQ C cl sl P) 229 [jU, jU, jU, jU, jU] [jI xs0] w := jr_zreturn hm rfl hz dX11_holds_229 hp
theorem bk_X11_holds_230 {C : JC} {d cl sl : Nat} {Q : State → Prop} {w : JW} {k2 : Nat} {b2 : Bool} {x3 : Int32} {x4 : Int32} {d2 : Nat} {r : Int32} {w2 : JW} (hm : jok C MX11_holds d cl sl) (hs : jF MX11_reckon d2 [jR 41 false, jI x3, jR k2 b2] w (jI r) w2) (hd2 : d2 + 1 ≤ d) (k : jW C cl sl Q 236 [jR 41 false, jU, jR k2 b2, jU, jI x4] [jI r] w2) : jW C cl sl Q 230 [jR 41 false, jU, jR k2 b2, jI x3, jI x4] [] w := jr_aload_n hm (i := 0) rfl rfl dX11_holds_230 (jr_iload_n hm (i := 3) rfl rfl dX11_holds_231 (jr_aload_n hm (i := 2) rfl rfl dX11_holds_232 (jr_callV (mc := 0) (ms := 0) hm hs hd2 jw_1644 jw_1646 jw_96 jw_125 jw_1647 jn_X11_reckon rfl jo_41 (fun _ _ _ _ _ => ⟨_, rfl⟩) rfl rfl (Nat.le_of_ble_eq_true rfl) rfl dX11_holds_233 (jkF (jr_drop (jle_same (jle_same (jle_same (jle_drop (jle_same jle_nil))))) k)))))
theorem bk_X11_holds_236 {C : JC} {d cl sl : Nat} {Q : State → Prop} {w : JW} {k2 : Nat} {b2 : Bool} {x4 : Int32} {xs0 : Int32} {d2 : Nat} {r : Int32} {w2 : JW} (hm : jok C MX11_holds d cl sl) (hs : jF MX11_reckon d2 [jR 41 false, jI x4, jR k2 b2] w (jI r) w2) (hd2 : d2 + 1 ≤ d) (k : jW C cl sl Q 243 [jU, jU, jU, jU, jU] [jI r, jI xs0] w2) : jW C cl sl Q 236 [jR 41 false, jU, jR k2 b2, jU, jI x4] [jI xs0] w := jr_aload_n hm (i := 0) rfl rfl dX11_holds_236 (jr_iload hm (i := 4) rfl dX11_holds_237 (jr_aload_n hm (i := 2) rfl rfl dX11_holds_239 (jr_callV (mc := 0) (ms := 0) hm hs hd2 jw_1644 jw_1646 jw_96 jw_125 jw_1647 jn_X11_reckon rfl jo_41 (fun _ _ _ _ _ => ⟨_, rfl⟩) rfl rfl (Nat.le_of_ble_eq_true rfl) rfl dX11_holds_240 (jkF (jr_drop (jle_drop (jle_same (jle_drop (jle_same (jle_drop jle_nil))))) k)))))
theorem bk_X11_holds_243 {C : JC} {d cl sl : Nat} {Q : State → Prop} {w : JW} {xs0 : Int32} {xs1 : Int32} (hm : jok C MX11_holds d cl sl) (kt : xs1 < xs0 → jW C cl sl Q 250 [jU, jU, jU, jU, jU] [] w) (kf : ¬ xs1 < xs0 → jW C cl sl Q 246 [jU, jU, jU, jU, jU] [] w) : jW C cl sl Q 243 [jU, jU, jU, jU, jU] [jI xs0, jI xs1] w := jr_icmp_lt hm dX11_holds_243 (by decide) (fun h => jr_drop (jle_same (jle_same (jle_same (jle_same (jle_same jle_nil))))) (kt h)) (fun h => jr_drop (jle_same (jle_same (jle_same (jle_same (jle_same jle_nil))))) (kf h))
theorem bk_X11_holds_246 {C : JC} {d cl sl : Nat} {Q : State → Prop} {w : JW}  (hm : jok C MX11_holds d cl sl) (k : jW C cl sl Q 251 [jU, jU, jU, jU, jU] [jI 1] w) : jW C cl sl Q 246 [jU, jU, jU, jU, jU] [] w := jr_iconst hm (v := 1) (by decide) dX11_holds_246 (jr_goto hm dX11_holds_247 (by decide) (jr_drop (jle_same (jle_same (jle_same (jle_same (jle_same jle_nil))))) k))
theorem bk_X11_holds_250 {C : JC} {d cl sl : Nat} {Q : State → Prop} {w : JW}  (hm : jok C MX11_holds d cl sl) (k : jW C cl sl Q 251 [jU, jU, jU, jU, jU] [jI 0] w) : jW C cl sl Q 250 [jU, jU, jU, jU, jU] [] w := jr_iconst hm (v := 0) (by decide) dX11_holds_250 (jr_drop (jle_same (jle_same (jle_same (jle_same (jle_same jle_nil))))) k)
theorem bk_X11_holds_251 {C : JC} {d cl sl : Nat} {w : JW} {xs0 : Int32} {P : JV → JW → Prop} (hm : jok C MX11_holds d cl sl) (hz : narrow .boolean (.int xs0) = .int xs0) (hp : P (jI xs0) w) : jW C cl sl (jQQ C cl sl P) 251 [jU, jU, jU, jU, jU] [jI xs0] w := jr_zreturn hm rfl hz dX11_holds_251 hp
theorem bk_X11_holds_252 {C : JC} {d cl sl : Nat} {Q : State → Prop} {w : JW} {k2 : Nat} {b2 : Bool} {x3 : Int32} {x4 : Int32} {d2 : Nat} {r : Int32} {w2 : JW} (hm : jok C MX11_holds d cl sl) (hs : jF MX11_reckon d2 [jR 41 false, jI x3, jR k2 b2] w (jI r) w2) (hd2 : d2 + 1 ≤ d) (k : jW C cl sl Q 258 [jR 41 false, jU, jR k2 b2, jU, jI x4] [jI r] w2) : jW C cl sl Q 252 [jR 41 false, jU, jR k2 b2, jI x3, jI x4] [] w := jr_aload_n hm (i := 0) rfl rfl dX11_holds_252 (jr_iload_n hm (i := 3) rfl rfl dX11_holds_253 (jr_aload_n hm (i := 2) rfl rfl dX11_holds_254 (jr_callV (mc := 0) (ms := 0) hm hs hd2 jw_1644 jw_1646 jw_96 jw_125 jw_1647 jn_X11_reckon rfl jo_41 (fun _ _ _ _ _ => ⟨_, rfl⟩) rfl rfl (Nat.le_of_ble_eq_true rfl) rfl dX11_holds_255 (jkF (jr_drop (jle_same (jle_same (jle_same (jle_drop (jle_same jle_nil))))) k)))))
theorem bk_X11_holds_258 {C : JC} {d cl sl : Nat} {Q : State → Prop} {w : JW} {k2 : Nat} {b2 : Bool} {x4 : Int32} {xs0 : Int32} {d2 : Nat} {r : Int32} {w2 : JW} (hm : jok C MX11_holds d cl sl) (hs : jF MX11_reckon d2 [jR 41 false, jI x4, jR k2 b2] w (jI r) w2) (hd2 : d2 + 1 ≤ d) (k : jW C cl sl Q 265 [jU, jU, jU, jU, jU] [jI r, jI xs0] w2) : jW C cl sl Q 258 [jR 41 false, jU, jR k2 b2, jU, jI x4] [jI xs0] w := jr_aload_n hm (i := 0) rfl rfl dX11_holds_258 (jr_iload hm (i := 4) rfl dX11_holds_259 (jr_aload_n hm (i := 2) rfl rfl dX11_holds_261 (jr_callV (mc := 0) (ms := 0) hm hs hd2 jw_1644 jw_1646 jw_96 jw_125 jw_1647 jn_X11_reckon rfl jo_41 (fun _ _ _ _ _ => ⟨_, rfl⟩) rfl rfl (Nat.le_of_ble_eq_true rfl) rfl dX11_holds_262 (jkF (jr_drop (jle_drop (jle_same (jle_drop (jle_same (jle_drop jle_nil))))) k)))))
theorem bk_X11_holds_265 {C : JC} {d cl sl : Nat} {Q : State → Prop} {w : JW} {xs0 : Int32} {xs1 : Int32} (hm : jok C MX11_holds d cl sl) (kt : ¬ xs1 = xs0 → jW C cl sl Q 272 [jU, jU, jU, jU, jU] [] w) (kf : xs1 = xs0 → jW C cl sl Q 268 [jU, jU, jU, jU, jU] [] w) : jW C cl sl Q 265 [jU, jU, jU, jU, jU] [jI xs0, jI xs1] w := jr_icmp_ne hm dX11_holds_265 (by decide) (fun h => jr_drop (jle_same (jle_same (jle_same (jle_same (jle_same jle_nil))))) (kt h)) (fun h => jr_drop (jle_same (jle_same (jle_same (jle_same (jle_same jle_nil))))) (kf h))
theorem bk_X11_holds_268 {C : JC} {d cl sl : Nat} {Q : State → Prop} {w : JW}  (hm : jok C MX11_holds d cl sl) (k : jW C cl sl Q 273 [jU, jU, jU, jU, jU] [jI 1] w) : jW C cl sl Q 268 [jU, jU, jU, jU, jU] [] w := jr_iconst hm (v := 1) (by decide) dX11_holds_268 (jr_goto hm dX11_holds_269 (by decide) (jr_drop (jle_same (jle_same (jle_same (jle_same (jle_same jle_nil))))) k))
theorem bk_X11_holds_272 {C : JC} {d cl sl : Nat} {Q : State → Prop} {w : JW}  (hm : jok C MX11_holds d cl sl) (k : jW C cl sl Q 273 [jU, jU, jU, jU, jU] [jI 0] w) : jW C cl sl Q 272 [jU, jU, jU, jU, jU] [] w := jr_iconst hm (v := 0) (by decide) dX11_holds_272 (jr_drop (jle_same (jle_same (jle_same (jle_same (jle_same jle_nil))))) k)
theorem bk_X11_holds_273 {C : JC} {d cl sl : Nat} {w : JW} {xs0 : Int32} {P : JV → JW → Prop} (hm : jok C MX11_holds d cl sl) (hz : narrow .boolean (.int xs0) = .int xs0) (hp : P (jI xs0) w) : jW C cl sl (jQQ C cl sl P) 273 [jU, jU, jU, jU, jU] [jI xs0] w := jr_zreturn hm rfl hz dX11_holds_273 hp
theorem dX11_isShut_0 : decode cX11_isShut 0 = .ok (.aload_n 0, 1) := by decide +kernel
theorem dX11_isShut_1 : decode cX11_isShut 1 = .ok (.aload_n 1, 1) := by decide +kernel
theorem dX11_isShut_2 : decode cX11_isShut 2 = .ok (.iconst 0, 1) := by decide +kernel
theorem dX11_isShut_3 : decode cX11_isShut 3 = .ok (.iaload, 1) := by decide +kernel
theorem dX11_isShut_4 : decode cX11_isShut 4 = .ok (.invokevirtual 306, 3) := by decide +kernel
theorem dX11_isShut_7 : decode cX11_isShut 7 = .ok (.istore_n 3, 1) := by decide +kernel
theorem dX11_isShut_8 : decode cX11_isShut 8 = .ok (.iconst 0, 1) := by decide +kernel
theorem dX11_isShut_9 : decode cX11_isShut 9 = .ok (.istore 4, 2) := by decide +kernel
theorem dX11_isShut_11 : decode cX11_isShut 11 = .ok (.iload 4, 2) := by decide +kernel
theorem dX11_isShut_13 : decode cX11_isShut 13 = .ok (.iconst 3, 1) := by decide +kernel
theorem dX11_isShut_14 : decode cX11_isShut 14 = .ok (.aload_n 0, 1) := by decide +kernel
theorem dX11_isShut_15 : decode cX11_isShut 15 = .ok (.getfield 87, 3) := by decide +kernel
theorem dX11_isShut_18 : decode cX11_isShut 18 = .ok (.getfield 260, 3) := by decide +kernel
theorem dX11_isShut_21 : decode cX11_isShut 21 = .ok (.imul, 1) := by decide +kernel
theorem dX11_isShut_22 : decode cX11_isShut 22 = .ok (.if_icmp .ge 60, 3) := by decide +kernel
theorem dX11_isShut_25 : decode cX11_isShut 25 = .ok (.aload_n 0, 1) := by decide +kernel
theorem dX11_isShut_26 : decode cX11_isShut 26 = .ok (.getfield 87, 3) := by decide +kernel
theorem dX11_isShut_29 : decode cX11_isShut 29 = .ok (.getfield 263, 3) := by decide +kernel
theorem dX11_isShut_32 : decode cX11_isShut 32 = .ok (.iload 4, 2) := by decide +kernel
theorem dX11_isShut_34 : decode cX11_isShut 34 = .ok (.iaload, 1) := by decide +kernel
theorem dX11_isShut_35 : decode cX11_isShut 35 = .ok (.bipush 15, 2) := by decide +kernel
theorem dX11_isShut_37 : decode cX11_isShut 37 = .ok (.if_icmp .ne 39, 3) := by decide +kernel
theorem dX11_isShut_40 : decode cX11_isShut 40 = .ok (.aload_n 0, 1) := by decide +kernel
theorem dX11_isShut_41 : decode cX11_isShut 41 = .ok (.getfield 87, 3) := by decide +kernel
theorem dX11_isShut_44 : decode cX11_isShut 44 = .ok (.getfield 263, 3) := by decide +kernel
theorem dX11_isShut_47 : decode cX11_isShut 47 = .ok (.iload 4, 2) := by decide +kernel
theorem dX11_isShut_49 : decode cX11_isShut 49 = .ok (.iconst 1, 1) := by decide +kernel
theorem dX11_isShut_50 : decode cX11_isShut 50 = .ok (.iadd, 1) := by decide +kernel
theorem dX11_isShut_51 : decode cX11_isShut 51 = .ok (.iaload, 1) := by decide +kernel
theorem dX11_isShut_52 : decode cX11_isShut 52 = .ok (.iload_n 2, 1) := by decide +kernel
theorem dX11_isShut_53 : decode cX11_isShut 53 = .ok (.if_icmp .ne 23, 3) := by decide +kernel
theorem dX11_isShut_56 : decode cX11_isShut 56 = .ok (.iload_n 3, 1) := by decide +kernel
theorem dX11_isShut_57 : decode cX11_isShut 57 = .ok (.aload_n 0, 1) := by decide +kernel
theorem dX11_isShut_58 : decode cX11_isShut 58 = .ok (.aload_n 0, 1) := by decide +kernel
theorem dX11_isShut_59 : decode cX11_isShut 59 = .ok (.getfield 87, 3) := by decide +kernel
theorem dX11_isShut_62 : decode cX11_isShut 62 = .ok (.getfield 263, 3) := by decide +kernel
theorem dX11_isShut_65 : decode cX11_isShut 65 = .ok (.iload 4, 2) := by decide +kernel
theorem dX11_isShut_67 : decode cX11_isShut 67 = .ok (.iconst 2, 1) := by decide +kernel
theorem dX11_isShut_68 : decode cX11_isShut 68 = .ok (.iadd, 1) := by decide +kernel
theorem dX11_isShut_69 : decode cX11_isShut 69 = .ok (.iaload, 1) := by decide +kernel
theorem dX11_isShut_70 : decode cX11_isShut 70 = .ok (.aload_n 1, 1) := by decide +kernel
theorem dX11_isShut_71 : decode cX11_isShut 71 = .ok (.invokevirtual 302, 3) := by decide +kernel
theorem dX11_isShut_74 : decode cX11_isShut 74 = .ok (.ior, 1) := by decide +kernel
theorem dX11_isShut_75 : decode cX11_isShut 75 = .ok (.istore_n 3, 1) := by decide +kernel
theorem dX11_isShut_76 : decode cX11_isShut 76 = .ok (.iinc 4 3, 3) := by decide +kernel
theorem dX11_isShut_79 : decode cX11_isShut 79 = .ok (.goto (-68), 3) := by decide +kernel
theorem dX11_isShut_82 : decode cX11_isShut 82 = .ok (.iload_n 3, 1) := by decide +kernel
theorem dX11_isShut_83 : decode cX11_isShut 83 = .ok (.ireturn, 1) := by decide +kernel
theorem bk_X11_isShut_0 {C : JC} {d cl sl : Nat} {Q : State → Prop} {w : JW} {k1 : Nat} {b1 : Bool} {x2 : Int32} {n1 : Nat} {d2 : Nat} {r : Int32} {w2 : JW} (hm : jok C MX11_isShut d cl sl) (hA1 : jIA k1 b1 n1) (h1 : vp_in 0 n1) (hs : jF MX11_isQuiet d2 [jR 41 false, jI (w.1 k1 b1 0)] w (jI r) w2) (hd2 : d2 + 1 ≤ d) (k : jW C cl sl Q 7 [jR 41 false, jR k1 b1, jI x2, jU, jU] [jI r] w2) : jW C cl sl Q 0 [jR 41 false, jR k1 b1, jI x2, jU, jU] [] w := jr_aload_n hm (i := 0) rfl rfl dX11_isShut_0 (jr_aload_n hm (i := 1) rfl rfl dX11_isShut_1 (jr_iconst hm (v := 0) (by decide) dX11_isShut_2 (jr_iaload hm hA1 h1 dX11_isShut_3 (jr_callV (mc := 0) (ms := 0) hm hs hd2 jw_1636 jw_1638 jw_94 jw_125 jw_1639 jn_X11_isQuiet rfl jo_41 (fun _ _ _ _ _ => ⟨_, rfl⟩) rfl rfl (Nat.le_of_ble_eq_true rfl) rfl dX11_isShut_4 (jkF (jr_drop (jle_same (jle_same (jle_same (jle_same (jle_same jle_nil))))) k))))))
theorem bk_X11_isShut_7 {C : JC} {d cl sl : Nat} {Q : State → Prop} {w : JW} {k1 : Nat} {b1 : Bool} {x2 : Int32} {xs0 : Int32} (hm : jok C MX11_isShut d cl sl) (k : jW C cl sl Q 11 [jR 41 false, jR k1 b1, jI x2, jI xs0, jI 0] [] w) : jW C cl sl Q 7 [jR 41 false, jR k1 b1, jI x2, jU, jU] [jI xs0] w := jr_istore_n hm (i := 3) rfl (Nat.le_of_ble_eq_true rfl) rfl dX11_isShut_7 (jr_iconst hm (v := 0) (by decide) dX11_isShut_8 (jr_istore hm (i := 4) (Nat.le_of_ble_eq_true rfl) rfl dX11_isShut_9 (jr_drop (jle_same (jle_same (jle_same (jle_same (jle_same jle_nil))))) k)))
theorem bk_X11_isShut_11 {C : JC} {d cl sl : Nat} {Q : State → Prop} {w : JW} {k1 : Nat} {b1 : Bool} {x2 : Int32} {x3 : Int32} {x4 : Int32} (hm : jok C MX11_isShut d cl sl) (kt : 3 * (w.1 53 (w.2.2 41 8) 5) ≤ x4 → jW C cl sl Q 82 [jU, jU, jU, jI x3, jU] [] w) (kf : ¬ 3 * (w.1 53 (w.2.2 41 8) 5) ≤ x4 → jW C cl sl Q 25 [jR 41 false, jR k1 b1, jI x2, jI x3, jI x4] [] w) : jW C cl sl Q 11 [jR 41 false, jR k1 b1, jI x2, jI x3, jI x4] [] w := jr_iload hm (i := 4) rfl dX11_isShut_11 (jr_iconst hm (v := 3) (by decide) dX11_isShut_13 (jr_aload_n hm (i := 0) rfl rfl dX11_isShut_14 (fg_X11_87 hm dX11_isShut_15 (fg_X11_260 hm dX11_isShut_18 (jr_imul hm dX11_isShut_21 (jr_icmp_ge hm dX11_isShut_22 (by decide) (fun h => jr_drop (jle_drop (jle_drop (jle_drop (jle_same (jle_drop jle_nil))))) (kt h)) (fun h => jr_drop (jle_same (jle_same (jle_same (jle_same (jle_same jle_nil))))) (kf h))))))))
theorem bk_X11_isShut_25 {C : JC} {d cl sl : Nat} {Q : State → Prop} {w : JW} {k1 : Nat} {b1 : Bool} {x2 : Int32} {x3 : Int32} {x4 : Int32} (hm : jok C MX11_isShut d cl sl) (h1 : vp_in x4 48) (kt : ¬ (w.1 59 (w.2.2 41 8) x4.toNatClampNeg) = 15 → jW C cl sl Q 76 [jR 41 false, jR k1 b1, jI x2, jI x3, jI x4] [] w) (kf : (w.1 59 (w.2.2 41 8) x4.toNatClampNeg) = 15 → jW C cl sl Q 40 [jR 41 false, jR k1 b1, jI x2, jI x3, jI x4] [] w) : jW C cl sl Q 25 [jR 41 false, jR k1 b1, jI x2, jI x3, jI x4] [] w := jr_aload_n hm (i := 0) rfl rfl dX11_isShut_25 (fg_X11_87 hm dX11_isShut_26 (fg_X11_263 hm dX11_isShut_29 (jr_iload hm (i := 4) rfl dX11_isShut_32 (jr_iaload hm (ja_59 (w.2.2 41 8)) h1 dX11_isShut_34 (jr_bipush hm (v := 15) (by decide) dX11_isShut_35 (jr_icmp_ne hm dX11_isShut_37 (by decide) (fun h => jr_drop (jle_same (jle_same (jle_same (jle_same (jle_same jle_nil))))) (kt h)) (fun h => jr_drop (jle_same (jle_same (jle_same (jle_same (jle_same jle_nil))))) (kf h))))))))
theorem bk_X11_isShut_40 {C : JC} {d cl sl : Nat} {Q : State → Prop} {w : JW} {k1 : Nat} {b1 : Bool} {x2 : Int32} {x3 : Int32} {x4 : Int32} (hm : jok C MX11_isShut d cl sl) (h1 : vp_in (x4 + 1) 48) (kt : ¬ (w.1 59 (w.2.2 41 8) (x4 + 1).toNatClampNeg) = x2 → jW C cl sl Q 76 [jR 41 false, jR k1 b1, jI x2, jI x3, jI x4] [] w) (kf : (w.1 59 (w.2.2 41 8) (x4 + 1).toNatClampNeg) = x2 → jW C cl sl Q 56 [jR 41 false, jR k1 b1, jI x2, jI x3, jI x4] [] w) : jW C cl sl Q 40 [jR 41 false, jR k1 b1, jI x2, jI x3, jI x4] [] w := jr_aload_n hm (i := 0) rfl rfl dX11_isShut_40 (fg_X11_87 hm dX11_isShut_41 (fg_X11_263 hm dX11_isShut_44 (jr_iload hm (i := 4) rfl dX11_isShut_47 (jr_iconst hm (v := 1) (by decide) dX11_isShut_49 (jr_iadd hm dX11_isShut_50 (jr_iaload hm (ja_59 (w.2.2 41 8)) h1 dX11_isShut_51 (jr_iload_n hm (i := 2) rfl rfl dX11_isShut_52 (jr_icmp_ne hm dX11_isShut_53 (by decide) (fun h => jr_drop (jle_same (jle_same (jle_same (jle_same (jle_same jle_nil))))) (kt h)) (fun h => jr_drop (jle_same (jle_same (jle_same (jle_same (jle_same jle_nil))))) (kf h))))))))))
theorem bk_X11_isShut_56 {C : JC} {d cl sl : Nat} {Q : State → Prop} {w : JW} {k1 : Nat} {b1 : Bool} {x2 : Int32} {x3 : Int32} {x4 : Int32} {d2 : Nat} {r : Int32} {w2 : JW} (hm : jok C MX11_isShut d cl sl) (h1 : vp_in (x4 + 2) 48) (hs : jF MX11_holds d2 [jR 41 false, jI (w.1 59 (w.2.2 41 8) (x4 + 2).toNatClampNeg), jR k1 b1] w (jI r) w2) (hd2 : d2 + 1 ≤ d) (k : jW C cl sl Q 74 [jR 41 false, jR k1 b1, jI x2, jU, jI x4] [jI r, jI x3] w2) : jW C cl sl Q 56 [jR 41 false, jR k1 b1, jI x2, jI x3, jI x4] [] w := jr_iload_n hm (i := 3) rfl rfl dX11_isShut_56 (jr_aload_n hm (i := 0) rfl rfl dX11_isShut_57 (jr_aload_n hm (i := 0) rfl rfl dX11_isShut_58 (fg_X11_87 hm dX11_isShut_59 (fg_X11_263 hm dX11_isShut_62 (jr_iload hm (i := 4) rfl dX11_isShut_65 (jr_iconst hm (v := 2) (by decide) dX11_isShut_67 (jr_iadd hm dX11_isShut_68 (jr_iaload hm (ja_59 (w.2.2 41 8)) h1 dX11_isShut_69 (jr_aload_n hm (i := 1) rfl rfl dX11_isShut_70 (jr_callV (mc := 0) (ms := 0) hm hs hd2 jw_1640 jw_1642 jw_95 jw_125 jw_1643 jn_X11_holds rfl jo_41 (fun _ _ _ _ _ => ⟨_, rfl⟩) rfl rfl (Nat.le_of_ble_eq_true rfl) rfl dX11_isShut_71 (jkF (jr_drop (jle_same (jle_same (jle_same (jle_drop (jle_same jle_nil))))) k))))))))))))
theorem bk_X11_isShut_74 {C : JC} {d cl sl : Nat} {Q : State → Prop} {w : JW} {k1 : Nat} {b1 : Bool} {x2 : Int32} {x4 : Int32} {xs0 : Int32} {xs1 : Int32} (hm : jok C MX11_isShut d cl sl) (k : jW C cl sl Q 76 [jR 41 false, jR k1 b1, jI x2, jI (xs1 ||| xs0), jI x4] [] w) : jW C cl sl Q 74 [jR 41 false, jR k1 b1, jI x2, jU, jI x4] [jI xs0, jI xs1] w := jr_ior hm dX11_isShut_74 (jr_istore_n hm (i := 3) rfl (Nat.le_of_ble_eq_true rfl) rfl dX11_isShut_75 (jr_drop (jle_same (jle_same (jle_same (jle_same (jle_same jle_nil))))) k))
theorem bk_X11_isShut_76 {C : JC} {d cl sl : Nat} {Q : State → Prop} {w : JW} {k1 : Nat} {b1 : Bool} {x2 : Int32} {x3 : Int32} {x4 : Int32} (hm : jok C MX11_isShut d cl sl) (k : jW C cl sl Q 11 [jR 41 false, jR k1 b1, jI x2, jI x3, jI (x4 + 3)] [] w) : jW C cl sl Q 76 [jR 41 false, jR k1 b1, jI x2, jI x3, jI x4] [] w := jr_iinc hm (i := 4) (v := x4 + 3) rfl rfl rfl dX11_isShut_76 (jr_goto hm dX11_isShut_79 (by decide) (jr_drop (jle_same (jle_same (jle_same (jle_same (jle_same jle_nil))))) k))
theorem bk_X11_isShut_82 {C : JC} {d cl sl : Nat} {w : JW} {x3 : Int32} {P : JV → JW → Prop} (hm : jok C MX11_isShut d cl sl) (hz : narrow .boolean (.int x3) = .int x3) (hp : P (jI x3) w) : jW C cl sl (jQQ C cl sl P) 82 [jU, jU, jU, jI x3, jU] [] w := jr_iload_n hm (i := 3) rfl rfl dX11_isShut_82 (jr_zreturn hm rfl hz dX11_isShut_83 hp)
theorem dX11_press_0 : decode cX11_press 0 = .ok (.aload_n 0, 1) := by decide +kernel
theorem dX11_press_1 : decode cX11_press 1 = .ok (.aload_n 1, 1) := by decide +kernel
theorem dX11_press_2 : decode cX11_press 2 = .ok (.iconst 0, 1) := by decide +kernel
theorem dX11_press_3 : decode cX11_press 3 = .ok (.iaload, 1) := by decide +kernel
theorem dX11_press_4 : decode cX11_press 4 = .ok (.aload_n 1, 1) := by decide +kernel
theorem dX11_press_5 : decode cX11_press 5 = .ok (.iconst 1, 1) := by decide +kernel
theorem dX11_press_6 : decode cX11_press 6 = .ok (.iaload, 1) := by decide +kernel
theorem dX11_press_7 : decode cX11_press 7 = .ok (.invokevirtual 309, 3) := by decide +kernel
theorem dX11_press_10 : decode cX11_press 10 = .ok (.aload_n 0, 1) := by decide +kernel
theorem dX11_press_11 : decode cX11_press 11 = .ok (.getfield 87, 3) := by decide +kernel
theorem dX11_press_14 : decode cX11_press 14 = .ok (.getfield 227, 3) := by decide +kernel
theorem dX11_press_17 : decode cX11_press 17 = .ok (.iconst 2, 1) := by decide +kernel
theorem dX11_press_18 : decode cX11_press 18 = .ok (.iload_n 2, 1) := by decide +kernel
theorem dX11_press_19 : decode cX11_press 19 = .ok (.imul, 1) := by decide +kernel
theorem dX11_press_20 : decode cX11_press 20 = .ok (.iaload, 1) := by decide +kernel
theorem dX11_press_21 : decode cX11_press 21 = .ok (.imul, 1) := by decide +kernel
theorem dX11_press_22 : decode cX11_press 22 = .ok (.aload_n 0, 1) := by decide +kernel
theorem dX11_press_23 : decode cX11_press 23 = .ok (.getfield 87, 3) := by decide +kernel
theorem dX11_press_26 : decode cX11_press 26 = .ok (.getfield 227, 3) := by decide +kernel
theorem dX11_press_29 : decode cX11_press 29 = .ok (.iconst 2, 1) := by decide +kernel
theorem dX11_press_30 : decode cX11_press 30 = .ok (.iload_n 2, 1) := by decide +kernel
theorem dX11_press_31 : decode cX11_press 31 = .ok (.imul, 1) := by decide +kernel
theorem dX11_press_32 : decode cX11_press 32 = .ok (.iconst 1, 1) := by decide +kernel
theorem dX11_press_33 : decode cX11_press 33 = .ok (.iadd, 1) := by decide +kernel
theorem dX11_press_34 : decode cX11_press 34 = .ok (.iaload, 1) := by decide +kernel
theorem dX11_press_35 : decode cX11_press 35 = .ok (.idiv, 1) := by decide +kernel
theorem dX11_press_36 : decode cX11_press 36 = .ok (.istore_n 3, 1) := by decide +kernel
theorem dX11_press_37 : decode cX11_press 37 = .ok (.aload_n 1, 1) := by decide +kernel
theorem dX11_press_38 : decode cX11_press 38 = .ok (.iconst 4, 1) := by decide +kernel
theorem dX11_press_39 : decode cX11_press 39 = .ok (.iload_n 2, 1) := by decide +kernel
theorem dX11_press_40 : decode cX11_press 40 = .ok (.iadd, 1) := by decide +kernel
theorem dX11_press_41 : decode cX11_press 41 = .ok (.aload_n 0, 1) := by decide +kernel
theorem dX11_press_42 : decode cX11_press 42 = .ok (.aload_n 1, 1) := by decide +kernel
theorem dX11_press_43 : decode cX11_press 43 = .ok (.iload_n 2, 1) := by decide +kernel
theorem dX11_press_44 : decode cX11_press 44 = .ok (.invokevirtual 312, 3) := by decide +kernel
theorem dX11_press_47 : decode cX11_press 47 = .ok (.ifCond .eq 7, 3) := by decide +kernel
theorem dX11_press_50 : decode cX11_press 50 = .ok (.iconst 0, 1) := by decide +kernel
theorem dX11_press_51 : decode cX11_press 51 = .ok (.goto 12, 3) := by decide +kernel
theorem dX11_press_54 : decode cX11_press 54 = .ok (.aload_n 1, 1) := by decide +kernel
theorem dX11_press_55 : decode cX11_press 55 = .ok (.iconst 4, 1) := by decide +kernel
theorem dX11_press_56 : decode cX11_press 56 = .ok (.iload_n 2, 1) := by decide +kernel
theorem dX11_press_57 : decode cX11_press 57 = .ok (.iadd, 1) := by decide +kernel
theorem dX11_press_58 : decode cX11_press 58 = .ok (.iaload, 1) := by decide +kernel
theorem dX11_press_59 : decode cX11_press 59 = .ok (.iconst 2, 1) := by decide +kernel
theorem dX11_press_60 : decode cX11_press 60 = .ok (.idiv, 1) := by decide +kernel
theorem dX11_press_61 : decode cX11_press 61 = .ok (.iload_n 3, 1) := by decide +kernel
theorem dX11_press_62 : decode cX11_press 62 = .ok (.iadd, 1) := by decide +kernel
theorem dX11_press_63 : decode cX11_press 63 = .ok (.iastore, 1) := by decide +kernel
theorem dX11_press_64 : decode cX11_press 64 = .ok (.return_, 1) := by decide +kernel
theorem bk_X11_press_0 {C : JC} {d cl sl : Nat} {Q : State → Prop} {w : JW} {k1 : Nat} {b1 : Bool} {x2 : Int32} {n1 : Nat} {d2 : Nat} {r : Int32} {w2 : JW} (hm : jok C MX11_press d cl sl) (hA1 : jIA k1 b1 n1) (h1 : vp_in 0 n1) (h2 : vp_in 1 n1) (hs : jF MX11_heightOf d2 [jR 41 false, jI (w.1 k1 b1 0), jI (w.1 k1 b1 1)] w (jI r) w2) (hd2 : d2 + 1 ≤ d) (k : jW C cl sl Q 10 [jR 41 false, jR k1 b1, jI x2, jU] [jI r] w2) : jW C cl sl Q 0 [jR 41 false, jR k1 b1, jI x2, jU] [] w := jr_aload_n hm (i := 0) rfl rfl dX11_press_0 (jr_aload_n hm (i := 1) rfl rfl dX11_press_1 (jr_iconst hm (v := 0) (by decide) dX11_press_2 (jr_iaload hm hA1 h1 dX11_press_3 (jr_aload_n hm (i := 1) rfl rfl dX11_press_4 (jr_iconst hm (v := 1) (by decide) dX11_press_5 (jr_iaload hm hA1 h2 dX11_press_6 (jr_callV (mc := 0) (ms := 0) hm hs hd2 jw_1704 jw_1706 jw_105 jw_125 jw_1707 jn_X11_heightOf rfl jo_41 (fun _ _ _ _ _ => ⟨_, rfl⟩) rfl rfl (Nat.le_of_ble_eq_true rfl) rfl dX11_press_7 (jkF (jr_drop (jle_same (jle_same (jle_same (jle_same jle_nil)))) k)))))))))
theorem bk_X11_press_10 {C : JC} {d cl sl : Nat} {Q : State → Prop} {w : JW} {k1 : Nat} {b1 : Bool} {x2 : Int32} {xs0 : Int32} {d2 : Nat} {r : Int32} {w2 : JW} (hm : jok C MX11_press d cl sl) (h1 : vp_in (2 * x2) 10) (h2 : vp_in ((2 * x2) + 1) 10) (h3 : ¬ (w.1 54 (w.2.2 41 8) ((2 * x2) + 1).toNatClampNeg) = 0) (hs : jF MX11_isShut d2 [jR 41 false, jR k1 b1, jI x2] w (jI r) w2) (hd2 : d2 + 1 ≤ d) (k : jW C cl sl Q 47 [jU, jR k1 b1, jI x2, jI ((xs0 * (w.1 54 (w.2.2 41 8) (2 * x2).toNatClampNeg)) / (w.1 54 (w.2.2 41 8) ((2 * x2) + 1).toNatClampNeg))] [jI r, jI (4 + x2), jR k1 b1] w2) : jW C cl sl Q 10 [jR 41 false, jR k1 b1, jI x2, jU] [jI xs0] w := jr_aload_n hm (i := 0) rfl rfl dX11_press_10 (fg_X11_87 hm dX11_press_11 (fg_X11_227 hm dX11_press_14 (jr_iconst hm (v := 2) (by decide) dX11_press_17 (jr_iload_n hm (i := 2) rfl rfl dX11_press_18 (jr_imul hm dX11_press_19 (jr_iaload hm (ja_54 (w.2.2 41 8)) h1 dX11_press_20 (jr_imul hm dX11_press_21 (jr_aload_n hm (i := 0) rfl rfl dX11_press_22 (fg_X11_87 hm dX11_press_23 (fg_X11_227 hm dX11_press_26 (jr_iconst hm (v := 2) (by decide) dX11_press_29 (jr_iload_n hm (i := 2) rfl rfl dX11_press_30 (jr_imul hm dX11_press_31 (jr_iconst hm (v := 1) (by decide) dX11_press_32 (jr_iadd hm dX11_press_33 (jr_iaload hm (ja_54 (w.2.2 41 8)) h2 dX11_press_34 (jr_idiv hm h3 dX11_press_35 (jr_istore_n hm (i := 3) rfl (Nat.le_of_ble_eq_true rfl) rfl dX11_press_36 (jr_aload_n hm (i := 1) rfl rfl dX11_press_37 (jr_iconst hm (v := 4) (by decide) dX11_press_38 (jr_iload_n hm (i := 2) rfl rfl dX11_press_39 (jr_iadd hm dX11_press_40 (jr_aload_n hm (i := 0) rfl rfl dX11_press_41 (jr_aload_n hm (i := 1) rfl rfl dX11_press_42 (jr_iload_n hm (i := 2) rfl rfl dX11_press_43 (jr_callV (mc := 0) (ms := 0) hm hs hd2 jw_1632 jw_1634 jw_93 jw_125 jw_1635 jn_X11_isShut rfl jo_41 (fun _ _ _ _ _ => ⟨_, rfl⟩) rfl rfl (Nat.le_of_ble_eq_true rfl) rfl dX11_press_44 (jkF (jr_drop (jle_drop (jle_same (jle_same (jle_same jle_nil)))) k))))))))))))))))))))))))))))
theorem bk_X11_press_47 {C : JC} {d cl sl : Nat} {Q : State → Prop} {w : JW} {k1 : Nat} {b1 : Bool} {x2 : Int32} {x3 : Int32} {xs0 : Int32} {xs1 : Int32} {ks2 : Nat} {bs2 : Bool} (hm : jok C MX11_press d cl sl) (kt : xs0 = 0 → jW C cl sl Q 54 [jU, jR k1 b1, jI x2, jI x3] [jI xs1, jR ks2 bs2] w) (kf : ¬ xs0 = 0 → jW C cl sl Q 50 [jU, jU, jU, jU] [jI xs1, jR ks2 bs2] w) : jW C cl sl Q 47 [jU, jR k1 b1, jI x2, jI x3] [jI xs0, jI xs1, jR ks2 bs2] w := jr_if_eq hm dX11_press_47 (by decide) (fun h => jr_drop (jle_same (jle_same (jle_same (jle_same jle_nil)))) (kt h)) (fun h => jr_drop (jle_same (jle_drop (jle_drop (jle_drop jle_nil)))) (kf h))
theorem bk_X11_press_50 {C : JC} {d cl sl : Nat} {Q : State → Prop} {w : JW} {xs0 : Int32} {ks1 : Nat} {bs1 : Bool} (hm : jok C MX11_press d cl sl) (k : jW C cl sl Q 63 [jU, jU, jU, jU] [jI 0, jI xs0, jR ks1 bs1] w) : jW C cl sl Q 50 [jU, jU, jU, jU] [jI xs0, jR ks1 bs1] w := jr_iconst hm (v := 0) (by decide) dX11_press_50 (jr_goto hm dX11_press_51 (by decide) (jr_drop (jle_same (jle_same (jle_same (jle_same jle_nil)))) k))
theorem bk_X11_press_54 {C : JC} {d cl sl : Nat} {Q : State → Prop} {w : JW} {k1 : Nat} {b1 : Bool} {x2 : Int32} {x3 : Int32} {xs0 : Int32} {ks1 : Nat} {bs1 : Bool} {n1 : Nat} (hm : jok C MX11_press d cl sl) (hA1 : jIA k1 b1 n1) (h1 : vp_in (4 + x2) n1) (k : jW C cl sl Q 63 [jU, jU, jU, jU] [jI (((w.1 k1 b1 (4 + x2).toNatClampNeg) / 2) + x3), jI xs0, jR ks1 bs1] w) : jW C cl sl Q 54 [jU, jR k1 b1, jI x2, jI x3] [jI xs0, jR ks1 bs1] w := jr_aload_n hm (i := 1) rfl rfl dX11_press_54 (jr_iconst hm (v := 4) (by decide) dX11_press_55 (jr_iload_n hm (i := 2) rfl rfl dX11_press_56 (jr_iadd hm dX11_press_57 (jr_iaload hm hA1 h1 dX11_press_58 (jr_iconst hm (v := 2) (by decide) dX11_press_59 (jr_idiv hm (by decide) dX11_press_60 (jr_iload_n hm (i := 3) rfl rfl dX11_press_61 (jr_iadd hm dX11_press_62 (jr_drop (jle_same (jle_drop (jle_drop (jle_drop jle_nil)))) k)))))))))
theorem bk_X11_press_63 {C : JC} {d cl sl : Nat} {w : JW} {xs0 : Int32} {xs1 : Int32} {ks2 : Nat} {bs2 : Bool} {ns2 : Nat} {P : JV → JW → Prop} (hm : jok C MX11_press d cl sl) (hAs2 : jIA ks2 bs2 ns2) (h1 : vp_in xs1 ns2) (hp : P (jU) (jset w ks2 bs2 xs1.toNatClampNeg xs0)) : jW C cl sl (jQQ C cl sl P) 63 [jU, jU, jU, jU] [jI xs0, jI xs1, jR ks2 bs2] w := jr_iastore hm hAs2 h1 dX11_press_63 (jr_return hm rfl dX11_press_64 hp)
theorem dX11_blow_0 : decode cX11_blow 0 = .ok (.iconst 0, 1) := by decide +kernel
theorem dX11_blow_1 : decode cX11_blow 1 = .ok (.aload_n 1, 1) := by decide +kernel
theorem dX11_blow_2 : decode cX11_blow 2 = .ok (.iconst 4, 1) := by decide +kernel
theorem dX11_blow_3 : decode cX11_blow 3 = .ok (.aload_n 0, 1) := by decide +kernel
theorem dX11_blow_4 : decode cX11_blow 4 = .ok (.getfield 87, 3) := by decide +kernel
theorem dX11_blow_7 : decode cX11_blow 7 = .ok (.getfield 230, 3) := by decide +kernel
theorem dX11_blow_10 : decode cX11_blow 10 = .ok (.iconst 3, 1) := by decide +kernel
theorem dX11_blow_11 : decode cX11_blow 11 = .ok (.iload_n 2, 1) := by decide +kernel
theorem dX11_blow_12 : decode cX11_blow 12 = .ok (.imul, 1) := by decide +kernel
theorem dX11_blow_13 : decode cX11_blow 13 = .ok (.iaload, 1) := by decide +kernel
theorem dX11_blow_14 : decode cX11_blow 14 = .ok (.iadd, 1) := by decide +kernel
theorem dX11_blow_15 : decode cX11_blow 15 = .ok (.iaload, 1) := by decide +kernel
theorem dX11_blow_16 : decode cX11_blow 16 = .ok (.aload_n 0, 1) := by decide +kernel
theorem dX11_blow_17 : decode cX11_blow 17 = .ok (.aload_n 1, 1) := by decide +kernel
theorem dX11_blow_18 : decode cX11_blow 18 = .ok (.iload_n 2, 1) := by decide +kernel
theorem dX11_blow_19 : decode cX11_blow 19 = .ok (.invokevirtual 316, 3) := by decide +kernel
theorem dX11_blow_22 : decode cX11_blow 22 = .ok (.isub, 1) := by decide +kernel
theorem dX11_blow_23 : decode cX11_blow 23 = .ok (.iconst 1, 1) := by decide +kernel
theorem dX11_blow_24 : decode cX11_blow 24 = .ok (.iadd, 1) := by decide +kernel
theorem dX11_blow_25 : decode cX11_blow 25 = .ok (.invokestatic 296, 3) := by decide +kernel
theorem dX11_blow_28 : decode cX11_blow 28 = .ok (.istore_n 3, 1) := by decide +kernel
theorem dX11_blow_29 : decode cX11_blow 29 = .ok (.aload_n 1, 1) := by decide +kernel
theorem dX11_blow_30 : decode cX11_blow 30 = .ok (.bipush 21, 2) := by decide +kernel
theorem dX11_blow_32 : decode cX11_blow 32 = .ok (.iload_n 2, 1) := by decide +kernel
theorem dX11_blow_33 : decode cX11_blow 33 = .ok (.iadd, 1) := by decide +kernel
theorem dX11_blow_34 : decode cX11_blow 34 = .ok (.iload_n 3, 1) := by decide +kernel
theorem dX11_blow_35 : decode cX11_blow 35 = .ok (.iastore, 1) := by decide +kernel
theorem dX11_blow_36 : decode cX11_blow 36 = .ok (.aload_n 1, 1) := by decide +kernel
theorem dX11_blow_37 : decode cX11_blow 37 = .ok (.bipush 33, 2) := by decide +kernel
theorem dX11_blow_39 : decode cX11_blow 39 = .ok (.iload_n 2, 1) := by decide +kernel
theorem dX11_blow_40 : decode cX11_blow 40 = .ok (.iadd, 1) := by decide +kernel
theorem dX11_blow_41 : decode cX11_blow 41 = .ok (.dup2, 1) := by decide +kernel
theorem dX11_blow_42 : decode cX11_blow 42 = .ok (.iaload, 1) := by decide +kernel
theorem dX11_blow_43 : decode cX11_blow 43 = .ok (.iload_n 3, 1) := by decide +kernel
theorem dX11_blow_44 : decode cX11_blow 44 = .ok (.ifCond .le 7, 3) := by decide +kernel
theorem dX11_blow_47 : decode cX11_blow 47 = .ok (.iconst 1, 1) := by decide +kernel
theorem dX11_blow_48 : decode cX11_blow 48 = .ok (.goto 4, 3) := by decide +kernel
theorem dX11_blow_51 : decode cX11_blow 51 = .ok (.iconst 0, 1) := by decide +kernel
theorem dX11_blow_52 : decode cX11_blow 52 = .ok (.iadd, 1) := by decide +kernel
theorem dX11_blow_53 : decode cX11_blow 53 = .ok (.iastore, 1) := by decide +kernel
theorem dX11_blow_54 : decode cX11_blow 54 = .ok (.return_, 1) := by decide +kernel
theorem bk_X11_blow_0 {C : JC} {d cl sl : Nat} {Q : State → Prop} {w : JW} {k1 : Nat} {b1 : Bool} {x2 : Int32} {n1 : Nat} {d2 : Nat} {r : Int32} {w2 : JW} (hm : jok C MX11_blow d cl sl) (h1 : vp_in (3 * x2) 36) (hA1 : jIA k1 b1 n1) (h2 : vp_in (4 + (w.1 55 (w.2.2 41 8) (3 * x2).toNatClampNeg)) n1) (hs : jF MX11_need d2 [jR 41 false, jR k1 b1, jI x2] w (jI r) w2) (hd2 : d2 + 1 ≤ d) (k : jW C cl sl Q 22 [jU, jR k1 b1, jI x2, jU] [jI r, jI (w.1 k1 b1 (4 + (w.1 55 (w.2.2 41 8) (3 * x2).toNatClampNeg)).toNatClampNeg), jI 0] w2) : jW C cl sl Q 0 [jR 41 false, jR k1 b1, jI x2, jU] [] w := jr_iconst hm (v := 0) (by decide) dX11_blow_0 (jr_aload_n hm (i := 1) rfl rfl dX11_blow_1 (jr_iconst hm (v := 4) (by decide) dX11_blow_2 (jr_aload_n hm (i := 0) rfl rfl dX11_blow_3 (fg_X11_87 hm dX11_blow_4 (fg_X11_230 hm dX11_blow_7 (jr_iconst hm (v := 3) (by decide) dX11_blow_10 (jr_iload_n hm (i := 2) rfl rfl dX11_blow_11 (jr_imul hm dX11_blow_12 (jr_iaload hm (ja_55 (w.2.2 41 8)) h1 dX11_blow_13 (jr_iadd hm dX11_blow_14 (jr_iaload hm hA1 h2 dX11_blow_15 (jr_aload_n hm (i := 0) rfl rfl dX11_blow_16 (jr_aload_n hm (i := 1) rfl rfl dX11_blow_17 (jr_iload_n hm (i := 2) rfl rfl dX11_blow_18 (jr_callV (mc := 0) (ms := 0) hm hs hd2 jw_1664 jw_1666 jw_99 jw_125 jw_1667 jn_X11_need rfl jo_41 (fun _ _ _ _ _ => ⟨_, rfl⟩) rfl rfl (Nat.le_of_ble_eq_true rfl) rfl dX11_blow_19 (jkF (jr_drop (jle_drop (jle_same (jle_same (jle_same jle_nil)))) k)))))))))))))))))
theorem bk_X11_blow_22 {C : JC} {d cl sl : Nat} {Q : State → Prop} {w : JW} {k1 : Nat} {b1 : Bool} {x2 : Int32} {xs0 : Int32} {xs1 : Int32} {xs2 : Int32} {n1 : Nat} (hm : jok C MX11_blow d cl sl) (hd1 : 1 ≤ d) (hA1 : jIA k1 b1 n1) (h1 : vp_in (21 + x2) n1) (h2 : vp_in (33 + x2) n1) (kt : (if xs2 < (xs1 - xs0) + 1 then (xs1 - xs0) + 1 else xs2) ≤ 0 → jW C cl sl Q 51 [jU, jU, jU, jU] [jI ((jset w k1 b1 (21 + x2).toNatClampNeg (if xs2 < (xs1 - xs0) + 1 then (xs1 - xs0) + 1 else xs2)).1 k1 b1 (33 + x2).toNatClampNeg), jI (33 + x2), jR k1 b1] (jset w k1 b1 (21 + x2).toNatClampNeg (if xs2 < (xs1 - xs0) + 1 then (xs1 - xs0) + 1 else xs2))) (kf : ¬ (if xs2 < (xs1 - xs0) + 1 then (xs1 - xs0) + 1 else xs2) ≤ 0 → jW C cl sl Q 47 [jU, jU, jU, jU] [jI ((jset w k1 b1 (21 + x2).toNatClampNeg (if xs2 < (xs1 - xs0) + 1 then (xs1 - xs0) + 1 else xs2)).1 k1 b1 (33 + x2).toNatClampNeg), jI (33 + x2), jR k1 b1] (jset w k1 b1 (21 + x2).toNatClampNeg (if xs2 < (xs1 - xs0) + 1 then (xs1 - xs0) + 1 else xs2))) : jW C cl sl Q 22 [jU, jR k1 b1, jI x2, jU] [jI xs0, jI xs1, jI xs2] w := jr_isub hm dX11_blow_22 (jr_iconst hm (v := 1) (by decide) dX11_blow_23 (jr_iadd hm dX11_blow_24 (jr_mmax hm jw_1648 jw_558 jw_136 jw_559 hd1 (Nat.le_of_ble_eq_true rfl) rfl dX11_blow_25 (jr_istore_n hm (i := 3) rfl (Nat.le_of_ble_eq_true rfl) rfl dX11_blow_28 (jr_aload_n hm (i := 1) rfl rfl dX11_blow_29 (jr_bipush hm (v := 21) (by decide) dX11_blow_30 (jr_iload_n hm (i := 2) rfl rfl dX11_blow_32 (jr_iadd hm dX11_blow_33 (jr_iload_n hm (i := 3) rfl rfl dX11_blow_34 (jr_iastore hm hA1 h1 dX11_blow_35 (jr_aload_n hm (i := 1) rfl rfl dX11_blow_36 (jr_bipush hm (v := 33) (by decide) dX11_blow_37 (jr_iload_n hm (i := 2) rfl rfl dX11_blow_39 (jr_iadd hm dX11_blow_40 (jr_dup2 hm dX11_blow_41 (jr_iaload hm hA1 h2 dX11_blow_42 (jr_iload_n hm (i := 3) rfl rfl dX11_blow_43 (jr_if_le hm dX11_blow_44 (by decide) (fun h => jr_drop (jle_same (jle_drop (jle_drop (jle_drop jle_nil)))) (kt h)) (fun h => jr_drop (jle_same (jle_drop (jle_drop (jle_drop jle_nil)))) (kf h))))))))))))))))))))
theorem bk_X11_blow_47 {C : JC} {d cl sl : Nat} {Q : State → Prop} {w : JW} {xs0 : Int32} {xs1 : Int32} {ks2 : Nat} {bs2 : Bool} (hm : jok C MX11_blow d cl sl) (k : jW C cl sl Q 52 [jU, jU, jU, jU] [jI 1, jI xs0, jI xs1, jR ks2 bs2] w) : jW C cl sl Q 47 [jU, jU, jU, jU] [jI xs0, jI xs1, jR ks2 bs2] w := jr_iconst hm (v := 1) (by decide) dX11_blow_47 (jr_goto hm dX11_blow_48 (by decide) (jr_drop (jle_same (jle_same (jle_same (jle_same jle_nil)))) k))
theorem bk_X11_blow_51 {C : JC} {d cl sl : Nat} {Q : State → Prop} {w : JW} {xs0 : Int32} {xs1 : Int32} {ks2 : Nat} {bs2 : Bool} (hm : jok C MX11_blow d cl sl) (k : jW C cl sl Q 52 [jU, jU, jU, jU] [jI 0, jI xs0, jI xs1, jR ks2 bs2] w) : jW C cl sl Q 51 [jU, jU, jU, jU] [jI xs0, jI xs1, jR ks2 bs2] w := jr_iconst hm (v := 0) (by decide) dX11_blow_51 (jr_drop (jle_same (jle_same (jle_same (jle_same jle_nil)))) k)
theorem bk_X11_blow_52 {C : JC} {d cl sl : Nat} {w : JW} {xs0 : Int32} {xs1 : Int32} {xs2 : Int32} {ks3 : Nat} {bs3 : Bool} {ns3 : Nat} {P : JV → JW → Prop} (hm : jok C MX11_blow d cl sl) (hAs3 : jIA ks3 bs3 ns3) (h1 : vp_in xs2 ns3) (hp : P (jU) (jset w ks3 bs3 xs2.toNatClampNeg (xs1 + xs0))) : jW C cl sl (jQQ C cl sl P) 52 [jU, jU, jU, jU] [jI xs0, jI xs1, jI xs2, jR ks3 bs3] w := jr_iadd hm dX11_blow_52 (jr_iastore hm hAs3 h1 dX11_blow_53 (jr_return hm rfl dX11_blow_54 hp))
theorem dX11_settle_0 : decode cX11_settle 0 = .ok (.aload_n 1, 1) := by decide +kernel
theorem dX11_settle_1 : decode cX11_settle 1 = .ok (.bipush 21, 2) := by decide +kernel
theorem dX11_settle_3 : decode cX11_settle 3 = .ok (.iload_n 2, 1) := by decide +kernel
theorem dX11_settle_4 : decode cX11_settle 4 = .ok (.iadd, 1) := by decide +kernel
theorem dX11_settle_5 : decode cX11_settle 5 = .ok (.iaload, 1) := by decide +kernel
theorem dX11_settle_6 : decode cX11_settle 6 = .ok (.istore_n 3, 1) := by decide +kernel
theorem dX11_settle_7 : decode cX11_settle 7 = .ok (.aload_n 1, 1) := by decide +kernel
theorem dX11_settle_8 : decode cX11_settle 8 = .ok (.bipush 9, 2) := by decide +kernel
theorem dX11_settle_10 : decode cX11_settle 10 = .ok (.iload_n 2, 1) := by decide +kernel
theorem dX11_settle_11 : decode cX11_settle 11 = .ok (.iadd, 1) := by decide +kernel
theorem dX11_settle_12 : decode cX11_settle 12 = .ok (.iaload, 1) := by decide +kernel
theorem dX11_settle_13 : decode cX11_settle 13 = .ok (.istore 4, 2) := by decide +kernel
theorem dX11_settle_15 : decode cX11_settle 15 = .ok (.iload_n 3, 1) := by decide +kernel
theorem dX11_settle_16 : decode cX11_settle 16 = .ok (.ifCond .ne 38, 3) := by decide +kernel
theorem dX11_settle_19 : decode cX11_settle 19 = .ok (.aload_n 1, 1) := by decide +kernel
theorem dX11_settle_20 : decode cX11_settle 20 = .ok (.iconst 4, 1) := by decide +kernel
theorem dX11_settle_21 : decode cX11_settle 21 = .ok (.aload_n 0, 1) := by decide +kernel
theorem dX11_settle_22 : decode cX11_settle 22 = .ok (.getfield 87, 3) := by decide +kernel
theorem dX11_settle_25 : decode cX11_settle 25 = .ok (.getfield 230, 3) := by decide +kernel
theorem dX11_settle_28 : decode cX11_settle 28 = .ok (.iconst 3, 1) := by decide +kernel
theorem dX11_settle_29 : decode cX11_settle 29 = .ok (.iload_n 2, 1) := by decide +kernel
theorem dX11_settle_30 : decode cX11_settle 30 = .ok (.imul, 1) := by decide +kernel
theorem dX11_settle_31 : decode cX11_settle 31 = .ok (.iaload, 1) := by decide +kernel
theorem dX11_settle_32 : decode cX11_settle 32 = .ok (.iadd, 1) := by decide +kernel
theorem dX11_settle_33 : decode cX11_settle 33 = .ok (.iaload, 1) := by decide +kernel
theorem dX11_settle_34 : decode cX11_settle 34 = .ok (.ifCond .le 20, 3) := by decide +kernel
theorem dX11_settle_37 : decode cX11_settle 37 = .ok (.bipush 20, 2) := by decide +kernel
theorem dX11_settle_39 : decode cX11_settle 39 = .ok (.iload 4, 2) := by decide +kernel
theorem dX11_settle_41 : decode cX11_settle 41 = .ok (.iconst 1, 1) := by decide +kernel
theorem dX11_settle_42 : decode cX11_settle 42 = .ok (.iadd, 1) := by decide +kernel
theorem dX11_settle_43 : decode cX11_settle 43 = .ok (.aload_n 0, 1) := by decide +kernel
theorem dX11_settle_44 : decode cX11_settle 44 = .ok (.iload_n 2, 1) := by decide +kernel
theorem dX11_settle_45 : decode cX11_settle 45 = .ok (.invokevirtual 281, 3) := by decide +kernel
theorem dX11_settle_48 : decode cX11_settle 48 = .ok (.iadd, 1) := by decide +kernel
theorem dX11_settle_49 : decode cX11_settle 49 = .ok (.invokestatic 248, 3) := by decide +kernel
theorem dX11_settle_52 : decode cX11_settle 52 = .ok (.istore 4, 2) := by decide +kernel
theorem dX11_settle_54 : decode cX11_settle 54 = .ok (.iload_n 3, 1) := by decide +kernel
theorem dX11_settle_55 : decode cX11_settle 55 = .ok (.bipush 6, 2) := by decide +kernel
theorem dX11_settle_57 : decode cX11_settle 57 = .ok (.if_icmp .lt 13, 3) := by decide +kernel
theorem dX11_settle_60 : decode cX11_settle 60 = .ok (.iconst 0, 1) := by decide +kernel
theorem dX11_settle_61 : decode cX11_settle 61 = .ok (.iload 4, 2) := by decide +kernel
theorem dX11_settle_63 : decode cX11_settle 63 = .ok (.iconst 1, 1) := by decide +kernel
theorem dX11_settle_64 : decode cX11_settle 64 = .ok (.isub, 1) := by decide +kernel
theorem dX11_settle_65 : decode cX11_settle 65 = .ok (.invokestatic 296, 3) := by decide +kernel
theorem dX11_settle_68 : decode cX11_settle 68 = .ok (.istore 4, 2) := by decide +kernel
theorem dX11_settle_70 : decode cX11_settle 70 = .ok (.aload_n 1, 1) := by decide +kernel
theorem dX11_settle_71 : decode cX11_settle 71 = .ok (.bipush 9, 2) := by decide +kernel
theorem dX11_settle_73 : decode cX11_settle 73 = .ok (.iload_n 2, 1) := by decide +kernel
theorem dX11_settle_74 : decode cX11_settle 74 = .ok (.iadd, 1) := by decide +kernel
theorem dX11_settle_75 : decode cX11_settle 75 = .ok (.iload 4, 2) := by decide +kernel
theorem dX11_settle_77 : decode cX11_settle 77 = .ok (.iastore, 1) := by decide +kernel
theorem dX11_settle_78 : decode cX11_settle 78 = .ok (.return_, 1) := by decide +kernel
theorem bk_X11_settle_0 {C : JC} {d cl sl : Nat} {Q : State → Prop} {w : JW} {k1 : Nat} {b1 : Bool} {x2 : Int32} {n1 : Nat} (hm : jok C MX11_settle d cl sl) (hA1 : jIA k1 b1 n1) (h1 : vp_in (21 + x2) n1) (h2 : vp_in (9 + x2) n1) (kt : ¬ (w.1 k1 b1 (21 + x2).toNatClampNeg) = 0 → jW C cl sl Q 54 [jU, jR k1 b1, jI x2, jI (w.1 k1 b1 (21 + x2).toNatClampNeg), jI (w.1 k1 b1 (9 + x2).toNatClampNeg)] [] w) (kf : (w.1 k1 b1 (21 + x2).toNatClampNeg) = 0 → jW C cl sl Q 19 [jR 41 false, jR k1 b1, jI x2, jI (w.1 k1 b1 (21 + x2).toNatClampNeg), jI (w.1 k1 b1 (9 + x2).toNatClampNeg)] [] w) : jW C cl sl Q 0 [jR 41 false, jR k1 b1, jI x2, jU, jU] [] w := jr_aload_n hm (i := 1) rfl rfl dX11_settle_0 (jr_bipush hm (v := 21) (by decide) dX11_settle_1 (jr_iload_n hm (i := 2) rfl rfl dX11_settle_3 (jr_iadd hm dX11_settle_4 (jr_iaload hm hA1 h1 dX11_settle_5 (jr_istore_n hm (i := 3) rfl (Nat.le_of_ble_eq_true rfl) rfl dX11_settle_6 (jr_aload_n hm (i := 1) rfl rfl dX11_settle_7 (jr_bipush hm (v := 9) (by decide) dX11_settle_8 (jr_iload_n hm (i := 2) rfl rfl dX11_settle_10 (jr_iadd hm dX11_settle_11 (jr_iaload hm hA1 h2 dX11_settle_12 (jr_istore hm (i := 4) (Nat.le_of_ble_eq_true rfl) rfl dX11_settle_13 (jr_iload_n hm (i := 3) rfl rfl dX11_settle_15 (jr_if_ne hm dX11_settle_16 (by decide) (fun h => jr_drop (jle_drop (jle_same (jle_same (jle_same (jle_same jle_nil))))) (kt h)) (fun h => jr_drop (jle_same (jle_same (jle_same (jle_same (jle_same jle_nil))))) (kf h)))))))))))))))
theorem bk_X11_settle_19 {C : JC} {d cl sl : Nat} {Q : State → Prop} {w : JW} {k1 : Nat} {b1 : Bool} {x2 : Int32} {x3 : Int32} {x4 : Int32} {n1 : Nat} (hm : jok C MX11_settle d cl sl) (h1 : vp_in (3 * x2) 36) (hA1 : jIA k1 b1 n1) (h2 : vp_in (4 + (w.1 55 (w.2.2 41 8) (3 * x2).toNatClampNeg)) n1) (kt : (w.1 k1 b1 (4 + (w.1 55 (w.2.2 41 8) (3 * x2).toNatClampNeg)).toNatClampNeg) ≤ 0 → jW C cl sl Q 54 [jU, jR k1 b1, jI x2, jI x3, jI x4] [] w) (kf : ¬ (w.1 k1 b1 (4 + (w.1 55 (w.2.2 41 8) (3 * x2).toNatClampNeg)).toNatClampNeg) ≤ 0 → jW C cl sl Q 37 [jR 41 false, jR k1 b1, jI x2, jI x3, jI x4] [] w) : jW C cl sl Q 19 [jR 41 false, jR k1 b1, jI x2, jI x3, jI x4] [] w := jr_aload_n hm (i := 1) rfl rfl dX11_settle_19 (jr_iconst hm (v := 4) (by decide) dX11_settle_20 (jr_aload_n hm (i := 0) rfl rfl dX11_settle_21 (fg_X11_87 hm dX11_settle_22 (fg_X11_230 hm dX11_settle_25 (jr_iconst hm (v := 3) (by decide) dX11_settle_28 (jr_iload_n hm (i := 2) rfl rfl dX11_settle_29 (jr_imul hm dX11_settle_30 (jr_iaload hm (ja_55 (w.2.2 41 8)) h1 dX11_settle_31 (jr_iadd hm dX11_settle_32 (jr_iaload hm hA1 h2 dX11_settle_33 (jr_if_le hm dX11_settle_34 (by decide) (fun h => jr_drop (jle_drop (jle_same (jle_same (jle_same (jle_same jle_nil))))) (kt h)) (fun h => jr_drop (jle_same (jle_same (jle_same (jle_same (jle_same jle_nil))))) (kf h)))))))))))))
theorem bk_X11_settle_37 {C : JC} {d cl sl : Nat} {Q : State → Prop} {w : JW} {k1 : Nat} {b1 : Bool} {x2 : Int32} {x3 : Int32} {x4 : Int32} {d2 : Nat} {r : Int32} {w2 : JW} (hm : jok C MX11_settle d cl sl) (hs : jF MX11_reedOf d2 [jR 41 false, jI x2] w (jI r) w2) (hd2 : d2 + 1 ≤ d) (k : jW C cl sl Q 48 [jU, jR k1 b1, jI x2, jI x3, jU] [jI r, jI (x4 + 1), jI 20] w2) : jW C cl sl Q 37 [jR 41 false, jR k1 b1, jI x2, jI x3, jI x4] [] w := jr_bipush hm (v := 20) (by decide) dX11_settle_37 (jr_iload hm (i := 4) rfl dX11_settle_39 (jr_iconst hm (v := 1) (by decide) dX11_settle_41 (jr_iadd hm dX11_settle_42 (jr_aload_n hm (i := 0) rfl rfl dX11_settle_43 (jr_iload_n hm (i := 2) rfl rfl dX11_settle_44 (jr_callV (mc := 0) (ms := 0) hm hs hd2 jw_1672 jw_1674 jw_101 jw_125 jw_1675 jn_X11_reedOf rfl jo_41 (fun _ _ _ _ _ => ⟨_, rfl⟩) rfl rfl (Nat.le_of_ble_eq_true rfl) rfl dX11_settle_45 (jkF (jr_drop (jle_drop (jle_same (jle_same (jle_same (jle_drop jle_nil))))) k))))))))
theorem bk_X11_settle_48 {C : JC} {d cl sl : Nat} {Q : State → Prop} {w : JW} {k1 : Nat} {b1 : Bool} {x2 : Int32} {x3 : Int32} {xs0 : Int32} {xs1 : Int32} {xs2 : Int32} (hm : jok C MX11_settle d cl sl) (hd1 : 1 ≤ d) (k : jW C cl sl Q 54 [jU, jR k1 b1, jI x2, jI x3, jI (if xs1 + xs0 < xs2 then xs1 + xs0 else xs2)] [] w) : jW C cl sl Q 48 [jU, jR k1 b1, jI x2, jI x3, jU] [jI xs0, jI xs1, jI xs2] w := jr_iadd hm dX11_settle_48 (jr_mmin hm jw_1530 jw_561 jw_136 jw_562 hd1 (Nat.le_of_ble_eq_true rfl) rfl dX11_settle_49 (jr_istore hm (i := 4) (Nat.le_of_ble_eq_true rfl) rfl dX11_settle_52 (jr_drop (jle_same (jle_same (jle_same (jle_same (jle_same jle_nil))))) k)))
theorem bk_X11_settle_54 {C : JC} {d cl sl : Nat} {Q : State → Prop} {w : JW} {k1 : Nat} {b1 : Bool} {x2 : Int32} {x3 : Int32} {x4 : Int32} (hm : jok C MX11_settle d cl sl) (kt : x3 < 6 → jW C cl sl Q 70 [jU, jR k1 b1, jI x2, jU, jI x4] [] w) (kf : ¬ x3 < 6 → jW C cl sl Q 60 [jU, jR k1 b1, jI x2, jU, jI x4] [] w) : jW C cl sl Q 54 [jU, jR k1 b1, jI x2, jI x3, jI x4] [] w := jr_iload_n hm (i := 3) rfl rfl dX11_settle_54 (jr_bipush hm (v := 6) (by decide) dX11_settle_55 (jr_icmp_lt hm dX11_settle_57 (by decide) (fun h => jr_drop (jle_same (jle_same (jle_same (jle_drop (jle_same jle_nil))))) (kt h)) (fun h => jr_drop (jle_same (jle_same (jle_same (jle_drop (jle_same jle_nil))))) (kf h))))
theorem bk_X11_settle_60 {C : JC} {d cl sl : Nat} {Q : State → Prop} {w : JW} {k1 : Nat} {b1 : Bool} {x2 : Int32} {x4 : Int32} (hm : jok C MX11_settle d cl sl) (hd1 : 1 ≤ d) (k : jW C cl sl Q 70 [jU, jR k1 b1, jI x2, jU, jI (if 0 < x4 - 1 then x4 - 1 else 0)] [] w) : jW C cl sl Q 60 [jU, jR k1 b1, jI x2, jU, jI x4] [] w := jr_iconst hm (v := 0) (by decide) dX11_settle_60 (jr_iload hm (i := 4) rfl dX11_settle_61 (jr_iconst hm (v := 1) (by decide) dX11_settle_63 (jr_isub hm dX11_settle_64 (jr_mmax hm jw_1648 jw_558 jw_136 jw_559 hd1 (Nat.le_of_ble_eq_true rfl) rfl dX11_settle_65 (jr_istore hm (i := 4) (Nat.le_of_ble_eq_true rfl) rfl dX11_settle_68 (jr_drop (jle_same (jle_same (jle_same (jle_same (jle_same jle_nil))))) k))))))
theorem bk_X11_settle_70 {C : JC} {d cl sl : Nat} {w : JW} {k1 : Nat} {b1 : Bool} {x2 : Int32} {x4 : Int32} {n1 : Nat} {P : JV → JW → Prop} (hm : jok C MX11_settle d cl sl) (hA1 : jIA k1 b1 n1) (h1 : vp_in (9 + x2) n1) (hp : P (jU) (jset w k1 b1 (9 + x2).toNatClampNeg x4)) : jW C cl sl (jQQ C cl sl P) 70 [jU, jR k1 b1, jI x2, jU, jI x4] [] w := jr_aload_n hm (i := 1) rfl rfl dX11_settle_70 (jr_bipush hm (v := 9) (by decide) dX11_settle_71 (jr_iload_n hm (i := 2) rfl rfl dX11_settle_73 (jr_iadd hm dX11_settle_74 (jr_iload hm (i := 4) rfl dX11_settle_75 (jr_iastore hm hA1 h1 dX11_settle_77 (jr_return hm rfl dX11_settle_78 hp))))))
theorem dX11_chimes_0 : decode cX11_chimes 0 = .ok (.iconst 1, 1) := by decide +kernel
theorem dX11_chimes_1 : decode cX11_chimes 1 = .ok (.istore_n 3, 1) := by decide +kernel
theorem dX11_chimes_2 : decode cX11_chimes 2 = .ok (.iconst 1, 1) := by decide +kernel
theorem dX11_chimes_3 : decode cX11_chimes 3 = .ok (.istore 4, 2) := by decide +kernel
theorem dX11_chimes_5 : decode cX11_chimes 5 = .ok (.iload 4, 2) := by decide +kernel
theorem dX11_chimes_7 : decode cX11_chimes 7 = .ok (.aload_n 0, 1) := by decide +kernel
theorem dX11_chimes_8 : decode cX11_chimes 8 = .ok (.getfield 87, 3) := by decide +kernel
theorem dX11_chimes_11 : decode cX11_chimes 11 = .ok (.getfield 257, 3) := by decide +kernel
theorem dX11_chimes_14 : decode cX11_chimes 14 = .ok (.bipush 7, 2) := by decide +kernel
theorem dX11_chimes_16 : decode cX11_chimes 16 = .ok (.iload_n 2, 1) := by decide +kernel
theorem dX11_chimes_17 : decode cX11_chimes 17 = .ok (.imul, 1) := by decide +kernel
theorem dX11_chimes_18 : decode cX11_chimes 18 = .ok (.iaload, 1) := by decide +kernel
theorem dX11_chimes_19 : decode cX11_chimes 19 = .ok (.if_icmp .gt 40, 3) := by decide +kernel
theorem dX11_chimes_22 : decode cX11_chimes 22 = .ok (.iload_n 3, 1) := by decide +kernel
theorem dX11_chimes_23 : decode cX11_chimes 23 = .ok (.aload_n 1, 1) := by decide +kernel
theorem dX11_chimes_24 : decode cX11_chimes 24 = .ok (.bipush 21, 2) := by decide +kernel
theorem dX11_chimes_26 : decode cX11_chimes 26 = .ok (.aload_n 0, 1) := by decide +kernel
theorem dX11_chimes_27 : decode cX11_chimes 27 = .ok (.getfield 87, 3) := by decide +kernel
theorem dX11_chimes_30 : decode cX11_chimes 30 = .ok (.getfield 257, 3) := by decide +kernel
theorem dX11_chimes_33 : decode cX11_chimes 33 = .ok (.bipush 7, 2) := by decide +kernel
theorem dX11_chimes_35 : decode cX11_chimes 35 = .ok (.iload_n 2, 1) := by decide +kernel
theorem dX11_chimes_36 : decode cX11_chimes 36 = .ok (.imul, 1) := by decide +kernel
theorem dX11_chimes_37 : decode cX11_chimes 37 = .ok (.iload 4, 2) := by decide +kernel
theorem dX11_chimes_39 : decode cX11_chimes 39 = .ok (.iadd, 1) := by decide +kernel
theorem dX11_chimes_40 : decode cX11_chimes 40 = .ok (.iaload, 1) := by decide +kernel
theorem dX11_chimes_41 : decode cX11_chimes 41 = .ok (.iadd, 1) := by decide +kernel
theorem dX11_chimes_42 : decode cX11_chimes 42 = .ok (.iaload, 1) := by decide +kernel
theorem dX11_chimes_43 : decode cX11_chimes 43 = .ok (.ifCond .le 7, 3) := by decide +kernel
theorem dX11_chimes_46 : decode cX11_chimes 46 = .ok (.iconst 1, 1) := by decide +kernel
theorem dX11_chimes_47 : decode cX11_chimes 47 = .ok (.goto 4, 3) := by decide +kernel
theorem dX11_chimes_50 : decode cX11_chimes 50 = .ok (.iconst 0, 1) := by decide +kernel
theorem dX11_chimes_51 : decode cX11_chimes 51 = .ok (.iand, 1) := by decide +kernel
theorem dX11_chimes_52 : decode cX11_chimes 52 = .ok (.istore_n 3, 1) := by decide +kernel
theorem dX11_chimes_53 : decode cX11_chimes 53 = .ok (.iinc 4 1, 3) := by decide +kernel
theorem dX11_chimes_56 : decode cX11_chimes 56 = .ok (.goto (-51), 3) := by decide +kernel
theorem dX11_chimes_59 : decode cX11_chimes 59 = .ok (.iload_n 3, 1) := by decide +kernel
theorem dX11_chimes_60 : decode cX11_chimes 60 = .ok (.ireturn, 1) := by decide +kernel
theorem bk_X11_chimes_0 {C : JC} {d cl sl : Nat} {Q : State → Prop} {w : JW} {k1 : Nat} {b1 : Bool} {x2 : Int32} (hm : jok C MX11_chimes d cl sl) (k : jW C cl sl Q 5 [jR 41 false, jR k1 b1, jI x2, jI 1, jI 1] [] w) : jW C cl sl Q 0 [jR 41 false, jR k1 b1, jI x2, jU, jU] [] w := jr_iconst hm (v := 1) (by decide) dX11_chimes_0 (jr_istore_n hm (i := 3) rfl (Nat.le_of_ble_eq_true rfl) rfl dX11_chimes_1 (jr_iconst hm (v := 1) (by decide) dX11_chimes_2 (jr_istore hm (i := 4) (Nat.le_of_ble_eq_true rfl) rfl dX11_chimes_3 (jr_drop (jle_same (jle_same (jle_same (jle_same (jle_same jle_nil))))) k))))
theorem bk_X11_chimes_5 {C : JC} {d cl sl : Nat} {Q : State → Prop} {w : JW} {k1 : Nat} {b1 : Bool} {x2 : Int32} {x3 : Int32} {x4 : Int32} (hm : jok C MX11_chimes d cl sl) (h1 : vp_in (7 * x2) 42) (kt : (w.1 58 (w.2.2 41 8) (7 * x2).toNatClampNeg) < x4 → jW C cl sl Q 59 [jU, jU, jU, jI x3, jU] [] w) (kf : ¬ (w.1 58 (w.2.2 41 8) (7 * x2).toNatClampNeg) < x4 → jW C cl sl Q 22 [jR 41 false, jR k1 b1, jI x2, jI x3, jI x4] [] w) : jW C cl sl Q 5 [jR 41 false, jR k1 b1, jI x2, jI x3, jI x4] [] w := jr_iload hm (i := 4) rfl dX11_chimes_5 (jr_aload_n hm (i := 0) rfl rfl dX11_chimes_7 (fg_X11_87 hm dX11_chimes_8 (fg_X11_257 hm dX11_chimes_11 (jr_bipush hm (v := 7) (by decide) dX11_chimes_14 (jr_iload_n hm (i := 2) rfl rfl dX11_chimes_16 (jr_imul hm dX11_chimes_17 (jr_iaload hm (ja_58 (w.2.2 41 8)) h1 dX11_chimes_18 (jr_icmp_gt hm dX11_chimes_19 (by decide) (fun h => jr_drop (jle_drop (jle_drop (jle_drop (jle_same (jle_drop jle_nil))))) (kt h)) (fun h => jr_drop (jle_same (jle_same (jle_same (jle_same (jle_same jle_nil))))) (kf h))))))))))
theorem bk_X11_chimes_22 {C : JC} {d cl sl : Nat} {Q : State → Prop} {w : JW} {k1 : Nat} {b1 : Bool} {x2 : Int32} {x3 : Int32} {x4 : Int32} {n1 : Nat} (hm : jok C MX11_chimes d cl sl) (h1 : vp_in ((7 * x2) + x4) 42) (hA1 : jIA k1 b1 n1) (h2 : vp_in (21 + (w.1 58 (w.2.2 41 8) ((7 * x2) + x4).toNatClampNeg)) n1) (kt : (w.1 k1 b1 (21 + (w.1 58 (w.2.2 41 8) ((7 * x2) + x4).toNatClampNeg)).toNatClampNeg) ≤ 0 → jW C cl sl Q 50 [jR 41 false, jR k1 b1, jI x2, jU, jI x4] [jI x3] w) (kf : ¬ (w.1 k1 b1 (21 + (w.1 58 (w.2.2 41 8) ((7 * x2) + x4).toNatClampNeg)).toNatClampNeg) ≤ 0 → jW C cl sl Q 46 [jR 41 false, jR k1 b1, jI x2, jU, jI x4] [jI x3] w) : jW C cl sl Q 22 [jR 41 false, jR k1 b1, jI x2, jI x3, jI x4] [] w := jr_iload_n hm (i := 3) rfl rfl dX11_chimes_22 (jr_aload_n hm (i := 1) rfl rfl dX11_chimes_23 (jr_bipush hm (v := 21) (by decide) dX11_chimes_24 (jr_aload_n hm (i := 0) rfl rfl dX11_chimes_26 (fg_X11_87 hm dX11_chimes_27 (fg_X11_257 hm dX11_chimes_30 (jr_bipush hm (v := 7) (by decide) dX11_chimes_33 (jr_iload_n hm (i := 2) rfl rfl dX11_chimes_35 (jr_imul hm dX11_chimes_36 (jr_iload hm (i := 4) rfl dX11_chimes_37 (jr_iadd hm dX11_chimes_39 (jr_iaload hm (ja_58 (w.2.2 41 8)) h1 dX11_chimes_40 (jr_iadd hm dX11_chimes_41 (jr_iaload hm hA1 h2 dX11_chimes_42 (jr_if_le hm dX11_chimes_43 (by decide) (fun h => jr_drop (jle_same (jle_same (jle_same (jle_drop (jle_same jle_nil))))) (kt h)) (fun h => jr_drop (jle_same (jle_same (jle_same (jle_drop (jle_same jle_nil))))) (kf h))))))))))))))))
theorem bk_X11_chimes_46 {C : JC} {d cl sl : Nat} {Q : State → Prop} {w : JW} {k1 : Nat} {b1 : Bool} {x2 : Int32} {x4 : Int32} {xs0 : Int32} (hm : jok C MX11_chimes d cl sl) (k : jW C cl sl Q 51 [jR 41 false, jR k1 b1, jI x2, jU, jI x4] [jI 1, jI xs0] w) : jW C cl sl Q 46 [jR 41 false, jR k1 b1, jI x2, jU, jI x4] [jI xs0] w := jr_iconst hm (v := 1) (by decide) dX11_chimes_46 (jr_goto hm dX11_chimes_47 (by decide) (jr_drop (jle_same (jle_same (jle_same (jle_same (jle_same jle_nil))))) k))
theorem bk_X11_chimes_50 {C : JC} {d cl sl : Nat} {Q : State → Prop} {w : JW} {k1 : Nat} {b1 : Bool} {x2 : Int32} {x4 : Int32} {xs0 : Int32} (hm : jok C MX11_chimes d cl sl) (k : jW C cl sl Q 51 [jR 41 false, jR k1 b1, jI x2, jU, jI x4] [jI 0, jI xs0] w) : jW C cl sl Q 50 [jR 41 false, jR k1 b1, jI x2, jU, jI x4] [jI xs0] w := jr_iconst hm (v := 0) (by decide) dX11_chimes_50 (jr_drop (jle_same (jle_same (jle_same (jle_same (jle_same jle_nil))))) k)
theorem bk_X11_chimes_51 {C : JC} {d cl sl : Nat} {Q : State → Prop} {w : JW} {k1 : Nat} {b1 : Bool} {x2 : Int32} {x4 : Int32} {xs0 : Int32} {xs1 : Int32} (hm : jok C MX11_chimes d cl sl) (k : jW C cl sl Q 5 [jR 41 false, jR k1 b1, jI x2, jI (xs1 &&& xs0), jI (x4 + 1)] [] w) : jW C cl sl Q 51 [jR 41 false, jR k1 b1, jI x2, jU, jI x4] [jI xs0, jI xs1] w := jr_iand hm dX11_chimes_51 (jr_istore_n hm (i := 3) rfl (Nat.le_of_ble_eq_true rfl) rfl dX11_chimes_52 (jr_iinc hm (i := 4) (v := x4 + 1) rfl rfl rfl dX11_chimes_53 (jr_goto hm dX11_chimes_56 (by decide) (jr_drop (jle_same (jle_same (jle_same (jle_same (jle_same jle_nil))))) k))))
theorem bk_X11_chimes_59 {C : JC} {d cl sl : Nat} {w : JW} {x3 : Int32} {P : JV → JW → Prop} (hm : jok C MX11_chimes d cl sl) (hz : narrow .boolean (.int x3) = .int x3) (hp : P (jI x3) w) : jW C cl sl (jQQ C cl sl P) 59 [jU, jU, jU, jI x3, jU] [] w := jr_iload_n hm (i := 3) rfl rfl dX11_chimes_59 (jr_zreturn hm rfl hz dX11_chimes_60 hp)
theorem dX11_chime_0 : decode cX11_chime 0 = .ok (.aload_n 0, 1) := by decide +kernel
theorem dX11_chime_1 : decode cX11_chime 1 = .ok (.aload_n 1, 1) := by decide +kernel
theorem dX11_chime_2 : decode cX11_chime 2 = .ok (.iload_n 2, 1) := by decide +kernel
theorem dX11_chime_3 : decode cX11_chime 3 = .ok (.invokevirtual 319, 3) := by decide +kernel
theorem dX11_chime_6 : decode cX11_chime 6 = .ok (.ifCond .ne 4, 3) := by decide +kernel
theorem dX11_chime_9 : decode cX11_chime 9 = .ok (.return_, 1) := by decide +kernel
theorem dX11_chime_10 : decode cX11_chime 10 = .ok (.aload_n 1, 1) := by decide +kernel
theorem dX11_chime_11 : decode cX11_chime 11 = .ok (.bipush 45, 2) := by decide +kernel
theorem dX11_chime_13 : decode cX11_chime 13 = .ok (.iload_n 2, 1) := by decide +kernel
theorem dX11_chime_14 : decode cX11_chime 14 = .ok (.iadd, 1) := by decide +kernel
theorem dX11_chime_15 : decode cX11_chime 15 = .ok (.dup2, 1) := by decide +kernel
theorem dX11_chime_16 : decode cX11_chime 16 = .ok (.iaload, 1) := by decide +kernel
theorem dX11_chime_17 : decode cX11_chime 17 = .ok (.iconst 1, 1) := by decide +kernel
theorem dX11_chime_18 : decode cX11_chime 18 = .ok (.iadd, 1) := by decide +kernel
theorem dX11_chime_19 : decode cX11_chime 19 = .ok (.iastore, 1) := by decide +kernel
theorem dX11_chime_20 : decode cX11_chime 20 = .ok (.aload_n 1, 1) := by decide +kernel
theorem dX11_chime_21 : decode cX11_chime 21 = .ok (.aload_n 1, 1) := by decide +kernel
theorem dX11_chime_22 : decode cX11_chime 22 = .ok (.iconst 0, 1) := by decide +kernel
theorem dX11_chime_23 : decode cX11_chime 23 = .ok (.iaload, 1) := by decide +kernel
theorem dX11_chime_24 : decode cX11_chime 24 = .ok (.bipush 24, 2) := by decide +kernel
theorem dX11_chime_26 : decode cX11_chime 26 = .ok (.irem, 1) := by decide +kernel
theorem dX11_chime_27 : decode cX11_chime 27 = .ok (.bipush 6, 2) := by decide +kernel
theorem dX11_chime_29 : decode cX11_chime 29 = .ok (.bipush 21, 2) := by decide +kernel
theorem dX11_chime_31 : decode cX11_chime 31 = .ok (.invokestatic 22, 3) := by decide +kernel
theorem dX11_chime_34 : decode cX11_chime 34 = .ok (.ifCond .eq 7, 3) := by decide +kernel
theorem dX11_chime_37 : decode cX11_chime 37 = .ok (.iconst 2, 1) := by decide +kernel
theorem dX11_chime_38 : decode cX11_chime 38 = .ok (.goto 4, 3) := by decide +kernel
theorem dX11_chime_41 : decode cX11_chime 41 = .ok (.iconst 3, 1) := by decide +kernel
theorem dX11_chime_42 : decode cX11_chime 42 = .ok (.dup2, 1) := by decide +kernel
theorem dX11_chime_43 : decode cX11_chime 43 = .ok (.iaload, 1) := by decide +kernel
theorem dX11_chime_44 : decode cX11_chime 44 = .ok (.aload_n 0, 1) := by decide +kernel
theorem dX11_chime_45 : decode cX11_chime 45 = .ok (.getfield 87, 3) := by decide +kernel
theorem dX11_chime_48 : decode cX11_chime 48 = .ok (.getfield 257, 3) := by decide +kernel
theorem dX11_chime_51 : decode cX11_chime 51 = .ok (.bipush 7, 2) := by decide +kernel
theorem dX11_chime_53 : decode cX11_chime 53 = .ok (.iload_n 2, 1) := by decide +kernel
theorem dX11_chime_54 : decode cX11_chime 54 = .ok (.imul, 1) := by decide +kernel
theorem dX11_chime_55 : decode cX11_chime 55 = .ok (.iaload, 1) := by decide +kernel
theorem dX11_chime_56 : decode cX11_chime 56 = .ok (.iadd, 1) := by decide +kernel
theorem dX11_chime_57 : decode cX11_chime 57 = .ok (.iastore, 1) := by decide +kernel
theorem dX11_chime_58 : decode cX11_chime 58 = .ok (.return_, 1) := by decide +kernel
theorem bk_X11_chime_0 {C : JC} {d cl sl : Nat} {Q : State → Prop} {w : JW} {k1 : Nat} {b1 : Bool} {x2 : Int32} {d2 : Nat} {r : Int32} {w2 : JW} (hm : jok C MX11_chime d cl sl) (hs : jF MX11_chimes d2 [jR 41 false, jR k1 b1, jI x2] w (jI r) w2) (hd2 : d2 + 1 ≤ d) (k : jW C cl sl Q 6 [jR 41 false, jR k1 b1, jI x2] [jI r] w2) : jW C cl sl Q 0 [jR 41 false, jR k1 b1, jI x2] [] w := jr_aload_n hm (i := 0) rfl rfl dX11_chime_0 (jr_aload_n hm (i := 1) rfl rfl dX11_chime_1 (jr_iload_n hm (i := 2) rfl rfl dX11_chime_2 (jr_callV (mc := 0) (ms := 0) hm hs hd2 jw_1608 jw_1610 jw_88 jw_125 jw_1611 jn_X11_chimes rfl jo_41 (fun _ _ _ _ _ => ⟨_, rfl⟩) rfl rfl (Nat.le_of_ble_eq_true rfl) rfl dX11_chime_3 (jkF (jr_drop (jle_same (jle_same (jle_same jle_nil))) k)))))
theorem bk_X11_chime_6 {C : JC} {d cl sl : Nat} {Q : State → Prop} {w : JW} {k1 : Nat} {b1 : Bool} {x2 : Int32} {xs0 : Int32} (hm : jok C MX11_chime d cl sl) (kt : ¬ xs0 = 0 → jW C cl sl Q 10 [jR 41 false, jR k1 b1, jI x2] [] w) (kf : xs0 = 0 → jW C cl sl Q 9 [jU, jU, jU] [] w) : jW C cl sl Q 6 [jR 41 false, jR k1 b1, jI x2] [jI xs0] w := jr_if_ne hm dX11_chime_6 (by decide) (fun h => jr_drop (jle_same (jle_same (jle_same jle_nil))) (kt h)) (fun h => jr_drop (jle_drop (jle_drop (jle_drop jle_nil))) (kf h))
theorem bk_X11_chime_9 {C : JC} {d cl sl : Nat} {w : JW} {P : JV → JW → Prop} (hm : jok C MX11_chime d cl sl) (hp : P (jU) w) : jW C cl sl (jQQ C cl sl P) 9 [jU, jU, jU] [] w := jr_return hm rfl dX11_chime_9 hp
theorem bk_X11_chime_10 {C : JC} {d cl sl : Nat} {Q : State → Prop} {w : JW} {k1 : Nat} {b1 : Bool} {x2 : Int32} {n1 : Nat} {d2 : Nat} {r : Int32} {w2 : JW} (hm : jok C MX11_chime d cl sl) (hA1 : jIA k1 b1 n1) (h1 : vp_in (45 + x2) n1) (h2 : vp_in (45 + x2) n1) (h3 : vp_in 0 n1) (hs : jF MX11_isIn d2 [jI (((jset w k1 b1 (45 + x2).toNatClampNeg ((w.1 k1 b1 (45 + x2).toNatClampNeg) + 1)).1 k1 b1 0) - ((jset w k1 b1 (45 + x2).toNatClampNeg ((w.1 k1 b1 (45 + x2).toNatClampNeg) + 1)).1 k1 b1 0) / 24 * 24), jI 6, jI 21] (jset w k1 b1 (45 + x2).toNatClampNeg ((w.1 k1 b1 (45 + x2).toNatClampNeg) + 1)) (jI r) w2) (hd2 : d2 + 1 ≤ d) (k : jW C cl sl Q 34 [jR 41 false, jU, jI x2] [jI r, jR k1 b1] w2) : jW C cl sl Q 10 [jR 41 false, jR k1 b1, jI x2] [] w := jr_aload_n hm (i := 1) rfl rfl dX11_chime_10 (jr_bipush hm (v := 45) (by decide) dX11_chime_11 (jr_iload_n hm (i := 2) rfl rfl dX11_chime_13 (jr_iadd hm dX11_chime_14 (jr_dup2 hm dX11_chime_15 (jr_iaload hm hA1 h1 dX11_chime_16 (jr_iconst hm (v := 1) (by decide) dX11_chime_17 (jr_iadd hm dX11_chime_18 (jr_iastore hm hA1 h2 dX11_chime_19 (jr_aload_n hm (i := 1) rfl rfl dX11_chime_20 (jr_aload_n hm (i := 1) rfl rfl dX11_chime_21 (jr_iconst hm (v := 0) (by decide) dX11_chime_22 (jr_iaload hm hA1 h3 dX11_chime_23 (jr_bipush hm (v := 24) (by decide) dX11_chime_24 (jr_irem hm (by decide) dX11_chime_26 (jr_bipush hm (v := 6) (by decide) dX11_chime_27 (jr_bipush hm (v := 21) (by decide) dX11_chime_29 (jr_callS (mc := 0) (ms := 0) hm hs hd2 jw_1274 jw_1275 jw_125 jw_1276 jn_X11_isIn rfl rfl (Nat.le_of_ble_eq_true rfl) rfl dX11_chime_31 (jkF (jr_drop (jle_same (jle_drop (jle_same jle_nil))) k)))))))))))))))))))
theorem bk_X11_chime_34 {C : JC} {d cl sl : Nat} {Q : State → Prop} {w : JW} {x2 : Int32} {xs0 : Int32} {ks1 : Nat} {bs1 : Bool} (hm : jok C MX11_chime d cl sl) (kt : xs0 = 0 → jW C cl sl Q 41 [jR 41 false, jU, jI x2] [jR ks1 bs1] w) (kf : ¬ xs0 = 0 → jW C cl sl Q 37 [jR 41 false, jU, jI x2] [jR ks1 bs1] w) : jW C cl sl Q 34 [jR 41 false, jU, jI x2] [jI xs0, jR ks1 bs1] w := jr_if_eq hm dX11_chime_34 (by decide) (fun h => jr_drop (jle_same (jle_same (jle_same jle_nil))) (kt h)) (fun h => jr_drop (jle_same (jle_same (jle_same jle_nil))) (kf h))
theorem bk_X11_chime_37 {C : JC} {d cl sl : Nat} {Q : State → Prop} {w : JW} {x2 : Int32} {ks0 : Nat} {bs0 : Bool} (hm : jok C MX11_chime d cl sl) (k : jW C cl sl Q 42 [jR 41 false, jU, jI x2] [jI 2, jR ks0 bs0] w) : jW C cl sl Q 37 [jR 41 false, jU, jI x2] [jR ks0 bs0] w := jr_iconst hm (v := 2) (by decide) dX11_chime_37 (jr_goto hm dX11_chime_38 (by decide) (jr_drop (jle_same (jle_same (jle_same jle_nil))) k))
theorem bk_X11_chime_41 {C : JC} {d cl sl : Nat} {Q : State → Prop} {w : JW} {x2 : Int32} {ks0 : Nat} {bs0 : Bool} (hm : jok C MX11_chime d cl sl) (k : jW C cl sl Q 42 [jR 41 false, jU, jI x2] [jI 3, jR ks0 bs0] w) : jW C cl sl Q 41 [jR 41 false, jU, jI x2] [jR ks0 bs0] w := jr_iconst hm (v := 3) (by decide) dX11_chime_41 (jr_drop (jle_same (jle_same (jle_same jle_nil))) k)
theorem bk_X11_chime_42 {C : JC} {d cl sl : Nat} {w : JW} {x2 : Int32} {xs0 : Int32} {ks1 : Nat} {bs1 : Bool} {ns1 : Nat} {P : JV → JW → Prop} (hm : jok C MX11_chime d cl sl) (hAs1 : jIA ks1 bs1 ns1) (h1 : vp_in xs0 ns1) (h2 : vp_in (7 * x2) 42) (h3 : vp_in xs0 ns1) (hp : P (jU) (jset w ks1 bs1 xs0.toNatClampNeg ((w.1 ks1 bs1 xs0.toNatClampNeg) + (w.1 58 (w.2.2 41 8) (7 * x2).toNatClampNeg)))) : jW C cl sl (jQQ C cl sl P) 42 [jR 41 false, jU, jI x2] [jI xs0, jR ks1 bs1] w := jr_dup2 hm dX11_chime_42 (jr_iaload hm hAs1 h1 dX11_chime_43 (jr_aload_n hm (i := 0) rfl rfl dX11_chime_44 (fg_X11_87 hm dX11_chime_45 (fg_X11_257 hm dX11_chime_48 (jr_bipush hm (v := 7) (by decide) dX11_chime_51 (jr_iload_n hm (i := 2) rfl rfl dX11_chime_53 (jr_imul hm dX11_chime_54 (jr_iaload hm (ja_58 (w.2.2 41 8)) h2 dX11_chime_55 (jr_iadd hm dX11_chime_56 (jr_iastore hm hAs1 h3 dX11_chime_57 (jr_return hm rfl dX11_chime_58 hp)))))))))))
theorem dX11_pass_0 : decode cX11_pass 0 = .ok (.iconst 0, 1) := by decide +kernel
theorem dX11_pass_1 : decode cX11_pass 1 = .ok (.istore_n 2, 1) := by decide +kernel
theorem dX11_pass_2 : decode cX11_pass 2 = .ok (.iload_n 2, 1) := by decide +kernel
theorem dX11_pass_3 : decode cX11_pass 3 = .ok (.aload_n 0, 1) := by decide +kernel
theorem dX11_pass_4 : decode cX11_pass 4 = .ok (.getfield 87, 3) := by decide +kernel
theorem dX11_pass_7 : decode cX11_pass 7 = .ok (.getfield 151, 3) := by decide +kernel
theorem dX11_pass_10 : decode cX11_pass 10 = .ok (.if_icmp .ge 15, 3) := by decide +kernel
theorem dX11_pass_13 : decode cX11_pass 13 = .ok (.aload_n 0, 1) := by decide +kernel
theorem dX11_pass_14 : decode cX11_pass 14 = .ok (.aload_n 1, 1) := by decide +kernel
theorem dX11_pass_15 : decode cX11_pass 15 = .ok (.iload_n 2, 1) := by decide +kernel
theorem dX11_pass_16 : decode cX11_pass 16 = .ok (.invokevirtual 322, 3) := by decide +kernel
theorem dX11_pass_19 : decode cX11_pass 19 = .ok (.iinc 2 1, 3) := by decide +kernel
theorem dX11_pass_22 : decode cX11_pass 22 = .ok (.goto (-20), 3) := by decide +kernel
theorem dX11_pass_25 : decode cX11_pass 25 = .ok (.iconst 0, 1) := by decide +kernel
theorem dX11_pass_26 : decode cX11_pass 26 = .ok (.istore_n 2, 1) := by decide +kernel
theorem dX11_pass_27 : decode cX11_pass 27 = .ok (.iload_n 2, 1) := by decide +kernel
theorem dX11_pass_28 : decode cX11_pass 28 = .ok (.aload_n 0, 1) := by decide +kernel
theorem dX11_pass_29 : decode cX11_pass 29 = .ok (.getfield 87, 3) := by decide +kernel
theorem dX11_pass_32 : decode cX11_pass 32 = .ok (.getfield 158, 3) := by decide +kernel
theorem dX11_pass_35 : decode cX11_pass 35 = .ok (.if_icmp .ge 15, 3) := by decide +kernel
theorem dX11_pass_38 : decode cX11_pass 38 = .ok (.aload_n 0, 1) := by decide +kernel
theorem dX11_pass_39 : decode cX11_pass 39 = .ok (.aload_n 1, 1) := by decide +kernel
theorem dX11_pass_40 : decode cX11_pass 40 = .ok (.iload_n 2, 1) := by decide +kernel
theorem dX11_pass_41 : decode cX11_pass 41 = .ok (.invokevirtual 326, 3) := by decide +kernel
theorem dX11_pass_44 : decode cX11_pass 44 = .ok (.iinc 2 1, 3) := by decide +kernel
theorem dX11_pass_47 : decode cX11_pass 47 = .ok (.goto (-20), 3) := by decide +kernel
theorem dX11_pass_50 : decode cX11_pass 50 = .ok (.iconst 0, 1) := by decide +kernel
theorem dX11_pass_51 : decode cX11_pass 51 = .ok (.istore_n 2, 1) := by decide +kernel
theorem dX11_pass_52 : decode cX11_pass 52 = .ok (.iload_n 2, 1) := by decide +kernel
theorem dX11_pass_53 : decode cX11_pass 53 = .ok (.aload_n 0, 1) := by decide +kernel
theorem dX11_pass_54 : decode cX11_pass 54 = .ok (.getfield 87, 3) := by decide +kernel
theorem dX11_pass_57 : decode cX11_pass 57 = .ok (.getfield 158, 3) := by decide +kernel
theorem dX11_pass_60 : decode cX11_pass 60 = .ok (.if_icmp .ge 15, 3) := by decide +kernel
theorem dX11_pass_63 : decode cX11_pass 63 = .ok (.aload_n 0, 1) := by decide +kernel
theorem dX11_pass_64 : decode cX11_pass 64 = .ok (.aload_n 1, 1) := by decide +kernel
theorem dX11_pass_65 : decode cX11_pass 65 = .ok (.iload_n 2, 1) := by decide +kernel
theorem dX11_pass_66 : decode cX11_pass 66 = .ok (.invokevirtual 329, 3) := by decide +kernel
theorem dX11_pass_69 : decode cX11_pass 69 = .ok (.iinc 2 1, 3) := by decide +kernel
theorem dX11_pass_72 : decode cX11_pass 72 = .ok (.goto (-20), 3) := by decide +kernel
theorem dX11_pass_75 : decode cX11_pass 75 = .ok (.iconst 0, 1) := by decide +kernel
theorem dX11_pass_76 : decode cX11_pass 76 = .ok (.istore_n 2, 1) := by decide +kernel
theorem dX11_pass_77 : decode cX11_pass 77 = .ok (.iload_n 2, 1) := by decide +kernel
theorem dX11_pass_78 : decode cX11_pass 78 = .ok (.iconst 3, 1) := by decide +kernel
theorem dX11_pass_79 : decode cX11_pass 79 = .ok (.aload_n 0, 1) := by decide +kernel
theorem dX11_pass_80 : decode cX11_pass 80 = .ok (.getfield 87, 3) := by decide +kernel
theorem dX11_pass_83 : decode cX11_pass 83 = .ok (.getfield 260, 3) := by decide +kernel
theorem dX11_pass_86 : decode cX11_pass 86 = .ok (.imul, 1) := by decide +kernel
theorem dX11_pass_87 : decode cX11_pass 87 = .ok (.if_icmp .ge 77, 3) := by decide +kernel
theorem dX11_pass_90 : decode cX11_pass 90 = .ok (.aload_n 0, 1) := by decide +kernel
theorem dX11_pass_91 : decode cX11_pass 91 = .ok (.getfield 87, 3) := by decide +kernel
theorem dX11_pass_94 : decode cX11_pass 94 = .ok (.getfield 263, 3) := by decide +kernel
theorem dX11_pass_97 : decode cX11_pass 97 = .ok (.iload_n 2, 1) := by decide +kernel
theorem dX11_pass_98 : decode cX11_pass 98 = .ok (.iaload, 1) := by decide +kernel
theorem dX11_pass_99 : decode cX11_pass 99 = .ok (.bipush 16, 2) := by decide +kernel
theorem dX11_pass_101 : decode cX11_pass 101 = .ok (.if_icmp .eq 6, 3) := by decide +kernel
theorem dX11_pass_104 : decode cX11_pass 104 = .ok (.goto 54, 3) := by decide +kernel
theorem dX11_pass_107 : decode cX11_pass 107 = .ok (.aload_n 0, 1) := by decide +kernel
theorem dX11_pass_108 : decode cX11_pass 108 = .ok (.getfield 87, 3) := by decide +kernel
theorem dX11_pass_111 : decode cX11_pass 111 = .ok (.getfield 263, 3) := by decide +kernel
theorem dX11_pass_114 : decode cX11_pass 114 = .ok (.iload_n 2, 1) := by decide +kernel
theorem dX11_pass_115 : decode cX11_pass 115 = .ok (.iconst 2, 1) := by decide +kernel
theorem dX11_pass_116 : decode cX11_pass 116 = .ok (.iadd, 1) := by decide +kernel
theorem dX11_pass_117 : decode cX11_pass 117 = .ok (.iaload, 1) := by decide +kernel
theorem dX11_pass_118 : decode cX11_pass 118 = .ok (.iconst (-1), 1) := by decide +kernel
theorem dX11_pass_119 : decode cX11_pass 119 = .ok (.if_icmp .eq 22, 3) := by decide +kernel
theorem dX11_pass_122 : decode cX11_pass 122 = .ok (.aload_n 0, 1) := by decide +kernel
theorem dX11_pass_123 : decode cX11_pass 123 = .ok (.aload_n 0, 1) := by decide +kernel
theorem dX11_pass_124 : decode cX11_pass 124 = .ok (.getfield 87, 3) := by decide +kernel
theorem dX11_pass_127 : decode cX11_pass 127 = .ok (.getfield 263, 3) := by decide +kernel
theorem dX11_pass_130 : decode cX11_pass 130 = .ok (.iload_n 2, 1) := by decide +kernel
theorem dX11_pass_131 : decode cX11_pass 131 = .ok (.iconst 2, 1) := by decide +kernel
theorem dX11_pass_132 : decode cX11_pass 132 = .ok (.iadd, 1) := by decide +kernel
theorem dX11_pass_133 : decode cX11_pass 133 = .ok (.iaload, 1) := by decide +kernel
theorem dX11_pass_134 : decode cX11_pass 134 = .ok (.aload_n 1, 1) := by decide +kernel
theorem dX11_pass_135 : decode cX11_pass 135 = .ok (.invokevirtual 302, 3) := by decide +kernel
theorem dX11_pass_138 : decode cX11_pass 138 = .ok (.ifCond .eq 20, 3) := by decide +kernel
theorem dX11_pass_141 : decode cX11_pass 141 = .ok (.aload_n 1, 1) := by decide +kernel
theorem dX11_pass_142 : decode cX11_pass 142 = .ok (.bipush 9, 2) := by decide +kernel
theorem dX11_pass_144 : decode cX11_pass 144 = .ok (.aload_n 0, 1) := by decide +kernel
theorem dX11_pass_145 : decode cX11_pass 145 = .ok (.getfield 87, 3) := by decide +kernel
theorem dX11_pass_148 : decode cX11_pass 148 = .ok (.getfield 263, 3) := by decide +kernel
theorem dX11_pass_151 : decode cX11_pass 151 = .ok (.iload_n 2, 1) := by decide +kernel
theorem dX11_pass_152 : decode cX11_pass 152 = .ok (.iconst 1, 1) := by decide +kernel
theorem dX11_pass_153 : decode cX11_pass 153 = .ok (.iadd, 1) := by decide +kernel
theorem dX11_pass_154 : decode cX11_pass 154 = .ok (.iaload, 1) := by decide +kernel
theorem dX11_pass_155 : decode cX11_pass 155 = .ok (.iadd, 1) := by decide +kernel
theorem dX11_pass_156 : decode cX11_pass 156 = .ok (.iconst 0, 1) := by decide +kernel
theorem dX11_pass_157 : decode cX11_pass 157 = .ok (.iastore, 1) := by decide +kernel
theorem dX11_pass_158 : decode cX11_pass 158 = .ok (.iinc 2 3, 3) := by decide +kernel
theorem dX11_pass_161 : decode cX11_pass 161 = .ok (.goto (-84), 3) := by decide +kernel
theorem dX11_pass_164 : decode cX11_pass 164 = .ok (.iconst 0, 1) := by decide +kernel
theorem dX11_pass_165 : decode cX11_pass 165 = .ok (.istore_n 2, 1) := by decide +kernel
theorem dX11_pass_166 : decode cX11_pass 166 = .ok (.iload_n 2, 1) := by decide +kernel
theorem dX11_pass_167 : decode cX11_pass 167 = .ok (.aload_n 0, 1) := by decide +kernel
theorem dX11_pass_168 : decode cX11_pass 168 = .ok (.getfield 87, 3) := by decide +kernel
theorem dX11_pass_171 : decode cX11_pass 171 = .ok (.getfield 245, 3) := by decide +kernel
theorem dX11_pass_174 : decode cX11_pass 174 = .ok (.if_icmp .ge 15, 3) := by decide +kernel
theorem dX11_pass_177 : decode cX11_pass 177 = .ok (.aload_n 0, 1) := by decide +kernel
theorem dX11_pass_178 : decode cX11_pass 178 = .ok (.aload_n 1, 1) := by decide +kernel
theorem dX11_pass_179 : decode cX11_pass 179 = .ok (.iload_n 2, 1) := by decide +kernel
theorem dX11_pass_180 : decode cX11_pass 180 = .ok (.invokevirtual 332, 3) := by decide +kernel
theorem dX11_pass_183 : decode cX11_pass 183 = .ok (.iinc 2 1, 3) := by decide +kernel
theorem dX11_pass_186 : decode cX11_pass 186 = .ok (.goto (-20), 3) := by decide +kernel
theorem dX11_pass_189 : decode cX11_pass 189 = .ok (.aload_n 1, 1) := by decide +kernel
theorem dX11_pass_190 : decode cX11_pass 190 = .ok (.iconst 0, 1) := by decide +kernel
theorem dX11_pass_191 : decode cX11_pass 191 = .ok (.dup2, 1) := by decide +kernel
theorem dX11_pass_192 : decode cX11_pass 192 = .ok (.iaload, 1) := by decide +kernel
theorem dX11_pass_193 : decode cX11_pass 193 = .ok (.iconst 1, 1) := by decide +kernel
theorem dX11_pass_194 : decode cX11_pass 194 = .ok (.iadd, 1) := by decide +kernel
theorem dX11_pass_195 : decode cX11_pass 195 = .ok (.iastore, 1) := by decide +kernel
theorem dX11_pass_196 : decode cX11_pass 196 = .ok (.return_, 1) := by decide +kernel
theorem bk_X11_pass_0 {C : JC} {d cl sl : Nat} {Q : State → Prop} {w : JW} {k1 : Nat} {b1 : Bool} (hm : jok C MX11_pass d cl sl) (k : jW C cl sl Q 2 [jR 41 false, jR k1 b1, jI 0] [] w) : jW C cl sl Q 0 [jR 41 false, jR k1 b1, jU] [] w := jr_iconst hm (v := 0) (by decide) dX11_pass_0 (jr_istore_n hm (i := 2) rfl (Nat.le_of_ble_eq_true rfl) rfl dX11_pass_1 (jr_drop (jle_same (jle_same (jle_same jle_nil))) k))
theorem bk_X11_pass_2 {C : JC} {d cl sl : Nat} {Q : State → Prop} {w : JW} {k1 : Nat} {b1 : Bool} {x2 : Int32} (hm : jok C MX11_pass d cl sl) (kt : (w.1 53 (w.2.2 41 8) 0) ≤ x2 → jW C cl sl Q 25 [jR 41 false, jR k1 b1, jU] [] w) (kf : ¬ (w.1 53 (w.2.2 41 8) 0) ≤ x2 → jW C cl sl Q 13 [jR 41 false, jR k1 b1, jI x2] [] w) : jW C cl sl Q 2 [jR 41 false, jR k1 b1, jI x2] [] w := jr_iload_n hm (i := 2) rfl rfl dX11_pass_2 (jr_aload_n hm (i := 0) rfl rfl dX11_pass_3 (fg_X11_87 hm dX11_pass_4 (fg_X11_151 hm dX11_pass_7 (jr_icmp_ge hm dX11_pass_10 (by decide) (fun h => jr_drop (jle_same (jle_same (jle_drop jle_nil))) (kt h)) (fun h => jr_drop (jle_same (jle_same (jle_same jle_nil))) (kf h))))))
theorem bk_X11_pass_13 {C : JC} {d cl sl : Nat} {Q : State → Prop} {w : JW} {k1 : Nat} {b1 : Bool} {x2 : Int32} {d2 : Nat} {w2 : JW} (hm : jok C MX11_pass d cl sl) (hs : jF MX11_press d2 [jR 41 false, jR k1 b1, jI x2] w (jU) w2) (hd2 : d2 + 1 ≤ d) (k : jW C cl sl Q 19 [jR 41 false, jR k1 b1, jI x2] [] w2) : jW C cl sl Q 13 [jR 41 false, jR k1 b1, jI x2] [] w := jr_aload_n hm (i := 0) rfl rfl dX11_pass_13 (jr_aload_n hm (i := 1) rfl rfl dX11_pass_14 (jr_iload_n hm (i := 2) rfl rfl dX11_pass_15 (jr_callV (mc := 0) (ms := 0) hm hs hd2 jw_1740 jw_1742 jw_109 jw_125 jw_1743 jn_X11_press rfl jo_41 (fun _ _ _ _ _ => ⟨_, rfl⟩) rfl rfl (Nat.le_of_ble_eq_true rfl) rfl dX11_pass_16 (jkF (jr_drop (jle_same (jle_same (jle_same jle_nil))) k)))))
theorem bk_X11_pass_19 {C : JC} {d cl sl : Nat} {Q : State → Prop} {w : JW} {k1 : Nat} {b1 : Bool} {x2 : Int32} (hm : jok C MX11_pass d cl sl) (k : jW C cl sl Q 2 [jR 41 false, jR k1 b1, jI (x2 + 1)] [] w) : jW C cl sl Q 19 [jR 41 false, jR k1 b1, jI x2] [] w := jr_iinc hm (i := 2) (v := x2 + 1) rfl rfl rfl dX11_pass_19 (jr_goto hm dX11_pass_22 (by decide) (jr_drop (jle_same (jle_same (jle_same jle_nil))) k))
theorem bk_X11_pass_25 {C : JC} {d cl sl : Nat} {Q : State → Prop} {w : JW} {k1 : Nat} {b1 : Bool} (hm : jok C MX11_pass d cl sl) (k : jW C cl sl Q 27 [jR 41 false, jR k1 b1, jI 0] [] w) : jW C cl sl Q 25 [jR 41 false, jR k1 b1, jU] [] w := jr_iconst hm (v := 0) (by decide) dX11_pass_25 (jr_istore_n hm (i := 2) rfl (Nat.le_of_ble_eq_true rfl) rfl dX11_pass_26 (jr_drop (jle_same (jle_same (jle_same jle_nil))) k))
theorem bk_X11_pass_27 {C : JC} {d cl sl : Nat} {Q : State → Prop} {w : JW} {k1 : Nat} {b1 : Bool} {x2 : Int32} (hm : jok C MX11_pass d cl sl) (kt : (w.1 53 (w.2.2 41 8) 1) ≤ x2 → jW C cl sl Q 50 [jR 41 false, jR k1 b1, jU] [] w) (kf : ¬ (w.1 53 (w.2.2 41 8) 1) ≤ x2 → jW C cl sl Q 38 [jR 41 false, jR k1 b1, jI x2] [] w) : jW C cl sl Q 27 [jR 41 false, jR k1 b1, jI x2] [] w := jr_iload_n hm (i := 2) rfl rfl dX11_pass_27 (jr_aload_n hm (i := 0) rfl rfl dX11_pass_28 (fg_X11_87 hm dX11_pass_29 (fg_X11_158 hm dX11_pass_32 (jr_icmp_ge hm dX11_pass_35 (by decide) (fun h => jr_drop (jle_same (jle_same (jle_drop jle_nil))) (kt h)) (fun h => jr_drop (jle_same (jle_same (jle_same jle_nil))) (kf h))))))
theorem bk_X11_pass_38 {C : JC} {d cl sl : Nat} {Q : State → Prop} {w : JW} {k1 : Nat} {b1 : Bool} {x2 : Int32} {d2 : Nat} {w2 : JW} (hm : jok C MX11_pass d cl sl) (hs : jF MX11_blow d2 [jR 41 false, jR k1 b1, jI x2] w (jU) w2) (hd2 : d2 + 1 ≤ d) (k : jW C cl sl Q 44 [jR 41 false, jR k1 b1, jI x2] [] w2) : jW C cl sl Q 38 [jR 41 false, jR k1 b1, jI x2] [] w := jr_aload_n hm (i := 0) rfl rfl dX11_pass_38 (jr_aload_n hm (i := 1) rfl rfl dX11_pass_39 (jr_iload_n hm (i := 2) rfl rfl dX11_pass_40 (jr_callV (mc := 0) (ms := 0) hm hs hd2 jw_1744 jw_1746 jw_110 jw_125 jw_1747 jn_X11_blow rfl jo_41 (fun _ _ _ _ _ => ⟨_, rfl⟩) rfl rfl (Nat.le_of_ble_eq_true rfl) rfl dX11_pass_41 (jkF (jr_drop (jle_same (jle_same (jle_same jle_nil))) k)))))
theorem bk_X11_pass_44 {C : JC} {d cl sl : Nat} {Q : State → Prop} {w : JW} {k1 : Nat} {b1 : Bool} {x2 : Int32} (hm : jok C MX11_pass d cl sl) (k : jW C cl sl Q 27 [jR 41 false, jR k1 b1, jI (x2 + 1)] [] w) : jW C cl sl Q 44 [jR 41 false, jR k1 b1, jI x2] [] w := jr_iinc hm (i := 2) (v := x2 + 1) rfl rfl rfl dX11_pass_44 (jr_goto hm dX11_pass_47 (by decide) (jr_drop (jle_same (jle_same (jle_same jle_nil))) k))
theorem bk_X11_pass_50 {C : JC} {d cl sl : Nat} {Q : State → Prop} {w : JW} {k1 : Nat} {b1 : Bool} (hm : jok C MX11_pass d cl sl) (k : jW C cl sl Q 52 [jR 41 false, jR k1 b1, jI 0] [] w) : jW C cl sl Q 50 [jR 41 false, jR k1 b1, jU] [] w := jr_iconst hm (v := 0) (by decide) dX11_pass_50 (jr_istore_n hm (i := 2) rfl (Nat.le_of_ble_eq_true rfl) rfl dX11_pass_51 (jr_drop (jle_same (jle_same (jle_same jle_nil))) k))
theorem bk_X11_pass_52 {C : JC} {d cl sl : Nat} {Q : State → Prop} {w : JW} {k1 : Nat} {b1 : Bool} {x2 : Int32} (hm : jok C MX11_pass d cl sl) (kt : (w.1 53 (w.2.2 41 8) 1) ≤ x2 → jW C cl sl Q 75 [jR 41 false, jR k1 b1, jU] [] w) (kf : ¬ (w.1 53 (w.2.2 41 8) 1) ≤ x2 → jW C cl sl Q 63 [jR 41 false, jR k1 b1, jI x2] [] w) : jW C cl sl Q 52 [jR 41 false, jR k1 b1, jI x2] [] w := jr_iload_n hm (i := 2) rfl rfl dX11_pass_52 (jr_aload_n hm (i := 0) rfl rfl dX11_pass_53 (fg_X11_87 hm dX11_pass_54 (fg_X11_158 hm dX11_pass_57 (jr_icmp_ge hm dX11_pass_60 (by decide) (fun h => jr_drop (jle_same (jle_same (jle_drop jle_nil))) (kt h)) (fun h => jr_drop (jle_same (jle_same (jle_same jle_nil))) (kf h))))))
theorem bk_X11_pass_63 {C : JC} {d cl sl : Nat} {Q : State → Prop} {w : JW} {k1 : Nat} {b1 : Bool} {x2 : Int32} {d2 : Nat} {w2 : JW} (hm : jok C MX11_pass d cl sl) (hs : jF MX11_settle d2 [jR 41 false, jR k1 b1, jI x2] w (jU) w2) (hd2 : d2 + 1 ≤ d) (k : jW C cl sl Q 69 [jR 41 false, jR k1 b1, jI x2] [] w2) : jW C cl sl Q 63 [jR 41 false, jR k1 b1, jI x2] [] w := jr_aload_n hm (i := 0) rfl rfl dX11_pass_63 (jr_aload_n hm (i := 1) rfl rfl dX11_pass_64 (jr_iload_n hm (i := 2) rfl rfl dX11_pass_65 (jr_callV (mc := 0) (ms := 0) hm hs hd2 jw_1748 jw_1750 jw_111 jw_125 jw_1751 jn_X11_settle rfl jo_41 (fun _ _ _ _ _ => ⟨_, rfl⟩) rfl rfl (Nat.le_of_ble_eq_true rfl) rfl dX11_pass_66 (jkF (jr_drop (jle_same (jle_same (jle_same jle_nil))) k)))))
theorem bk_X11_pass_69 {C : JC} {d cl sl : Nat} {Q : State → Prop} {w : JW} {k1 : Nat} {b1 : Bool} {x2 : Int32} (hm : jok C MX11_pass d cl sl) (k : jW C cl sl Q 52 [jR 41 false, jR k1 b1, jI (x2 + 1)] [] w) : jW C cl sl Q 69 [jR 41 false, jR k1 b1, jI x2] [] w := jr_iinc hm (i := 2) (v := x2 + 1) rfl rfl rfl dX11_pass_69 (jr_goto hm dX11_pass_72 (by decide) (jr_drop (jle_same (jle_same (jle_same jle_nil))) k))
theorem bk_X11_pass_75 {C : JC} {d cl sl : Nat} {Q : State → Prop} {w : JW} {k1 : Nat} {b1 : Bool} (hm : jok C MX11_pass d cl sl) (k : jW C cl sl Q 77 [jR 41 false, jR k1 b1, jI 0] [] w) : jW C cl sl Q 75 [jR 41 false, jR k1 b1, jU] [] w := jr_iconst hm (v := 0) (by decide) dX11_pass_75 (jr_istore_n hm (i := 2) rfl (Nat.le_of_ble_eq_true rfl) rfl dX11_pass_76 (jr_drop (jle_same (jle_same (jle_same jle_nil))) k))
theorem bk_X11_pass_77 {C : JC} {d cl sl : Nat} {Q : State → Prop} {w : JW} {k1 : Nat} {b1 : Bool} {x2 : Int32} (hm : jok C MX11_pass d cl sl) (kt : 3 * (w.1 53 (w.2.2 41 8) 5) ≤ x2 → jW C cl sl Q 164 [jR 41 false, jR k1 b1, jU] [] w) (kf : ¬ 3 * (w.1 53 (w.2.2 41 8) 5) ≤ x2 → jW C cl sl Q 90 [jR 41 false, jR k1 b1, jI x2] [] w) : jW C cl sl Q 77 [jR 41 false, jR k1 b1, jI x2] [] w := jr_iload_n hm (i := 2) rfl rfl dX11_pass_77 (jr_iconst hm (v := 3) (by decide) dX11_pass_78 (jr_aload_n hm (i := 0) rfl rfl dX11_pass_79 (fg_X11_87 hm dX11_pass_80 (fg_X11_260 hm dX11_pass_83 (jr_imul hm dX11_pass_86 (jr_icmp_ge hm dX11_pass_87 (by decide) (fun h => jr_drop (jle_same (jle_same (jle_drop jle_nil))) (kt h)) (fun h => jr_drop (jle_same (jle_same (jle_same jle_nil))) (kf h))))))))
theorem bk_X11_pass_90 {C : JC} {d cl sl : Nat} {Q : State → Prop} {w : JW} {k1 : Nat} {b1 : Bool} {x2 : Int32} (hm : jok C MX11_pass d cl sl) (h1 : vp_in x2 48) (kt : (w.1 59 (w.2.2 41 8) x2.toNatClampNeg) = 16 → jW C cl sl Q 107 [jR 41 false, jR k1 b1, jI x2] [] w) (kf : ¬ (w.1 59 (w.2.2 41 8) x2.toNatClampNeg) = 16 → jW C cl sl Q 104 [jR 41 false, jR k1 b1, jI x2] [] w) : jW C cl sl Q 90 [jR 41 false, jR k1 b1, jI x2] [] w := jr_aload_n hm (i := 0) rfl rfl dX11_pass_90 (fg_X11_87 hm dX11_pass_91 (fg_X11_263 hm dX11_pass_94 (jr_iload_n hm (i := 2) rfl rfl dX11_pass_97 (jr_iaload hm (ja_59 (w.2.2 41 8)) h1 dX11_pass_98 (jr_bipush hm (v := 16) (by decide) dX11_pass_99 (jr_icmp_eq hm dX11_pass_101 (by decide) (fun h => jr_drop (jle_same (jle_same (jle_same jle_nil))) (kt h)) (fun h => jr_drop (jle_same (jle_same (jle_same jle_nil))) (kf h))))))))
theorem bk_X11_pass_104 {C : JC} {d cl sl : Nat} {Q : State → Prop} {w : JW} {k1 : Nat} {b1 : Bool} {x2 : Int32} (hm : jok C MX11_pass d cl sl) (k : jW C cl sl Q 158 [jR 41 false, jR k1 b1, jI x2] [] w) : jW C cl sl Q 104 [jR 41 false, jR k1 b1, jI x2] [] w := jr_goto hm dX11_pass_104 (by decide) (jr_drop (jle_same (jle_same (jle_same jle_nil))) k)
theorem bk_X11_pass_107 {C : JC} {d cl sl : Nat} {Q : State → Prop} {w : JW} {k1 : Nat} {b1 : Bool} {x2 : Int32} (hm : jok C MX11_pass d cl sl) (h1 : vp_in (x2 + 2) 48) (kt : (w.1 59 (w.2.2 41 8) (x2 + 2).toNatClampNeg) = (-1) → jW C cl sl Q 141 [jR 41 false, jR k1 b1, jI x2] [] w) (kf : ¬ (w.1 59 (w.2.2 41 8) (x2 + 2).toNatClampNeg) = (-1) → jW C cl sl Q 122 [jR 41 false, jR k1 b1, jI x2] [] w) : jW C cl sl Q 107 [jR 41 false, jR k1 b1, jI x2] [] w := jr_aload_n hm (i := 0) rfl rfl dX11_pass_107 (fg_X11_87 hm dX11_pass_108 (fg_X11_263 hm dX11_pass_111 (jr_iload_n hm (i := 2) rfl rfl dX11_pass_114 (jr_iconst hm (v := 2) (by decide) dX11_pass_115 (jr_iadd hm dX11_pass_116 (jr_iaload hm (ja_59 (w.2.2 41 8)) h1 dX11_pass_117 (jr_iconst hm (v := (-1)) (by decide) dX11_pass_118 (jr_icmp_eq hm dX11_pass_119 (by decide) (fun h => jr_drop (jle_same (jle_same (jle_same jle_nil))) (kt h)) (fun h => jr_drop (jle_same (jle_same (jle_same jle_nil))) (kf h))))))))))
theorem bk_X11_pass_122 {C : JC} {d cl sl : Nat} {Q : State → Prop} {w : JW} {k1 : Nat} {b1 : Bool} {x2 : Int32} {d2 : Nat} {r : Int32} {w2 : JW} (hm : jok C MX11_pass d cl sl) (h1 : vp_in (x2 + 2) 48) (hs : jF MX11_holds d2 [jR 41 false, jI (w.1 59 (w.2.2 41 8) (x2 + 2).toNatClampNeg), jR k1 b1] w (jI r) w2) (hd2 : d2 + 1 ≤ d) (k : jW C cl sl Q 138 [jR 41 false, jR k1 b1, jI x2] [jI r] w2) : jW C cl sl Q 122 [jR 41 false, jR k1 b1, jI x2] [] w := jr_aload_n hm (i := 0) rfl rfl dX11_pass_122 (jr_aload_n hm (i := 0) rfl rfl dX11_pass_123 (fg_X11_87 hm dX11_pass_124 (fg_X11_263 hm dX11_pass_127 (jr_iload_n hm (i := 2) rfl rfl dX11_pass_130 (jr_iconst hm (v := 2) (by decide) dX11_pass_131 (jr_iadd hm dX11_pass_132 (jr_iaload hm (ja_59 (w.2.2 41 8)) h1 dX11_pass_133 (jr_aload_n hm (i := 1) rfl rfl dX11_pass_134 (jr_callV (mc := 0) (ms := 0) hm hs hd2 jw_1640 jw_1642 jw_95 jw_125 jw_1643 jn_X11_holds rfl jo_41 (fun _ _ _ _ _ => ⟨_, rfl⟩) rfl rfl (Nat.le_of_ble_eq_true rfl) rfl dX11_pass_135 (jkF (jr_drop (jle_same (jle_same (jle_same jle_nil))) k)))))))))))
theorem bk_X11_pass_138 {C : JC} {d cl sl : Nat} {Q : State → Prop} {w : JW} {k1 : Nat} {b1 : Bool} {x2 : Int32} {xs0 : Int32} (hm : jok C MX11_pass d cl sl) (kt : xs0 = 0 → jW C cl sl Q 158 [jR 41 false, jR k1 b1, jI x2] [] w) (kf : ¬ xs0 = 0 → jW C cl sl Q 141 [jR 41 false, jR k1 b1, jI x2] [] w) : jW C cl sl Q 138 [jR 41 false, jR k1 b1, jI x2] [jI xs0] w := jr_if_eq hm dX11_pass_138 (by decide) (fun h => jr_drop (jle_same (jle_same (jle_same jle_nil))) (kt h)) (fun h => jr_drop (jle_same (jle_same (jle_same jle_nil))) (kf h))
theorem bk_X11_pass_141 {C : JC} {d cl sl : Nat} {Q : State → Prop} {w : JW} {k1 : Nat} {b1 : Bool} {x2 : Int32} {n1 : Nat} (hm : jok C MX11_pass d cl sl) (h1 : vp_in (x2 + 1) 48) (hA1 : jIA k1 b1 n1) (h2 : vp_in (9 + (w.1 59 (w.2.2 41 8) (x2 + 1).toNatClampNeg)) n1) (k : jW C cl sl Q 158 [jR 41 false, jR k1 b1, jI x2] [] (jset w k1 b1 (9 + (w.1 59 (w.2.2 41 8) (x2 + 1).toNatClampNeg)).toNatClampNeg 0)) : jW C cl sl Q 141 [jR 41 false, jR k1 b1, jI x2] [] w := jr_aload_n hm (i := 1) rfl rfl dX11_pass_141 (jr_bipush hm (v := 9) (by decide) dX11_pass_142 (jr_aload_n hm (i := 0) rfl rfl dX11_pass_144 (fg_X11_87 hm dX11_pass_145 (fg_X11_263 hm dX11_pass_148 (jr_iload_n hm (i := 2) rfl rfl dX11_pass_151 (jr_iconst hm (v := 1) (by decide) dX11_pass_152 (jr_iadd hm dX11_pass_153 (jr_iaload hm (ja_59 (w.2.2 41 8)) h1 dX11_pass_154 (jr_iadd hm dX11_pass_155 (jr_iconst hm (v := 0) (by decide) dX11_pass_156 (jr_iastore hm hA1 h2 dX11_pass_157 (jr_drop (jle_same (jle_same (jle_same jle_nil))) k))))))))))))
theorem bk_X11_pass_158 {C : JC} {d cl sl : Nat} {Q : State → Prop} {w : JW} {k1 : Nat} {b1 : Bool} {x2 : Int32} (hm : jok C MX11_pass d cl sl) (k : jW C cl sl Q 77 [jR 41 false, jR k1 b1, jI (x2 + 3)] [] w) : jW C cl sl Q 158 [jR 41 false, jR k1 b1, jI x2] [] w := jr_iinc hm (i := 2) (v := x2 + 3) rfl rfl rfl dX11_pass_158 (jr_goto hm dX11_pass_161 (by decide) (jr_drop (jle_same (jle_same (jle_same jle_nil))) k))
theorem bk_X11_pass_164 {C : JC} {d cl sl : Nat} {Q : State → Prop} {w : JW} {k1 : Nat} {b1 : Bool} (hm : jok C MX11_pass d cl sl) (k : jW C cl sl Q 166 [jR 41 false, jR k1 b1, jI 0] [] w) : jW C cl sl Q 164 [jR 41 false, jR k1 b1, jU] [] w := jr_iconst hm (v := 0) (by decide) dX11_pass_164 (jr_istore_n hm (i := 2) rfl (Nat.le_of_ble_eq_true rfl) rfl dX11_pass_165 (jr_drop (jle_same (jle_same (jle_same jle_nil))) k))
theorem bk_X11_pass_166 {C : JC} {d cl sl : Nat} {Q : State → Prop} {w : JW} {k1 : Nat} {b1 : Bool} {x2 : Int32} (hm : jok C MX11_pass d cl sl) (kt : (w.1 53 (w.2.2 41 8) 4) ≤ x2 → jW C cl sl Q 189 [jU, jR k1 b1, jU] [] w) (kf : ¬ (w.1 53 (w.2.2 41 8) 4) ≤ x2 → jW C cl sl Q 177 [jR 41 false, jR k1 b1, jI x2] [] w) : jW C cl sl Q 166 [jR 41 false, jR k1 b1, jI x2] [] w := jr_iload_n hm (i := 2) rfl rfl dX11_pass_166 (jr_aload_n hm (i := 0) rfl rfl dX11_pass_167 (fg_X11_87 hm dX11_pass_168 (fg_X11_245 hm dX11_pass_171 (jr_icmp_ge hm dX11_pass_174 (by decide) (fun h => jr_drop (jle_drop (jle_same (jle_drop jle_nil))) (kt h)) (fun h => jr_drop (jle_same (jle_same (jle_same jle_nil))) (kf h))))))
theorem bk_X11_pass_177 {C : JC} {d cl sl : Nat} {Q : State → Prop} {w : JW} {k1 : Nat} {b1 : Bool} {x2 : Int32} {d2 : Nat} {w2 : JW} (hm : jok C MX11_pass d cl sl) (hs : jF MX11_chime d2 [jR 41 false, jR k1 b1, jI x2] w (jU) w2) (hd2 : d2 + 1 ≤ d) (k : jW C cl sl Q 183 [jR 41 false, jR k1 b1, jI x2] [] w2) : jW C cl sl Q 177 [jR 41 false, jR k1 b1, jI x2] [] w := jr_aload_n hm (i := 0) rfl rfl dX11_pass_177 (jr_aload_n hm (i := 1) rfl rfl dX11_pass_178 (jr_iload_n hm (i := 2) rfl rfl dX11_pass_179 (jr_callV (mc := 0) (ms := 0) hm hs hd2 jw_1752 jw_1754 jw_112 jw_125 jw_1755 jn_X11_chime rfl jo_41 (fun _ _ _ _ _ => ⟨_, rfl⟩) rfl rfl (Nat.le_of_ble_eq_true rfl) rfl dX11_pass_180 (jkF (jr_drop (jle_same (jle_same (jle_same jle_nil))) k)))))
theorem bk_X11_pass_183 {C : JC} {d cl sl : Nat} {Q : State → Prop} {w : JW} {k1 : Nat} {b1 : Bool} {x2 : Int32} (hm : jok C MX11_pass d cl sl) (k : jW C cl sl Q 166 [jR 41 false, jR k1 b1, jI (x2 + 1)] [] w) : jW C cl sl Q 183 [jR 41 false, jR k1 b1, jI x2] [] w := jr_iinc hm (i := 2) (v := x2 + 1) rfl rfl rfl dX11_pass_183 (jr_goto hm dX11_pass_186 (by decide) (jr_drop (jle_same (jle_same (jle_same jle_nil))) k))
theorem bk_X11_pass_189 {C : JC} {d cl sl : Nat} {w : JW} {k1 : Nat} {b1 : Bool} {n1 : Nat} {P : JV → JW → Prop} (hm : jok C MX11_pass d cl sl) (hA1 : jIA k1 b1 n1) (h1 : vp_in 0 n1) (h2 : vp_in 0 n1) (hp : P (jU) (jset w k1 b1 0 ((w.1 k1 b1 0) + 1))) : jW C cl sl (jQQ C cl sl P) 189 [jU, jR k1 b1, jU] [] w := jr_aload_n hm (i := 1) rfl rfl dX11_pass_189 (jr_iconst hm (v := 0) (by decide) dX11_pass_190 (jr_dup2 hm dX11_pass_191 (jr_iaload hm hA1 h1 dX11_pass_192 (jr_iconst hm (v := 1) (by decide) dX11_pass_193 (jr_iadd hm dX11_pass_194 (jr_iastore hm hA1 h2 dX11_pass_195 (jr_return hm rfl dX11_pass_196 hp)))))))
theorem dX11_passAll_0 : decode cX11_passAll 0 = .ok (.iconst 0, 1) := by decide +kernel
theorem dX11_passAll_1 : decode cX11_passAll 1 = .ok (.istore_n 3, 1) := by decide +kernel
theorem dX11_passAll_2 : decode cX11_passAll 2 = .ok (.iload_n 3, 1) := by decide +kernel
theorem dX11_passAll_3 : decode cX11_passAll 3 = .ok (.iload_n 2, 1) := by decide +kernel
theorem dX11_passAll_4 : decode cX11_passAll 4 = .ok (.if_icmp .ge 14, 3) := by decide +kernel
theorem dX11_passAll_7 : decode cX11_passAll 7 = .ok (.aload_n 0, 1) := by decide +kernel
theorem dX11_passAll_8 : decode cX11_passAll 8 = .ok (.aload_n 1, 1) := by decide +kernel
theorem dX11_passAll_9 : decode cX11_passAll 9 = .ok (.invokevirtual 335, 3) := by decide +kernel
theorem dX11_passAll_12 : decode cX11_passAll 12 = .ok (.iinc 3 1, 3) := by decide +kernel
theorem dX11_passAll_15 : decode cX11_passAll 15 = .ok (.goto (-13), 3) := by decide +kernel
theorem dX11_passAll_18 : decode cX11_passAll 18 = .ok (.return_, 1) := by decide +kernel
theorem bk_X11_passAll_0 {C : JC} {d cl sl : Nat} {Q : State → Prop} {w : JW} {k1 : Nat} {b1 : Bool} {x2 : Int32} (hm : jok C MX11_passAll d cl sl) (k : jW C cl sl Q 2 [jR 41 false, jR k1 b1, jI x2, jI 0] [] w) : jW C cl sl Q 0 [jR 41 false, jR k1 b1, jI x2, jU] [] w := jr_iconst hm (v := 0) (by decide) dX11_passAll_0 (jr_istore_n hm (i := 3) rfl (Nat.le_of_ble_eq_true rfl) rfl dX11_passAll_1 (jr_drop (jle_same (jle_same (jle_same (jle_same jle_nil)))) k))
theorem bk_X11_passAll_2 {C : JC} {d cl sl : Nat} {Q : State → Prop} {w : JW} {k1 : Nat} {b1 : Bool} {x2 : Int32} {x3 : Int32} (hm : jok C MX11_passAll d cl sl) (kt : x2 ≤ x3 → jW C cl sl Q 18 [jU, jU, jU, jU] [] w) (kf : ¬ x2 ≤ x3 → jW C cl sl Q 7 [jR 41 false, jR k1 b1, jI x2, jI x3] [] w) : jW C cl sl Q 2 [jR 41 false, jR k1 b1, jI x2, jI x3] [] w := jr_iload_n hm (i := 3) rfl rfl dX11_passAll_2 (jr_iload_n hm (i := 2) rfl rfl dX11_passAll_3 (jr_icmp_ge hm dX11_passAll_4 (by decide) (fun h => jr_drop (jle_drop (jle_drop (jle_drop (jle_drop jle_nil)))) (kt h)) (fun h => jr_drop (jle_same (jle_same (jle_same (jle_same jle_nil)))) (kf h))))
theorem bk_X11_passAll_7 {C : JC} {d cl sl : Nat} {Q : State → Prop} {w : JW} {k1 : Nat} {b1 : Bool} {x2 : Int32} {x3 : Int32} {d2 : Nat} {w2 : JW} (hm : jok C MX11_passAll d cl sl) (hs : jF MX11_pass d2 [jR 41 false, jR k1 b1] w (jU) w2) (hd2 : d2 + 1 ≤ d) (k : jW C cl sl Q 12 [jR 41 false, jR k1 b1, jI x2, jI x3] [] w2) : jW C cl sl Q 7 [jR 41 false, jR k1 b1, jI x2, jI x3] [] w := jr_aload_n hm (i := 0) rfl rfl dX11_passAll_7 (jr_aload_n hm (i := 1) rfl rfl dX11_passAll_8 (jr_callV (mc := 0) (ms := 0) hm hs hd2 jw_1736 jw_1738 jw_108 jw_125 jw_1739 jn_X11_pass rfl jo_41 (fun _ _ _ _ _ => ⟨_, rfl⟩) rfl rfl (Nat.le_of_ble_eq_true rfl) rfl dX11_passAll_9 (jkF (jr_drop (jle_same (jle_same (jle_same (jle_same jle_nil)))) k))))
theorem bk_X11_passAll_12 {C : JC} {d cl sl : Nat} {Q : State → Prop} {w : JW} {k1 : Nat} {b1 : Bool} {x2 : Int32} {x3 : Int32} (hm : jok C MX11_passAll d cl sl) (k : jW C cl sl Q 2 [jR 41 false, jR k1 b1, jI x2, jI (x3 + 1)] [] w) : jW C cl sl Q 12 [jR 41 false, jR k1 b1, jI x2, jI x3] [] w := jr_iinc hm (i := 3) (v := x3 + 1) rfl rfl rfl dX11_passAll_12 (jr_goto hm dX11_passAll_15 (by decide) (jr_drop (jle_same (jle_same (jle_same (jle_same jle_nil)))) k))
theorem bk_X11_passAll_18 {C : JC} {d cl sl : Nat} {w : JW} {P : JV → JW → Prop} (hm : jok C MX11_passAll d cl sl) (hp : P (jU) w) : jW C cl sl (jQQ C cl sl P) 18 [jU, jU, jU, jU] [] w := jr_return hm rfl dX11_passAll_18 hp
theorem dX11_lookAhead_0 : decode cX11_lookAhead 0 = .ok (.aload_n 0, 1) := by decide +kernel
theorem dX11_lookAhead_1 : decode cX11_lookAhead 1 = .ok (.getfield 106, 3) := by decide +kernel
theorem dX11_lookAhead_4 : decode cX11_lookAhead 4 = .ok (.iconst 0, 1) := by decide +kernel
theorem dX11_lookAhead_5 : decode cX11_lookAhead 5 = .ok (.aload_n 0, 1) := by decide +kernel
theorem dX11_lookAhead_6 : decode cX11_lookAhead 6 = .ok (.getfield 109, 3) := by decide +kernel
theorem dX11_lookAhead_9 : decode cX11_lookAhead 9 = .ok (.iconst 0, 1) := by decide +kernel
theorem dX11_lookAhead_10 : decode cX11_lookAhead 10 = .ok (.bipush 51, 2) := by decide +kernel
theorem dX11_lookAhead_12 : decode cX11_lookAhead 12 = .ok (.invokestatic 339, 3) := by decide +kernel
theorem dX11_lookAhead_15 : decode cX11_lookAhead 15 = .ok (.return_, 1) := by decide +kernel
theorem bk_X11_lookAhead_0 {C : JC} {d cl sl : Nat} {Q : State → Prop} {w : JW}  (hm : jok C MX11_lookAhead d cl sl) (k : jW C cl sl Q 12 [jU] [jI 51, jI 0, jR 52 false, jI 0, jR 51 false] w) : jW C cl sl Q 0 [jR 41 false] [] w := jr_aload_n hm (i := 0) rfl rfl dX11_lookAhead_0 (fg_X11_106 hm dX11_lookAhead_1 (jr_iconst hm (v := 0) (by decide) dX11_lookAhead_4 (jr_aload_n hm (i := 0) rfl rfl dX11_lookAhead_5 (fg_X11_109 hm dX11_lookAhead_6 (jr_iconst hm (v := 0) (by decide) dX11_lookAhead_9 (jr_bipush hm (v := 51) (by decide) dX11_lookAhead_10 (jr_drop (jle_drop jle_nil) k)))))))
theorem dX11_sounding_0 : decode cX11_sounding 0 = .ok (.iconst 0, 1) := by decide +kernel
theorem dX11_sounding_1 : decode cX11_sounding 1 = .ok (.istore_n 2, 1) := by decide +kernel
theorem dX11_sounding_2 : decode cX11_sounding 2 = .ok (.iconst 0, 1) := by decide +kernel
theorem dX11_sounding_3 : decode cX11_sounding 3 = .ok (.istore_n 3, 1) := by decide +kernel
theorem dX11_sounding_4 : decode cX11_sounding 4 = .ok (.iload_n 3, 1) := by decide +kernel
theorem dX11_sounding_5 : decode cX11_sounding 5 = .ok (.aload_n 0, 1) := by decide +kernel
theorem dX11_sounding_6 : decode cX11_sounding 6 = .ok (.getfield 87, 3) := by decide +kernel
theorem dX11_sounding_9 : decode cX11_sounding 9 = .ok (.getfield 158, 3) := by decide +kernel
theorem dX11_sounding_12 : decode cX11_sounding 12 = .ok (.if_icmp .ge 26, 3) := by decide +kernel
theorem dX11_sounding_15 : decode cX11_sounding 15 = .ok (.iload_n 2, 1) := by decide +kernel
theorem dX11_sounding_16 : decode cX11_sounding 16 = .ok (.aload_n 1, 1) := by decide +kernel
theorem dX11_sounding_17 : decode cX11_sounding 17 = .ok (.bipush 21, 2) := by decide +kernel
theorem dX11_sounding_19 : decode cX11_sounding 19 = .ok (.iload_n 3, 1) := by decide +kernel
theorem dX11_sounding_20 : decode cX11_sounding 20 = .ok (.iadd, 1) := by decide +kernel
theorem dX11_sounding_21 : decode cX11_sounding 21 = .ok (.iaload, 1) := by decide +kernel
theorem dX11_sounding_22 : decode cX11_sounding 22 = .ok (.ifCond .le 7, 3) := by decide +kernel
theorem dX11_sounding_25 : decode cX11_sounding 25 = .ok (.iconst 1, 1) := by decide +kernel
theorem dX11_sounding_26 : decode cX11_sounding 26 = .ok (.goto 4, 3) := by decide +kernel
theorem dX11_sounding_29 : decode cX11_sounding 29 = .ok (.iconst 0, 1) := by decide +kernel
theorem dX11_sounding_30 : decode cX11_sounding 30 = .ok (.iadd, 1) := by decide +kernel
theorem dX11_sounding_31 : decode cX11_sounding 31 = .ok (.istore_n 2, 1) := by decide +kernel
theorem dX11_sounding_32 : decode cX11_sounding 32 = .ok (.iinc 3 1, 3) := by decide +kernel
theorem dX11_sounding_35 : decode cX11_sounding 35 = .ok (.goto (-31), 3) := by decide +kernel
theorem dX11_sounding_38 : decode cX11_sounding 38 = .ok (.iload_n 2, 1) := by decide +kernel
theorem dX11_sounding_39 : decode cX11_sounding 39 = .ok (.ireturn, 1) := by decide +kernel
theorem bk_X11_sounding_0 {C : JC} {d cl sl : Nat} {Q : State → Prop} {w : JW} {k1 : Nat} {b1 : Bool} (hm : jok C MX11_sounding d cl sl) (k : jW C cl sl Q 4 [jR 41 false, jR k1 b1, jI 0, jI 0] [] w) : jW C cl sl Q 0 [jR 41 false, jR k1 b1, jU, jU] [] w := jr_iconst hm (v := 0) (by decide) dX11_sounding_0 (jr_istore_n hm (i := 2) rfl (Nat.le_of_ble_eq_true rfl) rfl dX11_sounding_1 (jr_iconst hm (v := 0) (by decide) dX11_sounding_2 (jr_istore_n hm (i := 3) rfl (Nat.le_of_ble_eq_true rfl) rfl dX11_sounding_3 (jr_drop (jle_same (jle_same (jle_same (jle_same jle_nil)))) k))))
theorem bk_X11_sounding_4 {C : JC} {d cl sl : Nat} {Q : State → Prop} {w : JW} {k1 : Nat} {b1 : Bool} {x2 : Int32} {x3 : Int32} (hm : jok C MX11_sounding d cl sl) (kt : (w.1 53 (w.2.2 41 8) 1) ≤ x3 → jW C cl sl Q 38 [jU, jU, jI x2, jU] [] w) (kf : ¬ (w.1 53 (w.2.2 41 8) 1) ≤ x3 → jW C cl sl Q 15 [jR 41 false, jR k1 b1, jI x2, jI x3] [] w) : jW C cl sl Q 4 [jR 41 false, jR k1 b1, jI x2, jI x3] [] w := jr_iload_n hm (i := 3) rfl rfl dX11_sounding_4 (jr_aload_n hm (i := 0) rfl rfl dX11_sounding_5 (fg_X11_87 hm dX11_sounding_6 (fg_X11_158 hm dX11_sounding_9 (jr_icmp_ge hm dX11_sounding_12 (by decide) (fun h => jr_drop (jle_drop (jle_drop (jle_same (jle_drop jle_nil)))) (kt h)) (fun h => jr_drop (jle_same (jle_same (jle_same (jle_same jle_nil)))) (kf h))))))
theorem bk_X11_sounding_15 {C : JC} {d cl sl : Nat} {Q : State → Prop} {w : JW} {k1 : Nat} {b1 : Bool} {x2 : Int32} {x3 : Int32} {n1 : Nat} (hm : jok C MX11_sounding d cl sl) (hA1 : jIA k1 b1 n1) (h1 : vp_in (21 + x3) n1) (kt : (w.1 k1 b1 (21 + x3).toNatClampNeg) ≤ 0 → jW C cl sl Q 29 [jR 41 false, jR k1 b1, jU, jI x3] [jI x2] w) (kf : ¬ (w.1 k1 b1 (21 + x3).toNatClampNeg) ≤ 0 → jW C cl sl Q 25 [jR 41 false, jR k1 b1, jU, jI x3] [jI x2] w) : jW C cl sl Q 15 [jR 41 false, jR k1 b1, jI x2, jI x3] [] w := jr_iload_n hm (i := 2) rfl rfl dX11_sounding_15 (jr_aload_n hm (i := 1) rfl rfl dX11_sounding_16 (jr_bipush hm (v := 21) (by decide) dX11_sounding_17 (jr_iload_n hm (i := 3) rfl rfl dX11_sounding_19 (jr_iadd hm dX11_sounding_20 (jr_iaload hm hA1 h1 dX11_sounding_21 (jr_if_le hm dX11_sounding_22 (by decide) (fun h => jr_drop (jle_same (jle_same (jle_drop (jle_same jle_nil)))) (kt h)) (fun h => jr_drop (jle_same (jle_same (jle_drop (jle_same jle_nil)))) (kf h))))))))
theorem bk_X11_sounding_25 {C : JC} {d cl sl : Nat} {Q : State → Prop} {w : JW} {k1 : Nat} {b1 : Bool} {x3 : Int32} {xs0 : Int32} (hm : jok C MX11_sounding d cl sl) (k : jW C cl sl Q 30 [jR 41 false, jR k1 b1, jU, jI x3] [jI 1, jI xs0] w) : jW C cl sl Q 25 [jR 41 false, jR k1 b1, jU, jI x3] [jI xs0] w := jr_iconst hm (v := 1) (by decide) dX11_sounding_25 (jr_goto hm dX11_sounding_26 (by decide) (jr_drop (jle_same (jle_same (jle_same (jle_same jle_nil)))) k))
theorem bk_X11_sounding_29 {C : JC} {d cl sl : Nat} {Q : State → Prop} {w : JW} {k1 : Nat} {b1 : Bool} {x3 : Int32} {xs0 : Int32} (hm : jok C MX11_sounding d cl sl) (k : jW C cl sl Q 30 [jR 41 false, jR k1 b1, jU, jI x3] [jI 0, jI xs0] w) : jW C cl sl Q 29 [jR 41 false, jR k1 b1, jU, jI x3] [jI xs0] w := jr_iconst hm (v := 0) (by decide) dX11_sounding_29 (jr_drop (jle_same (jle_same (jle_same (jle_same jle_nil)))) k)
theorem bk_X11_sounding_30 {C : JC} {d cl sl : Nat} {Q : State → Prop} {w : JW} {k1 : Nat} {b1 : Bool} {x3 : Int32} {xs0 : Int32} {xs1 : Int32} (hm : jok C MX11_sounding d cl sl) (k : jW C cl sl Q 4 [jR 41 false, jR k1 b1, jI (xs1 + xs0), jI (x3 + 1)] [] w) : jW C cl sl Q 30 [jR 41 false, jR k1 b1, jU, jI x3] [jI xs0, jI xs1] w := jr_iadd hm dX11_sounding_30 (jr_istore_n hm (i := 2) rfl (Nat.le_of_ble_eq_true rfl) rfl dX11_sounding_31 (jr_iinc hm (i := 3) (v := x3 + 1) rfl rfl rfl dX11_sounding_32 (jr_goto hm dX11_sounding_35 (by decide) (jr_drop (jle_same (jle_same (jle_same (jle_same jle_nil)))) k))))
theorem bk_X11_sounding_38 {C : JC} {d cl sl : Nat} {w : JW} {x2 : Int32} {P : JV → JW → Prop} (hm : jok C MX11_sounding d cl sl) (hp : P (jI x2) w) : jW C cl sl (jQQ C cl sl P) 38 [jU, jU, jI x2, jU] [] w := jr_iload_n hm (i := 2) rfl rfl dX11_sounding_38 (jr_ireturn hm rfl dX11_sounding_39 hp)
theorem dX11_chiming_0 : decode cX11_chiming 0 = .ok (.iconst 0, 1) := by decide +kernel
theorem dX11_chiming_1 : decode cX11_chiming 1 = .ok (.istore_n 1, 1) := by decide +kernel
theorem dX11_chiming_2 : decode cX11_chiming 2 = .ok (.iconst 0, 1) := by decide +kernel
theorem dX11_chiming_3 : decode cX11_chiming 3 = .ok (.istore_n 2, 1) := by decide +kernel
theorem dX11_chiming_4 : decode cX11_chiming 4 = .ok (.iload_n 2, 1) := by decide +kernel
theorem dX11_chiming_5 : decode cX11_chiming 5 = .ok (.aload_n 0, 1) := by decide +kernel
theorem dX11_chiming_6 : decode cX11_chiming 6 = .ok (.getfield 87, 3) := by decide +kernel
theorem dX11_chiming_9 : decode cX11_chiming 9 = .ok (.getfield 245, 3) := by decide +kernel
theorem dX11_chiming_12 : decode cX11_chiming 12 = .ok (.if_icmp .ge 29, 3) := by decide +kernel
theorem dX11_chiming_15 : decode cX11_chiming 15 = .ok (.iload_n 1, 1) := by decide +kernel
theorem dX11_chiming_16 : decode cX11_chiming 16 = .ok (.aload_n 0, 1) := by decide +kernel
theorem dX11_chiming_17 : decode cX11_chiming 17 = .ok (.aload_n 0, 1) := by decide +kernel
theorem dX11_chiming_18 : decode cX11_chiming 18 = .ok (.getfield 106, 3) := by decide +kernel
theorem dX11_chiming_21 : decode cX11_chiming 21 = .ok (.iload_n 2, 1) := by decide +kernel
theorem dX11_chiming_22 : decode cX11_chiming 22 = .ok (.invokevirtual 319, 3) := by decide +kernel
theorem dX11_chiming_25 : decode cX11_chiming 25 = .ok (.ifCond .eq 7, 3) := by decide +kernel
theorem dX11_chiming_28 : decode cX11_chiming 28 = .ok (.iconst 1, 1) := by decide +kernel
theorem dX11_chiming_29 : decode cX11_chiming 29 = .ok (.goto 4, 3) := by decide +kernel
theorem dX11_chiming_32 : decode cX11_chiming 32 = .ok (.iconst 0, 1) := by decide +kernel
theorem dX11_chiming_33 : decode cX11_chiming 33 = .ok (.iadd, 1) := by decide +kernel
theorem dX11_chiming_34 : decode cX11_chiming 34 = .ok (.istore_n 1, 1) := by decide +kernel
theorem dX11_chiming_35 : decode cX11_chiming 35 = .ok (.iinc 2 1, 3) := by decide +kernel
theorem dX11_chiming_38 : decode cX11_chiming 38 = .ok (.goto (-34), 3) := by decide +kernel
theorem dX11_chiming_41 : decode cX11_chiming 41 = .ok (.iload_n 1, 1) := by decide +kernel
theorem dX11_chiming_42 : decode cX11_chiming 42 = .ok (.ireturn, 1) := by decide +kernel
theorem bk_X11_chiming_0 {C : JC} {d cl sl : Nat} {Q : State → Prop} {w : JW}  (hm : jok C MX11_chiming d cl sl) (k : jW C cl sl Q 4 [jR 41 false, jI 0, jI 0] [] w) : jW C cl sl Q 0 [jR 41 false, jU, jU] [] w := jr_iconst hm (v := 0) (by decide) dX11_chiming_0 (jr_istore_n hm (i := 1) rfl (Nat.le_of_ble_eq_true rfl) rfl dX11_chiming_1 (jr_iconst hm (v := 0) (by decide) dX11_chiming_2 (jr_istore_n hm (i := 2) rfl (Nat.le_of_ble_eq_true rfl) rfl dX11_chiming_3 (jr_drop (jle_same (jle_same (jle_same jle_nil))) k))))
theorem bk_X11_chiming_4 {C : JC} {d cl sl : Nat} {Q : State → Prop} {w : JW} {x1 : Int32} {x2 : Int32} (hm : jok C MX11_chiming d cl sl) (kt : (w.1 53 (w.2.2 41 8) 4) ≤ x2 → jW C cl sl Q 41 [jU, jI x1, jU] [] w) (kf : ¬ (w.1 53 (w.2.2 41 8) 4) ≤ x2 → jW C cl sl Q 15 [jR 41 false, jI x1, jI x2] [] w) : jW C cl sl Q 4 [jR 41 false, jI x1, jI x2] [] w := jr_iload_n hm (i := 2) rfl rfl dX11_chiming_4 (jr_aload_n hm (i := 0) rfl rfl dX11_chiming_5 (fg_X11_87 hm dX11_chiming_6 (fg_X11_245 hm dX11_chiming_9 (jr_icmp_ge hm dX11_chiming_12 (by decide) (fun h => jr_drop (jle_drop (jle_same (jle_drop jle_nil))) (kt h)) (fun h => jr_drop (jle_same (jle_same (jle_same jle_nil))) (kf h))))))
theorem bk_X11_chiming_15 {C : JC} {d cl sl : Nat} {Q : State → Prop} {w : JW} {x1 : Int32} {x2 : Int32} {d2 : Nat} {r : Int32} {w2 : JW} (hm : jok C MX11_chiming d cl sl) (hs : jF MX11_chimes d2 [jR 41 false, jR 51 false, jI x2] w (jI r) w2) (hd2 : d2 + 1 ≤ d) (k : jW C cl sl Q 25 [jR 41 false, jU, jI x2] [jI r, jI x1] w2) : jW C cl sl Q 15 [jR 41 false, jI x1, jI x2] [] w := jr_iload_n hm (i := 1) rfl rfl dX11_chiming_15 (jr_aload_n hm (i := 0) rfl rfl dX11_chiming_16 (jr_aload_n hm (i := 0) rfl rfl dX11_chiming_17 (fg_X11_106 hm dX11_chiming_18 (jr_iload_n hm (i := 2) rfl rfl dX11_chiming_21 (jr_callV (mc := 0) (ms := 0) hm hs hd2 jw_1608 jw_1610 jw_88 jw_125 jw_1611 jn_X11_chimes rfl jo_41 (fun _ _ _ _ _ => ⟨_, rfl⟩) rfl rfl (Nat.le_of_ble_eq_true rfl) rfl dX11_chiming_22 (jkF (jr_drop (jle_same (jle_drop (jle_same jle_nil))) k)))))))
theorem bk_X11_chiming_25 {C : JC} {d cl sl : Nat} {Q : State → Prop} {w : JW} {x2 : Int32} {xs0 : Int32} {xs1 : Int32} (hm : jok C MX11_chiming d cl sl) (kt : xs0 = 0 → jW C cl sl Q 32 [jR 41 false, jU, jI x2] [jI xs1] w) (kf : ¬ xs0 = 0 → jW C cl sl Q 28 [jR 41 false, jU, jI x2] [jI xs1] w) : jW C cl sl Q 25 [jR 41 false, jU, jI x2] [jI xs0, jI xs1] w := jr_if_eq hm dX11_chiming_25 (by decide) (fun h => jr_drop (jle_same (jle_same (jle_same jle_nil))) (kt h)) (fun h => jr_drop (jle_same (jle_same (jle_same jle_nil))) (kf h))
theorem bk_X11_chiming_28 {C : JC} {d cl sl : Nat} {Q : State → Prop} {w : JW} {x2 : Int32} {xs0 : Int32} (hm : jok C MX11_chiming d cl sl) (k : jW C cl sl Q 33 [jR 41 false, jU, jI x2] [jI 1, jI xs0] w) : jW C cl sl Q 28 [jR 41 false, jU, jI x2] [jI xs0] w := jr_iconst hm (v := 1) (by decide) dX11_chiming_28 (jr_goto hm dX11_chiming_29 (by decide) (jr_drop (jle_same (jle_same (jle_same jle_nil))) k))
theorem bk_X11_chiming_32 {C : JC} {d cl sl : Nat} {Q : State → Prop} {w : JW} {x2 : Int32} {xs0 : Int32} (hm : jok C MX11_chiming d cl sl) (k : jW C cl sl Q 33 [jR 41 false, jU, jI x2] [jI 0, jI xs0] w) : jW C cl sl Q 32 [jR 41 false, jU, jI x2] [jI xs0] w := jr_iconst hm (v := 0) (by decide) dX11_chiming_32 (jr_drop (jle_same (jle_same (jle_same jle_nil))) k)
theorem bk_X11_chiming_33 {C : JC} {d cl sl : Nat} {Q : State → Prop} {w : JW} {x2 : Int32} {xs0 : Int32} {xs1 : Int32} (hm : jok C MX11_chiming d cl sl) (k : jW C cl sl Q 4 [jR 41 false, jI (xs1 + xs0), jI (x2 + 1)] [] w) : jW C cl sl Q 33 [jR 41 false, jU, jI x2] [jI xs0, jI xs1] w := jr_iadd hm dX11_chiming_33 (jr_istore_n hm (i := 1) rfl (Nat.le_of_ble_eq_true rfl) rfl dX11_chiming_34 (jr_iinc hm (i := 2) (v := x2 + 1) rfl rfl rfl dX11_chiming_35 (jr_goto hm dX11_chiming_38 (by decide) (jr_drop (jle_same (jle_same (jle_same jle_nil))) k))))
theorem bk_X11_chiming_41 {C : JC} {d cl sl : Nat} {w : JW} {x1 : Int32} {P : JV → JW → Prop} (hm : jok C MX11_chiming d cl sl) (hp : P (jI x1) w) : jW C cl sl (jQQ C cl sl P) 41 [jU, jI x1, jU] [] w := jr_iload_n hm (i := 1) rfl rfl dX11_chiming_41 (jr_ireturn hm rfl dX11_chiming_42 hp)
theorem dX11_silt_0 : decode cX11_silt 0 = .ok (.iconst 0, 1) := by decide +kernel
theorem dX11_silt_1 : decode cX11_silt 1 = .ok (.istore_n 2, 1) := by decide +kernel
theorem dX11_silt_2 : decode cX11_silt 2 = .ok (.iconst 0, 1) := by decide +kernel
theorem dX11_silt_3 : decode cX11_silt 3 = .ok (.istore_n 3, 1) := by decide +kernel
theorem dX11_silt_4 : decode cX11_silt 4 = .ok (.iload_n 3, 1) := by decide +kernel
theorem dX11_silt_5 : decode cX11_silt 5 = .ok (.aload_n 0, 1) := by decide +kernel
theorem dX11_silt_6 : decode cX11_silt 6 = .ok (.getfield 87, 3) := by decide +kernel
theorem dX11_silt_9 : decode cX11_silt 9 = .ok (.getfield 158, 3) := by decide +kernel
theorem dX11_silt_12 : decode cX11_silt 12 = .ok (.if_icmp .ge 18, 3) := by decide +kernel
theorem dX11_silt_15 : decode cX11_silt 15 = .ok (.iload_n 2, 1) := by decide +kernel
theorem dX11_silt_16 : decode cX11_silt 16 = .ok (.aload_n 1, 1) := by decide +kernel
theorem dX11_silt_17 : decode cX11_silt 17 = .ok (.bipush 9, 2) := by decide +kernel
theorem dX11_silt_19 : decode cX11_silt 19 = .ok (.iload_n 3, 1) := by decide +kernel
theorem dX11_silt_20 : decode cX11_silt 20 = .ok (.iadd, 1) := by decide +kernel
theorem dX11_silt_21 : decode cX11_silt 21 = .ok (.iaload, 1) := by decide +kernel
theorem dX11_silt_22 : decode cX11_silt 22 = .ok (.iadd, 1) := by decide +kernel
theorem dX11_silt_23 : decode cX11_silt 23 = .ok (.istore_n 2, 1) := by decide +kernel
theorem dX11_silt_24 : decode cX11_silt 24 = .ok (.iinc 3 1, 3) := by decide +kernel
theorem dX11_silt_27 : decode cX11_silt 27 = .ok (.goto (-23), 3) := by decide +kernel
theorem dX11_silt_30 : decode cX11_silt 30 = .ok (.iload_n 2, 1) := by decide +kernel
theorem dX11_silt_31 : decode cX11_silt 31 = .ok (.ireturn, 1) := by decide +kernel
theorem bk_X11_silt_0 {C : JC} {d cl sl : Nat} {Q : State → Prop} {w : JW} {k1 : Nat} {b1 : Bool} (hm : jok C MX11_silt d cl sl) (k : jW C cl sl Q 4 [jR 41 false, jR k1 b1, jI 0, jI 0] [] w) : jW C cl sl Q 0 [jR 41 false, jR k1 b1, jU, jU] [] w := jr_iconst hm (v := 0) (by decide) dX11_silt_0 (jr_istore_n hm (i := 2) rfl (Nat.le_of_ble_eq_true rfl) rfl dX11_silt_1 (jr_iconst hm (v := 0) (by decide) dX11_silt_2 (jr_istore_n hm (i := 3) rfl (Nat.le_of_ble_eq_true rfl) rfl dX11_silt_3 (jr_drop (jle_same (jle_same (jle_same (jle_same jle_nil)))) k))))
theorem bk_X11_silt_4 {C : JC} {d cl sl : Nat} {Q : State → Prop} {w : JW} {k1 : Nat} {b1 : Bool} {x2 : Int32} {x3 : Int32} (hm : jok C MX11_silt d cl sl) (kt : (w.1 53 (w.2.2 41 8) 1) ≤ x3 → jW C cl sl Q 30 [jU, jU, jI x2, jU] [] w) (kf : ¬ (w.1 53 (w.2.2 41 8) 1) ≤ x3 → jW C cl sl Q 15 [jR 41 false, jR k1 b1, jI x2, jI x3] [] w) : jW C cl sl Q 4 [jR 41 false, jR k1 b1, jI x2, jI x3] [] w := jr_iload_n hm (i := 3) rfl rfl dX11_silt_4 (jr_aload_n hm (i := 0) rfl rfl dX11_silt_5 (fg_X11_87 hm dX11_silt_6 (fg_X11_158 hm dX11_silt_9 (jr_icmp_ge hm dX11_silt_12 (by decide) (fun h => jr_drop (jle_drop (jle_drop (jle_same (jle_drop jle_nil)))) (kt h)) (fun h => jr_drop (jle_same (jle_same (jle_same (jle_same jle_nil)))) (kf h))))))
theorem bk_X11_silt_15 {C : JC} {d cl sl : Nat} {Q : State → Prop} {w : JW} {k1 : Nat} {b1 : Bool} {x2 : Int32} {x3 : Int32} {n1 : Nat} (hm : jok C MX11_silt d cl sl) (hA1 : jIA k1 b1 n1) (h1 : vp_in (9 + x3) n1) (k : jW C cl sl Q 4 [jR 41 false, jR k1 b1, jI (x2 + (w.1 k1 b1 (9 + x3).toNatClampNeg)), jI (x3 + 1)] [] w) : jW C cl sl Q 15 [jR 41 false, jR k1 b1, jI x2, jI x3] [] w := jr_iload_n hm (i := 2) rfl rfl dX11_silt_15 (jr_aload_n hm (i := 1) rfl rfl dX11_silt_16 (jr_bipush hm (v := 9) (by decide) dX11_silt_17 (jr_iload_n hm (i := 3) rfl rfl dX11_silt_19 (jr_iadd hm dX11_silt_20 (jr_iaload hm hA1 h1 dX11_silt_21 (jr_iadd hm dX11_silt_22 (jr_istore_n hm (i := 2) rfl (Nat.le_of_ble_eq_true rfl) rfl dX11_silt_23 (jr_iinc hm (i := 3) (v := x3 + 1) rfl rfl rfl dX11_silt_24 (jr_goto hm dX11_silt_27 (by decide) (jr_drop (jle_same (jle_same (jle_same (jle_same jle_nil)))) k))))))))))
theorem bk_X11_silt_30 {C : JC} {d cl sl : Nat} {w : JW} {x2 : Int32} {P : JV → JW → Prop} (hm : jok C MX11_silt d cl sl) (hp : P (jI x2) w) : jW C cl sl (jQQ C cl sl P) 30 [jU, jU, jI x2, jU] [] w := jr_iload_n hm (i := 2) rfl rfl dX11_silt_30 (jr_ireturn hm rfl dX11_silt_31 hp)
theorem dX11_counted_0 : decode cX11_counted 0 = .ok (.iload_n 1, 1) := by decide +kernel
theorem dX11_counted_1 : decode cX11_counted 1 = .ok (.tableswitch 159 0 12 #[67, 67, 74, 82, 90, 98, 106, 114, 122, 131, 136, 143, 150], 67) := by decide +kernel
theorem dX11_counted_68 : decode cX11_counted 68 = .ok (.aload_n 0, 1) := by decide +kernel
theorem dX11_counted_69 : decode cX11_counted 69 = .ok (.getfield 106, 3) := by decide +kernel
theorem dX11_counted_72 : decode cX11_counted 72 = .ok (.iload_n 1, 1) := by decide +kernel
theorem dX11_counted_73 : decode cX11_counted 73 = .ok (.iaload, 1) := by decide +kernel
theorem dX11_counted_74 : decode cX11_counted 74 = .ok (.ireturn, 1) := by decide +kernel
theorem dX11_counted_75 : decode cX11_counted 75 = .ok (.aload_n 0, 1) := by decide +kernel
theorem dX11_counted_76 : decode cX11_counted 76 = .ok (.getfield 87, 3) := by decide +kernel
theorem dX11_counted_79 : decode cX11_counted 79 = .ok (.getfield 151, 3) := by decide +kernel
theorem dX11_counted_82 : decode cX11_counted 82 = .ok (.ireturn, 1) := by decide +kernel
theorem dX11_counted_83 : decode cX11_counted 83 = .ok (.aload_n 0, 1) := by decide +kernel
theorem dX11_counted_84 : decode cX11_counted 84 = .ok (.getfield 87, 3) := by decide +kernel
theorem dX11_counted_87 : decode cX11_counted 87 = .ok (.getfield 158, 3) := by decide +kernel
theorem dX11_counted_90 : decode cX11_counted 90 = .ok (.ireturn, 1) := by decide +kernel
theorem dX11_counted_91 : decode cX11_counted 91 = .ok (.aload_n 0, 1) := by decide +kernel
theorem dX11_counted_92 : decode cX11_counted 92 = .ok (.getfield 87, 3) := by decide +kernel
theorem dX11_counted_95 : decode cX11_counted 95 = .ok (.getfield 245, 3) := by decide +kernel
theorem dX11_counted_98 : decode cX11_counted 98 = .ok (.ireturn, 1) := by decide +kernel
theorem dX11_counted_99 : decode cX11_counted 99 = .ok (.aload_n 0, 1) := by decide +kernel
theorem dX11_counted_100 : decode cX11_counted 100 = .ok (.getfield 87, 3) := by decide +kernel
theorem dX11_counted_103 : decode cX11_counted 103 = .ok (.getfield 233, 3) := by decide +kernel
theorem dX11_counted_106 : decode cX11_counted 106 = .ok (.ireturn, 1) := by decide +kernel
theorem dX11_counted_107 : decode cX11_counted 107 = .ok (.aload_n 0, 1) := by decide +kernel
theorem dX11_counted_108 : decode cX11_counted 108 = .ok (.getfield 87, 3) := by decide +kernel
theorem dX11_counted_111 : decode cX11_counted 111 = .ok (.getfield 239, 3) := by decide +kernel
theorem dX11_counted_114 : decode cX11_counted 114 = .ok (.ireturn, 1) := by decide +kernel
theorem dX11_counted_115 : decode cX11_counted 115 = .ok (.aload_n 0, 1) := by decide +kernel
theorem dX11_counted_116 : decode cX11_counted 116 = .ok (.getfield 87, 3) := by decide +kernel
theorem dX11_counted_119 : decode cX11_counted 119 = .ok (.getfield 260, 3) := by decide +kernel
theorem dX11_counted_122 : decode cX11_counted 122 = .ok (.ireturn, 1) := by decide +kernel
theorem dX11_counted_123 : decode cX11_counted 123 = .ok (.aload_n 0, 1) := by decide +kernel
theorem dX11_counted_124 : decode cX11_counted 124 = .ok (.aload_n 0, 1) := by decide +kernel
theorem dX11_counted_125 : decode cX11_counted 125 = .ok (.getfield 106, 3) := by decide +kernel
theorem dX11_counted_128 : decode cX11_counted 128 = .ok (.invokevirtual 345, 3) := by decide +kernel
theorem dX11_counted_131 : decode cX11_counted 131 = .ok (.ireturn, 1) := by decide +kernel
theorem dX11_counted_132 : decode cX11_counted 132 = .ok (.aload_n 0, 1) := by decide +kernel
theorem dX11_counted_133 : decode cX11_counted 133 = .ok (.invokevirtual 349, 3) := by decide +kernel
theorem dX11_counted_136 : decode cX11_counted 136 = .ok (.ireturn, 1) := by decide +kernel
theorem dX11_counted_137 : decode cX11_counted 137 = .ok (.aload_n 0, 1) := by decide +kernel
theorem dX11_counted_138 : decode cX11_counted 138 = .ok (.getfield 106, 3) := by decide +kernel
theorem dX11_counted_141 : decode cX11_counted 141 = .ok (.iconst 2, 1) := by decide +kernel
theorem dX11_counted_142 : decode cX11_counted 142 = .ok (.iaload, 1) := by decide +kernel
theorem dX11_counted_143 : decode cX11_counted 143 = .ok (.ireturn, 1) := by decide +kernel
theorem dX11_counted_144 : decode cX11_counted 144 = .ok (.aload_n 0, 1) := by decide +kernel
theorem dX11_counted_145 : decode cX11_counted 145 = .ok (.getfield 106, 3) := by decide +kernel
theorem dX11_counted_148 : decode cX11_counted 148 = .ok (.iconst 3, 1) := by decide +kernel
theorem dX11_counted_149 : decode cX11_counted 149 = .ok (.iaload, 1) := by decide +kernel
theorem dX11_counted_150 : decode cX11_counted 150 = .ok (.ireturn, 1) := by decide +kernel
theorem dX11_counted_151 : decode cX11_counted 151 = .ok (.aload_n 0, 1) := by decide +kernel
theorem dX11_counted_152 : decode cX11_counted 152 = .ok (.aload_n 0, 1) := by decide +kernel
theorem dX11_counted_153 : decode cX11_counted 153 = .ok (.getfield 106, 3) := by decide +kernel
theorem dX11_counted_156 : decode cX11_counted 156 = .ok (.invokevirtual 352, 3) := by decide +kernel
theorem dX11_counted_159 : decode cX11_counted 159 = .ok (.ireturn, 1) := by decide +kernel
theorem dX11_counted_160 : decode cX11_counted 160 = .ok (.aload_n 0, 1) := by decide +kernel
theorem dX11_counted_161 : decode cX11_counted 161 = .ok (.getfield 7, 3) := by decide +kernel
theorem dX11_counted_164 : decode cX11_counted 164 = .ok (.ireturn, 1) := by decide +kernel
theorem bk_X11_counted_0 {C : JC} {d cl sl : Nat} {Q : State → Prop} {w : JW} {x1 : Int32} (hm : jok C MX11_counted d cl sl) (k0 : x1 = 0 → jW C cl sl Q 68 [jR 41 false, jI x1] [] w) (k1 : x1 = 1 → jW C cl sl Q 68 [jR 41 false, jI x1] [] w) (k2 : x1 = 2 → jW C cl sl Q 75 [jR 41 false, jU] [] w) (k3 : x1 = 3 → jW C cl sl Q 83 [jR 41 false, jU] [] w) (k4 : x1 = 4 → jW C cl sl Q 91 [jR 41 false, jU] [] w) (k5 : x1 = 5 → jW C cl sl Q 99 [jR 41 false, jU] [] w) (k6 : x1 = 6 → jW C cl sl Q 107 [jR 41 false, jU] [] w) (k7 : x1 = 7 → jW C cl sl Q 115 [jR 41 false, jU] [] w) (k8 : x1 = 8 → jW C cl sl Q 123 [jR 41 false, jU] [] w) (k9 : x1 = 9 → jW C cl sl Q 132 [jR 41 false, jU] [] w) (k10 : x1 = 10 → jW C cl sl Q 137 [jR 41 false, jU] [] w) (k11 : x1 = 11 → jW C cl sl Q 144 [jR 41 false, jU] [] w) (k12 : x1 = 12 → jW C cl sl Q 151 [jR 41 false, jU] [] w) (kd : ¬ x1 = 0 → ¬ x1 = 1 → ¬ x1 = 2 → ¬ x1 = 3 → ¬ x1 = 4 → ¬ x1 = 5 → ¬ x1 = 6 → ¬ x1 = 7 → ¬ x1 = 8 → ¬ x1 = 9 → ¬ x1 = 10 → ¬ x1 = 11 → ¬ x1 = 12 → jW C cl sl Q 160 [jR 41 false, jU] [] w) : jW C cl sl Q 0 [jR 41 false, jI x1] [] w := by
  by_cases e0 : x1 = 0
  · exact jr_iload_n hm (i := 1) rfl rfl dX11_counted_0 (jr_tab_in hm dX11_counted_1 (by rw [e0]; decide) (by rw [e0]; decide) (off := 67) (by rw [e0]; rfl) (by decide) (jr_drop (jle_same (jle_same jle_nil)) (k0 e0)))
  by_cases e1 : x1 = 1
  · exact jr_iload_n hm (i := 1) rfl rfl dX11_counted_0 (jr_tab_in hm dX11_counted_1 (by rw [e1]; decide) (by rw [e1]; decide) (off := 67) (by rw [e1]; rfl) (by decide) (jr_drop (jle_same (jle_same jle_nil)) (k1 e1)))
  by_cases e2 : x1 = 2
  · exact jr_iload_n hm (i := 1) rfl rfl dX11_counted_0 (jr_tab_in hm dX11_counted_1 (by rw [e2]; decide) (by rw [e2]; decide) (off := 74) (by rw [e2]; rfl) (by decide) (jr_drop (jle_same (jle_drop jle_nil)) (k2 e2)))
  by_cases e3 : x1 = 3
  · exact jr_iload_n hm (i := 1) rfl rfl dX11_counted_0 (jr_tab_in hm dX11_counted_1 (by rw [e3]; decide) (by rw [e3]; decide) (off := 82) (by rw [e3]; rfl) (by decide) (jr_drop (jle_same (jle_drop jle_nil)) (k3 e3)))
  by_cases e4 : x1 = 4
  · exact jr_iload_n hm (i := 1) rfl rfl dX11_counted_0 (jr_tab_in hm dX11_counted_1 (by rw [e4]; decide) (by rw [e4]; decide) (off := 90) (by rw [e4]; rfl) (by decide) (jr_drop (jle_same (jle_drop jle_nil)) (k4 e4)))
  by_cases e5 : x1 = 5
  · exact jr_iload_n hm (i := 1) rfl rfl dX11_counted_0 (jr_tab_in hm dX11_counted_1 (by rw [e5]; decide) (by rw [e5]; decide) (off := 98) (by rw [e5]; rfl) (by decide) (jr_drop (jle_same (jle_drop jle_nil)) (k5 e5)))
  by_cases e6 : x1 = 6
  · exact jr_iload_n hm (i := 1) rfl rfl dX11_counted_0 (jr_tab_in hm dX11_counted_1 (by rw [e6]; decide) (by rw [e6]; decide) (off := 106) (by rw [e6]; rfl) (by decide) (jr_drop (jle_same (jle_drop jle_nil)) (k6 e6)))
  by_cases e7 : x1 = 7
  · exact jr_iload_n hm (i := 1) rfl rfl dX11_counted_0 (jr_tab_in hm dX11_counted_1 (by rw [e7]; decide) (by rw [e7]; decide) (off := 114) (by rw [e7]; rfl) (by decide) (jr_drop (jle_same (jle_drop jle_nil)) (k7 e7)))
  by_cases e8 : x1 = 8
  · exact jr_iload_n hm (i := 1) rfl rfl dX11_counted_0 (jr_tab_in hm dX11_counted_1 (by rw [e8]; decide) (by rw [e8]; decide) (off := 122) (by rw [e8]; rfl) (by decide) (jr_drop (jle_same (jle_drop jle_nil)) (k8 e8)))
  by_cases e9 : x1 = 9
  · exact jr_iload_n hm (i := 1) rfl rfl dX11_counted_0 (jr_tab_in hm dX11_counted_1 (by rw [e9]; decide) (by rw [e9]; decide) (off := 131) (by rw [e9]; rfl) (by decide) (jr_drop (jle_same (jle_drop jle_nil)) (k9 e9)))
  by_cases e10 : x1 = 10
  · exact jr_iload_n hm (i := 1) rfl rfl dX11_counted_0 (jr_tab_in hm dX11_counted_1 (by rw [e10]; decide) (by rw [e10]; decide) (off := 136) (by rw [e10]; rfl) (by decide) (jr_drop (jle_same (jle_drop jle_nil)) (k10 e10)))
  by_cases e11 : x1 = 11
  · exact jr_iload_n hm (i := 1) rfl rfl dX11_counted_0 (jr_tab_in hm dX11_counted_1 (by rw [e11]; decide) (by rw [e11]; decide) (off := 143) (by rw [e11]; rfl) (by decide) (jr_drop (jle_same (jle_drop jle_nil)) (k11 e11)))
  by_cases e12 : x1 = 12
  · exact jr_iload_n hm (i := 1) rfl rfl dX11_counted_0 (jr_tab_in hm dX11_counted_1 (by rw [e12]; decide) (by rw [e12]; decide) (off := 150) (by rw [e12]; rfl) (by decide) (jr_drop (jle_same (jle_drop jle_nil)) (k12 e12)))
  have t0 : ¬ (x1).toInt = 0 := fun e => e0 (Int32.toInt_inj.mp (e.trans (by decide)))
  have t1 : ¬ (x1).toInt = 1 := fun e => e1 (Int32.toInt_inj.mp (e.trans (by decide)))
  have t2 : ¬ (x1).toInt = 2 := fun e => e2 (Int32.toInt_inj.mp (e.trans (by decide)))
  have t3 : ¬ (x1).toInt = 3 := fun e => e3 (Int32.toInt_inj.mp (e.trans (by decide)))
  have t4 : ¬ (x1).toInt = 4 := fun e => e4 (Int32.toInt_inj.mp (e.trans (by decide)))
  have t5 : ¬ (x1).toInt = 5 := fun e => e5 (Int32.toInt_inj.mp (e.trans (by decide)))
  have t6 : ¬ (x1).toInt = 6 := fun e => e6 (Int32.toInt_inj.mp (e.trans (by decide)))
  have t7 : ¬ (x1).toInt = 7 := fun e => e7 (Int32.toInt_inj.mp (e.trans (by decide)))
  have t8 : ¬ (x1).toInt = 8 := fun e => e8 (Int32.toInt_inj.mp (e.trans (by decide)))
  have t9 : ¬ (x1).toInt = 9 := fun e => e9 (Int32.toInt_inj.mp (e.trans (by decide)))
  have t10 : ¬ (x1).toInt = 10 := fun e => e10 (Int32.toInt_inj.mp (e.trans (by decide)))
  have t11 : ¬ (x1).toInt = 11 := fun e => e11 (Int32.toInt_inj.mp (e.trans (by decide)))
  have t12 : ¬ (x1).toInt = 12 := fun e => e12 (Int32.toInt_inj.mp (e.trans (by decide)))
  exact jr_iload_n hm (i := 1) rfl rfl dX11_counted_0 (jr_tab_out hm dX11_counted_1 (by omega) (by decide) (jr_drop (jle_same (jle_drop jle_nil)) (kd e0 e1 e2 e3 e4 e5 e6 e7 e8 e9 e10 e11 e12)))
theorem bk_X11_counted_68 {C : JC} {d cl sl : Nat} {w : JW} {x1 : Int32} {P : JV → JW → Prop} (hm : jok C MX11_counted d cl sl) (h1 : vp_in x1 51) (hp : P (jI (w.1 51 false x1.toNatClampNeg)) w) : jW C cl sl (jQQ C cl sl P) 68 [jR 41 false, jI x1] [] w := jr_aload_n hm (i := 0) rfl rfl dX11_counted_68 (fg_X11_106 hm dX11_counted_69 (jr_iload_n hm (i := 1) rfl rfl dX11_counted_72 (jr_iaload hm ja_51 h1 dX11_counted_73 (jr_ireturn hm rfl dX11_counted_74 hp))))
theorem bk_X11_counted_75 {C : JC} {d cl sl : Nat} {w : JW} {P : JV → JW → Prop} (hm : jok C MX11_counted d cl sl) (hp : P (jI (w.1 53 (w.2.2 41 8) 0)) w) : jW C cl sl (jQQ C cl sl P) 75 [jR 41 false, jU] [] w := jr_aload_n hm (i := 0) rfl rfl dX11_counted_75 (fg_X11_87 hm dX11_counted_76 (fg_X11_151 hm dX11_counted_79 (jr_ireturn hm rfl dX11_counted_82 hp)))
theorem bk_X11_counted_83 {C : JC} {d cl sl : Nat} {w : JW} {P : JV → JW → Prop} (hm : jok C MX11_counted d cl sl) (hp : P (jI (w.1 53 (w.2.2 41 8) 1)) w) : jW C cl sl (jQQ C cl sl P) 83 [jR 41 false, jU] [] w := jr_aload_n hm (i := 0) rfl rfl dX11_counted_83 (fg_X11_87 hm dX11_counted_84 (fg_X11_158 hm dX11_counted_87 (jr_ireturn hm rfl dX11_counted_90 hp)))
theorem bk_X11_counted_91 {C : JC} {d cl sl : Nat} {w : JW} {P : JV → JW → Prop} (hm : jok C MX11_counted d cl sl) (hp : P (jI (w.1 53 (w.2.2 41 8) 4)) w) : jW C cl sl (jQQ C cl sl P) 91 [jR 41 false, jU] [] w := jr_aload_n hm (i := 0) rfl rfl dX11_counted_91 (fg_X11_87 hm dX11_counted_92 (fg_X11_245 hm dX11_counted_95 (jr_ireturn hm rfl dX11_counted_98 hp)))
theorem bk_X11_counted_99 {C : JC} {d cl sl : Nat} {w : JW} {P : JV → JW → Prop} (hm : jok C MX11_counted d cl sl) (hp : P (jI (w.1 53 (w.2.2 41 8) 2)) w) : jW C cl sl (jQQ C cl sl P) 99 [jR 41 false, jU] [] w := jr_aload_n hm (i := 0) rfl rfl dX11_counted_99 (fg_X11_87 hm dX11_counted_100 (fg_X11_233 hm dX11_counted_103 (jr_ireturn hm rfl dX11_counted_106 hp)))
theorem bk_X11_counted_107 {C : JC} {d cl sl : Nat} {w : JW} {P : JV → JW → Prop} (hm : jok C MX11_counted d cl sl) (hp : P (jI (w.1 53 (w.2.2 41 8) 3)) w) : jW C cl sl (jQQ C cl sl P) 107 [jR 41 false, jU] [] w := jr_aload_n hm (i := 0) rfl rfl dX11_counted_107 (fg_X11_87 hm dX11_counted_108 (fg_X11_239 hm dX11_counted_111 (jr_ireturn hm rfl dX11_counted_114 hp)))
theorem bk_X11_counted_115 {C : JC} {d cl sl : Nat} {w : JW} {P : JV → JW → Prop} (hm : jok C MX11_counted d cl sl) (hp : P (jI (w.1 53 (w.2.2 41 8) 5)) w) : jW C cl sl (jQQ C cl sl P) 115 [jR 41 false, jU] [] w := jr_aload_n hm (i := 0) rfl rfl dX11_counted_115 (fg_X11_87 hm dX11_counted_116 (fg_X11_260 hm dX11_counted_119 (jr_ireturn hm rfl dX11_counted_122 hp)))
theorem bk_X11_counted_123 {C : JC} {d cl sl : Nat} {Q : State → Prop} {w : JW} {d2 : Nat} {r : Int32} {w2 : JW} (hm : jok C MX11_counted d cl sl) (hs : jF MX11_sounding d2 [jR 41 false, jR 51 false] w (jI r) w2) (hd2 : d2 + 1 ≤ d) (k : jW C cl sl Q 131 [jU, jU] [jI r] w2) : jW C cl sl Q 123 [jR 41 false, jU] [] w := jr_aload_n hm (i := 0) rfl rfl dX11_counted_123 (jr_aload_n hm (i := 0) rfl rfl dX11_counted_124 (fg_X11_106 hm dX11_counted_125 (jr_callV (mc := 0) (ms := 0) hm hs hd2 jw_1600 jw_1602 jw_86 jw_125 jw_1603 jn_X11_sounding rfl jo_41 (fun _ _ _ _ _ => ⟨_, rfl⟩) rfl rfl (Nat.le_of_ble_eq_true rfl) rfl dX11_counted_128 (jkF (jr_drop (jle_drop (jle_same jle_nil)) k)))))
theorem bk_X11_counted_131 {C : JC} {d cl sl : Nat} {w : JW} {xs0 : Int32} {P : JV → JW → Prop} (hm : jok C MX11_counted d cl sl) (hp : P (jI xs0) w) : jW C cl sl (jQQ C cl sl P) 131 [jU, jU] [jI xs0] w := jr_ireturn hm rfl dX11_counted_131 hp
theorem bk_X11_counted_132 {C : JC} {d cl sl : Nat} {Q : State → Prop} {w : JW} {d2 : Nat} {r : Int32} {w2 : JW} (hm : jok C MX11_counted d cl sl) (hs : jF MX11_chiming d2 [jR 41 false] w (jI r) w2) (hd2 : d2 + 1 ≤ d) (k : jW C cl sl Q 136 [jU, jU] [jI r] w2) : jW C cl sl Q 132 [jR 41 false, jU] [] w := jr_aload_n hm (i := 0) rfl rfl dX11_counted_132 (jr_callV (mc := 0) (ms := 0) hm hs hd2 jw_1604 jw_1606 jw_87 jw_125 jw_1607 jn_X11_chiming rfl jo_41 (fun _ _ _ _ _ => ⟨_, rfl⟩) rfl rfl (Nat.le_of_ble_eq_true rfl) rfl dX11_counted_133 (jkF (jr_drop (jle_drop (jle_same jle_nil)) k)))
theorem bk_X11_counted_136 {C : JC} {d cl sl : Nat} {w : JW} {xs0 : Int32} {P : JV → JW → Prop} (hm : jok C MX11_counted d cl sl) (hp : P (jI xs0) w) : jW C cl sl (jQQ C cl sl P) 136 [jU, jU] [jI xs0] w := jr_ireturn hm rfl dX11_counted_136 hp
theorem bk_X11_counted_137 {C : JC} {d cl sl : Nat} {w : JW} {P : JV → JW → Prop} (hm : jok C MX11_counted d cl sl) (h1 : vp_in 2 51) (hp : P (jI (w.1 51 false 2)) w) : jW C cl sl (jQQ C cl sl P) 137 [jR 41 false, jU] [] w := jr_aload_n hm (i := 0) rfl rfl dX11_counted_137 (fg_X11_106 hm dX11_counted_138 (jr_iconst hm (v := 2) (by decide) dX11_counted_141 (jr_iaload hm ja_51 h1 dX11_counted_142 (jr_ireturn hm rfl dX11_counted_143 hp))))
theorem bk_X11_counted_144 {C : JC} {d cl sl : Nat} {w : JW} {P : JV → JW → Prop} (hm : jok C MX11_counted d cl sl) (h1 : vp_in 3 51) (hp : P (jI (w.1 51 false 3)) w) : jW C cl sl (jQQ C cl sl P) 144 [jR 41 false, jU] [] w := jr_aload_n hm (i := 0) rfl rfl dX11_counted_144 (fg_X11_106 hm dX11_counted_145 (jr_iconst hm (v := 3) (by decide) dX11_counted_148 (jr_iaload hm ja_51 h1 dX11_counted_149 (jr_ireturn hm rfl dX11_counted_150 hp))))
theorem bk_X11_counted_151 {C : JC} {d cl sl : Nat} {Q : State → Prop} {w : JW} {d2 : Nat} {r : Int32} {w2 : JW} (hm : jok C MX11_counted d cl sl) (hs : jF MX11_silt d2 [jR 41 false, jR 51 false] w (jI r) w2) (hd2 : d2 + 1 ≤ d) (k : jW C cl sl Q 159 [jU, jU] [jI r] w2) : jW C cl sl Q 151 [jR 41 false, jU] [] w := jr_aload_n hm (i := 0) rfl rfl dX11_counted_151 (jr_aload_n hm (i := 0) rfl rfl dX11_counted_152 (fg_X11_106 hm dX11_counted_153 (jr_callV (mc := 0) (ms := 0) hm hs hd2 jw_1612 jw_1614 jw_89 jw_125 jw_1615 jn_X11_silt rfl jo_41 (fun _ _ _ _ _ => ⟨_, rfl⟩) rfl rfl (Nat.le_of_ble_eq_true rfl) rfl dX11_counted_156 (jkF (jr_drop (jle_drop (jle_same jle_nil)) k)))))
theorem bk_X11_counted_159 {C : JC} {d cl sl : Nat} {w : JW} {xs0 : Int32} {P : JV → JW → Prop} (hm : jok C MX11_counted d cl sl) (hp : P (jI xs0) w) : jW C cl sl (jQQ C cl sl P) 159 [jU, jU] [jI xs0] w := jr_ireturn hm rfl dX11_counted_159 hp
theorem bk_X11_counted_160 {C : JC} {d cl sl : Nat} {w : JW} {P : JV → JW → Prop} (hm : jok C MX11_counted d cl sl) (hp : P (jI (w.1 41 false 2)) w) : jW C cl sl (jQQ C cl sl P) 160 [jR 41 false, jU] [] w := jr_aload_n hm (i := 0) rfl rfl dX11_counted_160 (fg_X11_7 hm dX11_counted_161 (jr_ireturn hm rfl dX11_counted_164 hp))
theorem dX11_count_0 : decode cX11_count 0 = .ok (.aload_n 0, 1) := by decide +kernel
theorem dX11_count_1 : decode cX11_count 1 = .ok (.iconst 0, 1) := by decide +kernel
theorem dX11_count_2 : decode cX11_count 2 = .ok (.putfield 1, 3) := by decide +kernel
theorem dX11_count_5 : decode cX11_count 5 = .ok (.iload_n 1, 1) := by decide +kernel
theorem dX11_count_6 : decode cX11_count 6 = .ok (.iconst 0, 1) := by decide +kernel
theorem dX11_count_7 : decode cX11_count 7 = .ok (.bipush 13, 2) := by decide +kernel
theorem dX11_count_9 : decode cX11_count 9 = .ok (.invokestatic 22, 3) := by decide +kernel
theorem dX11_count_12 : decode cX11_count 12 = .ok (.ifCond .eq 11, 3) := by decide +kernel
theorem dX11_count_15 : decode cX11_count 15 = .ok (.aload_n 0, 1) := by decide +kernel
theorem dX11_count_16 : decode cX11_count 16 = .ok (.iload_n 1, 1) := by decide +kernel
theorem dX11_count_17 : decode cX11_count 17 = .ok (.invokevirtual 355, 3) := by decide +kernel
theorem dX11_count_20 : decode cX11_count 20 = .ok (.goto 8, 3) := by decide +kernel
theorem dX11_count_23 : decode cX11_count 23 = .ok (.aload_n 0, 1) := by decide +kernel
theorem dX11_count_24 : decode cX11_count 24 = .ok (.iconst 1, 1) := by decide +kernel
theorem dX11_count_25 : decode cX11_count 25 = .ok (.invokevirtual 10, 3) := by decide +kernel
theorem dX11_count_28 : decode cX11_count 28 = .ok (.ireturn, 1) := by decide +kernel
theorem bk_X11_count_0 {C : JC} {d cl sl : Nat} {Q : State → Prop} {w : JW} {x1 : Int32} {d2 : Nat} {r : Int32} {w2 : JW} (hm : jok C MX11_count d cl sl) (hs : jF MX11_isIn d2 [jI x1, jI 0, jI 13] (jset w 41 false 0 0) (jI r) w2) (hd2 : d2 + 1 ≤ d) (k : jW C cl sl Q 12 [jR 41 false, jI x1] [jI r] w2) : jW C cl sl Q 0 [jR 41 false, jI x1] [] w := jr_aload_n hm (i := 0) rfl rfl dX11_count_0 (jr_iconst hm (v := 0) (by decide) dX11_count_1 (fp_X11_1 hm dX11_count_2 (jr_iload_n hm (i := 1) rfl rfl dX11_count_5 (jr_iconst hm (v := 0) (by decide) dX11_count_6 (jr_bipush hm (v := 13) (by decide) dX11_count_7 (jr_callS (mc := 0) (ms := 0) hm hs hd2 jw_1274 jw_1275 jw_125 jw_1276 jn_X11_isIn rfl rfl (Nat.le_of_ble_eq_true rfl) rfl dX11_count_9 (jkF (jr_drop (jle_same (jle_same jle_nil)) k))))))))
theorem bk_X11_count_12 {C : JC} {d cl sl : Nat} {Q : State → Prop} {w : JW} {x1 : Int32} {xs0 : Int32} (hm : jok C MX11_count d cl sl) (kt : xs0 = 0 → jW C cl sl Q 23 [jR 41 false, jU] [] w) (kf : ¬ xs0 = 0 → jW C cl sl Q 15 [jR 41 false, jI x1] [] w) : jW C cl sl Q 12 [jR 41 false, jI x1] [jI xs0] w := jr_if_eq hm dX11_count_12 (by decide) (fun h => jr_drop (jle_same (jle_drop jle_nil)) (kt h)) (fun h => jr_drop (jle_same (jle_same jle_nil)) (kf h))
theorem bk_X11_count_15 {C : JC} {d cl sl : Nat} {Q : State → Prop} {w : JW} {x1 : Int32} {d2 : Nat} {r : Int32} {w2 : JW} (hm : jok C MX11_count d cl sl) (hs : jF MX11_counted d2 [jR 41 false, jI x1] w (jI r) w2) (hd2 : d2 + 1 ≤ d) (k : jW C cl sl Q 20 [jU, jU] [jI r] w2) : jW C cl sl Q 15 [jR 41 false, jI x1] [] w := jr_aload_n hm (i := 0) rfl rfl dX11_count_15 (jr_iload_n hm (i := 1) rfl rfl dX11_count_16 (jr_callV (mc := 0) (ms := 0) hm hs hd2 jw_1596 jw_1598 jw_85 jw_125 jw_1599 jn_X11_counted rfl jo_41 (fun _ _ _ _ _ => ⟨_, rfl⟩) rfl rfl (Nat.le_of_ble_eq_true rfl) rfl dX11_count_17 (jkF (jr_drop (jle_drop (jle_drop jle_nil)) k))))
theorem bk_X11_count_20 {C : JC} {d cl sl : Nat} {Q : State → Prop} {w : JW} {xs0 : Int32} (hm : jok C MX11_count d cl sl) (k : jW C cl sl Q 28 [jU, jU] [jI xs0] w) : jW C cl sl Q 20 [jU, jU] [jI xs0] w := jr_goto hm dX11_count_20 (by decide) (jr_drop (jle_same (jle_same jle_nil)) k)
theorem bk_X11_count_23 {C : JC} {d cl sl : Nat} {Q : State → Prop} {w : JW} {d2 : Nat} {r : Int32} {w2 : JW} (hm : jok C MX11_count d cl sl) (hs : jF MX11_no d2 [jR 41 false, jI 1] w (jI r) w2) (hd2 : d2 + 1 ≤ d) (k : jW C cl sl Q 28 [jU, jU] [jI r] w2) : jW C cl sl Q 23 [jR 41 false, jU] [] w := jr_aload_n hm (i := 0) rfl rfl dX11_count_23 (jr_iconst hm (v := 1) (by decide) dX11_count_24 (jr_callV (mc := 0) (ms := 0) hm hs hd2 jw_1261 jw_1263 jw_46 jw_125 jw_1265 jn_X11_no rfl jo_41 (fun _ _ _ _ _ => ⟨_, rfl⟩) rfl rfl (Nat.le_of_ble_eq_true rfl) rfl dX11_count_25 (jkF (jr_drop (jle_drop (jle_same jle_nil)) k))))
theorem bk_X11_count_28 {C : JC} {d cl sl : Nat} {w : JW} {xs0 : Int32} {P : JV → JW → Prop} (hm : jok C MX11_count d cl sl) (hp : P (jI xs0) w) : jW C cl sl (jQQ C cl sl P) 28 [jU, jU] [jI xs0] w := jr_ireturn hm rfl dX11_count_28 hp
theorem dX11_isCave_0 : decode cX11_isCave 0 = .ok (.iload_n 1, 1) := by decide +kernel
theorem dX11_isCave_1 : decode cX11_isCave 1 = .ok (.iconst 0, 1) := by decide +kernel
theorem dX11_isCave_2 : decode cX11_isCave 2 = .ok (.aload_n 0, 1) := by decide +kernel
theorem dX11_isCave_3 : decode cX11_isCave 3 = .ok (.getfield 87, 3) := by decide +kernel
theorem dX11_isCave_6 : decode cX11_isCave 6 = .ok (.getfield 151, 3) := by decide +kernel
theorem dX11_isCave_9 : decode cX11_isCave 9 = .ok (.iconst 1, 1) := by decide +kernel
theorem dX11_isCave_10 : decode cX11_isCave 10 = .ok (.isub, 1) := by decide +kernel
theorem dX11_isCave_11 : decode cX11_isCave 11 = .ok (.invokestatic 22, 3) := by decide +kernel
theorem dX11_isCave_14 : decode cX11_isCave 14 = .ok (.ireturn, 1) := by decide +kernel
theorem bk_X11_isCave_0 {C : JC} {d cl sl : Nat} {Q : State → Prop} {w : JW} {x1 : Int32} {d2 : Nat} {r : Int32} {w2 : JW} (hm : jok C MX11_isCave d cl sl) (hs : jF MX11_isIn d2 [jI x1, jI 0, jI ((w.1 53 (w.2.2 41 8) 0) - 1)] w (jI r) w2) (hd2 : d2 + 1 ≤ d) (k : jW C cl sl Q 14 [jU, jU] [jI r] w2) : jW C cl sl Q 0 [jR 41 false, jI x1] [] w := jr_iload_n hm (i := 1) rfl rfl dX11_isCave_0 (jr_iconst hm (v := 0) (by decide) dX11_isCave_1 (jr_aload_n hm (i := 0) rfl rfl dX11_isCave_2 (fg_X11_87 hm dX11_isCave_3 (fg_X11_151 hm dX11_isCave_6 (jr_iconst hm (v := 1) (by decide) dX11_isCave_9 (jr_isub hm dX11_isCave_10 (jr_callS (mc := 0) (ms := 0) hm hs hd2 jw_1274 jw_1275 jw_125 jw_1276 jn_X11_isIn rfl rfl (Nat.le_of_ble_eq_true rfl) rfl dX11_isCave_11 (jkF (jr_drop (jle_drop (jle_drop jle_nil)) k)))))))))
theorem bk_X11_isCave_14 {C : JC} {d cl sl : Nat} {w : JW} {xs0 : Int32} {P : JV → JW → Prop} (hm : jok C MX11_isCave d cl sl) (hz : narrow .boolean (.int xs0) = .int xs0) (hp : P (jI xs0) w) : jW C cl sl (jQQ C cl sl P) 14 [jU, jU] [jI xs0] w := jr_zreturn hm rfl hz dX11_isCave_14 hp
theorem dX11_isPipe_0 : decode cX11_isPipe 0 = .ok (.iload_n 1, 1) := by decide +kernel
theorem dX11_isPipe_1 : decode cX11_isPipe 1 = .ok (.iconst 0, 1) := by decide +kernel
theorem dX11_isPipe_2 : decode cX11_isPipe 2 = .ok (.aload_n 0, 1) := by decide +kernel
theorem dX11_isPipe_3 : decode cX11_isPipe 3 = .ok (.getfield 87, 3) := by decide +kernel
theorem dX11_isPipe_6 : decode cX11_isPipe 6 = .ok (.getfield 158, 3) := by decide +kernel
theorem dX11_isPipe_9 : decode cX11_isPipe 9 = .ok (.iconst 1, 1) := by decide +kernel
theorem dX11_isPipe_10 : decode cX11_isPipe 10 = .ok (.isub, 1) := by decide +kernel
theorem dX11_isPipe_11 : decode cX11_isPipe 11 = .ok (.invokestatic 22, 3) := by decide +kernel
theorem dX11_isPipe_14 : decode cX11_isPipe 14 = .ok (.ireturn, 1) := by decide +kernel
theorem bk_X11_isPipe_0 {C : JC} {d cl sl : Nat} {Q : State → Prop} {w : JW} {x1 : Int32} {d2 : Nat} {r : Int32} {w2 : JW} (hm : jok C MX11_isPipe d cl sl) (hs : jF MX11_isIn d2 [jI x1, jI 0, jI ((w.1 53 (w.2.2 41 8) 1) - 1)] w (jI r) w2) (hd2 : d2 + 1 ≤ d) (k : jW C cl sl Q 14 [jU, jU] [jI r] w2) : jW C cl sl Q 0 [jR 41 false, jI x1] [] w := jr_iload_n hm (i := 1) rfl rfl dX11_isPipe_0 (jr_iconst hm (v := 0) (by decide) dX11_isPipe_1 (jr_aload_n hm (i := 0) rfl rfl dX11_isPipe_2 (fg_X11_87 hm dX11_isPipe_3 (fg_X11_158 hm dX11_isPipe_6 (jr_iconst hm (v := 1) (by decide) dX11_isPipe_9 (jr_isub hm dX11_isPipe_10 (jr_callS (mc := 0) (ms := 0) hm hs hd2 jw_1274 jw_1275 jw_125 jw_1276 jn_X11_isIn rfl rfl (Nat.le_of_ble_eq_true rfl) rfl dX11_isPipe_11 (jkF (jr_drop (jle_drop (jle_drop jle_nil)) k)))))))))
theorem bk_X11_isPipe_14 {C : JC} {d cl sl : Nat} {w : JW} {xs0 : Int32} {P : JV → JW → Prop} (hm : jok C MX11_isPipe d cl sl) (hz : narrow .boolean (.int xs0) = .int xs0) (hp : P (jI xs0) w) : jW C cl sl (jQQ C cl sl P) 14 [jU, jU] [jI xs0] w := jr_zreturn hm rfl hz dX11_isPipe_14 hp
theorem dX11_isChord_0 : decode cX11_isChord 0 = .ok (.iload_n 1, 1) := by decide +kernel
theorem dX11_isChord_1 : decode cX11_isChord 1 = .ok (.iconst 0, 1) := by decide +kernel
theorem dX11_isChord_2 : decode cX11_isChord 2 = .ok (.aload_n 0, 1) := by decide +kernel
theorem dX11_isChord_3 : decode cX11_isChord 3 = .ok (.getfield 87, 3) := by decide +kernel
theorem dX11_isChord_6 : decode cX11_isChord 6 = .ok (.getfield 245, 3) := by decide +kernel
theorem dX11_isChord_9 : decode cX11_isChord 9 = .ok (.iconst 1, 1) := by decide +kernel
theorem dX11_isChord_10 : decode cX11_isChord 10 = .ok (.isub, 1) := by decide +kernel
theorem dX11_isChord_11 : decode cX11_isChord 11 = .ok (.invokestatic 22, 3) := by decide +kernel
theorem dX11_isChord_14 : decode cX11_isChord 14 = .ok (.ireturn, 1) := by decide +kernel
theorem bk_X11_isChord_0 {C : JC} {d cl sl : Nat} {Q : State → Prop} {w : JW} {x1 : Int32} {d2 : Nat} {r : Int32} {w2 : JW} (hm : jok C MX11_isChord d cl sl) (hs : jF MX11_isIn d2 [jI x1, jI 0, jI ((w.1 53 (w.2.2 41 8) 4) - 1)] w (jI r) w2) (hd2 : d2 + 1 ≤ d) (k : jW C cl sl Q 14 [jU, jU] [jI r] w2) : jW C cl sl Q 0 [jR 41 false, jI x1] [] w := jr_iload_n hm (i := 1) rfl rfl dX11_isChord_0 (jr_iconst hm (v := 0) (by decide) dX11_isChord_1 (jr_aload_n hm (i := 0) rfl rfl dX11_isChord_2 (fg_X11_87 hm dX11_isChord_3 (fg_X11_245 hm dX11_isChord_6 (jr_iconst hm (v := 1) (by decide) dX11_isChord_9 (jr_isub hm dX11_isChord_10 (jr_callS (mc := 0) (ms := 0) hm hs hd2 jw_1274 jw_1275 jw_125 jw_1276 jn_X11_isIn rfl rfl (Nat.le_of_ble_eq_true rfl) rfl dX11_isChord_11 (jkF (jr_drop (jle_drop (jle_drop jle_nil)) k)))))))))
theorem bk_X11_isChord_14 {C : JC} {d cl sl : Nat} {w : JW} {xs0 : Int32} {P : JV → JW → Prop} (hm : jok C MX11_isChord d cl sl) (hz : narrow .boolean (.int xs0) = .int xs0) (hp : P (jI xs0) w) : jW C cl sl (jQQ C cl sl P) 14 [jU, jU] [jI xs0] w := jr_zreturn hm rfl hz dX11_isChord_14 hp
theorem dX11_pipesOf_0 : decode cX11_pipesOf 0 = .ok (.iconst 0, 1) := by decide +kernel
theorem dX11_pipesOf_1 : decode cX11_pipesOf 1 = .ok (.istore_n 2, 1) := by decide +kernel
theorem dX11_pipesOf_2 : decode cX11_pipesOf 2 = .ok (.iconst 0, 1) := by decide +kernel
theorem dX11_pipesOf_3 : decode cX11_pipesOf 3 = .ok (.istore_n 3, 1) := by decide +kernel
theorem dX11_pipesOf_4 : decode cX11_pipesOf 4 = .ok (.iload_n 3, 1) := by decide +kernel
theorem dX11_pipesOf_5 : decode cX11_pipesOf 5 = .ok (.aload_n 0, 1) := by decide +kernel
theorem dX11_pipesOf_6 : decode cX11_pipesOf 6 = .ok (.getfield 87, 3) := by decide +kernel
theorem dX11_pipesOf_9 : decode cX11_pipesOf 9 = .ok (.getfield 158, 3) := by decide +kernel
theorem dX11_pipesOf_12 : decode cX11_pipesOf 12 = .ok (.if_icmp .ge 32, 3) := by decide +kernel
theorem dX11_pipesOf_15 : decode cX11_pipesOf 15 = .ok (.iload_n 2, 1) := by decide +kernel
theorem dX11_pipesOf_16 : decode cX11_pipesOf 16 = .ok (.aload_n 0, 1) := by decide +kernel
theorem dX11_pipesOf_17 : decode cX11_pipesOf 17 = .ok (.getfield 87, 3) := by decide +kernel
theorem dX11_pipesOf_20 : decode cX11_pipesOf 20 = .ok (.getfield 230, 3) := by decide +kernel
theorem dX11_pipesOf_23 : decode cX11_pipesOf 23 = .ok (.iconst 3, 1) := by decide +kernel
theorem dX11_pipesOf_24 : decode cX11_pipesOf 24 = .ok (.iload_n 3, 1) := by decide +kernel
theorem dX11_pipesOf_25 : decode cX11_pipesOf 25 = .ok (.imul, 1) := by decide +kernel
theorem dX11_pipesOf_26 : decode cX11_pipesOf 26 = .ok (.iaload, 1) := by decide +kernel
theorem dX11_pipesOf_27 : decode cX11_pipesOf 27 = .ok (.iload_n 1, 1) := by decide +kernel
theorem dX11_pipesOf_28 : decode cX11_pipesOf 28 = .ok (.if_icmp .ne 7, 3) := by decide +kernel
theorem dX11_pipesOf_31 : decode cX11_pipesOf 31 = .ok (.iconst 1, 1) := by decide +kernel
theorem dX11_pipesOf_32 : decode cX11_pipesOf 32 = .ok (.goto 4, 3) := by decide +kernel
theorem dX11_pipesOf_35 : decode cX11_pipesOf 35 = .ok (.iconst 0, 1) := by decide +kernel
theorem dX11_pipesOf_36 : decode cX11_pipesOf 36 = .ok (.iadd, 1) := by decide +kernel
theorem dX11_pipesOf_37 : decode cX11_pipesOf 37 = .ok (.istore_n 2, 1) := by decide +kernel
theorem dX11_pipesOf_38 : decode cX11_pipesOf 38 = .ok (.iinc 3 1, 3) := by decide +kernel
theorem dX11_pipesOf_41 : decode cX11_pipesOf 41 = .ok (.goto (-37), 3) := by decide +kernel
theorem dX11_pipesOf_44 : decode cX11_pipesOf 44 = .ok (.iload_n 2, 1) := by decide +kernel
theorem dX11_pipesOf_45 : decode cX11_pipesOf 45 = .ok (.ireturn, 1) := by decide +kernel
theorem bk_X11_pipesOf_0 {C : JC} {d cl sl : Nat} {Q : State → Prop} {w : JW} {x1 : Int32} (hm : jok C MX11_pipesOf d cl sl) (k : jW C cl sl Q 4 [jR 41 false, jI x1, jI 0, jI 0] [] w) : jW C cl sl Q 0 [jR 41 false, jI x1, jU, jU] [] w := jr_iconst hm (v := 0) (by decide) dX11_pipesOf_0 (jr_istore_n hm (i := 2) rfl (Nat.le_of_ble_eq_true rfl) rfl dX11_pipesOf_1 (jr_iconst hm (v := 0) (by decide) dX11_pipesOf_2 (jr_istore_n hm (i := 3) rfl (Nat.le_of_ble_eq_true rfl) rfl dX11_pipesOf_3 (jr_drop (jle_same (jle_same (jle_same (jle_same jle_nil)))) k))))
theorem bk_X11_pipesOf_4 {C : JC} {d cl sl : Nat} {Q : State → Prop} {w : JW} {x1 : Int32} {x2 : Int32} {x3 : Int32} (hm : jok C MX11_pipesOf d cl sl) (kt : (w.1 53 (w.2.2 41 8) 1) ≤ x3 → jW C cl sl Q 44 [jU, jU, jI x2, jU] [] w) (kf : ¬ (w.1 53 (w.2.2 41 8) 1) ≤ x3 → jW C cl sl Q 15 [jR 41 false, jI x1, jI x2, jI x3] [] w) : jW C cl sl Q 4 [jR 41 false, jI x1, jI x2, jI x3] [] w := jr_iload_n hm (i := 3) rfl rfl dX11_pipesOf_4 (jr_aload_n hm (i := 0) rfl rfl dX11_pipesOf_5 (fg_X11_87 hm dX11_pipesOf_6 (fg_X11_158 hm dX11_pipesOf_9 (jr_icmp_ge hm dX11_pipesOf_12 (by decide) (fun h => jr_drop (jle_drop (jle_drop (jle_same (jle_drop jle_nil)))) (kt h)) (fun h => jr_drop (jle_same (jle_same (jle_same (jle_same jle_nil)))) (kf h))))))
theorem bk_X11_pipesOf_15 {C : JC} {d cl sl : Nat} {Q : State → Prop} {w : JW} {x1 : Int32} {x2 : Int32} {x3 : Int32} (hm : jok C MX11_pipesOf d cl sl) (h1 : vp_in (3 * x3) 36) (kt : ¬ (w.1 55 (w.2.2 41 8) (3 * x3).toNatClampNeg) = x1 → jW C cl sl Q 35 [jR 41 false, jI x1, jU, jI x3] [jI x2] w) (kf : (w.1 55 (w.2.2 41 8) (3 * x3).toNatClampNeg) = x1 → jW C cl sl Q 31 [jR 41 false, jI x1, jU, jI x3] [jI x2] w) : jW C cl sl Q 15 [jR 41 false, jI x1, jI x2, jI x3] [] w := jr_iload_n hm (i := 2) rfl rfl dX11_pipesOf_15 (jr_aload_n hm (i := 0) rfl rfl dX11_pipesOf_16 (fg_X11_87 hm dX11_pipesOf_17 (fg_X11_230 hm dX11_pipesOf_20 (jr_iconst hm (v := 3) (by decide) dX11_pipesOf_23 (jr_iload_n hm (i := 3) rfl rfl dX11_pipesOf_24 (jr_imul hm dX11_pipesOf_25 (jr_iaload hm (ja_55 (w.2.2 41 8)) h1 dX11_pipesOf_26 (jr_iload_n hm (i := 1) rfl rfl dX11_pipesOf_27 (jr_icmp_ne hm dX11_pipesOf_28 (by decide) (fun h => jr_drop (jle_same (jle_same (jle_drop (jle_same jle_nil)))) (kt h)) (fun h => jr_drop (jle_same (jle_same (jle_drop (jle_same jle_nil)))) (kf h)))))))))))
theorem bk_X11_pipesOf_31 {C : JC} {d cl sl : Nat} {Q : State → Prop} {w : JW} {x1 : Int32} {x3 : Int32} {xs0 : Int32} (hm : jok C MX11_pipesOf d cl sl) (k : jW C cl sl Q 36 [jR 41 false, jI x1, jU, jI x3] [jI 1, jI xs0] w) : jW C cl sl Q 31 [jR 41 false, jI x1, jU, jI x3] [jI xs0] w := jr_iconst hm (v := 1) (by decide) dX11_pipesOf_31 (jr_goto hm dX11_pipesOf_32 (by decide) (jr_drop (jle_same (jle_same (jle_same (jle_same jle_nil)))) k))
theorem bk_X11_pipesOf_35 {C : JC} {d cl sl : Nat} {Q : State → Prop} {w : JW} {x1 : Int32} {x3 : Int32} {xs0 : Int32} (hm : jok C MX11_pipesOf d cl sl) (k : jW C cl sl Q 36 [jR 41 false, jI x1, jU, jI x3] [jI 0, jI xs0] w) : jW C cl sl Q 35 [jR 41 false, jI x1, jU, jI x3] [jI xs0] w := jr_iconst hm (v := 0) (by decide) dX11_pipesOf_35 (jr_drop (jle_same (jle_same (jle_same (jle_same jle_nil)))) k)
theorem bk_X11_pipesOf_36 {C : JC} {d cl sl : Nat} {Q : State → Prop} {w : JW} {x1 : Int32} {x3 : Int32} {xs0 : Int32} {xs1 : Int32} (hm : jok C MX11_pipesOf d cl sl) (k : jW C cl sl Q 4 [jR 41 false, jI x1, jI (xs1 + xs0), jI (x3 + 1)] [] w) : jW C cl sl Q 36 [jR 41 false, jI x1, jU, jI x3] [jI xs0, jI xs1] w := jr_iadd hm dX11_pipesOf_36 (jr_istore_n hm (i := 2) rfl (Nat.le_of_ble_eq_true rfl) rfl dX11_pipesOf_37 (jr_iinc hm (i := 3) (v := x3 + 1) rfl rfl rfl dX11_pipesOf_38 (jr_goto hm dX11_pipesOf_41 (by decide) (jr_drop (jle_same (jle_same (jle_same (jle_same jle_nil)))) k))))
theorem bk_X11_pipesOf_44 {C : JC} {d cl sl : Nat} {w : JW} {x2 : Int32} {P : JV → JW → Prop} (hm : jok C MX11_pipesOf d cl sl) (hp : P (jI x2) w) : jW C cl sl (jQQ C cl sl P) 44 [jU, jU, jI x2, jU] [] w := jr_iload_n hm (i := 2) rfl rfl dX11_pipesOf_44 (jr_ireturn hm rfl dX11_pipesOf_45 hp)
theorem dX11_caveTold_0 : decode cX11_caveTold 0 = .ok (.iload_n 2, 1) := by decide +kernel
theorem dX11_caveTold_1 : decode cX11_caveTold 1 = .ok (.tableswitch 60 2 4 #[27, 36, 42], 27) := by decide +kernel
theorem dX11_caveTold_28 : decode cX11_caveTold 28 = .ok (.aload_n 0, 1) := by decide +kernel
theorem dX11_caveTold_29 : decode cX11_caveTold 29 = .ok (.getfield 106, 3) := by decide +kernel
theorem dX11_caveTold_32 : decode cX11_caveTold 32 = .ok (.iconst 4, 1) := by decide +kernel
theorem dX11_caveTold_33 : decode cX11_caveTold 33 = .ok (.iload_n 1, 1) := by decide +kernel
theorem dX11_caveTold_34 : decode cX11_caveTold 34 = .ok (.iadd, 1) := by decide +kernel
theorem dX11_caveTold_35 : decode cX11_caveTold 35 = .ok (.iaload, 1) := by decide +kernel
theorem dX11_caveTold_36 : decode cX11_caveTold 36 = .ok (.ireturn, 1) := by decide +kernel
theorem dX11_caveTold_37 : decode cX11_caveTold 37 = .ok (.aload_n 0, 1) := by decide +kernel
theorem dX11_caveTold_38 : decode cX11_caveTold 38 = .ok (.iload_n 1, 1) := by decide +kernel
theorem dX11_caveTold_39 : decode cX11_caveTold 39 = .ok (.invokevirtual 358, 3) := by decide +kernel
theorem dX11_caveTold_42 : decode cX11_caveTold 42 = .ok (.ireturn, 1) := by decide +kernel
theorem dX11_caveTold_43 : decode cX11_caveTold 43 = .ok (.aload_n 0, 1) := by decide +kernel
theorem dX11_caveTold_44 : decode cX11_caveTold 44 = .ok (.aload_n 0, 1) := by decide +kernel
theorem dX11_caveTold_45 : decode cX11_caveTold 45 = .ok (.getfield 106, 3) := by decide +kernel
theorem dX11_caveTold_48 : decode cX11_caveTold 48 = .ok (.iload_n 1, 1) := by decide +kernel
theorem dX11_caveTold_49 : decode cX11_caveTold 49 = .ok (.invokevirtual 312, 3) := by decide +kernel
theorem dX11_caveTold_52 : decode cX11_caveTold 52 = .ok (.ifCond .eq 7, 3) := by decide +kernel
theorem dX11_caveTold_55 : decode cX11_caveTold 55 = .ok (.iconst 1, 1) := by decide +kernel
theorem dX11_caveTold_56 : decode cX11_caveTold 56 = .ok (.goto 4, 3) := by decide +kernel
theorem dX11_caveTold_59 : decode cX11_caveTold 59 = .ok (.iconst 0, 1) := by decide +kernel
theorem dX11_caveTold_60 : decode cX11_caveTold 60 = .ok (.ireturn, 1) := by decide +kernel
theorem dX11_caveTold_61 : decode cX11_caveTold 61 = .ok (.aload_n 0, 1) := by decide +kernel
theorem dX11_caveTold_62 : decode cX11_caveTold 62 = .ok (.getfield 87, 3) := by decide +kernel
theorem dX11_caveTold_65 : decode cX11_caveTold 65 = .ok (.getfield 227, 3) := by decide +kernel
theorem dX11_caveTold_68 : decode cX11_caveTold 68 = .ok (.iconst 2, 1) := by decide +kernel
theorem dX11_caveTold_69 : decode cX11_caveTold 69 = .ok (.iload_n 1, 1) := by decide +kernel
theorem dX11_caveTold_70 : decode cX11_caveTold 70 = .ok (.imul, 1) := by decide +kernel
theorem dX11_caveTold_71 : decode cX11_caveTold 71 = .ok (.iload_n 2, 1) := by decide +kernel
theorem dX11_caveTold_72 : decode cX11_caveTold 72 = .ok (.iadd, 1) := by decide +kernel
theorem dX11_caveTold_73 : decode cX11_caveTold 73 = .ok (.iaload, 1) := by decide +kernel
theorem dX11_caveTold_74 : decode cX11_caveTold 74 = .ok (.ireturn, 1) := by decide +kernel
theorem bk_X11_caveTold_0 {C : JC} {d cl sl : Nat} {Q : State → Prop} {w : JW} {x1 : Int32} {x2 : Int32} (hm : jok C MX11_caveTold d cl sl) (k2 : x2 = 2 → jW C cl sl Q 28 [jR 41 false, jI x1, jU] [] w) (k3 : x2 = 3 → jW C cl sl Q 37 [jR 41 false, jI x1, jU] [] w) (k4 : x2 = 4 → jW C cl sl Q 43 [jR 41 false, jI x1, jU] [] w) (kd : ¬ x2 = 2 → ¬ x2 = 3 → ¬ x2 = 4 → jW C cl sl Q 61 [jR 41 false, jI x1, jI x2] [] w) : jW C cl sl Q 0 [jR 41 false, jI x1, jI x2] [] w := by
  by_cases e2 : x2 = 2
  · exact jr_iload_n hm (i := 2) rfl rfl dX11_caveTold_0 (jr_tab_in hm dX11_caveTold_1 (by rw [e2]; decide) (by rw [e2]; decide) (off := 27) (by rw [e2]; rfl) (by decide) (jr_drop (jle_same (jle_same (jle_drop jle_nil))) (k2 e2)))
  by_cases e3 : x2 = 3
  · exact jr_iload_n hm (i := 2) rfl rfl dX11_caveTold_0 (jr_tab_in hm dX11_caveTold_1 (by rw [e3]; decide) (by rw [e3]; decide) (off := 36) (by rw [e3]; rfl) (by decide) (jr_drop (jle_same (jle_same (jle_drop jle_nil))) (k3 e3)))
  by_cases e4 : x2 = 4
  · exact jr_iload_n hm (i := 2) rfl rfl dX11_caveTold_0 (jr_tab_in hm dX11_caveTold_1 (by rw [e4]; decide) (by rw [e4]; decide) (off := 42) (by rw [e4]; rfl) (by decide) (jr_drop (jle_same (jle_same (jle_drop jle_nil))) (k4 e4)))
  have t2 : ¬ (x2).toInt = 2 := fun e => e2 (Int32.toInt_inj.mp (e.trans (by decide)))
  have t3 : ¬ (x2).toInt = 3 := fun e => e3 (Int32.toInt_inj.mp (e.trans (by decide)))
  have t4 : ¬ (x2).toInt = 4 := fun e => e4 (Int32.toInt_inj.mp (e.trans (by decide)))
  exact jr_iload_n hm (i := 2) rfl rfl dX11_caveTold_0 (jr_tab_out hm dX11_caveTold_1 (by omega) (by decide) (jr_drop (jle_same (jle_same (jle_same jle_nil))) (kd e2 e3 e4)))
theorem bk_X11_caveTold_28 {C : JC} {d cl sl : Nat} {w : JW} {x1 : Int32} {P : JV → JW → Prop} (hm : jok C MX11_caveTold d cl sl) (h1 : vp_in (4 + x1) 51) (hp : P (jI (w.1 51 false (4 + x1).toNatClampNeg)) w) : jW C cl sl (jQQ C cl sl P) 28 [jR 41 false, jI x1, jU] [] w := jr_aload_n hm (i := 0) rfl rfl dX11_caveTold_28 (fg_X11_106 hm dX11_caveTold_29 (jr_iconst hm (v := 4) (by decide) dX11_caveTold_32 (jr_iload_n hm (i := 1) rfl rfl dX11_caveTold_33 (jr_iadd hm dX11_caveTold_34 (jr_iaload hm ja_51 h1 dX11_caveTold_35 (jr_ireturn hm rfl dX11_caveTold_36 hp))))))
theorem bk_X11_caveTold_37 {C : JC} {d cl sl : Nat} {Q : State → Prop} {w : JW} {x1 : Int32} {d2 : Nat} {r : Int32} {w2 : JW} (hm : jok C MX11_caveTold d cl sl) (hs : jF MX11_pipesOf d2 [jR 41 false, jI x1] w (jI r) w2) (hd2 : d2 + 1 ≤ d) (k : jW C cl sl Q 42 [jU, jU, jU] [jI r] w2) : jW C cl sl Q 37 [jR 41 false, jI x1, jU] [] w := jr_aload_n hm (i := 0) rfl rfl dX11_caveTold_37 (jr_iload_n hm (i := 1) rfl rfl dX11_caveTold_38 (jr_callV (mc := 0) (ms := 0) hm hs hd2 jw_1628 jw_1630 jw_92 jw_125 jw_1631 jn_X11_pipesOf rfl jo_41 (fun _ _ _ _ _ => ⟨_, rfl⟩) rfl rfl (Nat.le_of_ble_eq_true rfl) rfl dX11_caveTold_39 (jkF (jr_drop (jle_drop (jle_drop (jle_same jle_nil))) k))))
theorem bk_X11_caveTold_42 {C : JC} {d cl sl : Nat} {w : JW} {xs0 : Int32} {P : JV → JW → Prop} (hm : jok C MX11_caveTold d cl sl) (hp : P (jI xs0) w) : jW C cl sl (jQQ C cl sl P) 42 [jU, jU, jU] [jI xs0] w := jr_ireturn hm rfl dX11_caveTold_42 hp
theorem bk_X11_caveTold_43 {C : JC} {d cl sl : Nat} {Q : State → Prop} {w : JW} {x1 : Int32} {d2 : Nat} {r : Int32} {w2 : JW} (hm : jok C MX11_caveTold d cl sl) (hs : jF MX11_isShut d2 [jR 41 false, jR 51 false, jI x1] w (jI r) w2) (hd2 : d2 + 1 ≤ d) (k : jW C cl sl Q 52 [jU, jU, jU] [jI r] w2) : jW C cl sl Q 43 [jR 41 false, jI x1, jU] [] w := jr_aload_n hm (i := 0) rfl rfl dX11_caveTold_43 (jr_aload_n hm (i := 0) rfl rfl dX11_caveTold_44 (fg_X11_106 hm dX11_caveTold_45 (jr_iload_n hm (i := 1) rfl rfl dX11_caveTold_48 (jr_callV (mc := 0) (ms := 0) hm hs hd2 jw_1632 jw_1634 jw_93 jw_125 jw_1635 jn_X11_isShut rfl jo_41 (fun _ _ _ _ _ => ⟨_, rfl⟩) rfl rfl (Nat.le_of_ble_eq_true rfl) rfl dX11_caveTold_49 (jkF (jr_drop (jle_drop (jle_drop (jle_same jle_nil))) k))))))
theorem bk_X11_caveTold_52 {C : JC} {d cl sl : Nat} {Q : State → Prop} {w : JW} {xs0 : Int32} (hm : jok C MX11_caveTold d cl sl) (kt : xs0 = 0 → jW C cl sl Q 59 [jU, jU, jU] [] w) (kf : ¬ xs0 = 0 → jW C cl sl Q 55 [jU, jU, jU] [] w) : jW C cl sl Q 52 [jU, jU, jU] [jI xs0] w := jr_if_eq hm dX11_caveTold_52 (by decide) (fun h => jr_drop (jle_same (jle_same (jle_same jle_nil))) (kt h)) (fun h => jr_drop (jle_same (jle_same (jle_same jle_nil))) (kf h))
theorem bk_X11_caveTold_55 {C : JC} {d cl sl : Nat} {Q : State → Prop} {w : JW}  (hm : jok C MX11_caveTold d cl sl) (k : jW C cl sl Q 60 [jU, jU, jU] [jI 1] w) : jW C cl sl Q 55 [jU, jU, jU] [] w := jr_iconst hm (v := 1) (by decide) dX11_caveTold_55 (jr_goto hm dX11_caveTold_56 (by decide) (jr_drop (jle_same (jle_same (jle_same jle_nil))) k))
theorem bk_X11_caveTold_59 {C : JC} {d cl sl : Nat} {Q : State → Prop} {w : JW}  (hm : jok C MX11_caveTold d cl sl) (k : jW C cl sl Q 60 [jU, jU, jU] [jI 0] w) : jW C cl sl Q 59 [jU, jU, jU] [] w := jr_iconst hm (v := 0) (by decide) dX11_caveTold_59 (jr_drop (jle_same (jle_same (jle_same jle_nil))) k)
theorem bk_X11_caveTold_60 {C : JC} {d cl sl : Nat} {w : JW} {xs0 : Int32} {P : JV → JW → Prop} (hm : jok C MX11_caveTold d cl sl) (hp : P (jI xs0) w) : jW C cl sl (jQQ C cl sl P) 60 [jU, jU, jU] [jI xs0] w := jr_ireturn hm rfl dX11_caveTold_60 hp
theorem bk_X11_caveTold_61 {C : JC} {d cl sl : Nat} {w : JW} {x1 : Int32} {x2 : Int32} {P : JV → JW → Prop} (hm : jok C MX11_caveTold d cl sl) (h1 : vp_in ((2 * x1) + x2) 10) (hp : P (jI (w.1 54 (w.2.2 41 8) ((2 * x1) + x2).toNatClampNeg)) w) : jW C cl sl (jQQ C cl sl P) 61 [jR 41 false, jI x1, jI x2] [] w := jr_aload_n hm (i := 0) rfl rfl dX11_caveTold_61 (fg_X11_87 hm dX11_caveTold_62 (fg_X11_227 hm dX11_caveTold_65 (jr_iconst hm (v := 2) (by decide) dX11_caveTold_68 (jr_iload_n hm (i := 1) rfl rfl dX11_caveTold_69 (jr_imul hm dX11_caveTold_70 (jr_iload_n hm (i := 2) rfl rfl dX11_caveTold_71 (jr_iadd hm dX11_caveTold_72 (jr_iaload hm (ja_54 (w.2.2 41 8)) h1 dX11_caveTold_73 (jr_ireturn hm rfl dX11_caveTold_74 hp)))))))))
theorem dX11_cave_0 : decode cX11_cave 0 = .ok (.aload_n 0, 1) := by decide +kernel
theorem dX11_cave_1 : decode cX11_cave 1 = .ok (.iconst 0, 1) := by decide +kernel
theorem dX11_cave_2 : decode cX11_cave 2 = .ok (.putfield 1, 3) := by decide +kernel
theorem dX11_cave_5 : decode cX11_cave 5 = .ok (.aload_n 0, 1) := by decide +kernel
theorem dX11_cave_6 : decode cX11_cave 6 = .ok (.iload_n 1, 1) := by decide +kernel
theorem dX11_cave_7 : decode cX11_cave 7 = .ok (.invokevirtual 361, 3) := by decide +kernel
theorem dX11_cave_10 : decode cX11_cave 10 = .ok (.ifCond .eq 21, 3) := by decide +kernel
theorem dX11_cave_13 : decode cX11_cave 13 = .ok (.iload_n 2, 1) := by decide +kernel
theorem dX11_cave_14 : decode cX11_cave 14 = .ok (.iconst 0, 1) := by decide +kernel
theorem dX11_cave_15 : decode cX11_cave 15 = .ok (.iconst 4, 1) := by decide +kernel
theorem dX11_cave_16 : decode cX11_cave 16 = .ok (.invokestatic 22, 3) := by decide +kernel
theorem dX11_cave_19 : decode cX11_cave 19 = .ok (.ifCond .eq 12, 3) := by decide +kernel
theorem dX11_cave_22 : decode cX11_cave 22 = .ok (.aload_n 0, 1) := by decide +kernel
theorem dX11_cave_23 : decode cX11_cave 23 = .ok (.iload_n 1, 1) := by decide +kernel
theorem dX11_cave_24 : decode cX11_cave 24 = .ok (.iload_n 2, 1) := by decide +kernel
theorem dX11_cave_25 : decode cX11_cave 25 = .ok (.invokevirtual 364, 3) := by decide +kernel
theorem dX11_cave_28 : decode cX11_cave 28 = .ok (.goto 8, 3) := by decide +kernel
theorem dX11_cave_31 : decode cX11_cave 31 = .ok (.aload_n 0, 1) := by decide +kernel
theorem dX11_cave_32 : decode cX11_cave 32 = .ok (.iconst 1, 1) := by decide +kernel
theorem dX11_cave_33 : decode cX11_cave 33 = .ok (.invokevirtual 10, 3) := by decide +kernel
theorem dX11_cave_36 : decode cX11_cave 36 = .ok (.ireturn, 1) := by decide +kernel
theorem bk_X11_cave_0 {C : JC} {d cl sl : Nat} {Q : State → Prop} {w : JW} {x1 : Int32} {x2 : Int32} {d2 : Nat} {r : Int32} {w2 : JW} (hm : jok C MX11_cave d cl sl) (hs : jF MX11_isCave d2 [jR 41 false, jI x1] (jset w 41 false 0 0) (jI r) w2) (hd2 : d2 + 1 ≤ d) (k : jW C cl sl Q 10 [jR 41 false, jI x1, jI x2] [jI r] w2) : jW C cl sl Q 0 [jR 41 false, jI x1, jI x2] [] w := jr_aload_n hm (i := 0) rfl rfl dX11_cave_0 (jr_iconst hm (v := 0) (by decide) dX11_cave_1 (fp_X11_1 hm dX11_cave_2 (jr_aload_n hm (i := 0) rfl rfl dX11_cave_5 (jr_iload_n hm (i := 1) rfl rfl dX11_cave_6 (jr_callV (mc := 0) (ms := 0) hm hs hd2 jw_1620 jw_1622 jw_90 jw_125 jw_1623 jn_X11_isCave rfl jo_41 (fun _ _ _ _ _ => ⟨_, rfl⟩) rfl rfl (Nat.le_of_ble_eq_true rfl) rfl dX11_cave_7 (jkF (jr_drop (jle_same (jle_same (jle_same jle_nil))) k)))))))
theorem bk_X11_cave_10 {C : JC} {d cl sl : Nat} {Q : State → Prop} {w : JW} {x1 : Int32} {x2 : Int32} {xs0 : Int32} (hm : jok C MX11_cave d cl sl) (kt : xs0 = 0 → jW C cl sl Q 31 [jR 41 false, jU, jU] [] w) (kf : ¬ xs0 = 0 → jW C cl sl Q 13 [jR 41 false, jI x1, jI x2] [] w) : jW C cl sl Q 10 [jR 41 false, jI x1, jI x2] [jI xs0] w := jr_if_eq hm dX11_cave_10 (by decide) (fun h => jr_drop (jle_same (jle_drop (jle_drop jle_nil))) (kt h)) (fun h => jr_drop (jle_same (jle_same (jle_same jle_nil))) (kf h))
theorem bk_X11_cave_13 {C : JC} {d cl sl : Nat} {Q : State → Prop} {w : JW} {x1 : Int32} {x2 : Int32} {d2 : Nat} {r : Int32} {w2 : JW} (hm : jok C MX11_cave d cl sl) (hs : jF MX11_isIn d2 [jI x2, jI 0, jI 4] w (jI r) w2) (hd2 : d2 + 1 ≤ d) (k : jW C cl sl Q 19 [jR 41 false, jI x1, jI x2] [jI r] w2) : jW C cl sl Q 13 [jR 41 false, jI x1, jI x2] [] w := jr_iload_n hm (i := 2) rfl rfl dX11_cave_13 (jr_iconst hm (v := 0) (by decide) dX11_cave_14 (jr_iconst hm (v := 4) (by decide) dX11_cave_15 (jr_callS (mc := 0) (ms := 0) hm hs hd2 jw_1274 jw_1275 jw_125 jw_1276 jn_X11_isIn rfl rfl (Nat.le_of_ble_eq_true rfl) rfl dX11_cave_16 (jkF (jr_drop (jle_same (jle_same (jle_same jle_nil))) k)))))
theorem bk_X11_cave_19 {C : JC} {d cl sl : Nat} {Q : State → Prop} {w : JW} {x1 : Int32} {x2 : Int32} {xs0 : Int32} (hm : jok C MX11_cave d cl sl) (kt : xs0 = 0 → jW C cl sl Q 31 [jR 41 false, jU, jU] [] w) (kf : ¬ xs0 = 0 → jW C cl sl Q 22 [jR 41 false, jI x1, jI x2] [] w) : jW C cl sl Q 19 [jR 41 false, jI x1, jI x2] [jI xs0] w := jr_if_eq hm dX11_cave_19 (by decide) (fun h => jr_drop (jle_same (jle_drop (jle_drop jle_nil))) (kt h)) (fun h => jr_drop (jle_same (jle_same (jle_same jle_nil))) (kf h))
theorem bk_X11_cave_22 {C : JC} {d cl sl : Nat} {Q : State → Prop} {w : JW} {x1 : Int32} {x2 : Int32} {d2 : Nat} {r : Int32} {w2 : JW} (hm : jok C MX11_cave d cl sl) (hs : jF MX11_caveTold d2 [jR 41 false, jI x1, jI x2] w (jI r) w2) (hd2 : d2 + 1 ≤ d) (k : jW C cl sl Q 28 [jU, jU, jU] [jI r] w2) : jW C cl sl Q 22 [jR 41 false, jI x1, jI x2] [] w := jr_aload_n hm (i := 0) rfl rfl dX11_cave_22 (jr_iload_n hm (i := 1) rfl rfl dX11_cave_23 (jr_iload_n hm (i := 2) rfl rfl dX11_cave_24 (jr_callV (mc := 0) (ms := 0) hm hs hd2 jw_1624 jw_1626 jw_91 jw_125 jw_1627 jn_X11_caveTold rfl jo_41 (fun _ _ _ _ _ => ⟨_, rfl⟩) rfl rfl (Nat.le_of_ble_eq_true rfl) rfl dX11_cave_25 (jkF (jr_drop (jle_drop (jle_drop (jle_drop jle_nil))) k)))))
theorem bk_X11_cave_28 {C : JC} {d cl sl : Nat} {Q : State → Prop} {w : JW} {xs0 : Int32} (hm : jok C MX11_cave d cl sl) (k : jW C cl sl Q 36 [jU, jU, jU] [jI xs0] w) : jW C cl sl Q 28 [jU, jU, jU] [jI xs0] w := jr_goto hm dX11_cave_28 (by decide) (jr_drop (jle_same (jle_same (jle_same jle_nil))) k)
theorem bk_X11_cave_31 {C : JC} {d cl sl : Nat} {Q : State → Prop} {w : JW} {d2 : Nat} {r : Int32} {w2 : JW} (hm : jok C MX11_cave d cl sl) (hs : jF MX11_no d2 [jR 41 false, jI 1] w (jI r) w2) (hd2 : d2 + 1 ≤ d) (k : jW C cl sl Q 36 [jU, jU, jU] [jI r] w2) : jW C cl sl Q 31 [jR 41 false, jU, jU] [] w := jr_aload_n hm (i := 0) rfl rfl dX11_cave_31 (jr_iconst hm (v := 1) (by decide) dX11_cave_32 (jr_callV (mc := 0) (ms := 0) hm hs hd2 jw_1261 jw_1263 jw_46 jw_125 jw_1265 jn_X11_no rfl jo_41 (fun _ _ _ _ _ => ⟨_, rfl⟩) rfl rfl (Nat.le_of_ble_eq_true rfl) rfl dX11_cave_33 (jkF (jr_drop (jle_drop (jle_same (jle_same jle_nil))) k))))
theorem bk_X11_cave_36 {C : JC} {d cl sl : Nat} {w : JW} {xs0 : Int32} {P : JV → JW → Prop} (hm : jok C MX11_cave d cl sl) (hp : P (jI xs0) w) : jW C cl sl (jQQ C cl sl P) 36 [jU, jU, jU] [jI xs0] w := jr_ireturn hm rfl dX11_cave_36 hp
theorem dX11_pipeTold_0 : decode cX11_pipeTold 0 = .ok (.iload_n 2, 1) := by decide +kernel
theorem dX11_pipeTold_1 : decode cX11_pipeTold 1 = .ok (.tableswitch 71 3 6 #[31, 41, 51, 61], 31) := by decide +kernel
theorem dX11_pipeTold_32 : decode cX11_pipeTold 32 = .ok (.aload_n 0, 1) := by decide +kernel
theorem dX11_pipeTold_33 : decode cX11_pipeTold 33 = .ok (.getfield 106, 3) := by decide +kernel
theorem dX11_pipeTold_36 : decode cX11_pipeTold 36 = .ok (.bipush 9, 2) := by decide +kernel
theorem dX11_pipeTold_38 : decode cX11_pipeTold 38 = .ok (.iload_n 1, 1) := by decide +kernel
theorem dX11_pipeTold_39 : decode cX11_pipeTold 39 = .ok (.iadd, 1) := by decide +kernel
theorem dX11_pipeTold_40 : decode cX11_pipeTold 40 = .ok (.iaload, 1) := by decide +kernel
theorem dX11_pipeTold_41 : decode cX11_pipeTold 41 = .ok (.ireturn, 1) := by decide +kernel
theorem dX11_pipeTold_42 : decode cX11_pipeTold 42 = .ok (.aload_n 0, 1) := by decide +kernel
theorem dX11_pipeTold_43 : decode cX11_pipeTold 43 = .ok (.aload_n 0, 1) := by decide +kernel
theorem dX11_pipeTold_44 : decode cX11_pipeTold 44 = .ok (.getfield 106, 3) := by decide +kernel
theorem dX11_pipeTold_47 : decode cX11_pipeTold 47 = .ok (.iload_n 1, 1) := by decide +kernel
theorem dX11_pipeTold_48 : decode cX11_pipeTold 48 = .ok (.invokevirtual 316, 3) := by decide +kernel
theorem dX11_pipeTold_51 : decode cX11_pipeTold 51 = .ok (.ireturn, 1) := by decide +kernel
theorem dX11_pipeTold_52 : decode cX11_pipeTold 52 = .ok (.aload_n 0, 1) := by decide +kernel
theorem dX11_pipeTold_53 : decode cX11_pipeTold 53 = .ok (.getfield 106, 3) := by decide +kernel
theorem dX11_pipeTold_56 : decode cX11_pipeTold 56 = .ok (.bipush 21, 2) := by decide +kernel
theorem dX11_pipeTold_58 : decode cX11_pipeTold 58 = .ok (.iload_n 1, 1) := by decide +kernel
theorem dX11_pipeTold_59 : decode cX11_pipeTold 59 = .ok (.iadd, 1) := by decide +kernel
theorem dX11_pipeTold_60 : decode cX11_pipeTold 60 = .ok (.iaload, 1) := by decide +kernel
theorem dX11_pipeTold_61 : decode cX11_pipeTold 61 = .ok (.ireturn, 1) := by decide +kernel
theorem dX11_pipeTold_62 : decode cX11_pipeTold 62 = .ok (.aload_n 0, 1) := by decide +kernel
theorem dX11_pipeTold_63 : decode cX11_pipeTold 63 = .ok (.getfield 106, 3) := by decide +kernel
theorem dX11_pipeTold_66 : decode cX11_pipeTold 66 = .ok (.bipush 33, 2) := by decide +kernel
theorem dX11_pipeTold_68 : decode cX11_pipeTold 68 = .ok (.iload_n 1, 1) := by decide +kernel
theorem dX11_pipeTold_69 : decode cX11_pipeTold 69 = .ok (.iadd, 1) := by decide +kernel
theorem dX11_pipeTold_70 : decode cX11_pipeTold 70 = .ok (.iaload, 1) := by decide +kernel
theorem dX11_pipeTold_71 : decode cX11_pipeTold 71 = .ok (.ireturn, 1) := by decide +kernel
theorem dX11_pipeTold_72 : decode cX11_pipeTold 72 = .ok (.aload_n 0, 1) := by decide +kernel
theorem dX11_pipeTold_73 : decode cX11_pipeTold 73 = .ok (.getfield 87, 3) := by decide +kernel
theorem dX11_pipeTold_76 : decode cX11_pipeTold 76 = .ok (.getfield 230, 3) := by decide +kernel
theorem dX11_pipeTold_79 : decode cX11_pipeTold 79 = .ok (.iconst 3, 1) := by decide +kernel
theorem dX11_pipeTold_80 : decode cX11_pipeTold 80 = .ok (.iload_n 1, 1) := by decide +kernel
theorem dX11_pipeTold_81 : decode cX11_pipeTold 81 = .ok (.imul, 1) := by decide +kernel
theorem dX11_pipeTold_82 : decode cX11_pipeTold 82 = .ok (.iload_n 2, 1) := by decide +kernel
theorem dX11_pipeTold_83 : decode cX11_pipeTold 83 = .ok (.iadd, 1) := by decide +kernel
theorem dX11_pipeTold_84 : decode cX11_pipeTold 84 = .ok (.iaload, 1) := by decide +kernel
theorem dX11_pipeTold_85 : decode cX11_pipeTold 85 = .ok (.ireturn, 1) := by decide +kernel
theorem bk_X11_pipeTold_0 {C : JC} {d cl sl : Nat} {Q : State → Prop} {w : JW} {x1 : Int32} {x2 : Int32} (hm : jok C MX11_pipeTold d cl sl) (k3 : x2 = 3 → jW C cl sl Q 32 [jR 41 false, jI x1, jU] [] w) (k4 : x2 = 4 → jW C cl sl Q 42 [jR 41 false, jI x1, jU] [] w) (k5 : x2 = 5 → jW C cl sl Q 52 [jR 41 false, jI x1, jU] [] w) (k6 : x2 = 6 → jW C cl sl Q 62 [jR 41 false, jI x1, jU] [] w) (kd : ¬ x2 = 3 → ¬ x2 = 4 → ¬ x2 = 5 → ¬ x2 = 6 → jW C cl sl Q 72 [jR 41 false, jI x1, jI x2] [] w) : jW C cl sl Q 0 [jR 41 false, jI x1, jI x2] [] w := by
  by_cases e3 : x2 = 3
  · exact jr_iload_n hm (i := 2) rfl rfl dX11_pipeTold_0 (jr_tab_in hm dX11_pipeTold_1 (by rw [e3]; decide) (by rw [e3]; decide) (off := 31) (by rw [e3]; rfl) (by decide) (jr_drop (jle_same (jle_same (jle_drop jle_nil))) (k3 e3)))
  by_cases e4 : x2 = 4
  · exact jr_iload_n hm (i := 2) rfl rfl dX11_pipeTold_0 (jr_tab_in hm dX11_pipeTold_1 (by rw [e4]; decide) (by rw [e4]; decide) (off := 41) (by rw [e4]; rfl) (by decide) (jr_drop (jle_same (jle_same (jle_drop jle_nil))) (k4 e4)))
  by_cases e5 : x2 = 5
  · exact jr_iload_n hm (i := 2) rfl rfl dX11_pipeTold_0 (jr_tab_in hm dX11_pipeTold_1 (by rw [e5]; decide) (by rw [e5]; decide) (off := 51) (by rw [e5]; rfl) (by decide) (jr_drop (jle_same (jle_same (jle_drop jle_nil))) (k5 e5)))
  by_cases e6 : x2 = 6
  · exact jr_iload_n hm (i := 2) rfl rfl dX11_pipeTold_0 (jr_tab_in hm dX11_pipeTold_1 (by rw [e6]; decide) (by rw [e6]; decide) (off := 61) (by rw [e6]; rfl) (by decide) (jr_drop (jle_same (jle_same (jle_drop jle_nil))) (k6 e6)))
  have t3 : ¬ (x2).toInt = 3 := fun e => e3 (Int32.toInt_inj.mp (e.trans (by decide)))
  have t4 : ¬ (x2).toInt = 4 := fun e => e4 (Int32.toInt_inj.mp (e.trans (by decide)))
  have t5 : ¬ (x2).toInt = 5 := fun e => e5 (Int32.toInt_inj.mp (e.trans (by decide)))
  have t6 : ¬ (x2).toInt = 6 := fun e => e6 (Int32.toInt_inj.mp (e.trans (by decide)))
  exact jr_iload_n hm (i := 2) rfl rfl dX11_pipeTold_0 (jr_tab_out hm dX11_pipeTold_1 (by omega) (by decide) (jr_drop (jle_same (jle_same (jle_same jle_nil))) (kd e3 e4 e5 e6)))
theorem bk_X11_pipeTold_32 {C : JC} {d cl sl : Nat} {w : JW} {x1 : Int32} {P : JV → JW → Prop} (hm : jok C MX11_pipeTold d cl sl) (h1 : vp_in (9 + x1) 51) (hp : P (jI (w.1 51 false (9 + x1).toNatClampNeg)) w) : jW C cl sl (jQQ C cl sl P) 32 [jR 41 false, jI x1, jU] [] w := jr_aload_n hm (i := 0) rfl rfl dX11_pipeTold_32 (fg_X11_106 hm dX11_pipeTold_33 (jr_bipush hm (v := 9) (by decide) dX11_pipeTold_36 (jr_iload_n hm (i := 1) rfl rfl dX11_pipeTold_38 (jr_iadd hm dX11_pipeTold_39 (jr_iaload hm ja_51 h1 dX11_pipeTold_40 (jr_ireturn hm rfl dX11_pipeTold_41 hp))))))
theorem bk_X11_pipeTold_42 {C : JC} {d cl sl : Nat} {Q : State → Prop} {w : JW} {x1 : Int32} {d2 : Nat} {r : Int32} {w2 : JW} (hm : jok C MX11_pipeTold d cl sl) (hs : jF MX11_need d2 [jR 41 false, jR 51 false, jI x1] w (jI r) w2) (hd2 : d2 + 1 ≤ d) (k : jW C cl sl Q 51 [jU, jU, jU] [jI r] w2) : jW C cl sl Q 42 [jR 41 false, jI x1, jU] [] w := jr_aload_n hm (i := 0) rfl rfl dX11_pipeTold_42 (jr_aload_n hm (i := 0) rfl rfl dX11_pipeTold_43 (fg_X11_106 hm dX11_pipeTold_44 (jr_iload_n hm (i := 1) rfl rfl dX11_pipeTold_47 (jr_callV (mc := 0) (ms := 0) hm hs hd2 jw_1664 jw_1666 jw_99 jw_125 jw_1667 jn_X11_need rfl jo_41 (fun _ _ _ _ _ => ⟨_, rfl⟩) rfl rfl (Nat.le_of_ble_eq_true rfl) rfl dX11_pipeTold_48 (jkF (jr_drop (jle_drop (jle_drop (jle_same jle_nil))) k))))))
theorem bk_X11_pipeTold_51 {C : JC} {d cl sl : Nat} {w : JW} {xs0 : Int32} {P : JV → JW → Prop} (hm : jok C MX11_pipeTold d cl sl) (hp : P (jI xs0) w) : jW C cl sl (jQQ C cl sl P) 51 [jU, jU, jU] [jI xs0] w := jr_ireturn hm rfl dX11_pipeTold_51 hp
theorem bk_X11_pipeTold_52 {C : JC} {d cl sl : Nat} {w : JW} {x1 : Int32} {P : JV → JW → Prop} (hm : jok C MX11_pipeTold d cl sl) (h1 : vp_in (21 + x1) 51) (hp : P (jI (w.1 51 false (21 + x1).toNatClampNeg)) w) : jW C cl sl (jQQ C cl sl P) 52 [jR 41 false, jI x1, jU] [] w := jr_aload_n hm (i := 0) rfl rfl dX11_pipeTold_52 (fg_X11_106 hm dX11_pipeTold_53 (jr_bipush hm (v := 21) (by decide) dX11_pipeTold_56 (jr_iload_n hm (i := 1) rfl rfl dX11_pipeTold_58 (jr_iadd hm dX11_pipeTold_59 (jr_iaload hm ja_51 h1 dX11_pipeTold_60 (jr_ireturn hm rfl dX11_pipeTold_61 hp))))))
theorem bk_X11_pipeTold_62 {C : JC} {d cl sl : Nat} {w : JW} {x1 : Int32} {P : JV → JW → Prop} (hm : jok C MX11_pipeTold d cl sl) (h1 : vp_in (33 + x1) 51) (hp : P (jI (w.1 51 false (33 + x1).toNatClampNeg)) w) : jW C cl sl (jQQ C cl sl P) 62 [jR 41 false, jI x1, jU] [] w := jr_aload_n hm (i := 0) rfl rfl dX11_pipeTold_62 (fg_X11_106 hm dX11_pipeTold_63 (jr_bipush hm (v := 33) (by decide) dX11_pipeTold_66 (jr_iload_n hm (i := 1) rfl rfl dX11_pipeTold_68 (jr_iadd hm dX11_pipeTold_69 (jr_iaload hm ja_51 h1 dX11_pipeTold_70 (jr_ireturn hm rfl dX11_pipeTold_71 hp))))))
theorem bk_X11_pipeTold_72 {C : JC} {d cl sl : Nat} {w : JW} {x1 : Int32} {x2 : Int32} {P : JV → JW → Prop} (hm : jok C MX11_pipeTold d cl sl) (h1 : vp_in ((3 * x1) + x2) 36) (hp : P (jI (w.1 55 (w.2.2 41 8) ((3 * x1) + x2).toNatClampNeg)) w) : jW C cl sl (jQQ C cl sl P) 72 [jR 41 false, jI x1, jI x2] [] w := jr_aload_n hm (i := 0) rfl rfl dX11_pipeTold_72 (fg_X11_87 hm dX11_pipeTold_73 (fg_X11_230 hm dX11_pipeTold_76 (jr_iconst hm (v := 3) (by decide) dX11_pipeTold_79 (jr_iload_n hm (i := 1) rfl rfl dX11_pipeTold_80 (jr_imul hm dX11_pipeTold_81 (jr_iload_n hm (i := 2) rfl rfl dX11_pipeTold_82 (jr_iadd hm dX11_pipeTold_83 (jr_iaload hm (ja_55 (w.2.2 41 8)) h1 dX11_pipeTold_84 (jr_ireturn hm rfl dX11_pipeTold_85 hp)))))))))
theorem dX11_pipe_0 : decode cX11_pipe 0 = .ok (.aload_n 0, 1) := by decide +kernel
theorem dX11_pipe_1 : decode cX11_pipe 1 = .ok (.iconst 0, 1) := by decide +kernel
theorem dX11_pipe_2 : decode cX11_pipe 2 = .ok (.putfield 1, 3) := by decide +kernel
theorem dX11_pipe_5 : decode cX11_pipe 5 = .ok (.aload_n 0, 1) := by decide +kernel
theorem dX11_pipe_6 : decode cX11_pipe 6 = .ok (.iload_n 1, 1) := by decide +kernel
theorem dX11_pipe_7 : decode cX11_pipe 7 = .ok (.invokevirtual 367, 3) := by decide +kernel
theorem dX11_pipe_10 : decode cX11_pipe 10 = .ok (.ifCond .eq 22, 3) := by decide +kernel
theorem dX11_pipe_13 : decode cX11_pipe 13 = .ok (.iload_n 2, 1) := by decide +kernel
theorem dX11_pipe_14 : decode cX11_pipe 14 = .ok (.iconst 0, 1) := by decide +kernel
theorem dX11_pipe_15 : decode cX11_pipe 15 = .ok (.bipush 6, 2) := by decide +kernel
theorem dX11_pipe_17 : decode cX11_pipe 17 = .ok (.invokestatic 22, 3) := by decide +kernel
theorem dX11_pipe_20 : decode cX11_pipe 20 = .ok (.ifCond .eq 12, 3) := by decide +kernel
theorem dX11_pipe_23 : decode cX11_pipe 23 = .ok (.aload_n 0, 1) := by decide +kernel
theorem dX11_pipe_24 : decode cX11_pipe 24 = .ok (.iload_n 1, 1) := by decide +kernel
theorem dX11_pipe_25 : decode cX11_pipe 25 = .ok (.iload_n 2, 1) := by decide +kernel
theorem dX11_pipe_26 : decode cX11_pipe 26 = .ok (.invokevirtual 370, 3) := by decide +kernel
theorem dX11_pipe_29 : decode cX11_pipe 29 = .ok (.goto 8, 3) := by decide +kernel
theorem dX11_pipe_32 : decode cX11_pipe 32 = .ok (.aload_n 0, 1) := by decide +kernel
theorem dX11_pipe_33 : decode cX11_pipe 33 = .ok (.iconst 1, 1) := by decide +kernel
theorem dX11_pipe_34 : decode cX11_pipe 34 = .ok (.invokevirtual 10, 3) := by decide +kernel
theorem dX11_pipe_37 : decode cX11_pipe 37 = .ok (.ireturn, 1) := by decide +kernel
theorem bk_X11_pipe_0 {C : JC} {d cl sl : Nat} {Q : State → Prop} {w : JW} {x1 : Int32} {x2 : Int32} {d2 : Nat} {r : Int32} {w2 : JW} (hm : jok C MX11_pipe d cl sl) (hs : jF MX11_isPipe d2 [jR 41 false, jI x1] (jset w 41 false 0 0) (jI r) w2) (hd2 : d2 + 1 ≤ d) (k : jW C cl sl Q 10 [jR 41 false, jI x1, jI x2] [jI r] w2) : jW C cl sl Q 0 [jR 41 false, jI x1, jI x2] [] w := jr_aload_n hm (i := 0) rfl rfl dX11_pipe_0 (jr_iconst hm (v := 0) (by decide) dX11_pipe_1 (fp_X11_1 hm dX11_pipe_2 (jr_aload_n hm (i := 0) rfl rfl dX11_pipe_5 (jr_iload_n hm (i := 1) rfl rfl dX11_pipe_6 (jr_callV (mc := 0) (ms := 0) hm hs hd2 jw_1656 jw_1658 jw_97 jw_125 jw_1659 jn_X11_isPipe rfl jo_41 (fun _ _ _ _ _ => ⟨_, rfl⟩) rfl rfl (Nat.le_of_ble_eq_true rfl) rfl dX11_pipe_7 (jkF (jr_drop (jle_same (jle_same (jle_same jle_nil))) k)))))))
theorem bk_X11_pipe_10 {C : JC} {d cl sl : Nat} {Q : State → Prop} {w : JW} {x1 : Int32} {x2 : Int32} {xs0 : Int32} (hm : jok C MX11_pipe d cl sl) (kt : xs0 = 0 → jW C cl sl Q 32 [jR 41 false, jU, jU] [] w) (kf : ¬ xs0 = 0 → jW C cl sl Q 13 [jR 41 false, jI x1, jI x2] [] w) : jW C cl sl Q 10 [jR 41 false, jI x1, jI x2] [jI xs0] w := jr_if_eq hm dX11_pipe_10 (by decide) (fun h => jr_drop (jle_same (jle_drop (jle_drop jle_nil))) (kt h)) (fun h => jr_drop (jle_same (jle_same (jle_same jle_nil))) (kf h))
theorem bk_X11_pipe_13 {C : JC} {d cl sl : Nat} {Q : State → Prop} {w : JW} {x1 : Int32} {x2 : Int32} {d2 : Nat} {r : Int32} {w2 : JW} (hm : jok C MX11_pipe d cl sl) (hs : jF MX11_isIn d2 [jI x2, jI 0, jI 6] w (jI r) w2) (hd2 : d2 + 1 ≤ d) (k : jW C cl sl Q 20 [jR 41 false, jI x1, jI x2] [jI r] w2) : jW C cl sl Q 13 [jR 41 false, jI x1, jI x2] [] w := jr_iload_n hm (i := 2) rfl rfl dX11_pipe_13 (jr_iconst hm (v := 0) (by decide) dX11_pipe_14 (jr_bipush hm (v := 6) (by decide) dX11_pipe_15 (jr_callS (mc := 0) (ms := 0) hm hs hd2 jw_1274 jw_1275 jw_125 jw_1276 jn_X11_isIn rfl rfl (Nat.le_of_ble_eq_true rfl) rfl dX11_pipe_17 (jkF (jr_drop (jle_same (jle_same (jle_same jle_nil))) k)))))
theorem bk_X11_pipe_20 {C : JC} {d cl sl : Nat} {Q : State → Prop} {w : JW} {x1 : Int32} {x2 : Int32} {xs0 : Int32} (hm : jok C MX11_pipe d cl sl) (kt : xs0 = 0 → jW C cl sl Q 32 [jR 41 false, jU, jU] [] w) (kf : ¬ xs0 = 0 → jW C cl sl Q 23 [jR 41 false, jI x1, jI x2] [] w) : jW C cl sl Q 20 [jR 41 false, jI x1, jI x2] [jI xs0] w := jr_if_eq hm dX11_pipe_20 (by decide) (fun h => jr_drop (jle_same (jle_drop (jle_drop jle_nil))) (kt h)) (fun h => jr_drop (jle_same (jle_same (jle_same jle_nil))) (kf h))
theorem bk_X11_pipe_23 {C : JC} {d cl sl : Nat} {Q : State → Prop} {w : JW} {x1 : Int32} {x2 : Int32} {d2 : Nat} {r : Int32} {w2 : JW} (hm : jok C MX11_pipe d cl sl) (hs : jF MX11_pipeTold d2 [jR 41 false, jI x1, jI x2] w (jI r) w2) (hd2 : d2 + 1 ≤ d) (k : jW C cl sl Q 29 [jU, jU, jU] [jI r] w2) : jW C cl sl Q 23 [jR 41 false, jI x1, jI x2] [] w := jr_aload_n hm (i := 0) rfl rfl dX11_pipe_23 (jr_iload_n hm (i := 1) rfl rfl dX11_pipe_24 (jr_iload_n hm (i := 2) rfl rfl dX11_pipe_25 (jr_callV (mc := 0) (ms := 0) hm hs hd2 jw_1660 jw_1662 jw_98 jw_125 jw_1663 jn_X11_pipeTold rfl jo_41 (fun _ _ _ _ _ => ⟨_, rfl⟩) rfl rfl (Nat.le_of_ble_eq_true rfl) rfl dX11_pipe_26 (jkF (jr_drop (jle_drop (jle_drop (jle_drop jle_nil))) k)))))
theorem bk_X11_pipe_29 {C : JC} {d cl sl : Nat} {Q : State → Prop} {w : JW} {xs0 : Int32} (hm : jok C MX11_pipe d cl sl) (k : jW C cl sl Q 37 [jU, jU, jU] [jI xs0] w) : jW C cl sl Q 29 [jU, jU, jU] [jI xs0] w := jr_goto hm dX11_pipe_29 (by decide) (jr_drop (jle_same (jle_same (jle_same jle_nil))) k)
theorem bk_X11_pipe_32 {C : JC} {d cl sl : Nat} {Q : State → Prop} {w : JW} {d2 : Nat} {r : Int32} {w2 : JW} (hm : jok C MX11_pipe d cl sl) (hs : jF MX11_no d2 [jR 41 false, jI 1] w (jI r) w2) (hd2 : d2 + 1 ≤ d) (k : jW C cl sl Q 37 [jU, jU, jU] [jI r] w2) : jW C cl sl Q 32 [jR 41 false, jU, jU] [] w := jr_aload_n hm (i := 0) rfl rfl dX11_pipe_32 (jr_iconst hm (v := 1) (by decide) dX11_pipe_33 (jr_callV (mc := 0) (ms := 0) hm hs hd2 jw_1261 jw_1263 jw_46 jw_125 jw_1265 jn_X11_no rfl jo_41 (fun _ _ _ _ _ => ⟨_, rfl⟩) rfl rfl (Nat.le_of_ble_eq_true rfl) rfl dX11_pipe_34 (jkF (jr_drop (jle_drop (jle_same (jle_same jle_nil))) k))))
theorem bk_X11_pipe_37 {C : JC} {d cl sl : Nat} {w : JW} {xs0 : Int32} {P : JV → JW → Prop} (hm : jok C MX11_pipe d cl sl) (hp : P (jI xs0) w) : jW C cl sl (jQQ C cl sl P) 37 [jU, jU, jU] [jI xs0] w := jr_ireturn hm rfl dX11_pipe_37 hp
theorem dX11_wide_0 : decode cX11_wide 0 = .ok (.bipush 40, 2) := by decide +kernel
theorem dX11_wide_2 : decode cX11_wide 2 = .ok (.istore_n 2, 1) := by decide +kernel
theorem dX11_wide_3 : decode cX11_wide 3 = .ok (.iconst 1, 1) := by decide +kernel
theorem dX11_wide_4 : decode cX11_wide 4 = .ok (.istore_n 3, 1) := by decide +kernel
theorem dX11_wide_5 : decode cX11_wide 5 = .ok (.iconst 1, 1) := by decide +kernel
theorem dX11_wide_6 : decode cX11_wide 6 = .ok (.istore 4, 2) := by decide +kernel
theorem dX11_wide_8 : decode cX11_wide 8 = .ok (.iload 4, 2) := by decide +kernel
theorem dX11_wide_10 : decode cX11_wide 10 = .ok (.aload_n 0, 1) := by decide +kernel
theorem dX11_wide_11 : decode cX11_wide 11 = .ok (.getfield 87, 3) := by decide +kernel
theorem dX11_wide_14 : decode cX11_wide 14 = .ok (.getfield 257, 3) := by decide +kernel
theorem dX11_wide_17 : decode cX11_wide 17 = .ok (.bipush 7, 2) := by decide +kernel
theorem dX11_wide_19 : decode cX11_wide 19 = .ok (.iload_n 1, 1) := by decide +kernel
theorem dX11_wide_20 : decode cX11_wide 20 = .ok (.imul, 1) := by decide +kernel
theorem dX11_wide_21 : decode cX11_wide 21 = .ok (.iaload, 1) := by decide +kernel
theorem dX11_wide_22 : decode cX11_wide 22 = .ok (.if_icmp .gt 57, 3) := by decide +kernel
theorem dX11_wide_25 : decode cX11_wide 25 = .ok (.iload_n 2, 1) := by decide +kernel
theorem dX11_wide_26 : decode cX11_wide 26 = .ok (.aload_n 0, 1) := by decide +kernel
theorem dX11_wide_27 : decode cX11_wide 27 = .ok (.aload_n 0, 1) := by decide +kernel
theorem dX11_wide_28 : decode cX11_wide 28 = .ok (.getfield 87, 3) := by decide +kernel
theorem dX11_wide_31 : decode cX11_wide 31 = .ok (.getfield 257, 3) := by decide +kernel
theorem dX11_wide_34 : decode cX11_wide 34 = .ok (.bipush 7, 2) := by decide +kernel
theorem dX11_wide_36 : decode cX11_wide 36 = .ok (.iload_n 1, 1) := by decide +kernel
theorem dX11_wide_37 : decode cX11_wide 37 = .ok (.imul, 1) := by decide +kernel
theorem dX11_wide_38 : decode cX11_wide 38 = .ok (.iload 4, 2) := by decide +kernel
theorem dX11_wide_40 : decode cX11_wide 40 = .ok (.iadd, 1) := by decide +kernel
theorem dX11_wide_41 : decode cX11_wide 41 = .ok (.iaload, 1) := by decide +kernel
theorem dX11_wide_42 : decode cX11_wide 42 = .ok (.invokevirtual 278, 3) := by decide +kernel
theorem dX11_wide_45 : decode cX11_wide 45 = .ok (.invokestatic 248, 3) := by decide +kernel
theorem dX11_wide_48 : decode cX11_wide 48 = .ok (.istore_n 2, 1) := by decide +kernel
theorem dX11_wide_49 : decode cX11_wide 49 = .ok (.iload_n 3, 1) := by decide +kernel
theorem dX11_wide_50 : decode cX11_wide 50 = .ok (.aload_n 0, 1) := by decide +kernel
theorem dX11_wide_51 : decode cX11_wide 51 = .ok (.aload_n 0, 1) := by decide +kernel
theorem dX11_wide_52 : decode cX11_wide 52 = .ok (.getfield 87, 3) := by decide +kernel
theorem dX11_wide_55 : decode cX11_wide 55 = .ok (.getfield 257, 3) := by decide +kernel
theorem dX11_wide_58 : decode cX11_wide 58 = .ok (.bipush 7, 2) := by decide +kernel
theorem dX11_wide_60 : decode cX11_wide 60 = .ok (.iload_n 1, 1) := by decide +kernel
theorem dX11_wide_61 : decode cX11_wide 61 = .ok (.imul, 1) := by decide +kernel
theorem dX11_wide_62 : decode cX11_wide 62 = .ok (.iload 4, 2) := by decide +kernel
theorem dX11_wide_64 : decode cX11_wide 64 = .ok (.iadd, 1) := by decide +kernel
theorem dX11_wide_65 : decode cX11_wide 65 = .ok (.iaload, 1) := by decide +kernel
theorem dX11_wide_66 : decode cX11_wide 66 = .ok (.invokevirtual 278, 3) := by decide +kernel
theorem dX11_wide_69 : decode cX11_wide 69 = .ok (.invokestatic 296, 3) := by decide +kernel
theorem dX11_wide_72 : decode cX11_wide 72 = .ok (.istore_n 3, 1) := by decide +kernel
theorem dX11_wide_73 : decode cX11_wide 73 = .ok (.iinc 4 1, 3) := by decide +kernel
theorem dX11_wide_76 : decode cX11_wide 76 = .ok (.goto (-68), 3) := by decide +kernel
theorem dX11_wide_79 : decode cX11_wide 79 = .ok (.iload_n 3, 1) := by decide +kernel
theorem dX11_wide_80 : decode cX11_wide 80 = .ok (.iload_n 2, 1) := by decide +kernel
theorem dX11_wide_81 : decode cX11_wide 81 = .ok (.isub, 1) := by decide +kernel
theorem dX11_wide_82 : decode cX11_wide 82 = .ok (.ireturn, 1) := by decide +kernel
theorem bk_X11_wide_0 {C : JC} {d cl sl : Nat} {Q : State → Prop} {w : JW} {x1 : Int32} (hm : jok C MX11_wide d cl sl) (k : jW C cl sl Q 8 [jR 41 false, jI x1, jI 40, jI 1, jI 1] [] w) : jW C cl sl Q 0 [jR 41 false, jI x1, jU, jU, jU] [] w := jr_bipush hm (v := 40) (by decide) dX11_wide_0 (jr_istore_n hm (i := 2) rfl (Nat.le_of_ble_eq_true rfl) rfl dX11_wide_2 (jr_iconst hm (v := 1) (by decide) dX11_wide_3 (jr_istore_n hm (i := 3) rfl (Nat.le_of_ble_eq_true rfl) rfl dX11_wide_4 (jr_iconst hm (v := 1) (by decide) dX11_wide_5 (jr_istore hm (i := 4) (Nat.le_of_ble_eq_true rfl) rfl dX11_wide_6 (jr_drop (jle_same (jle_same (jle_same (jle_same (jle_same jle_nil))))) k))))))
theorem bk_X11_wide_8 {C : JC} {d cl sl : Nat} {Q : State → Prop} {w : JW} {x1 : Int32} {x2 : Int32} {x3 : Int32} {x4 : Int32} (hm : jok C MX11_wide d cl sl) (h1 : vp_in (7 * x1) 42) (kt : (w.1 58 (w.2.2 41 8) (7 * x1).toNatClampNeg) < x4 → jW C cl sl Q 79 [jU, jU, jI x2, jI x3, jU] [] w) (kf : ¬ (w.1 58 (w.2.2 41 8) (7 * x1).toNatClampNeg) < x4 → jW C cl sl Q 25 [jR 41 false, jI x1, jI x2, jI x3, jI x4] [] w) : jW C cl sl Q 8 [jR 41 false, jI x1, jI x2, jI x3, jI x4] [] w := jr_iload hm (i := 4) rfl dX11_wide_8 (jr_aload_n hm (i := 0) rfl rfl dX11_wide_10 (fg_X11_87 hm dX11_wide_11 (fg_X11_257 hm dX11_wide_14 (jr_bipush hm (v := 7) (by decide) dX11_wide_17 (jr_iload_n hm (i := 1) rfl rfl dX11_wide_19 (jr_imul hm dX11_wide_20 (jr_iaload hm (ja_58 (w.2.2 41 8)) h1 dX11_wide_21 (jr_icmp_gt hm dX11_wide_22 (by decide) (fun h => jr_drop (jle_drop (jle_drop (jle_same (jle_same (jle_drop jle_nil))))) (kt h)) (fun h => jr_drop (jle_same (jle_same (jle_same (jle_same (jle_same jle_nil))))) (kf h))))))))))
theorem bk_X11_wide_25 {C : JC} {d cl sl : Nat} {Q : State → Prop} {w : JW} {x1 : Int32} {x2 : Int32} {x3 : Int32} {x4 : Int32} {d2 : Nat} {r : Int32} {w2 : JW} (hm : jok C MX11_wide d cl sl) (h1 : vp_in ((7 * x1) + x4) 42) (hs : jF MX11_lengthOf d2 [jR 41 false, jI (w.1 58 (w.2.2 41 8) ((7 * x1) + x4).toNatClampNeg)] w (jI r) w2) (hd2 : d2 + 1 ≤ d) (k : jW C cl sl Q 45 [jR 41 false, jI x1, jU, jI x3, jI x4] [jI r, jI x2] w2) : jW C cl sl Q 25 [jR 41 false, jI x1, jI x2, jI x3, jI x4] [] w := jr_iload_n hm (i := 2) rfl rfl dX11_wide_25 (jr_aload_n hm (i := 0) rfl rfl dX11_wide_26 (jr_aload_n hm (i := 0) rfl rfl dX11_wide_27 (fg_X11_87 hm dX11_wide_28 (fg_X11_257 hm dX11_wide_31 (jr_bipush hm (v := 7) (by decide) dX11_wide_34 (jr_iload_n hm (i := 1) rfl rfl dX11_wide_36 (jr_imul hm dX11_wide_37 (jr_iload hm (i := 4) rfl dX11_wide_38 (jr_iadd hm dX11_wide_40 (jr_iaload hm (ja_58 (w.2.2 41 8)) h1 dX11_wide_41 (jr_callV (mc := 0) (ms := 0) hm hs hd2 jw_1668 jw_1670 jw_100 jw_125 jw_1671 jn_X11_lengthOf rfl jo_41 (fun _ _ _ _ _ => ⟨_, rfl⟩) rfl rfl (Nat.le_of_ble_eq_true rfl) rfl dX11_wide_42 (jkF (jr_drop (jle_same (jle_same (jle_drop (jle_same (jle_same jle_nil))))) k)))))))))))))
theorem bk_X11_wide_45 {C : JC} {d cl sl : Nat} {Q : State → Prop} {w : JW} {x1 : Int32} {x3 : Int32} {x4 : Int32} {xs0 : Int32} {xs1 : Int32} {d2 : Nat} {r : Int32} {w2 : JW} (hm : jok C MX11_wide d cl sl) (hd1 : 1 ≤ d) (h1 : vp_in ((7 * x1) + x4) 42) (hs : jF MX11_lengthOf d2 [jR 41 false, jI (w.1 58 (w.2.2 41 8) ((7 * x1) + x4).toNatClampNeg)] w (jI r) w2) (hd2 : d2 + 1 ≤ d) (k : jW C cl sl Q 69 [jR 41 false, jI x1, jI (if xs0 < xs1 then xs0 else xs1), jU, jI x4] [jI r, jI x3] w2) : jW C cl sl Q 45 [jR 41 false, jI x1, jU, jI x3, jI x4] [jI xs0, jI xs1] w := jr_mmin hm jw_1530 jw_561 jw_136 jw_562 hd1 (Nat.le_of_ble_eq_true rfl) rfl dX11_wide_45 (jr_istore_n hm (i := 2) rfl (Nat.le_of_ble_eq_true rfl) rfl dX11_wide_48 (jr_iload_n hm (i := 3) rfl rfl dX11_wide_49 (jr_aload_n hm (i := 0) rfl rfl dX11_wide_50 (jr_aload_n hm (i := 0) rfl rfl dX11_wide_51 (fg_X11_87 hm dX11_wide_52 (fg_X11_257 hm dX11_wide_55 (jr_bipush hm (v := 7) (by decide) dX11_wide_58 (jr_iload_n hm (i := 1) rfl rfl dX11_wide_60 (jr_imul hm dX11_wide_61 (jr_iload hm (i := 4) rfl dX11_wide_62 (jr_iadd hm dX11_wide_64 (jr_iaload hm (ja_58 (w.2.2 41 8)) h1 dX11_wide_65 (jr_callV (mc := 0) (ms := 0) hm hs hd2 jw_1668 jw_1670 jw_100 jw_125 jw_1671 jn_X11_lengthOf rfl jo_41 (fun _ _ _ _ _ => ⟨_, rfl⟩) rfl rfl (Nat.le_of_ble_eq_true rfl) rfl dX11_wide_66 (jkF (jr_drop (jle_same (jle_same (jle_same (jle_drop (jle_same jle_nil))))) k)))))))))))))))
theorem bk_X11_wide_69 {C : JC} {d cl sl : Nat} {Q : State → Prop} {w : JW} {x1 : Int32} {x2 : Int32} {x4 : Int32} {xs0 : Int32} {xs1 : Int32} (hm : jok C MX11_wide d cl sl) (hd1 : 1 ≤ d) (k : jW C cl sl Q 8 [jR 41 false, jI x1, jI x2, jI (if xs1 < xs0 then xs0 else xs1), jI (x4 + 1)] [] w) : jW C cl sl Q 69 [jR 41 false, jI x1, jI x2, jU, jI x4] [jI xs0, jI xs1] w := jr_mmax hm jw_1648 jw_558 jw_136 jw_559 hd1 (Nat.le_of_ble_eq_true rfl) rfl dX11_wide_69 (jr_istore_n hm (i := 3) rfl (Nat.le_of_ble_eq_true rfl) rfl dX11_wide_72 (jr_iinc hm (i := 4) (v := x4 + 1) rfl rfl rfl dX11_wide_73 (jr_goto hm dX11_wide_76 (by decide) (jr_drop (jle_same (jle_same (jle_same (jle_same (jle_same jle_nil))))) k))))
theorem bk_X11_wide_79 {C : JC} {d cl sl : Nat} {w : JW} {x2 : Int32} {x3 : Int32} {P : JV → JW → Prop} (hm : jok C MX11_wide d cl sl) (hp : P (jI (x3 - x2)) w) : jW C cl sl (jQQ C cl sl P) 79 [jU, jU, jI x2, jI x3, jU] [] w := jr_iload_n hm (i := 3) rfl rfl dX11_wide_79 (jr_iload_n hm (i := 2) rfl rfl dX11_wide_80 (jr_isub hm dX11_wide_81 (jr_ireturn hm rfl dX11_wide_82 hp)))
theorem dX11_chordTold_0 : decode cX11_chordTold 0 = .ok (.iload_n 2, 1) := by decide +kernel
theorem dX11_chordTold_1 : decode cX11_chordTold 1 = .ok (.tableswitch 64 0 2 #[27, 40, 58], 27) := by decide +kernel
theorem dX11_chordTold_28 : decode cX11_chordTold 28 = .ok (.aload_n 0, 1) := by decide +kernel
theorem dX11_chordTold_29 : decode cX11_chordTold 29 = .ok (.getfield 87, 3) := by decide +kernel
theorem dX11_chordTold_32 : decode cX11_chordTold 32 = .ok (.getfield 257, 3) := by decide +kernel
theorem dX11_chordTold_35 : decode cX11_chordTold 35 = .ok (.bipush 7, 2) := by decide +kernel
theorem dX11_chordTold_37 : decode cX11_chordTold 37 = .ok (.iload_n 1, 1) := by decide +kernel
theorem dX11_chordTold_38 : decode cX11_chordTold 38 = .ok (.imul, 1) := by decide +kernel
theorem dX11_chordTold_39 : decode cX11_chordTold 39 = .ok (.iaload, 1) := by decide +kernel
theorem dX11_chordTold_40 : decode cX11_chordTold 40 = .ok (.ireturn, 1) := by decide +kernel
theorem dX11_chordTold_41 : decode cX11_chordTold 41 = .ok (.aload_n 0, 1) := by decide +kernel
theorem dX11_chordTold_42 : decode cX11_chordTold 42 = .ok (.aload_n 0, 1) := by decide +kernel
theorem dX11_chordTold_43 : decode cX11_chordTold 43 = .ok (.getfield 106, 3) := by decide +kernel
theorem dX11_chordTold_46 : decode cX11_chordTold 46 = .ok (.iload_n 1, 1) := by decide +kernel
theorem dX11_chordTold_47 : decode cX11_chordTold 47 = .ok (.invokevirtual 319, 3) := by decide +kernel
theorem dX11_chordTold_50 : decode cX11_chordTold 50 = .ok (.ifCond .eq 7, 3) := by decide +kernel
theorem dX11_chordTold_53 : decode cX11_chordTold 53 = .ok (.iconst 1, 1) := by decide +kernel
theorem dX11_chordTold_54 : decode cX11_chordTold 54 = .ok (.goto 4, 3) := by decide +kernel
theorem dX11_chordTold_57 : decode cX11_chordTold 57 = .ok (.iconst 0, 1) := by decide +kernel
theorem dX11_chordTold_58 : decode cX11_chordTold 58 = .ok (.ireturn, 1) := by decide +kernel
theorem dX11_chordTold_59 : decode cX11_chordTold 59 = .ok (.aload_n 0, 1) := by decide +kernel
theorem dX11_chordTold_60 : decode cX11_chordTold 60 = .ok (.iload_n 1, 1) := by decide +kernel
theorem dX11_chordTold_61 : decode cX11_chordTold 61 = .ok (.invokevirtual 373, 3) := by decide +kernel
theorem dX11_chordTold_64 : decode cX11_chordTold 64 = .ok (.ireturn, 1) := by decide +kernel
theorem dX11_chordTold_65 : decode cX11_chordTold 65 = .ok (.aload_n 0, 1) := by decide +kernel
theorem dX11_chordTold_66 : decode cX11_chordTold 66 = .ok (.getfield 106, 3) := by decide +kernel
theorem dX11_chordTold_69 : decode cX11_chordTold 69 = .ok (.bipush 45, 2) := by decide +kernel
theorem dX11_chordTold_71 : decode cX11_chordTold 71 = .ok (.iload_n 1, 1) := by decide +kernel
theorem dX11_chordTold_72 : decode cX11_chordTold 72 = .ok (.iadd, 1) := by decide +kernel
theorem dX11_chordTold_73 : decode cX11_chordTold 73 = .ok (.iaload, 1) := by decide +kernel
theorem dX11_chordTold_74 : decode cX11_chordTold 74 = .ok (.ireturn, 1) := by decide +kernel
theorem bk_X11_chordTold_0 {C : JC} {d cl sl : Nat} {Q : State → Prop} {w : JW} {x1 : Int32} {x2 : Int32} (hm : jok C MX11_chordTold d cl sl) (k0 : x2 = 0 → jW C cl sl Q 28 [jR 41 false, jI x1, jU] [] w) (k1 : x2 = 1 → jW C cl sl Q 41 [jR 41 false, jI x1, jU] [] w) (k2 : x2 = 2 → jW C cl sl Q 59 [jR 41 false, jI x1, jU] [] w) (kd : ¬ x2 = 0 → ¬ x2 = 1 → ¬ x2 = 2 → jW C cl sl Q 65 [jR 41 false, jI x1, jU] [] w) : jW C cl sl Q 0 [jR 41 false, jI x1, jI x2] [] w := by
  by_cases e0 : x2 = 0
  · exact jr_iload_n hm (i := 2) rfl rfl dX11_chordTold_0 (jr_tab_in hm dX11_chordTold_1 (by rw [e0]; decide) (by rw [e0]; decide) (off := 27) (by rw [e0]; rfl) (by decide) (jr_drop (jle_same (jle_same (jle_drop jle_nil))) (k0 e0)))
  by_cases e1 : x2 = 1
  · exact jr_iload_n hm (i := 2) rfl rfl dX11_chordTold_0 (jr_tab_in hm dX11_chordTold_1 (by rw [e1]; decide) (by rw [e1]; decide) (off := 40) (by rw [e1]; rfl) (by decide) (jr_drop (jle_same (jle_same (jle_drop jle_nil))) (k1 e1)))
  by_cases e2 : x2 = 2
  · exact jr_iload_n hm (i := 2) rfl rfl dX11_chordTold_0 (jr_tab_in hm dX11_chordTold_1 (by rw [e2]; decide) (by rw [e2]; decide) (off := 58) (by rw [e2]; rfl) (by decide) (jr_drop (jle_same (jle_same (jle_drop jle_nil))) (k2 e2)))
  have t0 : ¬ (x2).toInt = 0 := fun e => e0 (Int32.toInt_inj.mp (e.trans (by decide)))
  have t1 : ¬ (x2).toInt = 1 := fun e => e1 (Int32.toInt_inj.mp (e.trans (by decide)))
  have t2 : ¬ (x2).toInt = 2 := fun e => e2 (Int32.toInt_inj.mp (e.trans (by decide)))
  exact jr_iload_n hm (i := 2) rfl rfl dX11_chordTold_0 (jr_tab_out hm dX11_chordTold_1 (by omega) (by decide) (jr_drop (jle_same (jle_same (jle_drop jle_nil))) (kd e0 e1 e2)))
theorem bk_X11_chordTold_28 {C : JC} {d cl sl : Nat} {w : JW} {x1 : Int32} {P : JV → JW → Prop} (hm : jok C MX11_chordTold d cl sl) (h1 : vp_in (7 * x1) 42) (hp : P (jI (w.1 58 (w.2.2 41 8) (7 * x1).toNatClampNeg)) w) : jW C cl sl (jQQ C cl sl P) 28 [jR 41 false, jI x1, jU] [] w := jr_aload_n hm (i := 0) rfl rfl dX11_chordTold_28 (fg_X11_87 hm dX11_chordTold_29 (fg_X11_257 hm dX11_chordTold_32 (jr_bipush hm (v := 7) (by decide) dX11_chordTold_35 (jr_iload_n hm (i := 1) rfl rfl dX11_chordTold_37 (jr_imul hm dX11_chordTold_38 (jr_iaload hm (ja_58 (w.2.2 41 8)) h1 dX11_chordTold_39 (jr_ireturn hm rfl dX11_chordTold_40 hp)))))))
theorem bk_X11_chordTold_41 {C : JC} {d cl sl : Nat} {Q : State → Prop} {w : JW} {x1 : Int32} {d2 : Nat} {r : Int32} {w2 : JW} (hm : jok C MX11_chordTold d cl sl) (hs : jF MX11_chimes d2 [jR 41 false, jR 51 false, jI x1] w (jI r) w2) (hd2 : d2 + 1 ≤ d) (k : jW C cl sl Q 50 [jU, jU, jU] [jI r] w2) : jW C cl sl Q 41 [jR 41 false, jI x1, jU] [] w := jr_aload_n hm (i := 0) rfl rfl dX11_chordTold_41 (jr_aload_n hm (i := 0) rfl rfl dX11_chordTold_42 (fg_X11_106 hm dX11_chordTold_43 (jr_iload_n hm (i := 1) rfl rfl dX11_chordTold_46 (jr_callV (mc := 0) (ms := 0) hm hs hd2 jw_1608 jw_1610 jw_88 jw_125 jw_1611 jn_X11_chimes rfl jo_41 (fun _ _ _ _ _ => ⟨_, rfl⟩) rfl rfl (Nat.le_of_ble_eq_true rfl) rfl dX11_chordTold_47 (jkF (jr_drop (jle_drop (jle_drop (jle_same jle_nil))) k))))))
theorem bk_X11_chordTold_50 {C : JC} {d cl sl : Nat} {Q : State → Prop} {w : JW} {xs0 : Int32} (hm : jok C MX11_chordTold d cl sl) (kt : xs0 = 0 → jW C cl sl Q 57 [jU, jU, jU] [] w) (kf : ¬ xs0 = 0 → jW C cl sl Q 53 [jU, jU, jU] [] w) : jW C cl sl Q 50 [jU, jU, jU] [jI xs0] w := jr_if_eq hm dX11_chordTold_50 (by decide) (fun h => jr_drop (jle_same (jle_same (jle_same jle_nil))) (kt h)) (fun h => jr_drop (jle_same (jle_same (jle_same jle_nil))) (kf h))
theorem bk_X11_chordTold_53 {C : JC} {d cl sl : Nat} {Q : State → Prop} {w : JW}  (hm : jok C MX11_chordTold d cl sl) (k : jW C cl sl Q 58 [jU, jU, jU] [jI 1] w) : jW C cl sl Q 53 [jU, jU, jU] [] w := jr_iconst hm (v := 1) (by decide) dX11_chordTold_53 (jr_goto hm dX11_chordTold_54 (by decide) (jr_drop (jle_same (jle_same (jle_same jle_nil))) k))
theorem bk_X11_chordTold_57 {C : JC} {d cl sl : Nat} {Q : State → Prop} {w : JW}  (hm : jok C MX11_chordTold d cl sl) (k : jW C cl sl Q 58 [jU, jU, jU] [jI 0] w) : jW C cl sl Q 57 [jU, jU, jU] [] w := jr_iconst hm (v := 0) (by decide) dX11_chordTold_57 (jr_drop (jle_same (jle_same (jle_same jle_nil))) k)
theorem bk_X11_chordTold_58 {C : JC} {d cl sl : Nat} {w : JW} {xs0 : Int32} {P : JV → JW → Prop} (hm : jok C MX11_chordTold d cl sl) (hp : P (jI xs0) w) : jW C cl sl (jQQ C cl sl P) 58 [jU, jU, jU] [jI xs0] w := jr_ireturn hm rfl dX11_chordTold_58 hp
theorem bk_X11_chordTold_59 {C : JC} {d cl sl : Nat} {Q : State → Prop} {w : JW} {x1 : Int32} {d2 : Nat} {r : Int32} {w2 : JW} (hm : jok C MX11_chordTold d cl sl) (hs : jF MX11_wide d2 [jR 41 false, jI x1] w (jI r) w2) (hd2 : d2 + 1 ≤ d) (k : jW C cl sl Q 64 [jU, jU, jU] [jI r] w2) : jW C cl sl Q 59 [jR 41 false, jI x1, jU] [] w := jr_aload_n hm (i := 0) rfl rfl dX11_chordTold_59 (jr_iload_n hm (i := 1) rfl rfl dX11_chordTold_60 (jr_callV (mc := 0) (ms := 0) hm hs hd2 jw_1688 jw_1690 jw_104 jw_125 jw_1691 jn_X11_wide rfl jo_41 (fun _ _ _ _ _ => ⟨_, rfl⟩) rfl rfl (Nat.le_of_ble_eq_true rfl) rfl dX11_chordTold_61 (jkF (jr_drop (jle_drop (jle_drop (jle_same jle_nil))) k))))
theorem bk_X11_chordTold_64 {C : JC} {d cl sl : Nat} {w : JW} {xs0 : Int32} {P : JV → JW → Prop} (hm : jok C MX11_chordTold d cl sl) (hp : P (jI xs0) w) : jW C cl sl (jQQ C cl sl P) 64 [jU, jU, jU] [jI xs0] w := jr_ireturn hm rfl dX11_chordTold_64 hp
theorem bk_X11_chordTold_65 {C : JC} {d cl sl : Nat} {w : JW} {x1 : Int32} {P : JV → JW → Prop} (hm : jok C MX11_chordTold d cl sl) (h1 : vp_in (45 + x1) 51) (hp : P (jI (w.1 51 false (45 + x1).toNatClampNeg)) w) : jW C cl sl (jQQ C cl sl P) 65 [jR 41 false, jI x1, jU] [] w := jr_aload_n hm (i := 0) rfl rfl dX11_chordTold_65 (fg_X11_106 hm dX11_chordTold_66 (jr_bipush hm (v := 45) (by decide) dX11_chordTold_69 (jr_iload_n hm (i := 1) rfl rfl dX11_chordTold_71 (jr_iadd hm dX11_chordTold_72 (jr_iaload hm ja_51 h1 dX11_chordTold_73 (jr_ireturn hm rfl dX11_chordTold_74 hp))))))
theorem dX11_chord_0 : decode cX11_chord 0 = .ok (.aload_n 0, 1) := by decide +kernel
theorem dX11_chord_1 : decode cX11_chord 1 = .ok (.iconst 0, 1) := by decide +kernel
theorem dX11_chord_2 : decode cX11_chord 2 = .ok (.putfield 1, 3) := by decide +kernel
theorem dX11_chord_5 : decode cX11_chord 5 = .ok (.aload_n 0, 1) := by decide +kernel
theorem dX11_chord_6 : decode cX11_chord 6 = .ok (.iload_n 1, 1) := by decide +kernel
theorem dX11_chord_7 : decode cX11_chord 7 = .ok (.invokevirtual 376, 3) := by decide +kernel
theorem dX11_chord_10 : decode cX11_chord 10 = .ok (.ifCond .eq 21, 3) := by decide +kernel
theorem dX11_chord_13 : decode cX11_chord 13 = .ok (.iload_n 2, 1) := by decide +kernel
theorem dX11_chord_14 : decode cX11_chord 14 = .ok (.iconst 0, 1) := by decide +kernel
theorem dX11_chord_15 : decode cX11_chord 15 = .ok (.iconst 3, 1) := by decide +kernel
theorem dX11_chord_16 : decode cX11_chord 16 = .ok (.invokestatic 22, 3) := by decide +kernel
theorem dX11_chord_19 : decode cX11_chord 19 = .ok (.ifCond .eq 12, 3) := by decide +kernel
theorem dX11_chord_22 : decode cX11_chord 22 = .ok (.aload_n 0, 1) := by decide +kernel
theorem dX11_chord_23 : decode cX11_chord 23 = .ok (.iload_n 1, 1) := by decide +kernel
theorem dX11_chord_24 : decode cX11_chord 24 = .ok (.iload_n 2, 1) := by decide +kernel
theorem dX11_chord_25 : decode cX11_chord 25 = .ok (.invokevirtual 379, 3) := by decide +kernel
theorem dX11_chord_28 : decode cX11_chord 28 = .ok (.goto 8, 3) := by decide +kernel
theorem dX11_chord_31 : decode cX11_chord 31 = .ok (.aload_n 0, 1) := by decide +kernel
theorem dX11_chord_32 : decode cX11_chord 32 = .ok (.iconst 1, 1) := by decide +kernel
theorem dX11_chord_33 : decode cX11_chord 33 = .ok (.invokevirtual 10, 3) := by decide +kernel
theorem dX11_chord_36 : decode cX11_chord 36 = .ok (.ireturn, 1) := by decide +kernel
theorem bk_X11_chord_0 {C : JC} {d cl sl : Nat} {Q : State → Prop} {w : JW} {x1 : Int32} {x2 : Int32} {d2 : Nat} {r : Int32} {w2 : JW} (hm : jok C MX11_chord d cl sl) (hs : jF MX11_isChord d2 [jR 41 false, jI x1] (jset w 41 false 0 0) (jI r) w2) (hd2 : d2 + 1 ≤ d) (k : jW C cl sl Q 10 [jR 41 false, jI x1, jI x2] [jI r] w2) : jW C cl sl Q 0 [jR 41 false, jI x1, jI x2] [] w := jr_aload_n hm (i := 0) rfl rfl dX11_chord_0 (jr_iconst hm (v := 0) (by decide) dX11_chord_1 (fp_X11_1 hm dX11_chord_2 (jr_aload_n hm (i := 0) rfl rfl dX11_chord_5 (jr_iload_n hm (i := 1) rfl rfl dX11_chord_6 (jr_callV (mc := 0) (ms := 0) hm hs hd2 jw_1680 jw_1682 jw_102 jw_125 jw_1683 jn_X11_isChord rfl jo_41 (fun _ _ _ _ _ => ⟨_, rfl⟩) rfl rfl (Nat.le_of_ble_eq_true rfl) rfl dX11_chord_7 (jkF (jr_drop (jle_same (jle_same (jle_same jle_nil))) k)))))))
theorem bk_X11_chord_10 {C : JC} {d cl sl : Nat} {Q : State → Prop} {w : JW} {x1 : Int32} {x2 : Int32} {xs0 : Int32} (hm : jok C MX11_chord d cl sl) (kt : xs0 = 0 → jW C cl sl Q 31 [jR 41 false, jU, jU] [] w) (kf : ¬ xs0 = 0 → jW C cl sl Q 13 [jR 41 false, jI x1, jI x2] [] w) : jW C cl sl Q 10 [jR 41 false, jI x1, jI x2] [jI xs0] w := jr_if_eq hm dX11_chord_10 (by decide) (fun h => jr_drop (jle_same (jle_drop (jle_drop jle_nil))) (kt h)) (fun h => jr_drop (jle_same (jle_same (jle_same jle_nil))) (kf h))
theorem bk_X11_chord_13 {C : JC} {d cl sl : Nat} {Q : State → Prop} {w : JW} {x1 : Int32} {x2 : Int32} {d2 : Nat} {r : Int32} {w2 : JW} (hm : jok C MX11_chord d cl sl) (hs : jF MX11_isIn d2 [jI x2, jI 0, jI 3] w (jI r) w2) (hd2 : d2 + 1 ≤ d) (k : jW C cl sl Q 19 [jR 41 false, jI x1, jI x2] [jI r] w2) : jW C cl sl Q 13 [jR 41 false, jI x1, jI x2] [] w := jr_iload_n hm (i := 2) rfl rfl dX11_chord_13 (jr_iconst hm (v := 0) (by decide) dX11_chord_14 (jr_iconst hm (v := 3) (by decide) dX11_chord_15 (jr_callS (mc := 0) (ms := 0) hm hs hd2 jw_1274 jw_1275 jw_125 jw_1276 jn_X11_isIn rfl rfl (Nat.le_of_ble_eq_true rfl) rfl dX11_chord_16 (jkF (jr_drop (jle_same (jle_same (jle_same jle_nil))) k)))))
theorem bk_X11_chord_19 {C : JC} {d cl sl : Nat} {Q : State → Prop} {w : JW} {x1 : Int32} {x2 : Int32} {xs0 : Int32} (hm : jok C MX11_chord d cl sl) (kt : xs0 = 0 → jW C cl sl Q 31 [jR 41 false, jU, jU] [] w) (kf : ¬ xs0 = 0 → jW C cl sl Q 22 [jR 41 false, jI x1, jI x2] [] w) : jW C cl sl Q 19 [jR 41 false, jI x1, jI x2] [jI xs0] w := jr_if_eq hm dX11_chord_19 (by decide) (fun h => jr_drop (jle_same (jle_drop (jle_drop jle_nil))) (kt h)) (fun h => jr_drop (jle_same (jle_same (jle_same jle_nil))) (kf h))
theorem bk_X11_chord_22 {C : JC} {d cl sl : Nat} {Q : State → Prop} {w : JW} {x1 : Int32} {x2 : Int32} {d2 : Nat} {r : Int32} {w2 : JW} (hm : jok C MX11_chord d cl sl) (hs : jF MX11_chordTold d2 [jR 41 false, jI x1, jI x2] w (jI r) w2) (hd2 : d2 + 1 ≤ d) (k : jW C cl sl Q 28 [jU, jU, jU] [jI r] w2) : jW C cl sl Q 22 [jR 41 false, jI x1, jI x2] [] w := jr_aload_n hm (i := 0) rfl rfl dX11_chord_22 (jr_iload_n hm (i := 1) rfl rfl dX11_chord_23 (jr_iload_n hm (i := 2) rfl rfl dX11_chord_24 (jr_callV (mc := 0) (ms := 0) hm hs hd2 jw_1684 jw_1686 jw_103 jw_125 jw_1687 jn_X11_chordTold rfl jo_41 (fun _ _ _ _ _ => ⟨_, rfl⟩) rfl rfl (Nat.le_of_ble_eq_true rfl) rfl dX11_chord_25 (jkF (jr_drop (jle_drop (jle_drop (jle_drop jle_nil))) k)))))
theorem bk_X11_chord_28 {C : JC} {d cl sl : Nat} {Q : State → Prop} {w : JW} {xs0 : Int32} (hm : jok C MX11_chord d cl sl) (k : jW C cl sl Q 36 [jU, jU, jU] [jI xs0] w) : jW C cl sl Q 28 [jU, jU, jU] [jI xs0] w := jr_goto hm dX11_chord_28 (by decide) (jr_drop (jle_same (jle_same (jle_same jle_nil))) k)
theorem bk_X11_chord_31 {C : JC} {d cl sl : Nat} {Q : State → Prop} {w : JW} {d2 : Nat} {r : Int32} {w2 : JW} (hm : jok C MX11_chord d cl sl) (hs : jF MX11_no d2 [jR 41 false, jI 1] w (jI r) w2) (hd2 : d2 + 1 ≤ d) (k : jW C cl sl Q 36 [jU, jU, jU] [jI r] w2) : jW C cl sl Q 31 [jR 41 false, jU, jU] [] w := jr_aload_n hm (i := 0) rfl rfl dX11_chord_31 (jr_iconst hm (v := 1) (by decide) dX11_chord_32 (jr_callV (mc := 0) (ms := 0) hm hs hd2 jw_1261 jw_1263 jw_46 jw_125 jw_1265 jn_X11_no rfl jo_41 (fun _ _ _ _ _ => ⟨_, rfl⟩) rfl rfl (Nat.le_of_ble_eq_true rfl) rfl dX11_chord_33 (jkF (jr_drop (jle_drop (jle_same (jle_same jle_nil))) k))))
theorem bk_X11_chord_36 {C : JC} {d cl sl : Nat} {w : JW} {xs0 : Int32} {P : JV → JW → Prop} (hm : jok C MX11_chord d cl sl) (hp : P (jI xs0) w) : jW C cl sl (jQQ C cl sl P) 36 [jU, jU, jU] [jI xs0] w := jr_ireturn hm rfl dX11_chord_36 hp
theorem dX11_note_0 : decode cX11_note 0 = .ok (.aload_n 0, 1) := by decide +kernel
theorem dX11_note_1 : decode cX11_note 1 = .ok (.iconst 0, 1) := by decide +kernel
theorem dX11_note_2 : decode cX11_note 2 = .ok (.putfield 1, 3) := by decide +kernel
theorem dX11_note_5 : decode cX11_note 5 = .ok (.aload_n 0, 1) := by decide +kernel
theorem dX11_note_6 : decode cX11_note 6 = .ok (.iload_n 1, 1) := by decide +kernel
theorem dX11_note_7 : decode cX11_note 7 = .ok (.invokevirtual 376, 3) := by decide +kernel
theorem dX11_note_10 : decode cX11_note 10 = .ok (.ifCond .eq 44, 3) := by decide +kernel
theorem dX11_note_13 : decode cX11_note 13 = .ok (.iload_n 2, 1) := by decide +kernel
theorem dX11_note_14 : decode cX11_note 14 = .ok (.iconst 0, 1) := by decide +kernel
theorem dX11_note_15 : decode cX11_note 15 = .ok (.aload_n 0, 1) := by decide +kernel
theorem dX11_note_16 : decode cX11_note 16 = .ok (.getfield 87, 3) := by decide +kernel
theorem dX11_note_19 : decode cX11_note 19 = .ok (.getfield 257, 3) := by decide +kernel
theorem dX11_note_22 : decode cX11_note 22 = .ok (.bipush 7, 2) := by decide +kernel
theorem dX11_note_24 : decode cX11_note 24 = .ok (.iload_n 1, 1) := by decide +kernel
theorem dX11_note_25 : decode cX11_note 25 = .ok (.imul, 1) := by decide +kernel
theorem dX11_note_26 : decode cX11_note 26 = .ok (.iaload, 1) := by decide +kernel
theorem dX11_note_27 : decode cX11_note 27 = .ok (.iconst 1, 1) := by decide +kernel
theorem dX11_note_28 : decode cX11_note 28 = .ok (.isub, 1) := by decide +kernel
theorem dX11_note_29 : decode cX11_note 29 = .ok (.invokestatic 22, 3) := by decide +kernel
theorem dX11_note_32 : decode cX11_note 32 = .ok (.ifCond .eq 22, 3) := by decide +kernel
theorem dX11_note_35 : decode cX11_note 35 = .ok (.aload_n 0, 1) := by decide +kernel
theorem dX11_note_36 : decode cX11_note 36 = .ok (.getfield 87, 3) := by decide +kernel
theorem dX11_note_39 : decode cX11_note 39 = .ok (.getfield 257, 3) := by decide +kernel
theorem dX11_note_42 : decode cX11_note 42 = .ok (.bipush 7, 2) := by decide +kernel
theorem dX11_note_44 : decode cX11_note 44 = .ok (.iload_n 1, 1) := by decide +kernel
theorem dX11_note_45 : decode cX11_note 45 = .ok (.imul, 1) := by decide +kernel
theorem dX11_note_46 : decode cX11_note 46 = .ok (.iconst 1, 1) := by decide +kernel
theorem dX11_note_47 : decode cX11_note 47 = .ok (.iadd, 1) := by decide +kernel
theorem dX11_note_48 : decode cX11_note 48 = .ok (.iload_n 2, 1) := by decide +kernel
theorem dX11_note_49 : decode cX11_note 49 = .ok (.iadd, 1) := by decide +kernel
theorem dX11_note_50 : decode cX11_note 50 = .ok (.iaload, 1) := by decide +kernel
theorem dX11_note_51 : decode cX11_note 51 = .ok (.goto 8, 3) := by decide +kernel
theorem dX11_note_54 : decode cX11_note 54 = .ok (.aload_n 0, 1) := by decide +kernel
theorem dX11_note_55 : decode cX11_note 55 = .ok (.iconst 1, 1) := by decide +kernel
theorem dX11_note_56 : decode cX11_note 56 = .ok (.invokevirtual 10, 3) := by decide +kernel
theorem dX11_note_59 : decode cX11_note 59 = .ok (.ireturn, 1) := by decide +kernel
theorem bk_X11_note_0 {C : JC} {d cl sl : Nat} {Q : State → Prop} {w : JW} {x1 : Int32} {x2 : Int32} {d2 : Nat} {r : Int32} {w2 : JW} (hm : jok C MX11_note d cl sl) (hs : jF MX11_isChord d2 [jR 41 false, jI x1] (jset w 41 false 0 0) (jI r) w2) (hd2 : d2 + 1 ≤ d) (k : jW C cl sl Q 10 [jR 41 false, jI x1, jI x2] [jI r] w2) : jW C cl sl Q 0 [jR 41 false, jI x1, jI x2] [] w := jr_aload_n hm (i := 0) rfl rfl dX11_note_0 (jr_iconst hm (v := 0) (by decide) dX11_note_1 (fp_X11_1 hm dX11_note_2 (jr_aload_n hm (i := 0) rfl rfl dX11_note_5 (jr_iload_n hm (i := 1) rfl rfl dX11_note_6 (jr_callV (mc := 0) (ms := 0) hm hs hd2 jw_1680 jw_1682 jw_102 jw_125 jw_1683 jn_X11_isChord rfl jo_41 (fun _ _ _ _ _ => ⟨_, rfl⟩) rfl rfl (Nat.le_of_ble_eq_true rfl) rfl dX11_note_7 (jkF (jr_drop (jle_same (jle_same (jle_same jle_nil))) k)))))))
theorem bk_X11_note_10 {C : JC} {d cl sl : Nat} {Q : State → Prop} {w : JW} {x1 : Int32} {x2 : Int32} {xs0 : Int32} (hm : jok C MX11_note d cl sl) (kt : xs0 = 0 → jW C cl sl Q 54 [jR 41 false, jU, jU] [] w) (kf : ¬ xs0 = 0 → jW C cl sl Q 13 [jR 41 false, jI x1, jI x2] [] w) : jW C cl sl Q 10 [jR 41 false, jI x1, jI x2] [jI xs0] w := jr_if_eq hm dX11_note_10 (by decide) (fun h => jr_drop (jle_same (jle_drop (jle_drop jle_nil))) (kt h)) (fun h => jr_drop (jle_same (jle_same (jle_same jle_nil))) (kf h))
theorem bk_X11_note_13 {C : JC} {d cl sl : Nat} {Q : State → Prop} {w : JW} {x1 : Int32} {x2 : Int32} {d2 : Nat} {r : Int32} {w2 : JW} (hm : jok C MX11_note d cl sl) (h1 : vp_in (7 * x1) 42) (hs : jF MX11_isIn d2 [jI x2, jI 0, jI ((w.1 58 (w.2.2 41 8) (7 * x1).toNatClampNeg) - 1)] w (jI r) w2) (hd2 : d2 + 1 ≤ d) (k : jW C cl sl Q 32 [jR 41 false, jI x1, jI x2] [jI r] w2) : jW C cl sl Q 13 [jR 41 false, jI x1, jI x2] [] w := jr_iload_n hm (i := 2) rfl rfl dX11_note_13 (jr_iconst hm (v := 0) (by decide) dX11_note_14 (jr_aload_n hm (i := 0) rfl rfl dX11_note_15 (fg_X11_87 hm dX11_note_16 (fg_X11_257 hm dX11_note_19 (jr_bipush hm (v := 7) (by decide) dX11_note_22 (jr_iload_n hm (i := 1) rfl rfl dX11_note_24 (jr_imul hm dX11_note_25 (jr_iaload hm (ja_58 (w.2.2 41 8)) h1 dX11_note_26 (jr_iconst hm (v := 1) (by decide) dX11_note_27 (jr_isub hm dX11_note_28 (jr_callS (mc := 0) (ms := 0) hm hs hd2 jw_1274 jw_1275 jw_125 jw_1276 jn_X11_isIn rfl rfl (Nat.le_of_ble_eq_true rfl) rfl dX11_note_29 (jkF (jr_drop (jle_same (jle_same (jle_same jle_nil))) k)))))))))))))
theorem bk_X11_note_32 {C : JC} {d cl sl : Nat} {Q : State → Prop} {w : JW} {x1 : Int32} {x2 : Int32} {xs0 : Int32} (hm : jok C MX11_note d cl sl) (kt : xs0 = 0 → jW C cl sl Q 54 [jR 41 false, jU, jU] [] w) (kf : ¬ xs0 = 0 → jW C cl sl Q 35 [jR 41 false, jI x1, jI x2] [] w) : jW C cl sl Q 32 [jR 41 false, jI x1, jI x2] [jI xs0] w := jr_if_eq hm dX11_note_32 (by decide) (fun h => jr_drop (jle_same (jle_drop (jle_drop jle_nil))) (kt h)) (fun h => jr_drop (jle_same (jle_same (jle_same jle_nil))) (kf h))
theorem bk_X11_note_35 {C : JC} {d cl sl : Nat} {Q : State → Prop} {w : JW} {x1 : Int32} {x2 : Int32} (hm : jok C MX11_note d cl sl) (h1 : vp_in (((7 * x1) + 1) + x2) 42) (k : jW C cl sl Q 59 [jU, jU, jU] [jI (w.1 58 (w.2.2 41 8) (((7 * x1) + 1) + x2).toNatClampNeg)] w) : jW C cl sl Q 35 [jR 41 false, jI x1, jI x2] [] w := jr_aload_n hm (i := 0) rfl rfl dX11_note_35 (fg_X11_87 hm dX11_note_36 (fg_X11_257 hm dX11_note_39 (jr_bipush hm (v := 7) (by decide) dX11_note_42 (jr_iload_n hm (i := 1) rfl rfl dX11_note_44 (jr_imul hm dX11_note_45 (jr_iconst hm (v := 1) (by decide) dX11_note_46 (jr_iadd hm dX11_note_47 (jr_iload_n hm (i := 2) rfl rfl dX11_note_48 (jr_iadd hm dX11_note_49 (jr_iaload hm (ja_58 (w.2.2 41 8)) h1 dX11_note_50 (jr_goto hm dX11_note_51 (by decide) (jr_drop (jle_drop (jle_drop (jle_drop jle_nil))) k))))))))))))
theorem bk_X11_note_54 {C : JC} {d cl sl : Nat} {Q : State → Prop} {w : JW} {d2 : Nat} {r : Int32} {w2 : JW} (hm : jok C MX11_note d cl sl) (hs : jF MX11_no d2 [jR 41 false, jI 1] w (jI r) w2) (hd2 : d2 + 1 ≤ d) (k : jW C cl sl Q 59 [jU, jU, jU] [jI r] w2) : jW C cl sl Q 54 [jR 41 false, jU, jU] [] w := jr_aload_n hm (i := 0) rfl rfl dX11_note_54 (jr_iconst hm (v := 1) (by decide) dX11_note_55 (jr_callV (mc := 0) (ms := 0) hm hs hd2 jw_1261 jw_1263 jw_46 jw_125 jw_1265 jn_X11_no rfl jo_41 (fun _ _ _ _ _ => ⟨_, rfl⟩) rfl rfl (Nat.le_of_ble_eq_true rfl) rfl dX11_note_56 (jkF (jr_drop (jle_drop (jle_same (jle_same jle_nil))) k))))
theorem bk_X11_note_59 {C : JC} {d cl sl : Nat} {w : JW} {xs0 : Int32} {P : JV → JW → Prop} (hm : jok C MX11_note d cl sl) (hp : P (jI xs0) w) : jW C cl sl (jQQ C cl sl P) 59 [jU, jU, jU] [jI xs0] w := jr_ireturn hm rfl dX11_note_59 hp
theorem dX11_apart_0 : decode cX11_apart 0 = .ok (.aload_n 0, 1) := by decide +kernel
theorem dX11_apart_1 : decode cX11_apart 1 = .ok (.iconst 0, 1) := by decide +kernel
theorem dX11_apart_2 : decode cX11_apart 2 = .ok (.putfield 1, 3) := by decide +kernel
theorem dX11_apart_5 : decode cX11_apart 5 = .ok (.aload_n 0, 1) := by decide +kernel
theorem dX11_apart_6 : decode cX11_apart 6 = .ok (.iload_n 1, 1) := by decide +kernel
theorem dX11_apart_7 : decode cX11_apart 7 = .ok (.invokevirtual 367, 3) := by decide +kernel
theorem dX11_apart_10 : decode cX11_apart 10 = .ok (.ifCond .eq 11, 3) := by decide +kernel
theorem dX11_apart_13 : decode cX11_apart 13 = .ok (.aload_n 0, 1) := by decide +kernel
theorem dX11_apart_14 : decode cX11_apart 14 = .ok (.iload_n 2, 1) := by decide +kernel
theorem dX11_apart_15 : decode cX11_apart 15 = .ok (.invokevirtual 367, 3) := by decide +kernel
theorem dX11_apart_18 : decode cX11_apart 18 = .ok (.ifCond .ne 9, 3) := by decide +kernel
theorem dX11_apart_21 : decode cX11_apart 21 = .ok (.aload_n 0, 1) := by decide +kernel
theorem dX11_apart_22 : decode cX11_apart 22 = .ok (.iconst 1, 1) := by decide +kernel
theorem dX11_apart_23 : decode cX11_apart 23 = .ok (.invokevirtual 10, 3) := by decide +kernel
theorem dX11_apart_26 : decode cX11_apart 26 = .ok (.ireturn, 1) := by decide +kernel
theorem dX11_apart_27 : decode cX11_apart 27 = .ok (.aload_n 0, 1) := by decide +kernel
theorem dX11_apart_28 : decode cX11_apart 28 = .ok (.iload_n 1, 1) := by decide +kernel
theorem dX11_apart_29 : decode cX11_apart 29 = .ok (.invokevirtual 278, 3) := by decide +kernel
theorem dX11_apart_32 : decode cX11_apart 32 = .ok (.aload_n 0, 1) := by decide +kernel
theorem dX11_apart_33 : decode cX11_apart 33 = .ok (.iload_n 2, 1) := by decide +kernel
theorem dX11_apart_34 : decode cX11_apart 34 = .ok (.invokevirtual 278, 3) := by decide +kernel
theorem dX11_apart_37 : decode cX11_apart 37 = .ok (.invokestatic 296, 3) := by decide +kernel
theorem dX11_apart_40 : decode cX11_apart 40 = .ok (.istore_n 3, 1) := by decide +kernel
theorem dX11_apart_41 : decode cX11_apart 41 = .ok (.aload_n 0, 1) := by decide +kernel
theorem dX11_apart_42 : decode cX11_apart 42 = .ok (.iload_n 1, 1) := by decide +kernel
theorem dX11_apart_43 : decode cX11_apart 43 = .ok (.invokevirtual 278, 3) := by decide +kernel
theorem dX11_apart_46 : decode cX11_apart 46 = .ok (.aload_n 0, 1) := by decide +kernel
theorem dX11_apart_47 : decode cX11_apart 47 = .ok (.iload_n 2, 1) := by decide +kernel
theorem dX11_apart_48 : decode cX11_apart 48 = .ok (.invokevirtual 278, 3) := by decide +kernel
theorem dX11_apart_51 : decode cX11_apart 51 = .ok (.invokestatic 248, 3) := by decide +kernel
theorem dX11_apart_54 : decode cX11_apart 54 = .ok (.istore 4, 2) := by decide +kernel
theorem dX11_apart_56 : decode cX11_apart 56 = .ok (.iconst 0, 1) := by decide +kernel
theorem dX11_apart_57 : decode cX11_apart 57 = .ok (.istore 5, 2) := by decide +kernel
theorem dX11_apart_59 : decode cX11_apart 59 = .ok (.iload_n 3, 1) := by decide +kernel
theorem dX11_apart_60 : decode cX11_apart 60 = .ok (.iload 4, 2) := by decide +kernel
theorem dX11_apart_62 : decode cX11_apart 62 = .ok (.if_icmp .eq 32, 3) := by decide +kernel
theorem dX11_apart_65 : decode cX11_apart 65 = .ok (.iload_n 3, 1) := by decide +kernel
theorem dX11_apart_66 : decode cX11_apart 66 = .ok (.iload 4, 2) := by decide +kernel
theorem dX11_apart_68 : decode cX11_apart 68 = .ok (.isub, 1) := by decide +kernel
theorem dX11_apart_69 : decode cX11_apart 69 = .ok (.istore 6, 2) := by decide +kernel
theorem dX11_apart_71 : decode cX11_apart 71 = .ok (.iload 4, 2) := by decide +kernel
theorem dX11_apart_73 : decode cX11_apart 73 = .ok (.iload 6, 2) := by decide +kernel
theorem dX11_apart_75 : decode cX11_apart 75 = .ok (.invokestatic 296, 3) := by decide +kernel
theorem dX11_apart_78 : decode cX11_apart 78 = .ok (.istore_n 3, 1) := by decide +kernel
theorem dX11_apart_79 : decode cX11_apart 79 = .ok (.iload 4, 2) := by decide +kernel
theorem dX11_apart_81 : decode cX11_apart 81 = .ok (.iload 6, 2) := by decide +kernel
theorem dX11_apart_83 : decode cX11_apart 83 = .ok (.invokestatic 248, 3) := by decide +kernel
theorem dX11_apart_86 : decode cX11_apart 86 = .ok (.istore 4, 2) := by decide +kernel
theorem dX11_apart_88 : decode cX11_apart 88 = .ok (.iinc 5 1, 3) := by decide +kernel
theorem dX11_apart_91 : decode cX11_apart 91 = .ok (.goto (-32), 3) := by decide +kernel
theorem dX11_apart_94 : decode cX11_apart 94 = .ok (.iload 5, 2) := by decide +kernel
theorem dX11_apart_96 : decode cX11_apart 96 = .ok (.ireturn, 1) := by decide +kernel
theorem bk_X11_apart_0 {C : JC} {d cl sl : Nat} {Q : State → Prop} {w : JW} {x1 : Int32} {x2 : Int32} {d2 : Nat} {r : Int32} {w2 : JW} (hm : jok C MX11_apart d cl sl) (hs : jF MX11_isPipe d2 [jR 41 false, jI x1] (jset w 41 false 0 0) (jI r) w2) (hd2 : d2 + 1 ≤ d) (k : jW C cl sl Q 10 [jR 41 false, jI x1, jI x2, jU, jU, jU, jU] [jI r] w2) : jW C cl sl Q 0 [jR 41 false, jI x1, jI x2, jU, jU, jU, jU] [] w := jr_aload_n hm (i := 0) rfl rfl dX11_apart_0 (jr_iconst hm (v := 0) (by decide) dX11_apart_1 (fp_X11_1 hm dX11_apart_2 (jr_aload_n hm (i := 0) rfl rfl dX11_apart_5 (jr_iload_n hm (i := 1) rfl rfl dX11_apart_6 (jr_callV (mc := 0) (ms := 0) hm hs hd2 jw_1656 jw_1658 jw_97 jw_125 jw_1659 jn_X11_isPipe rfl jo_41 (fun _ _ _ _ _ => ⟨_, rfl⟩) rfl rfl (Nat.le_of_ble_eq_true rfl) rfl dX11_apart_7 (jkF (jr_drop (jle_same (jle_same (jle_same (jle_same (jle_same (jle_same (jle_same jle_nil))))))) k)))))))
theorem bk_X11_apart_10 {C : JC} {d cl sl : Nat} {Q : State → Prop} {w : JW} {x1 : Int32} {x2 : Int32} {xs0 : Int32} (hm : jok C MX11_apart d cl sl) (kt : xs0 = 0 → jW C cl sl Q 21 [jR 41 false, jU, jU, jU, jU, jU, jU] [] w) (kf : ¬ xs0 = 0 → jW C cl sl Q 13 [jR 41 false, jI x1, jI x2, jU, jU, jU, jU] [] w) : jW C cl sl Q 10 [jR 41 false, jI x1, jI x2, jU, jU, jU, jU] [jI xs0] w := jr_if_eq hm dX11_apart_10 (by decide) (fun h => jr_drop (jle_same (jle_drop (jle_drop (jle_same (jle_same (jle_same (jle_same jle_nil))))))) (kt h)) (fun h => jr_drop (jle_same (jle_same (jle_same (jle_same (jle_same (jle_same (jle_same jle_nil))))))) (kf h))
theorem bk_X11_apart_13 {C : JC} {d cl sl : Nat} {Q : State → Prop} {w : JW} {x1 : Int32} {x2 : Int32} {d2 : Nat} {r : Int32} {w2 : JW} (hm : jok C MX11_apart d cl sl) (hs : jF MX11_isPipe d2 [jR 41 false, jI x2] w (jI r) w2) (hd2 : d2 + 1 ≤ d) (k : jW C cl sl Q 18 [jR 41 false, jI x1, jI x2, jU, jU, jU, jU] [jI r] w2) : jW C cl sl Q 13 [jR 41 false, jI x1, jI x2, jU, jU, jU, jU] [] w := jr_aload_n hm (i := 0) rfl rfl dX11_apart_13 (jr_iload_n hm (i := 2) rfl rfl dX11_apart_14 (jr_callV (mc := 0) (ms := 0) hm hs hd2 jw_1656 jw_1658 jw_97 jw_125 jw_1659 jn_X11_isPipe rfl jo_41 (fun _ _ _ _ _ => ⟨_, rfl⟩) rfl rfl (Nat.le_of_ble_eq_true rfl) rfl dX11_apart_15 (jkF (jr_drop (jle_same (jle_same (jle_same (jle_same (jle_same (jle_same (jle_same jle_nil))))))) k))))
theorem bk_X11_apart_18 {C : JC} {d cl sl : Nat} {Q : State → Prop} {w : JW} {x1 : Int32} {x2 : Int32} {xs0 : Int32} (hm : jok C MX11_apart d cl sl) (kt : ¬ xs0 = 0 → jW C cl sl Q 27 [jR 41 false, jI x1, jI x2, jU, jU, jU, jU] [] w) (kf : xs0 = 0 → jW C cl sl Q 21 [jR 41 false, jU, jU, jU, jU, jU, jU] [] w) : jW C cl sl Q 18 [jR 41 false, jI x1, jI x2, jU, jU, jU, jU] [jI xs0] w := jr_if_ne hm dX11_apart_18 (by decide) (fun h => jr_drop (jle_same (jle_same (jle_same (jle_same (jle_same (jle_same (jle_same jle_nil))))))) (kt h)) (fun h => jr_drop (jle_same (jle_drop (jle_drop (jle_same (jle_same (jle_same (jle_same jle_nil))))))) (kf h))
theorem bk_X11_apart_21 {C : JC} {d cl sl : Nat} {Q : State → Prop} {w : JW} {d2 : Nat} {r : Int32} {w2 : JW} (hm : jok C MX11_apart d cl sl) (hs : jF MX11_no d2 [jR 41 false, jI 1] w (jI r) w2) (hd2 : d2 + 1 ≤ d) (k : jW C cl sl Q 26 [jU, jU, jU, jU, jU, jU, jU] [jI r] w2) : jW C cl sl Q 21 [jR 41 false, jU, jU, jU, jU, jU, jU] [] w := jr_aload_n hm (i := 0) rfl rfl dX11_apart_21 (jr_iconst hm (v := 1) (by decide) dX11_apart_22 (jr_callV (mc := 0) (ms := 0) hm hs hd2 jw_1261 jw_1263 jw_46 jw_125 jw_1265 jn_X11_no rfl jo_41 (fun _ _ _ _ _ => ⟨_, rfl⟩) rfl rfl (Nat.le_of_ble_eq_true rfl) rfl dX11_apart_23 (jkF (jr_drop (jle_drop (jle_same (jle_same (jle_same (jle_same (jle_same (jle_same jle_nil))))))) k))))
theorem bk_X11_apart_26 {C : JC} {d cl sl : Nat} {w : JW} {xs0 : Int32} {P : JV → JW → Prop} (hm : jok C MX11_apart d cl sl) (hp : P (jI xs0) w) : jW C cl sl (jQQ C cl sl P) 26 [jU, jU, jU, jU, jU, jU, jU] [jI xs0] w := jr_ireturn hm rfl dX11_apart_26 hp
theorem bk_X11_apart_27 {C : JC} {d cl sl : Nat} {Q : State → Prop} {w : JW} {x1 : Int32} {x2 : Int32} {d2 : Nat} {r : Int32} {w2 : JW} (hm : jok C MX11_apart d cl sl) (hs : jF MX11_lengthOf d2 [jR 41 false, jI x1] w (jI r) w2) (hd2 : d2 + 1 ≤ d) (k : jW C cl sl Q 32 [jR 41 false, jI x1, jI x2, jU, jU, jU, jU] [jI r] w2) : jW C cl sl Q 27 [jR 41 false, jI x1, jI x2, jU, jU, jU, jU] [] w := jr_aload_n hm (i := 0) rfl rfl dX11_apart_27 (jr_iload_n hm (i := 1) rfl rfl dX11_apart_28 (jr_callV (mc := 0) (ms := 0) hm hs hd2 jw_1668 jw_1670 jw_100 jw_125 jw_1671 jn_X11_lengthOf rfl jo_41 (fun _ _ _ _ _ => ⟨_, rfl⟩) rfl rfl (Nat.le_of_ble_eq_true rfl) rfl dX11_apart_29 (jkF (jr_drop (jle_same (jle_same (jle_same (jle_same (jle_same (jle_same (jle_same jle_nil))))))) k))))
theorem bk_X11_apart_32 {C : JC} {d cl sl : Nat} {Q : State → Prop} {w : JW} {x1 : Int32} {x2 : Int32} {xs0 : Int32} {d2 : Nat} {r : Int32} {w2 : JW} (hm : jok C MX11_apart d cl sl) (hs : jF MX11_lengthOf d2 [jR 41 false, jI x2] w (jI r) w2) (hd2 : d2 + 1 ≤ d) (k : jW C cl sl Q 37 [jR 41 false, jI x1, jI x2, jU, jU, jU, jU] [jI r, jI xs0] w2) : jW C cl sl Q 32 [jR 41 false, jI x1, jI x2, jU, jU, jU, jU] [jI xs0] w := jr_aload_n hm (i := 0) rfl rfl dX11_apart_32 (jr_iload_n hm (i := 2) rfl rfl dX11_apart_33 (jr_callV (mc := 0) (ms := 0) hm hs hd2 jw_1668 jw_1670 jw_100 jw_125 jw_1671 jn_X11_lengthOf rfl jo_41 (fun _ _ _ _ _ => ⟨_, rfl⟩) rfl rfl (Nat.le_of_ble_eq_true rfl) rfl dX11_apart_34 (jkF (jr_drop (jle_same (jle_same (jle_same (jle_same (jle_same (jle_same (jle_same jle_nil))))))) k))))
theorem bk_X11_apart_37 {C : JC} {d cl sl : Nat} {Q : State → Prop} {w : JW} {x1 : Int32} {x2 : Int32} {xs0 : Int32} {xs1 : Int32} {d2 : Nat} {r : Int32} {w2 : JW} (hm : jok C MX11_apart d cl sl) (hd1 : 1 ≤ d) (hs : jF MX11_lengthOf d2 [jR 41 false, jI x1] w (jI r) w2) (hd2 : d2 + 1 ≤ d) (k : jW C cl sl Q 46 [jR 41 false, jU, jI x2, jI (if xs1 < xs0 then xs0 else xs1), jU, jU, jU] [jI r] w2) : jW C cl sl Q 37 [jR 41 false, jI x1, jI x2, jU, jU, jU, jU] [jI xs0, jI xs1] w := jr_mmax hm jw_1648 jw_558 jw_136 jw_559 hd1 (Nat.le_of_ble_eq_true rfl) rfl dX11_apart_37 (jr_istore_n hm (i := 3) rfl (Nat.le_of_ble_eq_true rfl) rfl dX11_apart_40 (jr_aload_n hm (i := 0) rfl rfl dX11_apart_41 (jr_iload_n hm (i := 1) rfl rfl dX11_apart_42 (jr_callV (mc := 0) (ms := 0) hm hs hd2 jw_1668 jw_1670 jw_100 jw_125 jw_1671 jn_X11_lengthOf rfl jo_41 (fun _ _ _ _ _ => ⟨_, rfl⟩) rfl rfl (Nat.le_of_ble_eq_true rfl) rfl dX11_apart_43 (jkF (jr_drop (jle_same (jle_drop (jle_same (jle_same (jle_same (jle_same (jle_same jle_nil))))))) k))))))
theorem bk_X11_apart_46 {C : JC} {d cl sl : Nat} {Q : State → Prop} {w : JW} {x2 : Int32} {x3 : Int32} {xs0 : Int32} {d2 : Nat} {r : Int32} {w2 : JW} (hm : jok C MX11_apart d cl sl) (hs : jF MX11_lengthOf d2 [jR 41 false, jI x2] w (jI r) w2) (hd2 : d2 + 1 ≤ d) (k : jW C cl sl Q 51 [jU, jU, jU, jI x3, jU, jU, jU] [jI r, jI xs0] w2) : jW C cl sl Q 46 [jR 41 false, jU, jI x2, jI x3, jU, jU, jU] [jI xs0] w := jr_aload_n hm (i := 0) rfl rfl dX11_apart_46 (jr_iload_n hm (i := 2) rfl rfl dX11_apart_47 (jr_callV (mc := 0) (ms := 0) hm hs hd2 jw_1668 jw_1670 jw_100 jw_125 jw_1671 jn_X11_lengthOf rfl jo_41 (fun _ _ _ _ _ => ⟨_, rfl⟩) rfl rfl (Nat.le_of_ble_eq_true rfl) rfl dX11_apart_48 (jkF (jr_drop (jle_drop (jle_same (jle_drop (jle_same (jle_same (jle_same (jle_same jle_nil))))))) k))))
theorem bk_X11_apart_51 {C : JC} {d cl sl : Nat} {Q : State → Prop} {w : JW} {x3 : Int32} {xs0 : Int32} {xs1 : Int32} (hm : jok C MX11_apart d cl sl) (hd1 : 1 ≤ d) (k : jW C cl sl Q 59 [jU, jU, jU, jI x3, jI (if xs0 < xs1 then xs0 else xs1), jI 0, jU] [] w) : jW C cl sl Q 51 [jU, jU, jU, jI x3, jU, jU, jU] [jI xs0, jI xs1] w := jr_mmin hm jw_1530 jw_561 jw_136 jw_562 hd1 (Nat.le_of_ble_eq_true rfl) rfl dX11_apart_51 (jr_istore hm (i := 4) (Nat.le_of_ble_eq_true rfl) rfl dX11_apart_54 (jr_iconst hm (v := 0) (by decide) dX11_apart_56 (jr_istore hm (i := 5) (Nat.le_of_ble_eq_true rfl) rfl dX11_apart_57 (jr_drop (jle_same (jle_same (jle_same (jle_same (jle_same (jle_same (jle_same jle_nil))))))) k))))
theorem bk_X11_apart_59 {C : JC} {d cl sl : Nat} {Q : State → Prop} {w : JW} {x3 : Int32} {x4 : Int32} {x5 : Int32} (hm : jok C MX11_apart d cl sl) (kt : x3 = x4 → jW C cl sl Q 94 [jU, jU, jU, jU, jU, jI x5, jU] [] w) (kf : ¬ x3 = x4 → jW C cl sl Q 65 [jU, jU, jU, jI x3, jI x4, jI x5, jU] [] w) : jW C cl sl Q 59 [jU, jU, jU, jI x3, jI x4, jI x5, jU] [] w := jr_iload_n hm (i := 3) rfl rfl dX11_apart_59 (jr_iload hm (i := 4) rfl dX11_apart_60 (jr_icmp_eq hm dX11_apart_62 (by decide) (fun h => jr_drop (jle_same (jle_same (jle_same (jle_drop (jle_drop (jle_same (jle_same jle_nil))))))) (kt h)) (fun h => jr_drop (jle_same (jle_same (jle_same (jle_same (jle_same (jle_same (jle_same jle_nil))))))) (kf h))))
theorem bk_X11_apart_65 {C : JC} {d cl sl : Nat} {Q : State → Prop} {w : JW} {x3 : Int32} {x4 : Int32} {x5 : Int32} (hm : jok C MX11_apart d cl sl) (hd1 : 1 ≤ d) (k : jW C cl sl Q 59 [jU, jU, jU, jI (if x4 < x3 - x4 then x3 - x4 else x4), jI (if x3 - x4 < x4 then x3 - x4 else x4), jI (x5 + 1), jU] [] w) : jW C cl sl Q 65 [jU, jU, jU, jI x3, jI x4, jI x5, jU] [] w := jr_iload_n hm (i := 3) rfl rfl dX11_apart_65 (jr_iload hm (i := 4) rfl dX11_apart_66 (jr_isub hm dX11_apart_68 (jr_istore hm (i := 6) (Nat.le_of_ble_eq_true rfl) rfl dX11_apart_69 (jr_iload hm (i := 4) rfl dX11_apart_71 (jr_iload hm (i := 6) rfl dX11_apart_73 (jr_mmax hm jw_1648 jw_558 jw_136 jw_559 hd1 (Nat.le_of_ble_eq_true rfl) rfl dX11_apart_75 (jr_istore_n hm (i := 3) rfl (Nat.le_of_ble_eq_true rfl) rfl dX11_apart_78 (jr_iload hm (i := 4) rfl dX11_apart_79 (jr_iload hm (i := 6) rfl dX11_apart_81 (jr_mmin hm jw_1530 jw_561 jw_136 jw_562 hd1 (Nat.le_of_ble_eq_true rfl) rfl dX11_apart_83 (jr_istore hm (i := 4) (Nat.le_of_ble_eq_true rfl) rfl dX11_apart_86 (jr_iinc hm (i := 5) (v := x5 + 1) rfl rfl rfl dX11_apart_88 (jr_goto hm dX11_apart_91 (by decide) (jr_drop (jle_same (jle_same (jle_same (jle_same (jle_same (jle_same (jle_drop jle_nil))))))) k))))))))))))))
theorem bk_X11_apart_94 {C : JC} {d cl sl : Nat} {w : JW} {x5 : Int32} {P : JV → JW → Prop} (hm : jok C MX11_apart d cl sl) (hp : P (jI x5) w) : jW C cl sl (jQQ C cl sl P) 94 [jU, jU, jU, jU, jU, jI x5, jU] [] w := jr_iload hm (i := 5) rfl dX11_apart_94 (jr_ireturn hm rfl dX11_apart_96 hp)
theorem dX11_height_0 : decode cX11_height 0 = .ok (.aload_n 0, 1) := by decide +kernel
theorem dX11_height_1 : decode cX11_height 1 = .ok (.iconst 0, 1) := by decide +kernel
theorem dX11_height_2 : decode cX11_height 2 = .ok (.putfield 1, 3) := by decide +kernel
theorem dX11_height_5 : decode cX11_height 5 = .ok (.iload_n 1, 1) := by decide +kernel
theorem dX11_height_6 : decode cX11_height 6 = .ok (.iconst 0, 1) := by decide +kernel
theorem dX11_height_7 : decode cX11_height 7 = .ok (.sipush 9999, 3) := by decide +kernel
theorem dX11_height_10 : decode cX11_height 10 = .ok (.invokestatic 22, 3) := by decide +kernel
theorem dX11_height_13 : decode cX11_height 13 = .ok (.ifCond .eq 17, 3) := by decide +kernel
theorem dX11_height_16 : decode cX11_height 16 = .ok (.aload_n 0, 1) := by decide +kernel
theorem dX11_height_17 : decode cX11_height 17 = .ok (.iload_n 1, 1) := by decide +kernel
theorem dX11_height_18 : decode cX11_height 18 = .ok (.aload_n 0, 1) := by decide +kernel
theorem dX11_height_19 : decode cX11_height 19 = .ok (.getfield 106, 3) := by decide +kernel
theorem dX11_height_22 : decode cX11_height 22 = .ok (.iconst 1, 1) := by decide +kernel
theorem dX11_height_23 : decode cX11_height 23 = .ok (.iaload, 1) := by decide +kernel
theorem dX11_height_24 : decode cX11_height 24 = .ok (.invokevirtual 309, 3) := by decide +kernel
theorem dX11_height_27 : decode cX11_height 27 = .ok (.goto 8, 3) := by decide +kernel
theorem dX11_height_30 : decode cX11_height 30 = .ok (.aload_n 0, 1) := by decide +kernel
theorem dX11_height_31 : decode cX11_height 31 = .ok (.iconst 1, 1) := by decide +kernel
theorem dX11_height_32 : decode cX11_height 32 = .ok (.invokevirtual 10, 3) := by decide +kernel
theorem dX11_height_35 : decode cX11_height 35 = .ok (.ireturn, 1) := by decide +kernel
theorem bk_X11_height_0 {C : JC} {d cl sl : Nat} {Q : State → Prop} {w : JW} {x1 : Int32} {d2 : Nat} {r : Int32} {w2 : JW} (hm : jok C MX11_height d cl sl) (hs : jF MX11_isIn d2 [jI x1, jI 0, jI 9999] (jset w 41 false 0 0) (jI r) w2) (hd2 : d2 + 1 ≤ d) (k : jW C cl sl Q 13 [jR 41 false, jI x1] [jI r] w2) : jW C cl sl Q 0 [jR 41 false, jI x1] [] w := jr_aload_n hm (i := 0) rfl rfl dX11_height_0 (jr_iconst hm (v := 0) (by decide) dX11_height_1 (fp_X11_1 hm dX11_height_2 (jr_iload_n hm (i := 1) rfl rfl dX11_height_5 (jr_iconst hm (v := 0) (by decide) dX11_height_6 (jr_sipush hm (v := 9999) (by decide) dX11_height_7 (jr_callS (mc := 0) (ms := 0) hm hs hd2 jw_1274 jw_1275 jw_125 jw_1276 jn_X11_isIn rfl rfl (Nat.le_of_ble_eq_true rfl) rfl dX11_height_10 (jkF (jr_drop (jle_same (jle_same jle_nil)) k))))))))
theorem bk_X11_height_13 {C : JC} {d cl sl : Nat} {Q : State → Prop} {w : JW} {x1 : Int32} {xs0 : Int32} (hm : jok C MX11_height d cl sl) (kt : xs0 = 0 → jW C cl sl Q 30 [jR 41 false, jU] [] w) (kf : ¬ xs0 = 0 → jW C cl sl Q 16 [jR 41 false, jI x1] [] w) : jW C cl sl Q 13 [jR 41 false, jI x1] [jI xs0] w := jr_if_eq hm dX11_height_13 (by decide) (fun h => jr_drop (jle_same (jle_drop jle_nil)) (kt h)) (fun h => jr_drop (jle_same (jle_same jle_nil)) (kf h))
theorem bk_X11_height_16 {C : JC} {d cl sl : Nat} {Q : State → Prop} {w : JW} {x1 : Int32} {d2 : Nat} {r : Int32} {w2 : JW} (hm : jok C MX11_height d cl sl) (h1 : vp_in 1 51) (hs : jF MX11_heightOf d2 [jR 41 false, jI x1, jI (w.1 51 false 1)] w (jI r) w2) (hd2 : d2 + 1 ≤ d) (k : jW C cl sl Q 27 [jU, jU] [jI r] w2) : jW C cl sl Q 16 [jR 41 false, jI x1] [] w := jr_aload_n hm (i := 0) rfl rfl dX11_height_16 (jr_iload_n hm (i := 1) rfl rfl dX11_height_17 (jr_aload_n hm (i := 0) rfl rfl dX11_height_18 (fg_X11_106 hm dX11_height_19 (jr_iconst hm (v := 1) (by decide) dX11_height_22 (jr_iaload hm ja_51 h1 dX11_height_23 (jr_callV (mc := 0) (ms := 0) hm hs hd2 jw_1704 jw_1706 jw_105 jw_125 jw_1707 jn_X11_heightOf rfl jo_41 (fun _ _ _ _ _ => ⟨_, rfl⟩) rfl rfl (Nat.le_of_ble_eq_true rfl) rfl dX11_height_24 (jkF (jr_drop (jle_drop (jle_drop jle_nil)) k))))))))
theorem bk_X11_height_27 {C : JC} {d cl sl : Nat} {Q : State → Prop} {w : JW} {xs0 : Int32} (hm : jok C MX11_height d cl sl) (k : jW C cl sl Q 35 [jU, jU] [jI xs0] w) : jW C cl sl Q 27 [jU, jU] [jI xs0] w := jr_goto hm dX11_height_27 (by decide) (jr_drop (jle_same (jle_same jle_nil)) k)
theorem bk_X11_height_30 {C : JC} {d cl sl : Nat} {Q : State → Prop} {w : JW} {d2 : Nat} {r : Int32} {w2 : JW} (hm : jok C MX11_height d cl sl) (hs : jF MX11_no d2 [jR 41 false, jI 1] w (jI r) w2) (hd2 : d2 + 1 ≤ d) (k : jW C cl sl Q 35 [jU, jU] [jI r] w2) : jW C cl sl Q 30 [jR 41 false, jU] [] w := jr_aload_n hm (i := 0) rfl rfl dX11_height_30 (jr_iconst hm (v := 1) (by decide) dX11_height_31 (jr_callV (mc := 0) (ms := 0) hm hs hd2 jw_1261 jw_1263 jw_46 jw_125 jw_1265 jn_X11_no rfl jo_41 (fun _ _ _ _ _ => ⟨_, rfl⟩) rfl rfl (Nat.le_of_ble_eq_true rfl) rfl dX11_height_32 (jkF (jr_drop (jle_drop (jle_same jle_nil)) k))))
theorem bk_X11_height_35 {C : JC} {d cl sl : Nat} {w : JW} {xs0 : Int32} {P : JV → JW → Prop} (hm : jok C MX11_height d cl sl) (hp : P (jI xs0) w) : jW C cl sl (jQQ C cl sl P) 35 [jU, jU] [jI xs0] w := jr_ireturn hm rfl dX11_height_35 hp
theorem dX11_isSilent_0 : decode cX11_isSilent 0 = .ok (.aload_n 0, 1) := by decide +kernel
theorem dX11_isSilent_1 : decode cX11_isSilent 1 = .ok (.iconst 0, 1) := by decide +kernel
theorem dX11_isSilent_2 : decode cX11_isSilent 2 = .ok (.putfield 1, 3) := by decide +kernel
theorem dX11_isSilent_5 : decode cX11_isSilent 5 = .ok (.iload_n 1, 1) := by decide +kernel
theorem dX11_isSilent_6 : decode cX11_isSilent 6 = .ok (.iconst 0, 1) := by decide +kernel
theorem dX11_isSilent_7 : decode cX11_isSilent 7 = .ok (.sipush 9999, 3) := by decide +kernel
theorem dX11_isSilent_10 : decode cX11_isSilent 10 = .ok (.invokestatic 22, 3) := by decide +kernel
theorem dX11_isSilent_13 : decode cX11_isSilent 13 = .ok (.ifCond .eq 11, 3) := by decide +kernel
theorem dX11_isSilent_16 : decode cX11_isSilent 16 = .ok (.aload_n 0, 1) := by decide +kernel
theorem dX11_isSilent_17 : decode cX11_isSilent 17 = .ok (.iload_n 1, 1) := by decide +kernel
theorem dX11_isSilent_18 : decode cX11_isSilent 18 = .ok (.invokevirtual 306, 3) := by decide +kernel
theorem dX11_isSilent_21 : decode cX11_isSilent 21 = .ok (.goto 16, 3) := by decide +kernel
theorem dX11_isSilent_24 : decode cX11_isSilent 24 = .ok (.aload_n 0, 1) := by decide +kernel
theorem dX11_isSilent_25 : decode cX11_isSilent 25 = .ok (.iconst 1, 1) := by decide +kernel
theorem dX11_isSilent_26 : decode cX11_isSilent 26 = .ok (.invokevirtual 10, 3) := by decide +kernel
theorem dX11_isSilent_29 : decode cX11_isSilent 29 = .ok (.ifCond .le 7, 3) := by decide +kernel
theorem dX11_isSilent_32 : decode cX11_isSilent 32 = .ok (.iconst 1, 1) := by decide +kernel
theorem dX11_isSilent_33 : decode cX11_isSilent 33 = .ok (.goto 4, 3) := by decide +kernel
theorem dX11_isSilent_36 : decode cX11_isSilent 36 = .ok (.iconst 0, 1) := by decide +kernel
theorem dX11_isSilent_37 : decode cX11_isSilent 37 = .ok (.ireturn, 1) := by decide +kernel
theorem bk_X11_isSilent_0 {C : JC} {d cl sl : Nat} {Q : State → Prop} {w : JW} {x1 : Int32} {d2 : Nat} {r : Int32} {w2 : JW} (hm : jok C MX11_isSilent d cl sl) (hs : jF MX11_isIn d2 [jI x1, jI 0, jI 9999] (jset w 41 false 0 0) (jI r) w2) (hd2 : d2 + 1 ≤ d) (k : jW C cl sl Q 13 [jR 41 false, jI x1] [jI r] w2) : jW C cl sl Q 0 [jR 41 false, jI x1] [] w := jr_aload_n hm (i := 0) rfl rfl dX11_isSilent_0 (jr_iconst hm (v := 0) (by decide) dX11_isSilent_1 (fp_X11_1 hm dX11_isSilent_2 (jr_iload_n hm (i := 1) rfl rfl dX11_isSilent_5 (jr_iconst hm (v := 0) (by decide) dX11_isSilent_6 (jr_sipush hm (v := 9999) (by decide) dX11_isSilent_7 (jr_callS (mc := 0) (ms := 0) hm hs hd2 jw_1274 jw_1275 jw_125 jw_1276 jn_X11_isIn rfl rfl (Nat.le_of_ble_eq_true rfl) rfl dX11_isSilent_10 (jkF (jr_drop (jle_same (jle_same jle_nil)) k))))))))
theorem bk_X11_isSilent_13 {C : JC} {d cl sl : Nat} {Q : State → Prop} {w : JW} {x1 : Int32} {xs0 : Int32} (hm : jok C MX11_isSilent d cl sl) (kt : xs0 = 0 → jW C cl sl Q 24 [jR 41 false, jU] [] w) (kf : ¬ xs0 = 0 → jW C cl sl Q 16 [jR 41 false, jI x1] [] w) : jW C cl sl Q 13 [jR 41 false, jI x1] [jI xs0] w := jr_if_eq hm dX11_isSilent_13 (by decide) (fun h => jr_drop (jle_same (jle_drop jle_nil)) (kt h)) (fun h => jr_drop (jle_same (jle_same jle_nil)) (kf h))
theorem bk_X11_isSilent_16 {C : JC} {d cl sl : Nat} {Q : State → Prop} {w : JW} {x1 : Int32} {d2 : Nat} {r : Int32} {w2 : JW} (hm : jok C MX11_isSilent d cl sl) (hs : jF MX11_isQuiet d2 [jR 41 false, jI x1] w (jI r) w2) (hd2 : d2 + 1 ≤ d) (k : jW C cl sl Q 21 [jU, jU] [jI r] w2) : jW C cl sl Q 16 [jR 41 false, jI x1] [] w := jr_aload_n hm (i := 0) rfl rfl dX11_isSilent_16 (jr_iload_n hm (i := 1) rfl rfl dX11_isSilent_17 (jr_callV (mc := 0) (ms := 0) hm hs hd2 jw_1636 jw_1638 jw_94 jw_125 jw_1639 jn_X11_isQuiet rfl jo_41 (fun _ _ _ _ _ => ⟨_, rfl⟩) rfl rfl (Nat.le_of_ble_eq_true rfl) rfl dX11_isSilent_18 (jkF (jr_drop (jle_drop (jle_drop jle_nil)) k))))
theorem bk_X11_isSilent_21 {C : JC} {d cl sl : Nat} {Q : State → Prop} {w : JW} {xs0 : Int32} (hm : jok C MX11_isSilent d cl sl) (k : jW C cl sl Q 37 [jU, jU] [jI xs0] w) : jW C cl sl Q 21 [jU, jU] [jI xs0] w := jr_goto hm dX11_isSilent_21 (by decide) (jr_drop (jle_same (jle_same jle_nil)) k)
theorem bk_X11_isSilent_24 {C : JC} {d cl sl : Nat} {Q : State → Prop} {w : JW} {d2 : Nat} {r : Int32} {w2 : JW} (hm : jok C MX11_isSilent d cl sl) (hs : jF MX11_no d2 [jR 41 false, jI 1] w (jI r) w2) (hd2 : d2 + 1 ≤ d) (k : jW C cl sl Q 29 [jU, jU] [jI r] w2) : jW C cl sl Q 24 [jR 41 false, jU] [] w := jr_aload_n hm (i := 0) rfl rfl dX11_isSilent_24 (jr_iconst hm (v := 1) (by decide) dX11_isSilent_25 (jr_callV (mc := 0) (ms := 0) hm hs hd2 jw_1261 jw_1263 jw_46 jw_125 jw_1265 jn_X11_no rfl jo_41 (fun _ _ _ _ _ => ⟨_, rfl⟩) rfl rfl (Nat.le_of_ble_eq_true rfl) rfl dX11_isSilent_26 (jkF (jr_drop (jle_drop (jle_same jle_nil)) k))))
theorem bk_X11_isSilent_29 {C : JC} {d cl sl : Nat} {Q : State → Prop} {w : JW} {xs0 : Int32} (hm : jok C MX11_isSilent d cl sl) (kt : xs0 ≤ 0 → jW C cl sl Q 36 [jU, jU] [] w) (kf : ¬ xs0 ≤ 0 → jW C cl sl Q 32 [jU, jU] [] w) : jW C cl sl Q 29 [jU, jU] [jI xs0] w := jr_if_le hm dX11_isSilent_29 (by decide) (fun h => jr_drop (jle_same (jle_same jle_nil)) (kt h)) (fun h => jr_drop (jle_same (jle_same jle_nil)) (kf h))
theorem bk_X11_isSilent_32 {C : JC} {d cl sl : Nat} {Q : State → Prop} {w : JW}  (hm : jok C MX11_isSilent d cl sl) (k : jW C cl sl Q 37 [jU, jU] [jI 1] w) : jW C cl sl Q 32 [jU, jU] [] w := jr_iconst hm (v := 1) (by decide) dX11_isSilent_32 (jr_goto hm dX11_isSilent_33 (by decide) (jr_drop (jle_same (jle_same jle_nil)) k))
theorem bk_X11_isSilent_36 {C : JC} {d cl sl : Nat} {Q : State → Prop} {w : JW}  (hm : jok C MX11_isSilent d cl sl) (k : jW C cl sl Q 37 [jU, jU] [jI 0] w) : jW C cl sl Q 36 [jU, jU] [] w := jr_iconst hm (v := 0) (by decide) dX11_isSilent_36 (jr_drop (jle_same (jle_same jle_nil)) k)
theorem bk_X11_isSilent_37 {C : JC} {d cl sl : Nat} {w : JW} {xs0 : Int32} {P : JV → JW → Prop} (hm : jok C MX11_isSilent d cl sl) (hz : narrow .boolean (.int xs0) = .int xs0) (hp : P (jI xs0) w) : jW C cl sl (jQQ C cl sl P) 37 [jU, jU] [jI xs0] w := jr_zreturn hm rfl hz dX11_isSilent_37 hp
theorem dX11_put_0 : decode cX11_put 0 = .ok (.aload_n 0, 1) := by decide +kernel
theorem dX11_put_1 : decode cX11_put 1 = .ok (.getfield 106, 3) := by decide +kernel
theorem dX11_put_4 : decode cX11_put 4 = .ok (.iload_n 1, 1) := by decide +kernel
theorem dX11_put_5 : decode cX11_put 5 = .ok (.iaload, 1) := by decide +kernel
theorem dX11_put_6 : decode cX11_put 6 = .ok (.istore_n 3, 1) := by decide +kernel
theorem dX11_put_7 : decode cX11_put 7 = .ok (.aload_n 0, 1) := by decide +kernel
theorem dX11_put_8 : decode cX11_put 8 = .ok (.getfield 106, 3) := by decide +kernel
theorem dX11_put_11 : decode cX11_put 11 = .ok (.iload_n 1, 1) := by decide +kernel
theorem dX11_put_12 : decode cX11_put 12 = .ok (.iload_n 2, 1) := by decide +kernel
theorem dX11_put_13 : decode cX11_put 13 = .ok (.iastore, 1) := by decide +kernel
theorem dX11_put_14 : decode cX11_put 14 = .ok (.iload_n 3, 1) := by decide +kernel
theorem dX11_put_15 : decode cX11_put 15 = .ok (.ireturn, 1) := by decide +kernel
theorem bk_X11_put_0 {C : JC} {d cl sl : Nat} {w : JW} {x1 : Int32} {x2 : Int32} {P : JV → JW → Prop} (hm : jok C MX11_put d cl sl) (h1 : vp_in x1 51) (h2 : vp_in x1 51) (hp : P (jI (w.1 51 false x1.toNatClampNeg)) (jset w 51 false x1.toNatClampNeg x2)) : jW C cl sl (jQQ C cl sl P) 0 [jR 41 false, jI x1, jI x2, jU] [] w := jr_aload_n hm (i := 0) rfl rfl dX11_put_0 (fg_X11_106 hm dX11_put_1 (jr_iload_n hm (i := 1) rfl rfl dX11_put_4 (jr_iaload hm ja_51 h1 dX11_put_5 (jr_istore_n hm (i := 3) rfl (Nat.le_of_ble_eq_true rfl) rfl dX11_put_6 (jr_aload_n hm (i := 0) rfl rfl dX11_put_7 (fg_X11_106 hm dX11_put_8 (jr_iload_n hm (i := 1) rfl rfl dX11_put_11 (jr_iload_n hm (i := 2) rfl rfl dX11_put_12 (jr_iastore hm ja_51 h2 dX11_put_13 (jr_iload_n hm (i := 3) rfl rfl dX11_put_14 (jr_ireturn hm rfl dX11_put_15 hp)))))))))))
theorem dX11_setTide_0 : decode cX11_setTide 0 = .ok (.aload_n 0, 1) := by decide +kernel
theorem dX11_setTide_1 : decode cX11_setTide 1 = .ok (.iconst 0, 1) := by decide +kernel
theorem dX11_setTide_2 : decode cX11_setTide 2 = .ok (.putfield 1, 3) := by decide +kernel
theorem dX11_setTide_5 : decode cX11_setTide 5 = .ok (.iload_n 1, 1) := by decide +kernel
theorem dX11_setTide_6 : decode cX11_setTide 6 = .ok (.iconst 0, 1) := by decide +kernel
theorem dX11_setTide_7 : decode cX11_setTide 7 = .ok (.bipush 9, 2) := by decide +kernel
theorem dX11_setTide_9 : decode cX11_setTide 9 = .ok (.invokestatic 22, 3) := by decide +kernel
theorem dX11_setTide_12 : decode cX11_setTide 12 = .ok (.ifCond .eq 12, 3) := by decide +kernel
theorem dX11_setTide_15 : decode cX11_setTide 15 = .ok (.aload_n 0, 1) := by decide +kernel
theorem dX11_setTide_16 : decode cX11_setTide 16 = .ok (.iconst 1, 1) := by decide +kernel
theorem dX11_setTide_17 : decode cX11_setTide 17 = .ok (.iload_n 1, 1) := by decide +kernel
theorem dX11_setTide_18 : decode cX11_setTide 18 = .ok (.invokevirtual 382, 3) := by decide +kernel
theorem dX11_setTide_21 : decode cX11_setTide 21 = .ok (.goto 8, 3) := by decide +kernel
theorem dX11_setTide_24 : decode cX11_setTide 24 = .ok (.aload_n 0, 1) := by decide +kernel
theorem dX11_setTide_25 : decode cX11_setTide 25 = .ok (.iconst 1, 1) := by decide +kernel
theorem dX11_setTide_26 : decode cX11_setTide 26 = .ok (.invokevirtual 10, 3) := by decide +kernel
theorem dX11_setTide_29 : decode cX11_setTide 29 = .ok (.ireturn, 1) := by decide +kernel
theorem bk_X11_setTide_0 {C : JC} {d cl sl : Nat} {Q : State → Prop} {w : JW} {x1 : Int32} {d2 : Nat} {r : Int32} {w2 : JW} (hm : jok C MX11_setTide d cl sl) (hs : jF MX11_isIn d2 [jI x1, jI 0, jI 9] (jset w 41 false 0 0) (jI r) w2) (hd2 : d2 + 1 ≤ d) (k : jW C cl sl Q 12 [jR 41 false, jI x1] [jI r] w2) : jW C cl sl Q 0 [jR 41 false, jI x1] [] w := jr_aload_n hm (i := 0) rfl rfl dX11_setTide_0 (jr_iconst hm (v := 0) (by decide) dX11_setTide_1 (fp_X11_1 hm dX11_setTide_2 (jr_iload_n hm (i := 1) rfl rfl dX11_setTide_5 (jr_iconst hm (v := 0) (by decide) dX11_setTide_6 (jr_bipush hm (v := 9) (by decide) dX11_setTide_7 (jr_callS (mc := 0) (ms := 0) hm hs hd2 jw_1274 jw_1275 jw_125 jw_1276 jn_X11_isIn rfl rfl (Nat.le_of_ble_eq_true rfl) rfl dX11_setTide_9 (jkF (jr_drop (jle_same (jle_same jle_nil)) k))))))))
theorem bk_X11_setTide_12 {C : JC} {d cl sl : Nat} {Q : State → Prop} {w : JW} {x1 : Int32} {xs0 : Int32} (hm : jok C MX11_setTide d cl sl) (kt : xs0 = 0 → jW C cl sl Q 24 [jR 41 false, jU] [] w) (kf : ¬ xs0 = 0 → jW C cl sl Q 15 [jR 41 false, jI x1] [] w) : jW C cl sl Q 12 [jR 41 false, jI x1] [jI xs0] w := jr_if_eq hm dX11_setTide_12 (by decide) (fun h => jr_drop (jle_same (jle_drop jle_nil)) (kt h)) (fun h => jr_drop (jle_same (jle_same jle_nil)) (kf h))
theorem bk_X11_setTide_15 {C : JC} {d cl sl : Nat} {Q : State → Prop} {w : JW} {x1 : Int32} {d2 : Nat} {r : Int32} {w2 : JW} (hm : jok C MX11_setTide d cl sl) (hs : jF MX11_put d2 [jR 41 false, jI 1, jI x1] w (jI r) w2) (hd2 : d2 + 1 ≤ d) (k : jW C cl sl Q 21 [jU, jU] [jI r] w2) : jW C cl sl Q 15 [jR 41 false, jI x1] [] w := jr_aload_n hm (i := 0) rfl rfl dX11_setTide_15 (jr_iconst hm (v := 1) (by decide) dX11_setTide_16 (jr_iload_n hm (i := 1) rfl rfl dX11_setTide_17 (jr_callV (mc := 0) (ms := 0) hm hs hd2 jw_1716 jw_1718 jw_106 jw_125 jw_1719 jn_X11_put rfl jo_41 (fun _ _ _ _ _ => ⟨_, rfl⟩) rfl rfl (Nat.le_of_ble_eq_true rfl) rfl dX11_setTide_18 (jkF (jr_drop (jle_drop (jle_drop jle_nil)) k)))))
theorem bk_X11_setTide_21 {C : JC} {d cl sl : Nat} {Q : State → Prop} {w : JW} {xs0 : Int32} (hm : jok C MX11_setTide d cl sl) (k : jW C cl sl Q 29 [jU, jU] [jI xs0] w) : jW C cl sl Q 21 [jU, jU] [jI xs0] w := jr_goto hm dX11_setTide_21 (by decide) (jr_drop (jle_same (jle_same jle_nil)) k)
theorem bk_X11_setTide_24 {C : JC} {d cl sl : Nat} {Q : State → Prop} {w : JW} {d2 : Nat} {r : Int32} {w2 : JW} (hm : jok C MX11_setTide d cl sl) (hs : jF MX11_no d2 [jR 41 false, jI 1] w (jI r) w2) (hd2 : d2 + 1 ≤ d) (k : jW C cl sl Q 29 [jU, jU] [jI r] w2) : jW C cl sl Q 24 [jR 41 false, jU] [] w := jr_aload_n hm (i := 0) rfl rfl dX11_setTide_24 (jr_iconst hm (v := 1) (by decide) dX11_setTide_25 (jr_callV (mc := 0) (ms := 0) hm hs hd2 jw_1261 jw_1263 jw_46 jw_125 jw_1265 jn_X11_no rfl jo_41 (fun _ _ _ _ _ => ⟨_, rfl⟩) rfl rfl (Nat.le_of_ble_eq_true rfl) rfl dX11_setTide_26 (jkF (jr_drop (jle_drop (jle_same jle_nil)) k))))
theorem bk_X11_setTide_29 {C : JC} {d cl sl : Nat} {w : JW} {xs0 : Int32} {P : JV → JW → Prop} (hm : jok C MX11_setTide d cl sl) (hp : P (jI xs0) w) : jW C cl sl (jQQ C cl sl P) 29 [jU, jU] [jI xs0] w := jr_ireturn hm rfl dX11_setTide_29 hp
theorem dX11_clean_0 : decode cX11_clean 0 = .ok (.aload_n 0, 1) := by decide +kernel
theorem dX11_clean_1 : decode cX11_clean 1 = .ok (.iconst 0, 1) := by decide +kernel
theorem dX11_clean_2 : decode cX11_clean 2 = .ok (.putfield 1, 3) := by decide +kernel
theorem dX11_clean_5 : decode cX11_clean 5 = .ok (.aload_n 0, 1) := by decide +kernel
theorem dX11_clean_6 : decode cX11_clean 6 = .ok (.iload_n 1, 1) := by decide +kernel
theorem dX11_clean_7 : decode cX11_clean 7 = .ok (.invokevirtual 367, 3) := by decide +kernel
theorem dX11_clean_10 : decode cX11_clean 10 = .ok (.ifCond .eq 15, 3) := by decide +kernel
theorem dX11_clean_13 : decode cX11_clean 13 = .ok (.aload_n 0, 1) := by decide +kernel
theorem dX11_clean_14 : decode cX11_clean 14 = .ok (.bipush 9, 2) := by decide +kernel
theorem dX11_clean_16 : decode cX11_clean 16 = .ok (.iload_n 1, 1) := by decide +kernel
theorem dX11_clean_17 : decode cX11_clean 17 = .ok (.iadd, 1) := by decide +kernel
theorem dX11_clean_18 : decode cX11_clean 18 = .ok (.iconst 0, 1) := by decide +kernel
theorem dX11_clean_19 : decode cX11_clean 19 = .ok (.invokevirtual 382, 3) := by decide +kernel
theorem dX11_clean_22 : decode cX11_clean 22 = .ok (.goto 8, 3) := by decide +kernel
theorem dX11_clean_25 : decode cX11_clean 25 = .ok (.aload_n 0, 1) := by decide +kernel
theorem dX11_clean_26 : decode cX11_clean 26 = .ok (.iconst 1, 1) := by decide +kernel
theorem dX11_clean_27 : decode cX11_clean 27 = .ok (.invokevirtual 10, 3) := by decide +kernel
theorem dX11_clean_30 : decode cX11_clean 30 = .ok (.ireturn, 1) := by decide +kernel
theorem bk_X11_clean_0 {C : JC} {d cl sl : Nat} {Q : State → Prop} {w : JW} {x1 : Int32} {d2 : Nat} {r : Int32} {w2 : JW} (hm : jok C MX11_clean d cl sl) (hs : jF MX11_isPipe d2 [jR 41 false, jI x1] (jset w 41 false 0 0) (jI r) w2) (hd2 : d2 + 1 ≤ d) (k : jW C cl sl Q 10 [jR 41 false, jI x1] [jI r] w2) : jW C cl sl Q 0 [jR 41 false, jI x1] [] w := jr_aload_n hm (i := 0) rfl rfl dX11_clean_0 (jr_iconst hm (v := 0) (by decide) dX11_clean_1 (fp_X11_1 hm dX11_clean_2 (jr_aload_n hm (i := 0) rfl rfl dX11_clean_5 (jr_iload_n hm (i := 1) rfl rfl dX11_clean_6 (jr_callV (mc := 0) (ms := 0) hm hs hd2 jw_1656 jw_1658 jw_97 jw_125 jw_1659 jn_X11_isPipe rfl jo_41 (fun _ _ _ _ _ => ⟨_, rfl⟩) rfl rfl (Nat.le_of_ble_eq_true rfl) rfl dX11_clean_7 (jkF (jr_drop (jle_same (jle_same jle_nil)) k)))))))
theorem bk_X11_clean_10 {C : JC} {d cl sl : Nat} {Q : State → Prop} {w : JW} {x1 : Int32} {xs0 : Int32} (hm : jok C MX11_clean d cl sl) (kt : xs0 = 0 → jW C cl sl Q 25 [jR 41 false, jU] [] w) (kf : ¬ xs0 = 0 → jW C cl sl Q 13 [jR 41 false, jI x1] [] w) : jW C cl sl Q 10 [jR 41 false, jI x1] [jI xs0] w := jr_if_eq hm dX11_clean_10 (by decide) (fun h => jr_drop (jle_same (jle_drop jle_nil)) (kt h)) (fun h => jr_drop (jle_same (jle_same jle_nil)) (kf h))
theorem bk_X11_clean_13 {C : JC} {d cl sl : Nat} {Q : State → Prop} {w : JW} {x1 : Int32} {d2 : Nat} {r : Int32} {w2 : JW} (hm : jok C MX11_clean d cl sl) (hs : jF MX11_put d2 [jR 41 false, jI (9 + x1), jI 0] w (jI r) w2) (hd2 : d2 + 1 ≤ d) (k : jW C cl sl Q 22 [jU, jU] [jI r] w2) : jW C cl sl Q 13 [jR 41 false, jI x1] [] w := jr_aload_n hm (i := 0) rfl rfl dX11_clean_13 (jr_bipush hm (v := 9) (by decide) dX11_clean_14 (jr_iload_n hm (i := 1) rfl rfl dX11_clean_16 (jr_iadd hm dX11_clean_17 (jr_iconst hm (v := 0) (by decide) dX11_clean_18 (jr_callV (mc := 0) (ms := 0) hm hs hd2 jw_1716 jw_1718 jw_106 jw_125 jw_1719 jn_X11_put rfl jo_41 (fun _ _ _ _ _ => ⟨_, rfl⟩) rfl rfl (Nat.le_of_ble_eq_true rfl) rfl dX11_clean_19 (jkF (jr_drop (jle_drop (jle_drop jle_nil)) k)))))))
theorem bk_X11_clean_22 {C : JC} {d cl sl : Nat} {Q : State → Prop} {w : JW} {xs0 : Int32} (hm : jok C MX11_clean d cl sl) (k : jW C cl sl Q 30 [jU, jU] [jI xs0] w) : jW C cl sl Q 22 [jU, jU] [jI xs0] w := jr_goto hm dX11_clean_22 (by decide) (jr_drop (jle_same (jle_same jle_nil)) k)
theorem bk_X11_clean_25 {C : JC} {d cl sl : Nat} {Q : State → Prop} {w : JW} {d2 : Nat} {r : Int32} {w2 : JW} (hm : jok C MX11_clean d cl sl) (hs : jF MX11_no d2 [jR 41 false, jI 1] w (jI r) w2) (hd2 : d2 + 1 ≤ d) (k : jW C cl sl Q 30 [jU, jU] [jI r] w2) : jW C cl sl Q 25 [jR 41 false, jU] [] w := jr_aload_n hm (i := 0) rfl rfl dX11_clean_25 (jr_iconst hm (v := 1) (by decide) dX11_clean_26 (jr_callV (mc := 0) (ms := 0) hm hs hd2 jw_1261 jw_1263 jw_46 jw_125 jw_1265 jn_X11_no rfl jo_41 (fun _ _ _ _ _ => ⟨_, rfl⟩) rfl rfl (Nat.le_of_ble_eq_true rfl) rfl dX11_clean_27 (jkF (jr_drop (jle_drop (jle_same jle_nil)) k))))
theorem bk_X11_clean_30 {C : JC} {d cl sl : Nat} {w : JW} {xs0 : Int32} {P : JV → JW → Prop} (hm : jok C MX11_clean d cl sl) (hp : P (jI xs0) w) : jW C cl sl (jQQ C cl sl P) 30 [jU, jU] [jI xs0] w := jr_ireturn hm rfl dX11_clean_30 hp
theorem dX11_cut_0 : decode cX11_cut 0 = .ok (.aload_n 0, 1) := by decide +kernel
theorem dX11_cut_1 : decode cX11_cut 1 = .ok (.iconst 0, 1) := by decide +kernel
theorem dX11_cut_2 : decode cX11_cut 2 = .ok (.putfield 1, 3) := by decide +kernel
theorem dX11_cut_5 : decode cX11_cut 5 = .ok (.aload_n 0, 1) := by decide +kernel
theorem dX11_cut_6 : decode cX11_cut 6 = .ok (.iload_n 1, 1) := by decide +kernel
theorem dX11_cut_7 : decode cX11_cut 7 = .ok (.invokevirtual 367, 3) := by decide +kernel
theorem dX11_cut_10 : decode cX11_cut 10 = .ok (.ifCond .ne 9, 3) := by decide +kernel
theorem dX11_cut_13 : decode cX11_cut 13 = .ok (.aload_n 0, 1) := by decide +kernel
theorem dX11_cut_14 : decode cX11_cut 14 = .ok (.iconst 1, 1) := by decide +kernel
theorem dX11_cut_15 : decode cX11_cut 15 = .ok (.invokevirtual 10, 3) := by decide +kernel
theorem dX11_cut_18 : decode cX11_cut 18 = .ok (.ireturn, 1) := by decide +kernel
theorem dX11_cut_19 : decode cX11_cut 19 = .ok (.iload_n 2, 1) := by decide +kernel
theorem dX11_cut_20 : decode cX11_cut 20 = .ok (.iconst 1, 1) := by decide +kernel
theorem dX11_cut_21 : decode cX11_cut 21 = .ok (.aload_n 0, 1) := by decide +kernel
theorem dX11_cut_22 : decode cX11_cut 22 = .ok (.iload_n 1, 1) := by decide +kernel
theorem dX11_cut_23 : decode cX11_cut 23 = .ok (.invokevirtual 278, 3) := by decide +kernel
theorem dX11_cut_26 : decode cX11_cut 26 = .ok (.iconst 1, 1) := by decide +kernel
theorem dX11_cut_27 : decode cX11_cut 27 = .ok (.isub, 1) := by decide +kernel
theorem dX11_cut_28 : decode cX11_cut 28 = .ok (.invokestatic 22, 3) := by decide +kernel
theorem dX11_cut_31 : decode cX11_cut 31 = .ok (.ifCond .ne 9, 3) := by decide +kernel
theorem dX11_cut_34 : decode cX11_cut 34 = .ok (.aload_n 0, 1) := by decide +kernel
theorem dX11_cut_35 : decode cX11_cut 35 = .ok (.iconst 2, 1) := by decide +kernel
theorem dX11_cut_36 : decode cX11_cut 36 = .ok (.invokevirtual 10, 3) := by decide +kernel
theorem dX11_cut_39 : decode cX11_cut 39 = .ok (.ireturn, 1) := by decide +kernel
theorem dX11_cut_40 : decode cX11_cut 40 = .ok (.aload_n 0, 1) := by decide +kernel
theorem dX11_cut_41 : decode cX11_cut 41 = .ok (.getfield 87, 3) := by decide +kernel
theorem dX11_cut_44 : decode cX11_cut 44 = .ok (.getfield 230, 3) := by decide +kernel
theorem dX11_cut_47 : decode cX11_cut 47 = .ok (.iconst 3, 1) := by decide +kernel
theorem dX11_cut_48 : decode cX11_cut 48 = .ok (.iload_n 1, 1) := by decide +kernel
theorem dX11_cut_49 : decode cX11_cut 49 = .ok (.imul, 1) := by decide +kernel
theorem dX11_cut_50 : decode cX11_cut 50 = .ok (.iconst 1, 1) := by decide +kernel
theorem dX11_cut_51 : decode cX11_cut 51 = .ok (.iadd, 1) := by decide +kernel
theorem dX11_cut_52 : decode cX11_cut 52 = .ok (.dup2, 1) := by decide +kernel
theorem dX11_cut_53 : decode cX11_cut 53 = .ok (.iaload, 1) := by decide +kernel
theorem dX11_cut_54 : decode cX11_cut 54 = .ok (.iload_n 2, 1) := by decide +kernel
theorem dX11_cut_55 : decode cX11_cut 55 = .ok (.isub, 1) := by decide +kernel
theorem dX11_cut_56 : decode cX11_cut 56 = .ok (.iastore, 1) := by decide +kernel
theorem dX11_cut_57 : decode cX11_cut 57 = .ok (.aload_n 0, 1) := by decide +kernel
theorem dX11_cut_58 : decode cX11_cut 58 = .ok (.iload_n 1, 1) := by decide +kernel
theorem dX11_cut_59 : decode cX11_cut 59 = .ok (.invokevirtual 278, 3) := by decide +kernel
theorem dX11_cut_62 : decode cX11_cut 62 = .ok (.ireturn, 1) := by decide +kernel
theorem bk_X11_cut_0 {C : JC} {d cl sl : Nat} {Q : State → Prop} {w : JW} {x1 : Int32} {x2 : Int32} {d2 : Nat} {r : Int32} {w2 : JW} (hm : jok C MX11_cut d cl sl) (hs : jF MX11_isPipe d2 [jR 41 false, jI x1] (jset w 41 false 0 0) (jI r) w2) (hd2 : d2 + 1 ≤ d) (k : jW C cl sl Q 10 [jR 41 false, jI x1, jI x2] [jI r] w2) : jW C cl sl Q 0 [jR 41 false, jI x1, jI x2] [] w := jr_aload_n hm (i := 0) rfl rfl dX11_cut_0 (jr_iconst hm (v := 0) (by decide) dX11_cut_1 (fp_X11_1 hm dX11_cut_2 (jr_aload_n hm (i := 0) rfl rfl dX11_cut_5 (jr_iload_n hm (i := 1) rfl rfl dX11_cut_6 (jr_callV (mc := 0) (ms := 0) hm hs hd2 jw_1656 jw_1658 jw_97 jw_125 jw_1659 jn_X11_isPipe rfl jo_41 (fun _ _ _ _ _ => ⟨_, rfl⟩) rfl rfl (Nat.le_of_ble_eq_true rfl) rfl dX11_cut_7 (jkF (jr_drop (jle_same (jle_same (jle_same jle_nil))) k)))))))
theorem bk_X11_cut_10 {C : JC} {d cl sl : Nat} {Q : State → Prop} {w : JW} {x1 : Int32} {x2 : Int32} {xs0 : Int32} (hm : jok C MX11_cut d cl sl) (kt : ¬ xs0 = 0 → jW C cl sl Q 19 [jR 41 false, jI x1, jI x2] [] w) (kf : xs0 = 0 → jW C cl sl Q 13 [jR 41 false, jU, jU] [] w) : jW C cl sl Q 10 [jR 41 false, jI x1, jI x2] [jI xs0] w := jr_if_ne hm dX11_cut_10 (by decide) (fun h => jr_drop (jle_same (jle_same (jle_same jle_nil))) (kt h)) (fun h => jr_drop (jle_same (jle_drop (jle_drop jle_nil))) (kf h))
theorem bk_X11_cut_13 {C : JC} {d cl sl : Nat} {Q : State → Prop} {w : JW} {d2 : Nat} {r : Int32} {w2 : JW} (hm : jok C MX11_cut d cl sl) (hs : jF MX11_no d2 [jR 41 false, jI 1] w (jI r) w2) (hd2 : d2 + 1 ≤ d) (k : jW C cl sl Q 18 [jU, jU, jU] [jI r] w2) : jW C cl sl Q 13 [jR 41 false, jU, jU] [] w := jr_aload_n hm (i := 0) rfl rfl dX11_cut_13 (jr_iconst hm (v := 1) (by decide) dX11_cut_14 (jr_callV (mc := 0) (ms := 0) hm hs hd2 jw_1261 jw_1263 jw_46 jw_125 jw_1265 jn_X11_no rfl jo_41 (fun _ _ _ _ _ => ⟨_, rfl⟩) rfl rfl (Nat.le_of_ble_eq_true rfl) rfl dX11_cut_15 (jkF (jr_drop (jle_drop (jle_same (jle_same jle_nil))) k))))
theorem bk_X11_cut_18 {C : JC} {d cl sl : Nat} {w : JW} {xs0 : Int32} {P : JV → JW → Prop} (hm : jok C MX11_cut d cl sl) (hp : P (jI xs0) w) : jW C cl sl (jQQ C cl sl P) 18 [jU, jU, jU] [jI xs0] w := jr_ireturn hm rfl dX11_cut_18 hp
theorem bk_X11_cut_19 {C : JC} {d cl sl : Nat} {Q : State → Prop} {w : JW} {x1 : Int32} {x2 : Int32} {d2 : Nat} {r : Int32} {w2 : JW} (hm : jok C MX11_cut d cl sl) (hs : jF MX11_lengthOf d2 [jR 41 false, jI x1] w (jI r) w2) (hd2 : d2 + 1 ≤ d) (k : jW C cl sl Q 26 [jR 41 false, jI x1, jI x2] [jI r, jI 1, jI x2] w2) : jW C cl sl Q 19 [jR 41 false, jI x1, jI x2] [] w := jr_iload_n hm (i := 2) rfl rfl dX11_cut_19 (jr_iconst hm (v := 1) (by decide) dX11_cut_20 (jr_aload_n hm (i := 0) rfl rfl dX11_cut_21 (jr_iload_n hm (i := 1) rfl rfl dX11_cut_22 (jr_callV (mc := 0) (ms := 0) hm hs hd2 jw_1668 jw_1670 jw_100 jw_125 jw_1671 jn_X11_lengthOf rfl jo_41 (fun _ _ _ _ _ => ⟨_, rfl⟩) rfl rfl (Nat.le_of_ble_eq_true rfl) rfl dX11_cut_23 (jkF (jr_drop (jle_same (jle_same (jle_same jle_nil))) k))))))
theorem bk_X11_cut_26 {C : JC} {d cl sl : Nat} {Q : State → Prop} {w : JW} {x1 : Int32} {x2 : Int32} {xs0 : Int32} {xs1 : Int32} {xs2 : Int32} {d2 : Nat} {r : Int32} {w2 : JW} (hm : jok C MX11_cut d cl sl) (hs : jF MX11_isIn d2 [jI xs2, jI xs1, jI (xs0 - 1)] w (jI r) w2) (hd2 : d2 + 1 ≤ d) (k : jW C cl sl Q 31 [jR 41 false, jI x1, jI x2] [jI r] w2) : jW C cl sl Q 26 [jR 41 false, jI x1, jI x2] [jI xs0, jI xs1, jI xs2] w := jr_iconst hm (v := 1) (by decide) dX11_cut_26 (jr_isub hm dX11_cut_27 (jr_callS (mc := 0) (ms := 0) hm hs hd2 jw_1274 jw_1275 jw_125 jw_1276 jn_X11_isIn rfl rfl (Nat.le_of_ble_eq_true rfl) rfl dX11_cut_28 (jkF (jr_drop (jle_same (jle_same (jle_same jle_nil))) k))))
theorem bk_X11_cut_31 {C : JC} {d cl sl : Nat} {Q : State → Prop} {w : JW} {x1 : Int32} {x2 : Int32} {xs0 : Int32} (hm : jok C MX11_cut d cl sl) (kt : ¬ xs0 = 0 → jW C cl sl Q 40 [jR 41 false, jI x1, jI x2] [] w) (kf : xs0 = 0 → jW C cl sl Q 34 [jR 41 false, jU, jU] [] w) : jW C cl sl Q 31 [jR 41 false, jI x1, jI x2] [jI xs0] w := jr_if_ne hm dX11_cut_31 (by decide) (fun h => jr_drop (jle_same (jle_same (jle_same jle_nil))) (kt h)) (fun h => jr_drop (jle_same (jle_drop (jle_drop jle_nil))) (kf h))
theorem bk_X11_cut_34 {C : JC} {d cl sl : Nat} {Q : State → Prop} {w : JW} {d2 : Nat} {r : Int32} {w2 : JW} (hm : jok C MX11_cut d cl sl) (hs : jF MX11_no d2 [jR 41 false, jI 2] w (jI r) w2) (hd2 : d2 + 1 ≤ d) (k : jW C cl sl Q 39 [jU, jU, jU] [jI r] w2) : jW C cl sl Q 34 [jR 41 false, jU, jU] [] w := jr_aload_n hm (i := 0) rfl rfl dX11_cut_34 (jr_iconst hm (v := 2) (by decide) dX11_cut_35 (jr_callV (mc := 0) (ms := 0) hm hs hd2 jw_1261 jw_1263 jw_46 jw_125 jw_1265 jn_X11_no rfl jo_41 (fun _ _ _ _ _ => ⟨_, rfl⟩) rfl rfl (Nat.le_of_ble_eq_true rfl) rfl dX11_cut_36 (jkF (jr_drop (jle_drop (jle_same (jle_same jle_nil))) k))))
theorem bk_X11_cut_39 {C : JC} {d cl sl : Nat} {w : JW} {xs0 : Int32} {P : JV → JW → Prop} (hm : jok C MX11_cut d cl sl) (hp : P (jI xs0) w) : jW C cl sl (jQQ C cl sl P) 39 [jU, jU, jU] [jI xs0] w := jr_ireturn hm rfl dX11_cut_39 hp
theorem bk_X11_cut_40 {C : JC} {d cl sl : Nat} {Q : State → Prop} {w : JW} {x1 : Int32} {x2 : Int32} {d2 : Nat} {r : Int32} {w2 : JW} (hm : jok C MX11_cut d cl sl) (h1 : vp_in ((3 * x1) + 1) 36) (h2 : vp_in ((3 * x1) + 1) 36) (hs : jF MX11_lengthOf d2 [jR 41 false, jI x1] (jset w 55 (w.2.2 41 8) ((3 * x1) + 1).toNatClampNeg ((w.1 55 (w.2.2 41 8) ((3 * x1) + 1).toNatClampNeg) - x2)) (jI r) w2) (hd2 : d2 + 1 ≤ d) (k : jW C cl sl Q 62 [jU, jU, jU] [jI r] w2) : jW C cl sl Q 40 [jR 41 false, jI x1, jI x2] [] w := jr_aload_n hm (i := 0) rfl rfl dX11_cut_40 (fg_X11_87 hm dX11_cut_41 (fg_X11_230 hm dX11_cut_44 (jr_iconst hm (v := 3) (by decide) dX11_cut_47 (jr_iload_n hm (i := 1) rfl rfl dX11_cut_48 (jr_imul hm dX11_cut_49 (jr_iconst hm (v := 1) (by decide) dX11_cut_50 (jr_iadd hm dX11_cut_51 (jr_dup2 hm dX11_cut_52 (jr_iaload hm (ja_55 (w.2.2 41 8)) h1 dX11_cut_53 (jr_iload_n hm (i := 2) rfl rfl dX11_cut_54 (jr_isub hm dX11_cut_55 (jr_iastore hm (ja_55 (w.2.2 41 8)) h2 dX11_cut_56 (jr_aload_n hm (i := 0) rfl rfl dX11_cut_57 (jr_iload_n hm (i := 1) rfl rfl dX11_cut_58 (jr_callV (mc := 0) (ms := 0) hm hs hd2 jw_1668 jw_1670 jw_100 jw_125 jw_1671 jn_X11_lengthOf rfl jo_41 (fun _ _ _ _ _ => ⟨_, rfl⟩) rfl rfl (Nat.le_of_ble_eq_true rfl) rfl dX11_cut_59 (jkF (jr_drop (jle_drop (jle_drop (jle_drop jle_nil))) k)))))))))))))))))
theorem bk_X11_cut_62 {C : JC} {d cl sl : Nat} {w : JW} {xs0 : Int32} {P : JV → JW → Prop} (hm : jok C MX11_cut d cl sl) (hp : P (jI xs0) w) : jW C cl sl (jQQ C cl sl P) 62 [jU, jU, jU] [jI xs0] w := jr_ireturn hm rfl dX11_cut_62 hp
theorem dX11_pass__0 : decode cX11_pass_ 0 = .ok (.aload_n 0, 1) := by decide +kernel
theorem dX11_pass__1 : decode cX11_pass_ 1 = .ok (.iconst 0, 1) := by decide +kernel
theorem dX11_pass__2 : decode cX11_pass_ 2 = .ok (.putfield 1, 3) := by decide +kernel
theorem dX11_pass__5 : decode cX11_pass_ 5 = .ok (.iload_n 1, 1) := by decide +kernel
theorem dX11_pass__6 : decode cX11_pass_ 6 = .ok (.iconst 1, 1) := by decide +kernel
theorem dX11_pass__7 : decode cX11_pass_ 7 = .ok (.bipush 120, 2) := by decide +kernel
theorem dX11_pass__9 : decode cX11_pass_ 9 = .ok (.invokestatic 22, 3) := by decide +kernel
theorem dX11_pass__12 : decode cX11_pass_ 12 = .ok (.ifCond .ne 9, 3) := by decide +kernel
theorem dX11_pass__15 : decode cX11_pass_ 15 = .ok (.aload_n 0, 1) := by decide +kernel
theorem dX11_pass__16 : decode cX11_pass_ 16 = .ok (.iconst 1, 1) := by decide +kernel
theorem dX11_pass__17 : decode cX11_pass_ 17 = .ok (.invokevirtual 10, 3) := by decide +kernel
theorem dX11_pass__20 : decode cX11_pass_ 20 = .ok (.ireturn, 1) := by decide +kernel
theorem dX11_pass__21 : decode cX11_pass_ 21 = .ok (.aload_n 0, 1) := by decide +kernel
theorem dX11_pass__22 : decode cX11_pass_ 22 = .ok (.getfield 106, 3) := by decide +kernel
theorem dX11_pass__25 : decode cX11_pass_ 25 = .ok (.iconst 2, 1) := by decide +kernel
theorem dX11_pass__26 : decode cX11_pass_ 26 = .ok (.iaload, 1) := by decide +kernel
theorem dX11_pass__27 : decode cX11_pass_ 27 = .ok (.istore_n 2, 1) := by decide +kernel
theorem dX11_pass__28 : decode cX11_pass_ 28 = .ok (.aload_n 0, 1) := by decide +kernel
theorem dX11_pass__29 : decode cX11_pass_ 29 = .ok (.aload_n 0, 1) := by decide +kernel
theorem dX11_pass__30 : decode cX11_pass_ 30 = .ok (.getfield 106, 3) := by decide +kernel
theorem dX11_pass__33 : decode cX11_pass_ 33 = .ok (.iload_n 1, 1) := by decide +kernel
theorem dX11_pass__34 : decode cX11_pass_ 34 = .ok (.invokevirtual 385, 3) := by decide +kernel
theorem dX11_pass__37 : decode cX11_pass_ 37 = .ok (.aload_n 0, 1) := by decide +kernel
theorem dX11_pass__38 : decode cX11_pass_ 38 = .ok (.getfield 106, 3) := by decide +kernel
theorem dX11_pass__41 : decode cX11_pass_ 41 = .ok (.iconst 2, 1) := by decide +kernel
theorem dX11_pass__42 : decode cX11_pass_ 42 = .ok (.iaload, 1) := by decide +kernel
theorem dX11_pass__43 : decode cX11_pass_ 43 = .ok (.iload_n 2, 1) := by decide +kernel
theorem dX11_pass__44 : decode cX11_pass_ 44 = .ok (.isub, 1) := by decide +kernel
theorem dX11_pass__45 : decode cX11_pass_ 45 = .ok (.ireturn, 1) := by decide +kernel
theorem bk_X11_pass__0 {C : JC} {d cl sl : Nat} {Q : State → Prop} {w : JW} {x1 : Int32} {d2 : Nat} {r : Int32} {w2 : JW} (hm : jok C MX11_pass_ d cl sl) (hs : jF MX11_isIn d2 [jI x1, jI 1, jI 120] (jset w 41 false 0 0) (jI r) w2) (hd2 : d2 + 1 ≤ d) (k : jW C cl sl Q 12 [jR 41 false, jI x1, jU] [jI r] w2) : jW C cl sl Q 0 [jR 41 false, jI x1, jU] [] w := jr_aload_n hm (i := 0) rfl rfl dX11_pass__0 (jr_iconst hm (v := 0) (by decide) dX11_pass__1 (fp_X11_1 hm dX11_pass__2 (jr_iload_n hm (i := 1) rfl rfl dX11_pass__5 (jr_iconst hm (v := 1) (by decide) dX11_pass__6 (jr_bipush hm (v := 120) (by decide) dX11_pass__7 (jr_callS (mc := 0) (ms := 0) hm hs hd2 jw_1274 jw_1275 jw_125 jw_1276 jn_X11_isIn rfl rfl (Nat.le_of_ble_eq_true rfl) rfl dX11_pass__9 (jkF (jr_drop (jle_same (jle_same (jle_same jle_nil))) k))))))))
theorem bk_X11_pass__12 {C : JC} {d cl sl : Nat} {Q : State → Prop} {w : JW} {x1 : Int32} {xs0 : Int32} (hm : jok C MX11_pass_ d cl sl) (kt : ¬ xs0 = 0 → jW C cl sl Q 21 [jR 41 false, jI x1, jU] [] w) (kf : xs0 = 0 → jW C cl sl Q 15 [jR 41 false, jU, jU] [] w) : jW C cl sl Q 12 [jR 41 false, jI x1, jU] [jI xs0] w := jr_if_ne hm dX11_pass__12 (by decide) (fun h => jr_drop (jle_same (jle_same (jle_same jle_nil))) (kt h)) (fun h => jr_drop (jle_same (jle_drop (jle_same jle_nil))) (kf h))
theorem bk_X11_pass__15 {C : JC} {d cl sl : Nat} {Q : State → Prop} {w : JW} {d2 : Nat} {r : Int32} {w2 : JW} (hm : jok C MX11_pass_ d cl sl) (hs : jF MX11_no d2 [jR 41 false, jI 1] w (jI r) w2) (hd2 : d2 + 1 ≤ d) (k : jW C cl sl Q 20 [jU, jU, jU] [jI r] w2) : jW C cl sl Q 15 [jR 41 false, jU, jU] [] w := jr_aload_n hm (i := 0) rfl rfl dX11_pass__15 (jr_iconst hm (v := 1) (by decide) dX11_pass__16 (jr_callV (mc := 0) (ms := 0) hm hs hd2 jw_1261 jw_1263 jw_46 jw_125 jw_1265 jn_X11_no rfl jo_41 (fun _ _ _ _ _ => ⟨_, rfl⟩) rfl rfl (Nat.le_of_ble_eq_true rfl) rfl dX11_pass__17 (jkF (jr_drop (jle_drop (jle_same (jle_same jle_nil))) k))))
theorem bk_X11_pass__20 {C : JC} {d cl sl : Nat} {w : JW} {xs0 : Int32} {P : JV → JW → Prop} (hm : jok C MX11_pass_ d cl sl) (hp : P (jI xs0) w) : jW C cl sl (jQQ C cl sl P) 20 [jU, jU, jU] [jI xs0] w := jr_ireturn hm rfl dX11_pass__20 hp
theorem bk_X11_pass__21 {C : JC} {d cl sl : Nat} {Q : State → Prop} {w : JW} {x1 : Int32} {d2 : Nat} {w2 : JW} (hm : jok C MX11_pass_ d cl sl) (h1 : vp_in 2 51) (hs : jF MX11_passAll d2 [jR 41 false, jR 51 false, jI x1] w (jU) w2) (hd2 : d2 + 1 ≤ d) (k : jW C cl sl Q 37 [jR 41 false, jU, jI (w.1 51 false 2)] [] w2) : jW C cl sl Q 21 [jR 41 false, jI x1, jU] [] w := jr_aload_n hm (i := 0) rfl rfl dX11_pass__21 (fg_X11_106 hm dX11_pass__22 (jr_iconst hm (v := 2) (by decide) dX11_pass__25 (jr_iaload hm ja_51 h1 dX11_pass__26 (jr_istore_n hm (i := 2) rfl (Nat.le_of_ble_eq_true rfl) rfl dX11_pass__27 (jr_aload_n hm (i := 0) rfl rfl dX11_pass__28 (jr_aload_n hm (i := 0) rfl rfl dX11_pass__29 (fg_X11_106 hm dX11_pass__30 (jr_iload_n hm (i := 1) rfl rfl dX11_pass__33 (jr_callV (mc := 0) (ms := 0) hm hs hd2 jw_1732 jw_1734 jw_107 jw_125 jw_1735 jn_X11_passAll rfl jo_41 (fun _ _ _ _ _ => ⟨_, rfl⟩) rfl rfl (Nat.le_of_ble_eq_true rfl) rfl dX11_pass__34 (jkF (jr_drop (jle_same (jle_drop (jle_same jle_nil))) k)))))))))))
theorem bk_X11_pass__37 {C : JC} {d cl sl : Nat} {w : JW} {x2 : Int32} {P : JV → JW → Prop} (hm : jok C MX11_pass_ d cl sl) (h1 : vp_in 2 51) (hp : P (jI ((w.1 51 false 2) - x2)) w) : jW C cl sl (jQQ C cl sl P) 37 [jR 41 false, jU, jI x2] [] w := jr_aload_n hm (i := 0) rfl rfl dX11_pass__37 (fg_X11_106 hm dX11_pass__38 (jr_iconst hm (v := 2) (by decide) dX11_pass__41 (jr_iaload hm ja_51 h1 dX11_pass__42 (jr_iload_n hm (i := 2) rfl rfl dX11_pass__43 (jr_isub hm dX11_pass__44 (jr_ireturn hm rfl dX11_pass__45 hp))))))
theorem dX11_until_0 : decode cX11_until 0 = .ok (.aload_n 0, 1) := by decide +kernel
theorem dX11_until_1 : decode cX11_until 1 = .ok (.iconst 0, 1) := by decide +kernel
theorem dX11_until_2 : decode cX11_until 2 = .ok (.putfield 1, 3) := by decide +kernel
theorem dX11_until_5 : decode cX11_until 5 = .ok (.aload_n 0, 1) := by decide +kernel
theorem dX11_until_6 : decode cX11_until 6 = .ok (.iload_n 1, 1) := by decide +kernel
theorem dX11_until_7 : decode cX11_until 7 = .ok (.invokevirtual 367, 3) := by decide +kernel
theorem dX11_until_10 : decode cX11_until 10 = .ok (.ifCond .ne 9, 3) := by decide +kernel
theorem dX11_until_13 : decode cX11_until 13 = .ok (.aload_n 0, 1) := by decide +kernel
theorem dX11_until_14 : decode cX11_until 14 = .ok (.iconst 1, 1) := by decide +kernel
theorem dX11_until_15 : decode cX11_until 15 = .ok (.invokevirtual 10, 3) := by decide +kernel
theorem dX11_until_18 : decode cX11_until 18 = .ok (.ireturn, 1) := by decide +kernel
theorem dX11_until_19 : decode cX11_until 19 = .ok (.aload_n 0, 1) := by decide +kernel
theorem dX11_until_20 : decode cX11_until 20 = .ok (.invokevirtual 388, 3) := by decide +kernel
theorem dX11_until_23 : decode cX11_until 23 = .ok (.iconst 0, 1) := by decide +kernel
theorem dX11_until_24 : decode cX11_until 24 = .ok (.istore_n 2, 1) := by decide +kernel
theorem dX11_until_25 : decode cX11_until 25 = .ok (.iload_n 2, 1) := by decide +kernel
theorem dX11_until_26 : decode cX11_until 26 = .ok (.sipush 150, 3) := by decide +kernel
theorem dX11_until_29 : decode cX11_until 29 = .ok (.if_icmp .gt 31, 3) := by decide +kernel
theorem dX11_until_32 : decode cX11_until 32 = .ok (.aload_n 0, 1) := by decide +kernel
theorem dX11_until_33 : decode cX11_until 33 = .ok (.getfield 109, 3) := by decide +kernel
theorem dX11_until_36 : decode cX11_until 36 = .ok (.bipush 21, 2) := by decide +kernel
theorem dX11_until_38 : decode cX11_until 38 = .ok (.iload_n 1, 1) := by decide +kernel
theorem dX11_until_39 : decode cX11_until 39 = .ok (.iadd, 1) := by decide +kernel
theorem dX11_until_40 : decode cX11_until 40 = .ok (.iaload, 1) := by decide +kernel
theorem dX11_until_41 : decode cX11_until 41 = .ok (.ifCond .le 5, 3) := by decide +kernel
theorem dX11_until_44 : decode cX11_until 44 = .ok (.iload_n 2, 1) := by decide +kernel
theorem dX11_until_45 : decode cX11_until 45 = .ok (.ireturn, 1) := by decide +kernel
theorem dX11_until_46 : decode cX11_until 46 = .ok (.aload_n 0, 1) := by decide +kernel
theorem dX11_until_47 : decode cX11_until 47 = .ok (.aload_n 0, 1) := by decide +kernel
theorem dX11_until_48 : decode cX11_until 48 = .ok (.getfield 109, 3) := by decide +kernel
theorem dX11_until_51 : decode cX11_until 51 = .ok (.invokevirtual 335, 3) := by decide +kernel
theorem dX11_until_54 : decode cX11_until 54 = .ok (.iinc 2 1, 3) := by decide +kernel
theorem dX11_until_57 : decode cX11_until 57 = .ok (.goto (-32), 3) := by decide +kernel
theorem dX11_until_60 : decode cX11_until 60 = .ok (.iconst (-1), 1) := by decide +kernel
theorem dX11_until_61 : decode cX11_until 61 = .ok (.ireturn, 1) := by decide +kernel
theorem bk_X11_until_0 {C : JC} {d cl sl : Nat} {Q : State → Prop} {w : JW} {x1 : Int32} {d2 : Nat} {r : Int32} {w2 : JW} (hm : jok C MX11_until d cl sl) (hs : jF MX11_isPipe d2 [jR 41 false, jI x1] (jset w 41 false 0 0) (jI r) w2) (hd2 : d2 + 1 ≤ d) (k : jW C cl sl Q 10 [jR 41 false, jI x1, jU] [jI r] w2) : jW C cl sl Q 0 [jR 41 false, jI x1, jU] [] w := jr_aload_n hm (i := 0) rfl rfl dX11_until_0 (jr_iconst hm (v := 0) (by decide) dX11_until_1 (fp_X11_1 hm dX11_until_2 (jr_aload_n hm (i := 0) rfl rfl dX11_until_5 (jr_iload_n hm (i := 1) rfl rfl dX11_until_6 (jr_callV (mc := 0) (ms := 0) hm hs hd2 jw_1656 jw_1658 jw_97 jw_125 jw_1659 jn_X11_isPipe rfl jo_41 (fun _ _ _ _ _ => ⟨_, rfl⟩) rfl rfl (Nat.le_of_ble_eq_true rfl) rfl dX11_until_7 (jkF (jr_drop (jle_same (jle_same (jle_same jle_nil))) k)))))))
theorem bk_X11_until_10 {C : JC} {d cl sl : Nat} {Q : State → Prop} {w : JW} {x1 : Int32} {xs0 : Int32} (hm : jok C MX11_until d cl sl) (kt : ¬ xs0 = 0 → jW C cl sl Q 19 [jR 41 false, jI x1, jU] [] w) (kf : xs0 = 0 → jW C cl sl Q 13 [jR 41 false, jU, jU] [] w) : jW C cl sl Q 10 [jR 41 false, jI x1, jU] [jI xs0] w := jr_if_ne hm dX11_until_10 (by decide) (fun h => jr_drop (jle_same (jle_same (jle_same jle_nil))) (kt h)) (fun h => jr_drop (jle_same (jle_drop (jle_same jle_nil))) (kf h))
theorem bk_X11_until_13 {C : JC} {d cl sl : Nat} {Q : State → Prop} {w : JW} {d2 : Nat} {r : Int32} {w2 : JW} (hm : jok C MX11_until d cl sl) (hs : jF MX11_no d2 [jR 41 false, jI 1] w (jI r) w2) (hd2 : d2 + 1 ≤ d) (k : jW C cl sl Q 18 [jU, jU, jU] [jI r] w2) : jW C cl sl Q 13 [jR 41 false, jU, jU] [] w := jr_aload_n hm (i := 0) rfl rfl dX11_until_13 (jr_iconst hm (v := 1) (by decide) dX11_until_14 (jr_callV (mc := 0) (ms := 0) hm hs hd2 jw_1261 jw_1263 jw_46 jw_125 jw_1265 jn_X11_no rfl jo_41 (fun _ _ _ _ _ => ⟨_, rfl⟩) rfl rfl (Nat.le_of_ble_eq_true rfl) rfl dX11_until_15 (jkF (jr_drop (jle_drop (jle_same (jle_same jle_nil))) k))))
theorem bk_X11_until_18 {C : JC} {d cl sl : Nat} {w : JW} {xs0 : Int32} {P : JV → JW → Prop} (hm : jok C MX11_until d cl sl) (hp : P (jI xs0) w) : jW C cl sl (jQQ C cl sl P) 18 [jU, jU, jU] [jI xs0] w := jr_ireturn hm rfl dX11_until_18 hp
theorem bk_X11_until_19 {C : JC} {d cl sl : Nat} {Q : State → Prop} {w : JW} {x1 : Int32} {d2 : Nat} {w2 : JW} (hm : jok C MX11_until d cl sl) (hs : jF MX11_lookAhead d2 [jR 41 false] w (jU) w2) (hd2 : d2 + 1 ≤ d) (k : jW C cl sl Q 23 [jR 41 false, jI x1, jU] [] w2) : jW C cl sl Q 19 [jR 41 false, jI x1, jU] [] w := jr_aload_n hm (i := 0) rfl rfl dX11_until_19 (jr_callV (mc := 0) (ms := 0) hm hs hd2 jw_1760 jw_1762 jw_113 jw_125 jw_1763 jn_X11_lookAhead rfl jo_41 (fun _ _ _ _ _ => ⟨_, rfl⟩) rfl rfl (Nat.le_of_ble_eq_true rfl) rfl dX11_until_20 (jkF (jr_drop (jle_same (jle_same (jle_same jle_nil))) k)))
theorem bk_X11_until_23 {C : JC} {d cl sl : Nat} {Q : State → Prop} {w : JW} {x1 : Int32} (hm : jok C MX11_until d cl sl) (k : jW C cl sl Q 25 [jR 41 false, jI x1, jI 0] [] w) : jW C cl sl Q 23 [jR 41 false, jI x1, jU] [] w := jr_iconst hm (v := 0) (by decide) dX11_until_23 (jr_istore_n hm (i := 2) rfl (Nat.le_of_ble_eq_true rfl) rfl dX11_until_24 (jr_drop (jle_same (jle_same (jle_same jle_nil))) k))
theorem bk_X11_until_25 {C : JC} {d cl sl : Nat} {Q : State → Prop} {w : JW} {x1 : Int32} {x2 : Int32} (hm : jok C MX11_until d cl sl) (kt : 150 < x2 → jW C cl sl Q 60 [jU, jU, jU] [] w) (kf : ¬ 150 < x2 → jW C cl sl Q 32 [jR 41 false, jI x1, jI x2] [] w) : jW C cl sl Q 25 [jR 41 false, jI x1, jI x2] [] w := jr_iload_n hm (i := 2) rfl rfl dX11_until_25 (jr_sipush hm (v := 150) (by decide) dX11_until_26 (jr_icmp_gt hm dX11_until_29 (by decide) (fun h => jr_drop (jle_drop (jle_drop (jle_drop jle_nil))) (kt h)) (fun h => jr_drop (jle_same (jle_same (jle_same jle_nil))) (kf h))))
theorem bk_X11_until_32 {C : JC} {d cl sl : Nat} {Q : State → Prop} {w : JW} {x1 : Int32} {x2 : Int32} (hm : jok C MX11_until d cl sl) (h1 : vp_in (21 + x1) 51) (kt : (w.1 52 false (21 + x1).toNatClampNeg) ≤ 0 → jW C cl sl Q 46 [jR 41 false, jI x1, jI x2] [] w) (kf : ¬ (w.1 52 false (21 + x1).toNatClampNeg) ≤ 0 → jW C cl sl Q 44 [jU, jU, jI x2] [] w) : jW C cl sl Q 32 [jR 41 false, jI x1, jI x2] [] w := jr_aload_n hm (i := 0) rfl rfl dX11_until_32 (fg_X11_109 hm dX11_until_33 (jr_bipush hm (v := 21) (by decide) dX11_until_36 (jr_iload_n hm (i := 1) rfl rfl dX11_until_38 (jr_iadd hm dX11_until_39 (jr_iaload hm ja_52 h1 dX11_until_40 (jr_if_le hm dX11_until_41 (by decide) (fun h => jr_drop (jle_same (jle_same (jle_same jle_nil))) (kt h)) (fun h => jr_drop (jle_drop (jle_drop (jle_same jle_nil))) (kf h))))))))
theorem bk_X11_until_44 {C : JC} {d cl sl : Nat} {w : JW} {x2 : Int32} {P : JV → JW → Prop} (hm : jok C MX11_until d cl sl) (hp : P (jI x2) w) : jW C cl sl (jQQ C cl sl P) 44 [jU, jU, jI x2] [] w := jr_iload_n hm (i := 2) rfl rfl dX11_until_44 (jr_ireturn hm rfl dX11_until_45 hp)
theorem bk_X11_until_46 {C : JC} {d cl sl : Nat} {Q : State → Prop} {w : JW} {x1 : Int32} {x2 : Int32} {d2 : Nat} {w2 : JW} (hm : jok C MX11_until d cl sl) (hs : jF MX11_pass d2 [jR 41 false, jR 52 false] w (jU) w2) (hd2 : d2 + 1 ≤ d) (k : jW C cl sl Q 54 [jR 41 false, jI x1, jI x2] [] w2) : jW C cl sl Q 46 [jR 41 false, jI x1, jI x2] [] w := jr_aload_n hm (i := 0) rfl rfl dX11_until_46 (jr_aload_n hm (i := 0) rfl rfl dX11_until_47 (fg_X11_109 hm dX11_until_48 (jr_callV (mc := 0) (ms := 0) hm hs hd2 jw_1736 jw_1738 jw_108 jw_125 jw_1739 jn_X11_pass rfl jo_41 (fun _ _ _ _ _ => ⟨_, rfl⟩) rfl rfl (Nat.le_of_ble_eq_true rfl) rfl dX11_until_51 (jkF (jr_drop (jle_same (jle_same (jle_same jle_nil))) k)))))
theorem bk_X11_until_54 {C : JC} {d cl sl : Nat} {Q : State → Prop} {w : JW} {x1 : Int32} {x2 : Int32} (hm : jok C MX11_until d cl sl) (k : jW C cl sl Q 25 [jR 41 false, jI x1, jI (x2 + 1)] [] w) : jW C cl sl Q 54 [jR 41 false, jI x1, jI x2] [] w := jr_iinc hm (i := 2) (v := x2 + 1) rfl rfl rfl dX11_until_54 (jr_goto hm dX11_until_57 (by decide) (jr_drop (jle_same (jle_same (jle_same jle_nil))) k))
theorem bk_X11_until_60 {C : JC} {d cl sl : Nat} {w : JW} {P : JV → JW → Prop} (hm : jok C MX11_until d cl sl) (hp : P (jI (-1)) w) : jW C cl sl (jQQ C cl sl P) 60 [jU, jU, jU] [] w := jr_iconst hm (v := (-1)) (by decide) dX11_until_60 (jr_ireturn hm rfl dX11_until_61 hp)
theorem dX11_foresee_0 : decode cX11_foresee 0 = .ok (.aload_n 0, 1) := by decide +kernel
theorem dX11_foresee_1 : decode cX11_foresee 1 = .ok (.iconst 0, 1) := by decide +kernel
theorem dX11_foresee_2 : decode cX11_foresee 2 = .ok (.putfield 1, 3) := by decide +kernel
theorem dX11_foresee_5 : decode cX11_foresee 5 = .ok (.iload_n 1, 1) := by decide +kernel
theorem dX11_foresee_6 : decode cX11_foresee 6 = .ok (.iconst 1, 1) := by decide +kernel
theorem dX11_foresee_7 : decode cX11_foresee 7 = .ok (.bipush 120, 2) := by decide +kernel
theorem dX11_foresee_9 : decode cX11_foresee 9 = .ok (.invokestatic 22, 3) := by decide +kernel
theorem dX11_foresee_12 : decode cX11_foresee 12 = .ok (.ifCond .ne 9, 3) := by decide +kernel
theorem dX11_foresee_15 : decode cX11_foresee 15 = .ok (.aload_n 0, 1) := by decide +kernel
theorem dX11_foresee_16 : decode cX11_foresee 16 = .ok (.iconst 1, 1) := by decide +kernel
theorem dX11_foresee_17 : decode cX11_foresee 17 = .ok (.invokevirtual 10, 3) := by decide +kernel
theorem dX11_foresee_20 : decode cX11_foresee 20 = .ok (.ireturn, 1) := by decide +kernel
theorem dX11_foresee_21 : decode cX11_foresee 21 = .ok (.iload_n 2, 1) := by decide +kernel
theorem dX11_foresee_22 : decode cX11_foresee 22 = .ok (.iconst 0, 1) := by decide +kernel
theorem dX11_foresee_23 : decode cX11_foresee 23 = .ok (.iconst 3, 1) := by decide +kernel
theorem dX11_foresee_24 : decode cX11_foresee 24 = .ok (.invokestatic 22, 3) := by decide +kernel
theorem dX11_foresee_27 : decode cX11_foresee 27 = .ok (.ifCond .ne 9, 3) := by decide +kernel
theorem dX11_foresee_30 : decode cX11_foresee 30 = .ok (.aload_n 0, 1) := by decide +kernel
theorem dX11_foresee_31 : decode cX11_foresee 31 = .ok (.iconst 2, 1) := by decide +kernel
theorem dX11_foresee_32 : decode cX11_foresee 32 = .ok (.invokevirtual 10, 3) := by decide +kernel
theorem dX11_foresee_35 : decode cX11_foresee 35 = .ok (.ireturn, 1) := by decide +kernel
theorem dX11_foresee_36 : decode cX11_foresee 36 = .ok (.aload_n 0, 1) := by decide +kernel
theorem dX11_foresee_37 : decode cX11_foresee 37 = .ok (.invokevirtual 388, 3) := by decide +kernel
theorem dX11_foresee_40 : decode cX11_foresee 40 = .ok (.aload_n 0, 1) := by decide +kernel
theorem dX11_foresee_41 : decode cX11_foresee 41 = .ok (.aload_n 0, 1) := by decide +kernel
theorem dX11_foresee_42 : decode cX11_foresee 42 = .ok (.getfield 109, 3) := by decide +kernel
theorem dX11_foresee_45 : decode cX11_foresee 45 = .ok (.iload_n 1, 1) := by decide +kernel
theorem dX11_foresee_46 : decode cX11_foresee 46 = .ok (.invokevirtual 385, 3) := by decide +kernel
theorem dX11_foresee_49 : decode cX11_foresee 49 = .ok (.iload_n 2, 1) := by decide +kernel
theorem dX11_foresee_50 : decode cX11_foresee 50 = .ok (.tableswitch 63 0 2 #[26, 40, 54], 26) := by decide +kernel
theorem dX11_foresee_76 : decode cX11_foresee 76 = .ok (.aload_n 0, 1) := by decide +kernel
theorem dX11_foresee_77 : decode cX11_foresee 77 = .ok (.getfield 109, 3) := by decide +kernel
theorem dX11_foresee_80 : decode cX11_foresee 80 = .ok (.iconst 2, 1) := by decide +kernel
theorem dX11_foresee_81 : decode cX11_foresee 81 = .ok (.iaload, 1) := by decide +kernel
theorem dX11_foresee_82 : decode cX11_foresee 82 = .ok (.aload_n 0, 1) := by decide +kernel
theorem dX11_foresee_83 : decode cX11_foresee 83 = .ok (.getfield 106, 3) := by decide +kernel
theorem dX11_foresee_86 : decode cX11_foresee 86 = .ok (.iconst 2, 1) := by decide +kernel
theorem dX11_foresee_87 : decode cX11_foresee 87 = .ok (.iaload, 1) := by decide +kernel
theorem dX11_foresee_88 : decode cX11_foresee 88 = .ok (.isub, 1) := by decide +kernel
theorem dX11_foresee_89 : decode cX11_foresee 89 = .ok (.ireturn, 1) := by decide +kernel
theorem dX11_foresee_90 : decode cX11_foresee 90 = .ok (.aload_n 0, 1) := by decide +kernel
theorem dX11_foresee_91 : decode cX11_foresee 91 = .ok (.getfield 109, 3) := by decide +kernel
theorem dX11_foresee_94 : decode cX11_foresee 94 = .ok (.iconst 3, 1) := by decide +kernel
theorem dX11_foresee_95 : decode cX11_foresee 95 = .ok (.iaload, 1) := by decide +kernel
theorem dX11_foresee_96 : decode cX11_foresee 96 = .ok (.aload_n 0, 1) := by decide +kernel
theorem dX11_foresee_97 : decode cX11_foresee 97 = .ok (.getfield 106, 3) := by decide +kernel
theorem dX11_foresee_100 : decode cX11_foresee 100 = .ok (.iconst 3, 1) := by decide +kernel
theorem dX11_foresee_101 : decode cX11_foresee 101 = .ok (.iaload, 1) := by decide +kernel
theorem dX11_foresee_102 : decode cX11_foresee 102 = .ok (.isub, 1) := by decide +kernel
theorem dX11_foresee_103 : decode cX11_foresee 103 = .ok (.ireturn, 1) := by decide +kernel
theorem dX11_foresee_104 : decode cX11_foresee 104 = .ok (.aload_n 0, 1) := by decide +kernel
theorem dX11_foresee_105 : decode cX11_foresee 105 = .ok (.aload_n 0, 1) := by decide +kernel
theorem dX11_foresee_106 : decode cX11_foresee 106 = .ok (.getfield 109, 3) := by decide +kernel
theorem dX11_foresee_109 : decode cX11_foresee 109 = .ok (.invokevirtual 345, 3) := by decide +kernel
theorem dX11_foresee_112 : decode cX11_foresee 112 = .ok (.ireturn, 1) := by decide +kernel
theorem dX11_foresee_113 : decode cX11_foresee 113 = .ok (.aload_n 0, 1) := by decide +kernel
theorem dX11_foresee_114 : decode cX11_foresee 114 = .ok (.aload_n 0, 1) := by decide +kernel
theorem dX11_foresee_115 : decode cX11_foresee 115 = .ok (.getfield 109, 3) := by decide +kernel
theorem dX11_foresee_118 : decode cX11_foresee 118 = .ok (.invokevirtual 352, 3) := by decide +kernel
theorem dX11_foresee_121 : decode cX11_foresee 121 = .ok (.ireturn, 1) := by decide +kernel
theorem bk_X11_foresee_0 {C : JC} {d cl sl : Nat} {Q : State → Prop} {w : JW} {x1 : Int32} {x2 : Int32} {d2 : Nat} {r : Int32} {w2 : JW} (hm : jok C MX11_foresee d cl sl) (hs : jF MX11_isIn d2 [jI x1, jI 1, jI 120] (jset w 41 false 0 0) (jI r) w2) (hd2 : d2 + 1 ≤ d) (k : jW C cl sl Q 12 [jR 41 false, jI x1, jI x2] [jI r] w2) : jW C cl sl Q 0 [jR 41 false, jI x1, jI x2] [] w := jr_aload_n hm (i := 0) rfl rfl dX11_foresee_0 (jr_iconst hm (v := 0) (by decide) dX11_foresee_1 (fp_X11_1 hm dX11_foresee_2 (jr_iload_n hm (i := 1) rfl rfl dX11_foresee_5 (jr_iconst hm (v := 1) (by decide) dX11_foresee_6 (jr_bipush hm (v := 120) (by decide) dX11_foresee_7 (jr_callS (mc := 0) (ms := 0) hm hs hd2 jw_1274 jw_1275 jw_125 jw_1276 jn_X11_isIn rfl rfl (Nat.le_of_ble_eq_true rfl) rfl dX11_foresee_9 (jkF (jr_drop (jle_same (jle_same (jle_same jle_nil))) k))))))))
theorem bk_X11_foresee_12 {C : JC} {d cl sl : Nat} {Q : State → Prop} {w : JW} {x1 : Int32} {x2 : Int32} {xs0 : Int32} (hm : jok C MX11_foresee d cl sl) (kt : ¬ xs0 = 0 → jW C cl sl Q 21 [jR 41 false, jI x1, jI x2] [] w) (kf : xs0 = 0 → jW C cl sl Q 15 [jR 41 false, jU, jU] [] w) : jW C cl sl Q 12 [jR 41 false, jI x1, jI x2] [jI xs0] w := jr_if_ne hm dX11_foresee_12 (by decide) (fun h => jr_drop (jle_same (jle_same (jle_same jle_nil))) (kt h)) (fun h => jr_drop (jle_same (jle_drop (jle_drop jle_nil))) (kf h))
theorem bk_X11_foresee_15 {C : JC} {d cl sl : Nat} {Q : State → Prop} {w : JW} {d2 : Nat} {r : Int32} {w2 : JW} (hm : jok C MX11_foresee d cl sl) (hs : jF MX11_no d2 [jR 41 false, jI 1] w (jI r) w2) (hd2 : d2 + 1 ≤ d) (k : jW C cl sl Q 20 [jU, jU, jU] [jI r] w2) : jW C cl sl Q 15 [jR 41 false, jU, jU] [] w := jr_aload_n hm (i := 0) rfl rfl dX11_foresee_15 (jr_iconst hm (v := 1) (by decide) dX11_foresee_16 (jr_callV (mc := 0) (ms := 0) hm hs hd2 jw_1261 jw_1263 jw_46 jw_125 jw_1265 jn_X11_no rfl jo_41 (fun _ _ _ _ _ => ⟨_, rfl⟩) rfl rfl (Nat.le_of_ble_eq_true rfl) rfl dX11_foresee_17 (jkF (jr_drop (jle_drop (jle_same (jle_same jle_nil))) k))))
theorem bk_X11_foresee_20 {C : JC} {d cl sl : Nat} {w : JW} {xs0 : Int32} {P : JV → JW → Prop} (hm : jok C MX11_foresee d cl sl) (hp : P (jI xs0) w) : jW C cl sl (jQQ C cl sl P) 20 [jU, jU, jU] [jI xs0] w := jr_ireturn hm rfl dX11_foresee_20 hp
theorem bk_X11_foresee_21 {C : JC} {d cl sl : Nat} {Q : State → Prop} {w : JW} {x1 : Int32} {x2 : Int32} {d2 : Nat} {r : Int32} {w2 : JW} (hm : jok C MX11_foresee d cl sl) (hs : jF MX11_isIn d2 [jI x2, jI 0, jI 3] w (jI r) w2) (hd2 : d2 + 1 ≤ d) (k : jW C cl sl Q 27 [jR 41 false, jI x1, jI x2] [jI r] w2) : jW C cl sl Q 21 [jR 41 false, jI x1, jI x2] [] w := jr_iload_n hm (i := 2) rfl rfl dX11_foresee_21 (jr_iconst hm (v := 0) (by decide) dX11_foresee_22 (jr_iconst hm (v := 3) (by decide) dX11_foresee_23 (jr_callS (mc := 0) (ms := 0) hm hs hd2 jw_1274 jw_1275 jw_125 jw_1276 jn_X11_isIn rfl rfl (Nat.le_of_ble_eq_true rfl) rfl dX11_foresee_24 (jkF (jr_drop (jle_same (jle_same (jle_same jle_nil))) k)))))
theorem bk_X11_foresee_27 {C : JC} {d cl sl : Nat} {Q : State → Prop} {w : JW} {x1 : Int32} {x2 : Int32} {xs0 : Int32} (hm : jok C MX11_foresee d cl sl) (kt : ¬ xs0 = 0 → jW C cl sl Q 36 [jR 41 false, jI x1, jI x2] [] w) (kf : xs0 = 0 → jW C cl sl Q 30 [jR 41 false, jU, jU] [] w) : jW C cl sl Q 27 [jR 41 false, jI x1, jI x2] [jI xs0] w := jr_if_ne hm dX11_foresee_27 (by decide) (fun h => jr_drop (jle_same (jle_same (jle_same jle_nil))) (kt h)) (fun h => jr_drop (jle_same (jle_drop (jle_drop jle_nil))) (kf h))
theorem bk_X11_foresee_30 {C : JC} {d cl sl : Nat} {Q : State → Prop} {w : JW} {d2 : Nat} {r : Int32} {w2 : JW} (hm : jok C MX11_foresee d cl sl) (hs : jF MX11_no d2 [jR 41 false, jI 2] w (jI r) w2) (hd2 : d2 + 1 ≤ d) (k : jW C cl sl Q 35 [jU, jU, jU] [jI r] w2) : jW C cl sl Q 30 [jR 41 false, jU, jU] [] w := jr_aload_n hm (i := 0) rfl rfl dX11_foresee_30 (jr_iconst hm (v := 2) (by decide) dX11_foresee_31 (jr_callV (mc := 0) (ms := 0) hm hs hd2 jw_1261 jw_1263 jw_46 jw_125 jw_1265 jn_X11_no rfl jo_41 (fun _ _ _ _ _ => ⟨_, rfl⟩) rfl rfl (Nat.le_of_ble_eq_true rfl) rfl dX11_foresee_32 (jkF (jr_drop (jle_drop (jle_same (jle_same jle_nil))) k))))
theorem bk_X11_foresee_35 {C : JC} {d cl sl : Nat} {w : JW} {xs0 : Int32} {P : JV → JW → Prop} (hm : jok C MX11_foresee d cl sl) (hp : P (jI xs0) w) : jW C cl sl (jQQ C cl sl P) 35 [jU, jU, jU] [jI xs0] w := jr_ireturn hm rfl dX11_foresee_35 hp
theorem bk_X11_foresee_36 {C : JC} {d cl sl : Nat} {Q : State → Prop} {w : JW} {x1 : Int32} {x2 : Int32} {d2 : Nat} {w2 : JW} (hm : jok C MX11_foresee d cl sl) (hs : jF MX11_lookAhead d2 [jR 41 false] w (jU) w2) (hd2 : d2 + 1 ≤ d) (k : jW C cl sl Q 40 [jR 41 false, jI x1, jI x2] [] w2) : jW C cl sl Q 36 [jR 41 false, jI x1, jI x2] [] w := jr_aload_n hm (i := 0) rfl rfl dX11_foresee_36 (jr_callV (mc := 0) (ms := 0) hm hs hd2 jw_1760 jw_1762 jw_113 jw_125 jw_1763 jn_X11_lookAhead rfl jo_41 (fun _ _ _ _ _ => ⟨_, rfl⟩) rfl rfl (Nat.le_of_ble_eq_true rfl) rfl dX11_foresee_37 (jkF (jr_drop (jle_same (jle_same (jle_same jle_nil))) k)))
theorem bk_X11_foresee_40 {C : JC} {d cl sl : Nat} {Q : State → Prop} {w : JW} {x1 : Int32} {x2 : Int32} {d2 : Nat} {w2 : JW} (hm : jok C MX11_foresee d cl sl) (hs : jF MX11_passAll d2 [jR 41 false, jR 52 false, jI x1] w (jU) w2) (hd2 : d2 + 1 ≤ d) (k : jW C cl sl Q 49 [jR 41 false, jU, jI x2] [] w2) : jW C cl sl Q 40 [jR 41 false, jI x1, jI x2] [] w := jr_aload_n hm (i := 0) rfl rfl dX11_foresee_40 (jr_aload_n hm (i := 0) rfl rfl dX11_foresee_41 (fg_X11_109 hm dX11_foresee_42 (jr_iload_n hm (i := 1) rfl rfl dX11_foresee_45 (jr_callV (mc := 0) (ms := 0) hm hs hd2 jw_1732 jw_1734 jw_107 jw_125 jw_1735 jn_X11_passAll rfl jo_41 (fun _ _ _ _ _ => ⟨_, rfl⟩) rfl rfl (Nat.le_of_ble_eq_true rfl) rfl dX11_foresee_46 (jkF (jr_drop (jle_same (jle_drop (jle_same jle_nil))) k))))))
theorem bk_X11_foresee_49 {C : JC} {d cl sl : Nat} {Q : State → Prop} {w : JW} {x2 : Int32} (hm : jok C MX11_foresee d cl sl) (k0 : x2 = 0 → jW C cl sl Q 76 [jR 41 false, jU, jU] [] w) (k1 : x2 = 1 → jW C cl sl Q 90 [jR 41 false, jU, jU] [] w) (k2 : x2 = 2 → jW C cl sl Q 104 [jR 41 false, jU, jU] [] w) (kd : ¬ x2 = 0 → ¬ x2 = 1 → ¬ x2 = 2 → jW C cl sl Q 113 [jR 41 false, jU, jU] [] w) : jW C cl sl Q 49 [jR 41 false, jU, jI x2] [] w := by
  by_cases e0 : x2 = 0
  · exact jr_iload_n hm (i := 2) rfl rfl dX11_foresee_49 (jr_tab_in hm dX11_foresee_50 (by rw [e0]; decide) (by rw [e0]; decide) (off := 26) (by rw [e0]; rfl) (by decide) (jr_drop (jle_same (jle_same (jle_drop jle_nil))) (k0 e0)))
  by_cases e1 : x2 = 1
  · exact jr_iload_n hm (i := 2) rfl rfl dX11_foresee_49 (jr_tab_in hm dX11_foresee_50 (by rw [e1]; decide) (by rw [e1]; decide) (off := 40) (by rw [e1]; rfl) (by decide) (jr_drop (jle_same (jle_same (jle_drop jle_nil))) (k1 e1)))
  by_cases e2 : x2 = 2
  · exact jr_iload_n hm (i := 2) rfl rfl dX11_foresee_49 (jr_tab_in hm dX11_foresee_50 (by rw [e2]; decide) (by rw [e2]; decide) (off := 54) (by rw [e2]; rfl) (by decide) (jr_drop (jle_same (jle_same (jle_drop jle_nil))) (k2 e2)))
  have t0 : ¬ (x2).toInt = 0 := fun e => e0 (Int32.toInt_inj.mp (e.trans (by decide)))
  have t1 : ¬ (x2).toInt = 1 := fun e => e1 (Int32.toInt_inj.mp (e.trans (by decide)))
  have t2 : ¬ (x2).toInt = 2 := fun e => e2 (Int32.toInt_inj.mp (e.trans (by decide)))
  exact jr_iload_n hm (i := 2) rfl rfl dX11_foresee_49 (jr_tab_out hm dX11_foresee_50 (by omega) (by decide) (jr_drop (jle_same (jle_same (jle_drop jle_nil))) (kd e0 e1 e2)))
theorem bk_X11_foresee_76 {C : JC} {d cl sl : Nat} {w : JW} {P : JV → JW → Prop} (hm : jok C MX11_foresee d cl sl) (h1 : vp_in 2 51) (h2 : vp_in 2 51) (hp : P (jI ((w.1 52 false 2) - (w.1 51 false 2))) w) : jW C cl sl (jQQ C cl sl P) 76 [jR 41 false, jU, jU] [] w := jr_aload_n hm (i := 0) rfl rfl dX11_foresee_76 (fg_X11_109 hm dX11_foresee_77 (jr_iconst hm (v := 2) (by decide) dX11_foresee_80 (jr_iaload hm ja_52 h1 dX11_foresee_81 (jr_aload_n hm (i := 0) rfl rfl dX11_foresee_82 (fg_X11_106 hm dX11_foresee_83 (jr_iconst hm (v := 2) (by decide) dX11_foresee_86 (jr_iaload hm ja_51 h2 dX11_foresee_87 (jr_isub hm dX11_foresee_88 (jr_ireturn hm rfl dX11_foresee_89 hp)))))))))
theorem bk_X11_foresee_90 {C : JC} {d cl sl : Nat} {w : JW} {P : JV → JW → Prop} (hm : jok C MX11_foresee d cl sl) (h1 : vp_in 3 51) (h2 : vp_in 3 51) (hp : P (jI ((w.1 52 false 3) - (w.1 51 false 3))) w) : jW C cl sl (jQQ C cl sl P) 90 [jR 41 false, jU, jU] [] w := jr_aload_n hm (i := 0) rfl rfl dX11_foresee_90 (fg_X11_109 hm dX11_foresee_91 (jr_iconst hm (v := 3) (by decide) dX11_foresee_94 (jr_iaload hm ja_52 h1 dX11_foresee_95 (jr_aload_n hm (i := 0) rfl rfl dX11_foresee_96 (fg_X11_106 hm dX11_foresee_97 (jr_iconst hm (v := 3) (by decide) dX11_foresee_100 (jr_iaload hm ja_51 h2 dX11_foresee_101 (jr_isub hm dX11_foresee_102 (jr_ireturn hm rfl dX11_foresee_103 hp)))))))))
theorem bk_X11_foresee_104 {C : JC} {d cl sl : Nat} {Q : State → Prop} {w : JW} {d2 : Nat} {r : Int32} {w2 : JW} (hm : jok C MX11_foresee d cl sl) (hs : jF MX11_sounding d2 [jR 41 false, jR 52 false] w (jI r) w2) (hd2 : d2 + 1 ≤ d) (k : jW C cl sl Q 112 [jU, jU, jU] [jI r] w2) : jW C cl sl Q 104 [jR 41 false, jU, jU] [] w := jr_aload_n hm (i := 0) rfl rfl dX11_foresee_104 (jr_aload_n hm (i := 0) rfl rfl dX11_foresee_105 (fg_X11_109 hm dX11_foresee_106 (jr_callV (mc := 0) (ms := 0) hm hs hd2 jw_1600 jw_1602 jw_86 jw_125 jw_1603 jn_X11_sounding rfl jo_41 (fun _ _ _ _ _ => ⟨_, rfl⟩) rfl rfl (Nat.le_of_ble_eq_true rfl) rfl dX11_foresee_109 (jkF (jr_drop (jle_drop (jle_same (jle_same jle_nil))) k)))))
theorem bk_X11_foresee_112 {C : JC} {d cl sl : Nat} {w : JW} {xs0 : Int32} {P : JV → JW → Prop} (hm : jok C MX11_foresee d cl sl) (hp : P (jI xs0) w) : jW C cl sl (jQQ C cl sl P) 112 [jU, jU, jU] [jI xs0] w := jr_ireturn hm rfl dX11_foresee_112 hp
theorem bk_X11_foresee_113 {C : JC} {d cl sl : Nat} {Q : State → Prop} {w : JW} {d2 : Nat} {r : Int32} {w2 : JW} (hm : jok C MX11_foresee d cl sl) (hs : jF MX11_silt d2 [jR 41 false, jR 52 false] w (jI r) w2) (hd2 : d2 + 1 ≤ d) (k : jW C cl sl Q 121 [jU, jU, jU] [jI r] w2) : jW C cl sl Q 113 [jR 41 false, jU, jU] [] w := jr_aload_n hm (i := 0) rfl rfl dX11_foresee_113 (jr_aload_n hm (i := 0) rfl rfl dX11_foresee_114 (fg_X11_109 hm dX11_foresee_115 (jr_callV (mc := 0) (ms := 0) hm hs hd2 jw_1612 jw_1614 jw_89 jw_125 jw_1615 jn_X11_silt rfl jo_41 (fun _ _ _ _ _ => ⟨_, rfl⟩) rfl rfl (Nat.le_of_ble_eq_true rfl) rfl dX11_foresee_118 (jkF (jr_drop (jle_drop (jle_same (jle_same jle_nil))) k)))))
theorem bk_X11_foresee_121 {C : JC} {d cl sl : Nat} {w : JW} {xs0 : Int32} {P : JV → JW → Prop} (hm : jok C MX11_foresee d cl sl) (hp : P (jI xs0) w) : jW C cl sl (jQQ C cl sl P) 121 [jU, jU, jU] [jI xs0] w := jr_ireturn hm rfl dX11_foresee_121 hp
theorem dX11_advise_0 : decode cX11_advise 0 = .ok (.aload_n 0, 1) := by decide +kernel
theorem dX11_advise_1 : decode cX11_advise 1 = .ok (.iconst 0, 1) := by decide +kernel
theorem dX11_advise_2 : decode cX11_advise 2 = .ok (.putfield 1, 3) := by decide +kernel
theorem dX11_advise_5 : decode cX11_advise 5 = .ok (.iload_n 1, 1) := by decide +kernel
theorem dX11_advise_6 : decode cX11_advise 6 = .ok (.iconst 1, 1) := by decide +kernel
theorem dX11_advise_7 : decode cX11_advise 7 = .ok (.bipush 72, 2) := by decide +kernel
theorem dX11_advise_9 : decode cX11_advise 9 = .ok (.invokestatic 22, 3) := by decide +kernel
theorem dX11_advise_12 : decode cX11_advise 12 = .ok (.ifCond .ne 9, 3) := by decide +kernel
theorem dX11_advise_15 : decode cX11_advise 15 = .ok (.aload_n 0, 1) := by decide +kernel
theorem dX11_advise_16 : decode cX11_advise 16 = .ok (.iconst 1, 1) := by decide +kernel
theorem dX11_advise_17 : decode cX11_advise 17 = .ok (.invokevirtual 10, 3) := by decide +kernel
theorem dX11_advise_20 : decode cX11_advise 20 = .ok (.ireturn, 1) := by decide +kernel
theorem dX11_advise_21 : decode cX11_advise 21 = .ok (.iconst (-1), 1) := by decide +kernel
theorem dX11_advise_22 : decode cX11_advise 22 = .ok (.istore_n 2, 1) := by decide +kernel
theorem dX11_advise_23 : decode cX11_advise 23 = .ok (.iconst 0, 1) := by decide +kernel
theorem dX11_advise_24 : decode cX11_advise 24 = .ok (.istore_n 3, 1) := by decide +kernel
theorem dX11_advise_25 : decode cX11_advise 25 = .ok (.iconst 0, 1) := by decide +kernel
theorem dX11_advise_26 : decode cX11_advise 26 = .ok (.istore 4, 2) := by decide +kernel
theorem dX11_advise_28 : decode cX11_advise 28 = .ok (.iload 4, 2) := by decide +kernel
theorem dX11_advise_30 : decode cX11_advise 30 = .ok (.bipush 9, 2) := by decide +kernel
theorem dX11_advise_32 : decode cX11_advise 32 = .ok (.if_icmp .gt 66, 3) := by decide +kernel
theorem dX11_advise_35 : decode cX11_advise 35 = .ok (.aload_n 0, 1) := by decide +kernel
theorem dX11_advise_36 : decode cX11_advise 36 = .ok (.invokevirtual 388, 3) := by decide +kernel
theorem dX11_advise_39 : decode cX11_advise 39 = .ok (.aload_n 0, 1) := by decide +kernel
theorem dX11_advise_40 : decode cX11_advise 40 = .ok (.getfield 109, 3) := by decide +kernel
theorem dX11_advise_43 : decode cX11_advise 43 = .ok (.iconst 1, 1) := by decide +kernel
theorem dX11_advise_44 : decode cX11_advise 44 = .ok (.iload 4, 2) := by decide +kernel
theorem dX11_advise_46 : decode cX11_advise 46 = .ok (.iastore, 1) := by decide +kernel
theorem dX11_advise_47 : decode cX11_advise 47 = .ok (.aload_n 0, 1) := by decide +kernel
theorem dX11_advise_48 : decode cX11_advise 48 = .ok (.aload_n 0, 1) := by decide +kernel
theorem dX11_advise_49 : decode cX11_advise 49 = .ok (.getfield 109, 3) := by decide +kernel
theorem dX11_advise_52 : decode cX11_advise 52 = .ok (.iload_n 1, 1) := by decide +kernel
theorem dX11_advise_53 : decode cX11_advise 53 = .ok (.invokevirtual 385, 3) := by decide +kernel
theorem dX11_advise_56 : decode cX11_advise 56 = .ok (.aload_n 0, 1) := by decide +kernel
theorem dX11_advise_57 : decode cX11_advise 57 = .ok (.getfield 109, 3) := by decide +kernel
theorem dX11_advise_60 : decode cX11_advise 60 = .ok (.iconst 2, 1) := by decide +kernel
theorem dX11_advise_61 : decode cX11_advise 61 = .ok (.iaload, 1) := by decide +kernel
theorem dX11_advise_62 : decode cX11_advise 62 = .ok (.iconst 2, 1) := by decide +kernel
theorem dX11_advise_63 : decode cX11_advise 63 = .ok (.aload_n 0, 1) := by decide +kernel
theorem dX11_advise_64 : decode cX11_advise 64 = .ok (.getfield 109, 3) := by decide +kernel
theorem dX11_advise_67 : decode cX11_advise 67 = .ok (.iconst 3, 1) := by decide +kernel
theorem dX11_advise_68 : decode cX11_advise 68 = .ok (.iaload, 1) := by decide +kernel
theorem dX11_advise_69 : decode cX11_advise 69 = .ok (.imul, 1) := by decide +kernel
theorem dX11_advise_70 : decode cX11_advise 70 = .ok (.isub, 1) := by decide +kernel
theorem dX11_advise_71 : decode cX11_advise 71 = .ok (.istore 5, 2) := by decide +kernel
theorem dX11_advise_73 : decode cX11_advise 73 = .ok (.iload_n 2, 1) := by decide +kernel
theorem dX11_advise_74 : decode cX11_advise 74 = .ok (.ifCond .lt 12, 3) := by decide +kernel
theorem dX11_advise_77 : decode cX11_advise 77 = .ok (.iload 5, 2) := by decide +kernel
theorem dX11_advise_79 : decode cX11_advise 79 = .ok (.iload_n 3, 1) := by decide +kernel
theorem dX11_advise_80 : decode cX11_advise 80 = .ok (.if_icmp .gt 6, 3) := by decide +kernel
theorem dX11_advise_83 : decode cX11_advise 83 = .ok (.goto 9, 3) := by decide +kernel
theorem dX11_advise_86 : decode cX11_advise 86 = .ok (.iload 4, 2) := by decide +kernel
theorem dX11_advise_88 : decode cX11_advise 88 = .ok (.istore_n 2, 1) := by decide +kernel
theorem dX11_advise_89 : decode cX11_advise 89 = .ok (.iload 5, 2) := by decide +kernel
theorem dX11_advise_91 : decode cX11_advise 91 = .ok (.istore_n 3, 1) := by decide +kernel
theorem dX11_advise_92 : decode cX11_advise 92 = .ok (.iinc 4 1, 3) := by decide +kernel
theorem dX11_advise_95 : decode cX11_advise 95 = .ok (.goto (-67), 3) := by decide +kernel
theorem dX11_advise_98 : decode cX11_advise 98 = .ok (.iload_n 2, 1) := by decide +kernel
theorem dX11_advise_99 : decode cX11_advise 99 = .ok (.ireturn, 1) := by decide +kernel
theorem bk_X11_advise_0 {C : JC} {d cl sl : Nat} {Q : State → Prop} {w : JW} {x1 : Int32} {d2 : Nat} {r : Int32} {w2 : JW} (hm : jok C MX11_advise d cl sl) (hs : jF MX11_isIn d2 [jI x1, jI 1, jI 72] (jset w 41 false 0 0) (jI r) w2) (hd2 : d2 + 1 ≤ d) (k : jW C cl sl Q 12 [jR 41 false, jI x1, jU, jU, jU, jU] [jI r] w2) : jW C cl sl Q 0 [jR 41 false, jI x1, jU, jU, jU, jU] [] w := jr_aload_n hm (i := 0) rfl rfl dX11_advise_0 (jr_iconst hm (v := 0) (by decide) dX11_advise_1 (fp_X11_1 hm dX11_advise_2 (jr_iload_n hm (i := 1) rfl rfl dX11_advise_5 (jr_iconst hm (v := 1) (by decide) dX11_advise_6 (jr_bipush hm (v := 72) (by decide) dX11_advise_7 (jr_callS (mc := 0) (ms := 0) hm hs hd2 jw_1274 jw_1275 jw_125 jw_1276 jn_X11_isIn rfl rfl (Nat.le_of_ble_eq_true rfl) rfl dX11_advise_9 (jkF (jr_drop (jle_same (jle_same (jle_same (jle_same (jle_same (jle_same jle_nil)))))) k))))))))
theorem bk_X11_advise_12 {C : JC} {d cl sl : Nat} {Q : State → Prop} {w : JW} {x1 : Int32} {xs0 : Int32} (hm : jok C MX11_advise d cl sl) (kt : ¬ xs0 = 0 → jW C cl sl Q 21 [jR 41 false, jI x1, jU, jU, jU, jU] [] w) (kf : xs0 = 0 → jW C cl sl Q 15 [jR 41 false, jU, jU, jU, jU, jU] [] w) : jW C cl sl Q 12 [jR 41 false, jI x1, jU, jU, jU, jU] [jI xs0] w := jr_if_ne hm dX11_advise_12 (by decide) (fun h => jr_drop (jle_same (jle_same (jle_same (jle_same (jle_same (jle_same jle_nil)))))) (kt h)) (fun h => jr_drop (jle_same (jle_drop (jle_same (jle_same (jle_same (jle_same jle_nil)))))) (kf h))
theorem bk_X11_advise_15 {C : JC} {d cl sl : Nat} {Q : State → Prop} {w : JW} {d2 : Nat} {r : Int32} {w2 : JW} (hm : jok C MX11_advise d cl sl) (hs : jF MX11_no d2 [jR 41 false, jI 1] w (jI r) w2) (hd2 : d2 + 1 ≤ d) (k : jW C cl sl Q 20 [jU, jU, jU, jU, jU, jU] [jI r] w2) : jW C cl sl Q 15 [jR 41 false, jU, jU, jU, jU, jU] [] w := jr_aload_n hm (i := 0) rfl rfl dX11_advise_15 (jr_iconst hm (v := 1) (by decide) dX11_advise_16 (jr_callV (mc := 0) (ms := 0) hm hs hd2 jw_1261 jw_1263 jw_46 jw_125 jw_1265 jn_X11_no rfl jo_41 (fun _ _ _ _ _ => ⟨_, rfl⟩) rfl rfl (Nat.le_of_ble_eq_true rfl) rfl dX11_advise_17 (jkF (jr_drop (jle_drop (jle_same (jle_same (jle_same (jle_same (jle_same jle_nil)))))) k))))
theorem bk_X11_advise_20 {C : JC} {d cl sl : Nat} {w : JW} {xs0 : Int32} {P : JV → JW → Prop} (hm : jok C MX11_advise d cl sl) (hp : P (jI xs0) w) : jW C cl sl (jQQ C cl sl P) 20 [jU, jU, jU, jU, jU, jU] [jI xs0] w := jr_ireturn hm rfl dX11_advise_20 hp
theorem bk_X11_advise_21 {C : JC} {d cl sl : Nat} {Q : State → Prop} {w : JW} {x1 : Int32} (hm : jok C MX11_advise d cl sl) (k : jW C cl sl Q 28 [jR 41 false, jI x1, jI (-1), jI 0, jI 0, jU] [] w) : jW C cl sl Q 21 [jR 41 false, jI x1, jU, jU, jU, jU] [] w := jr_iconst hm (v := (-1)) (by decide) dX11_advise_21 (jr_istore_n hm (i := 2) rfl (Nat.le_of_ble_eq_true rfl) rfl dX11_advise_22 (jr_iconst hm (v := 0) (by decide) dX11_advise_23 (jr_istore_n hm (i := 3) rfl (Nat.le_of_ble_eq_true rfl) rfl dX11_advise_24 (jr_iconst hm (v := 0) (by decide) dX11_advise_25 (jr_istore hm (i := 4) (Nat.le_of_ble_eq_true rfl) rfl dX11_advise_26 (jr_drop (jle_same (jle_same (jle_same (jle_same (jle_same (jle_same jle_nil)))))) k))))))
theorem bk_X11_advise_28 {C : JC} {d cl sl : Nat} {Q : State → Prop} {w : JW} {x1 : Int32} {x2 : Int32} {x3 : Int32} {x4 : Int32} (hm : jok C MX11_advise d cl sl) (kt : 9 < x4 → jW C cl sl Q 98 [jU, jU, jI x2, jU, jU, jU] [] w) (kf : ¬ 9 < x4 → jW C cl sl Q 35 [jR 41 false, jI x1, jI x2, jI x3, jI x4, jU] [] w) : jW C cl sl Q 28 [jR 41 false, jI x1, jI x2, jI x3, jI x4, jU] [] w := jr_iload hm (i := 4) rfl dX11_advise_28 (jr_bipush hm (v := 9) (by decide) dX11_advise_30 (jr_icmp_gt hm dX11_advise_32 (by decide) (fun h => jr_drop (jle_drop (jle_drop (jle_same (jle_drop (jle_drop (jle_same jle_nil)))))) (kt h)) (fun h => jr_drop (jle_same (jle_same (jle_same (jle_same (jle_same (jle_same jle_nil)))))) (kf h))))
theorem bk_X11_advise_35 {C : JC} {d cl sl : Nat} {Q : State → Prop} {w : JW} {x1 : Int32} {x2 : Int32} {x3 : Int32} {x4 : Int32} {d2 : Nat} {w2 : JW} (hm : jok C MX11_advise d cl sl) (hs : jF MX11_lookAhead d2 [jR 41 false] w (jU) w2) (hd2 : d2 + 1 ≤ d) (k : jW C cl sl Q 39 [jR 41 false, jI x1, jI x2, jI x3, jI x4, jU] [] w2) : jW C cl sl Q 35 [jR 41 false, jI x1, jI x2, jI x3, jI x4, jU] [] w := jr_aload_n hm (i := 0) rfl rfl dX11_advise_35 (jr_callV (mc := 0) (ms := 0) hm hs hd2 jw_1760 jw_1762 jw_113 jw_125 jw_1763 jn_X11_lookAhead rfl jo_41 (fun _ _ _ _ _ => ⟨_, rfl⟩) rfl rfl (Nat.le_of_ble_eq_true rfl) rfl dX11_advise_36 (jkF (jr_drop (jle_same (jle_same (jle_same (jle_same (jle_same (jle_same jle_nil)))))) k)))
theorem bk_X11_advise_39 {C : JC} {d cl sl : Nat} {Q : State → Prop} {w : JW} {x1 : Int32} {x2 : Int32} {x3 : Int32} {x4 : Int32} {d2 : Nat} {w2 : JW} (hm : jok C MX11_advise d cl sl) (h1 : vp_in 1 51) (hs : jF MX11_passAll d2 [jR 41 false, jR 52 false, jI x1] (jset w 52 false 1 x4) (jU) w2) (hd2 : d2 + 1 ≤ d) (k : jW C cl sl Q 56 [jR 41 false, jI x1, jI x2, jI x3, jI x4, jU] [] w2) : jW C cl sl Q 39 [jR 41 false, jI x1, jI x2, jI x3, jI x4, jU] [] w := jr_aload_n hm (i := 0) rfl rfl dX11_advise_39 (fg_X11_109 hm dX11_advise_40 (jr_iconst hm (v := 1) (by decide) dX11_advise_43 (jr_iload hm (i := 4) rfl dX11_advise_44 (jr_iastore hm ja_52 h1 dX11_advise_46 (jr_aload_n hm (i := 0) rfl rfl dX11_advise_47 (jr_aload_n hm (i := 0) rfl rfl dX11_advise_48 (fg_X11_109 hm dX11_advise_49 (jr_iload_n hm (i := 1) rfl rfl dX11_advise_52 (jr_callV (mc := 0) (ms := 0) hm hs hd2 jw_1732 jw_1734 jw_107 jw_125 jw_1735 jn_X11_passAll rfl jo_41 (fun _ _ _ _ _ => ⟨_, rfl⟩) rfl rfl (Nat.le_of_ble_eq_true rfl) rfl dX11_advise_53 (jkF (jr_drop (jle_same (jle_same (jle_same (jle_same (jle_same (jle_same jle_nil)))))) k)))))))))))
theorem bk_X11_advise_56 {C : JC} {d cl sl : Nat} {Q : State → Prop} {w : JW} {x1 : Int32} {x2 : Int32} {x3 : Int32} {x4 : Int32} (hm : jok C MX11_advise d cl sl) (h1 : vp_in 2 51) (h2 : vp_in 3 51) (kt : x2 < 0 → jW C cl sl Q 86 [jR 41 false, jI x1, jU, jU, jI x4, jI ((w.1 52 false 2) - (2 * (w.1 52 false 3)))] [] w) (kf : ¬ x2 < 0 → jW C cl sl Q 77 [jR 41 false, jI x1, jI x2, jI x3, jI x4, jI ((w.1 52 false 2) - (2 * (w.1 52 false 3)))] [] w) : jW C cl sl Q 56 [jR 41 false, jI x1, jI x2, jI x3, jI x4, jU] [] w := jr_aload_n hm (i := 0) rfl rfl dX11_advise_56 (fg_X11_109 hm dX11_advise_57 (jr_iconst hm (v := 2) (by decide) dX11_advise_60 (jr_iaload hm ja_52 h1 dX11_advise_61 (jr_iconst hm (v := 2) (by decide) dX11_advise_62 (jr_aload_n hm (i := 0) rfl rfl dX11_advise_63 (fg_X11_109 hm dX11_advise_64 (jr_iconst hm (v := 3) (by decide) dX11_advise_67 (jr_iaload hm ja_52 h2 dX11_advise_68 (jr_imul hm dX11_advise_69 (jr_isub hm dX11_advise_70 (jr_istore hm (i := 5) (Nat.le_of_ble_eq_true rfl) rfl dX11_advise_71 (jr_iload_n hm (i := 2) rfl rfl dX11_advise_73 (jr_if_lt hm dX11_advise_74 (by decide) (fun h => jr_drop (jle_same (jle_same (jle_drop (jle_drop (jle_same (jle_same jle_nil)))))) (kt h)) (fun h => jr_drop (jle_same (jle_same (jle_same (jle_same (jle_same (jle_same jle_nil)))))) (kf h)))))))))))))))
theorem bk_X11_advise_77 {C : JC} {d cl sl : Nat} {Q : State → Prop} {w : JW} {x1 : Int32} {x2 : Int32} {x3 : Int32} {x4 : Int32} {x5 : Int32} (hm : jok C MX11_advise d cl sl) (kt : x3 < x5 → jW C cl sl Q 86 [jR 41 false, jI x1, jU, jU, jI x4, jI x5] [] w) (kf : ¬ x3 < x5 → jW C cl sl Q 83 [jR 41 false, jI x1, jI x2, jI x3, jI x4, jU] [] w) : jW C cl sl Q 77 [jR 41 false, jI x1, jI x2, jI x3, jI x4, jI x5] [] w := jr_iload hm (i := 5) rfl dX11_advise_77 (jr_iload_n hm (i := 3) rfl rfl dX11_advise_79 (jr_icmp_gt hm dX11_advise_80 (by decide) (fun h => jr_drop (jle_same (jle_same (jle_drop (jle_drop (jle_same (jle_same jle_nil)))))) (kt h)) (fun h => jr_drop (jle_same (jle_same (jle_same (jle_same (jle_same (jle_drop jle_nil)))))) (kf h))))
theorem bk_X11_advise_83 {C : JC} {d cl sl : Nat} {Q : State → Prop} {w : JW} {x1 : Int32} {x2 : Int32} {x3 : Int32} {x4 : Int32} (hm : jok C MX11_advise d cl sl) (k : jW C cl sl Q 92 [jR 41 false, jI x1, jI x2, jI x3, jI x4, jU] [] w) : jW C cl sl Q 83 [jR 41 false, jI x1, jI x2, jI x3, jI x4, jU] [] w := jr_goto hm dX11_advise_83 (by decide) (jr_drop (jle_same (jle_same (jle_same (jle_same (jle_same (jle_same jle_nil)))))) k)
theorem bk_X11_advise_86 {C : JC} {d cl sl : Nat} {Q : State → Prop} {w : JW} {x1 : Int32} {x4 : Int32} {x5 : Int32} (hm : jok C MX11_advise d cl sl) (k : jW C cl sl Q 92 [jR 41 false, jI x1, jI x4, jI x5, jI x4, jU] [] w) : jW C cl sl Q 86 [jR 41 false, jI x1, jU, jU, jI x4, jI x5] [] w := jr_iload hm (i := 4) rfl dX11_advise_86 (jr_istore_n hm (i := 2) rfl (Nat.le_of_ble_eq_true rfl) rfl dX11_advise_88 (jr_iload hm (i := 5) rfl dX11_advise_89 (jr_istore_n hm (i := 3) rfl (Nat.le_of_ble_eq_true rfl) rfl dX11_advise_91 (jr_drop (jle_same (jle_same (jle_same (jle_same (jle_same (jle_drop jle_nil)))))) k))))
theorem bk_X11_advise_92 {C : JC} {d cl sl : Nat} {Q : State → Prop} {w : JW} {x1 : Int32} {x2 : Int32} {x3 : Int32} {x4 : Int32} (hm : jok C MX11_advise d cl sl) (k : jW C cl sl Q 28 [jR 41 false, jI x1, jI x2, jI x3, jI (x4 + 1), jU] [] w) : jW C cl sl Q 92 [jR 41 false, jI x1, jI x2, jI x3, jI x4, jU] [] w := jr_iinc hm (i := 4) (v := x4 + 1) rfl rfl rfl dX11_advise_92 (jr_goto hm dX11_advise_95 (by decide) (jr_drop (jle_same (jle_same (jle_same (jle_same (jle_same (jle_same jle_nil)))))) k))
theorem bk_X11_advise_98 {C : JC} {d cl sl : Nat} {w : JW} {x2 : Int32} {P : JV → JW → Prop} (hm : jok C MX11_advise d cl sl) (hp : P (jI x2) w) : jW C cl sl (jQQ C cl sl P) 98 [jU, jU, jI x2, jU, jU, jU] [] w := jr_iload_n hm (i := 2) rfl rfl dX11_advise_98 (jr_ireturn hm rfl dX11_advise_99 hp)
theorem dX11_best_0 : decode cX11_best 0 = .ok (.aload_n 0, 1) := by decide +kernel
theorem dX11_best_1 : decode cX11_best 1 = .ok (.iconst 0, 1) := by decide +kernel
theorem dX11_best_2 : decode cX11_best 2 = .ok (.putfield 1, 3) := by decide +kernel
theorem dX11_best_5 : decode cX11_best 5 = .ok (.iload_n 1, 1) := by decide +kernel
theorem dX11_best_6 : decode cX11_best 6 = .ok (.iconst 1, 1) := by decide +kernel
theorem dX11_best_7 : decode cX11_best 7 = .ok (.bipush 72, 2) := by decide +kernel
theorem dX11_best_9 : decode cX11_best 9 = .ok (.invokestatic 22, 3) := by decide +kernel
theorem dX11_best_12 : decode cX11_best 12 = .ok (.ifCond .ne 9, 3) := by decide +kernel
theorem dX11_best_15 : decode cX11_best 15 = .ok (.aload_n 0, 1) := by decide +kernel
theorem dX11_best_16 : decode cX11_best 16 = .ok (.iconst 1, 1) := by decide +kernel
theorem dX11_best_17 : decode cX11_best 17 = .ok (.invokevirtual 10, 3) := by decide +kernel
theorem dX11_best_20 : decode cX11_best 20 = .ok (.ireturn, 1) := by decide +kernel
theorem dX11_best_21 : decode cX11_best 21 = .ok (.aload_n 0, 1) := by decide +kernel
theorem dX11_best_22 : decode cX11_best 22 = .ok (.invokevirtual 388, 3) := by decide +kernel
theorem dX11_best_25 : decode cX11_best 25 = .ok (.aload_n 0, 1) := by decide +kernel
theorem dX11_best_26 : decode cX11_best 26 = .ok (.aload_n 0, 1) := by decide +kernel
theorem dX11_best_27 : decode cX11_best 27 = .ok (.getfield 109, 3) := by decide +kernel
theorem dX11_best_30 : decode cX11_best 30 = .ok (.iload_n 1, 1) := by decide +kernel
theorem dX11_best_31 : decode cX11_best 31 = .ok (.invokevirtual 385, 3) := by decide +kernel
theorem dX11_best_34 : decode cX11_best 34 = .ok (.aload_n 0, 1) := by decide +kernel
theorem dX11_best_35 : decode cX11_best 35 = .ok (.getfield 109, 3) := by decide +kernel
theorem dX11_best_38 : decode cX11_best 38 = .ok (.iconst 2, 1) := by decide +kernel
theorem dX11_best_39 : decode cX11_best 39 = .ok (.iaload, 1) := by decide +kernel
theorem dX11_best_40 : decode cX11_best 40 = .ok (.istore_n 2, 1) := by decide +kernel
theorem dX11_best_41 : decode cX11_best 41 = .ok (.iconst (-1), 1) := by decide +kernel
theorem dX11_best_42 : decode cX11_best 42 = .ok (.istore_n 3, 1) := by decide +kernel
theorem dX11_best_43 : decode cX11_best 43 = .ok (.iconst 0, 1) := by decide +kernel
theorem dX11_best_44 : decode cX11_best 44 = .ok (.istore 4, 2) := by decide +kernel
theorem dX11_best_46 : decode cX11_best 46 = .ok (.iload 4, 2) := by decide +kernel
theorem dX11_best_48 : decode cX11_best 48 = .ok (.aload_n 0, 1) := by decide +kernel
theorem dX11_best_49 : decode cX11_best 49 = .ok (.getfield 87, 3) := by decide +kernel
theorem dX11_best_52 : decode cX11_best 52 = .ok (.getfield 158, 3) := by decide +kernel
theorem dX11_best_55 : decode cX11_best 55 = .ok (.if_icmp .ge 56, 3) := by decide +kernel
theorem dX11_best_58 : decode cX11_best 58 = .ok (.aload_n 0, 1) := by decide +kernel
theorem dX11_best_59 : decode cX11_best 59 = .ok (.invokevirtual 388, 3) := by decide +kernel
theorem dX11_best_62 : decode cX11_best 62 = .ok (.aload_n 0, 1) := by decide +kernel
theorem dX11_best_63 : decode cX11_best 63 = .ok (.getfield 109, 3) := by decide +kernel
theorem dX11_best_66 : decode cX11_best 66 = .ok (.bipush 9, 2) := by decide +kernel
theorem dX11_best_68 : decode cX11_best 68 = .ok (.iload 4, 2) := by decide +kernel
theorem dX11_best_70 : decode cX11_best 70 = .ok (.iadd, 1) := by decide +kernel
theorem dX11_best_71 : decode cX11_best 71 = .ok (.iconst 0, 1) := by decide +kernel
theorem dX11_best_72 : decode cX11_best 72 = .ok (.iastore, 1) := by decide +kernel
theorem dX11_best_73 : decode cX11_best 73 = .ok (.aload_n 0, 1) := by decide +kernel
theorem dX11_best_74 : decode cX11_best 74 = .ok (.aload_n 0, 1) := by decide +kernel
theorem dX11_best_75 : decode cX11_best 75 = .ok (.getfield 109, 3) := by decide +kernel
theorem dX11_best_78 : decode cX11_best 78 = .ok (.iload_n 1, 1) := by decide +kernel
theorem dX11_best_79 : decode cX11_best 79 = .ok (.invokevirtual 385, 3) := by decide +kernel
theorem dX11_best_82 : decode cX11_best 82 = .ok (.aload_n 0, 1) := by decide +kernel
theorem dX11_best_83 : decode cX11_best 83 = .ok (.getfield 109, 3) := by decide +kernel
theorem dX11_best_86 : decode cX11_best 86 = .ok (.iconst 2, 1) := by decide +kernel
theorem dX11_best_87 : decode cX11_best 87 = .ok (.iaload, 1) := by decide +kernel
theorem dX11_best_88 : decode cX11_best 88 = .ok (.iload_n 2, 1) := by decide +kernel
theorem dX11_best_89 : decode cX11_best 89 = .ok (.if_icmp .gt 6, 3) := by decide +kernel
theorem dX11_best_92 : decode cX11_best 92 = .ok (.goto 13, 3) := by decide +kernel
theorem dX11_best_95 : decode cX11_best 95 = .ok (.iload 4, 2) := by decide +kernel
theorem dX11_best_97 : decode cX11_best 97 = .ok (.istore_n 3, 1) := by decide +kernel
theorem dX11_best_98 : decode cX11_best 98 = .ok (.aload_n 0, 1) := by decide +kernel
theorem dX11_best_99 : decode cX11_best 99 = .ok (.getfield 109, 3) := by decide +kernel
theorem dX11_best_102 : decode cX11_best 102 = .ok (.iconst 2, 1) := by decide +kernel
theorem dX11_best_103 : decode cX11_best 103 = .ok (.iaload, 1) := by decide +kernel
theorem dX11_best_104 : decode cX11_best 104 = .ok (.istore_n 2, 1) := by decide +kernel
theorem dX11_best_105 : decode cX11_best 105 = .ok (.iinc 4 1, 3) := by decide +kernel
theorem dX11_best_108 : decode cX11_best 108 = .ok (.goto (-62), 3) := by decide +kernel
theorem dX11_best_111 : decode cX11_best 111 = .ok (.iload_n 3, 1) := by decide +kernel
theorem dX11_best_112 : decode cX11_best 112 = .ok (.ireturn, 1) := by decide +kernel
theorem bk_X11_best_0 {C : JC} {d cl sl : Nat} {Q : State → Prop} {w : JW} {x1 : Int32} {d2 : Nat} {r : Int32} {w2 : JW} (hm : jok C MX11_best d cl sl) (hs : jF MX11_isIn d2 [jI x1, jI 1, jI 72] (jset w 41 false 0 0) (jI r) w2) (hd2 : d2 + 1 ≤ d) (k : jW C cl sl Q 12 [jR 41 false, jI x1, jU, jU, jU] [jI r] w2) : jW C cl sl Q 0 [jR 41 false, jI x1, jU, jU, jU] [] w := jr_aload_n hm (i := 0) rfl rfl dX11_best_0 (jr_iconst hm (v := 0) (by decide) dX11_best_1 (fp_X11_1 hm dX11_best_2 (jr_iload_n hm (i := 1) rfl rfl dX11_best_5 (jr_iconst hm (v := 1) (by decide) dX11_best_6 (jr_bipush hm (v := 72) (by decide) dX11_best_7 (jr_callS (mc := 0) (ms := 0) hm hs hd2 jw_1274 jw_1275 jw_125 jw_1276 jn_X11_isIn rfl rfl (Nat.le_of_ble_eq_true rfl) rfl dX11_best_9 (jkF (jr_drop (jle_same (jle_same (jle_same (jle_same (jle_same jle_nil))))) k))))))))
theorem bk_X11_best_12 {C : JC} {d cl sl : Nat} {Q : State → Prop} {w : JW} {x1 : Int32} {xs0 : Int32} (hm : jok C MX11_best d cl sl) (kt : ¬ xs0 = 0 → jW C cl sl Q 21 [jR 41 false, jI x1, jU, jU, jU] [] w) (kf : xs0 = 0 → jW C cl sl Q 15 [jR 41 false, jU, jU, jU, jU] [] w) : jW C cl sl Q 12 [jR 41 false, jI x1, jU, jU, jU] [jI xs0] w := jr_if_ne hm dX11_best_12 (by decide) (fun h => jr_drop (jle_same (jle_same (jle_same (jle_same (jle_same jle_nil))))) (kt h)) (fun h => jr_drop (jle_same (jle_drop (jle_same (jle_same (jle_same jle_nil))))) (kf h))
theorem bk_X11_best_15 {C : JC} {d cl sl : Nat} {Q : State → Prop} {w : JW} {d2 : Nat} {r : Int32} {w2 : JW} (hm : jok C MX11_best d cl sl) (hs : jF MX11_no d2 [jR 41 false, jI 1] w (jI r) w2) (hd2 : d2 + 1 ≤ d) (k : jW C cl sl Q 20 [jU, jU, jU, jU, jU] [jI r] w2) : jW C cl sl Q 15 [jR 41 false, jU, jU, jU, jU] [] w := jr_aload_n hm (i := 0) rfl rfl dX11_best_15 (jr_iconst hm (v := 1) (by decide) dX11_best_16 (jr_callV (mc := 0) (ms := 0) hm hs hd2 jw_1261 jw_1263 jw_46 jw_125 jw_1265 jn_X11_no rfl jo_41 (fun _ _ _ _ _ => ⟨_, rfl⟩) rfl rfl (Nat.le_of_ble_eq_true rfl) rfl dX11_best_17 (jkF (jr_drop (jle_drop (jle_same (jle_same (jle_same (jle_same jle_nil))))) k))))
theorem bk_X11_best_20 {C : JC} {d cl sl : Nat} {w : JW} {xs0 : Int32} {P : JV → JW → Prop} (hm : jok C MX11_best d cl sl) (hp : P (jI xs0) w) : jW C cl sl (jQQ C cl sl P) 20 [jU, jU, jU, jU, jU] [jI xs0] w := jr_ireturn hm rfl dX11_best_20 hp
theorem bk_X11_best_21 {C : JC} {d cl sl : Nat} {Q : State → Prop} {w : JW} {x1 : Int32} {d2 : Nat} {w2 : JW} (hm : jok C MX11_best d cl sl) (hs : jF MX11_lookAhead d2 [jR 41 false] w (jU) w2) (hd2 : d2 + 1 ≤ d) (k : jW C cl sl Q 25 [jR 41 false, jI x1, jU, jU, jU] [] w2) : jW C cl sl Q 21 [jR 41 false, jI x1, jU, jU, jU] [] w := jr_aload_n hm (i := 0) rfl rfl dX11_best_21 (jr_callV (mc := 0) (ms := 0) hm hs hd2 jw_1760 jw_1762 jw_113 jw_125 jw_1763 jn_X11_lookAhead rfl jo_41 (fun _ _ _ _ _ => ⟨_, rfl⟩) rfl rfl (Nat.le_of_ble_eq_true rfl) rfl dX11_best_22 (jkF (jr_drop (jle_same (jle_same (jle_same (jle_same (jle_same jle_nil))))) k)))
theorem bk_X11_best_25 {C : JC} {d cl sl : Nat} {Q : State → Prop} {w : JW} {x1 : Int32} {d2 : Nat} {w2 : JW} (hm : jok C MX11_best d cl sl) (hs : jF MX11_passAll d2 [jR 41 false, jR 52 false, jI x1] w (jU) w2) (hd2 : d2 + 1 ≤ d) (k : jW C cl sl Q 34 [jR 41 false, jI x1, jU, jU, jU] [] w2) : jW C cl sl Q 25 [jR 41 false, jI x1, jU, jU, jU] [] w := jr_aload_n hm (i := 0) rfl rfl dX11_best_25 (jr_aload_n hm (i := 0) rfl rfl dX11_best_26 (fg_X11_109 hm dX11_best_27 (jr_iload_n hm (i := 1) rfl rfl dX11_best_30 (jr_callV (mc := 0) (ms := 0) hm hs hd2 jw_1732 jw_1734 jw_107 jw_125 jw_1735 jn_X11_passAll rfl jo_41 (fun _ _ _ _ _ => ⟨_, rfl⟩) rfl rfl (Nat.le_of_ble_eq_true rfl) rfl dX11_best_31 (jkF (jr_drop (jle_same (jle_same (jle_same (jle_same (jle_same jle_nil))))) k))))))
theorem bk_X11_best_34 {C : JC} {d cl sl : Nat} {Q : State → Prop} {w : JW} {x1 : Int32} (hm : jok C MX11_best d cl sl) (h1 : vp_in 2 51) (k : jW C cl sl Q 46 [jR 41 false, jI x1, jI (w.1 52 false 2), jI (-1), jI 0] [] w) : jW C cl sl Q 34 [jR 41 false, jI x1, jU, jU, jU] [] w := jr_aload_n hm (i := 0) rfl rfl dX11_best_34 (fg_X11_109 hm dX11_best_35 (jr_iconst hm (v := 2) (by decide) dX11_best_38 (jr_iaload hm ja_52 h1 dX11_best_39 (jr_istore_n hm (i := 2) rfl (Nat.le_of_ble_eq_true rfl) rfl dX11_best_40 (jr_iconst hm (v := (-1)) (by decide) dX11_best_41 (jr_istore_n hm (i := 3) rfl (Nat.le_of_ble_eq_true rfl) rfl dX11_best_42 (jr_iconst hm (v := 0) (by decide) dX11_best_43 (jr_istore hm (i := 4) (Nat.le_of_ble_eq_true rfl) rfl dX11_best_44 (jr_drop (jle_same (jle_same (jle_same (jle_same (jle_same jle_nil))))) k)))))))))
theorem bk_X11_best_46 {C : JC} {d cl sl : Nat} {Q : State → Prop} {w : JW} {x1 : Int32} {x2 : Int32} {x3 : Int32} {x4 : Int32} (hm : jok C MX11_best d cl sl) (kt : (w.1 53 (w.2.2 41 8) 1) ≤ x4 → jW C cl sl Q 111 [jU, jU, jU, jI x3, jU] [] w) (kf : ¬ (w.1 53 (w.2.2 41 8) 1) ≤ x4 → jW C cl sl Q 58 [jR 41 false, jI x1, jI x2, jI x3, jI x4] [] w) : jW C cl sl Q 46 [jR 41 false, jI x1, jI x2, jI x3, jI x4] [] w := jr_iload hm (i := 4) rfl dX11_best_46 (jr_aload_n hm (i := 0) rfl rfl dX11_best_48 (fg_X11_87 hm dX11_best_49 (fg_X11_158 hm dX11_best_52 (jr_icmp_ge hm dX11_best_55 (by decide) (fun h => jr_drop (jle_drop (jle_drop (jle_drop (jle_same (jle_drop jle_nil))))) (kt h)) (fun h => jr_drop (jle_same (jle_same (jle_same (jle_same (jle_same jle_nil))))) (kf h))))))
theorem bk_X11_best_58 {C : JC} {d cl sl : Nat} {Q : State → Prop} {w : JW} {x1 : Int32} {x2 : Int32} {x3 : Int32} {x4 : Int32} {d2 : Nat} {w2 : JW} (hm : jok C MX11_best d cl sl) (hs : jF MX11_lookAhead d2 [jR 41 false] w (jU) w2) (hd2 : d2 + 1 ≤ d) (k : jW C cl sl Q 62 [jR 41 false, jI x1, jI x2, jI x3, jI x4] [] w2) : jW C cl sl Q 58 [jR 41 false, jI x1, jI x2, jI x3, jI x4] [] w := jr_aload_n hm (i := 0) rfl rfl dX11_best_58 (jr_callV (mc := 0) (ms := 0) hm hs hd2 jw_1760 jw_1762 jw_113 jw_125 jw_1763 jn_X11_lookAhead rfl jo_41 (fun _ _ _ _ _ => ⟨_, rfl⟩) rfl rfl (Nat.le_of_ble_eq_true rfl) rfl dX11_best_59 (jkF (jr_drop (jle_same (jle_same (jle_same (jle_same (jle_same jle_nil))))) k)))
theorem bk_X11_best_62 {C : JC} {d cl sl : Nat} {Q : State → Prop} {w : JW} {x1 : Int32} {x2 : Int32} {x3 : Int32} {x4 : Int32} {d2 : Nat} {w2 : JW} (hm : jok C MX11_best d cl sl) (h1 : vp_in (9 + x4) 51) (hs : jF MX11_passAll d2 [jR 41 false, jR 52 false, jI x1] (jset w 52 false (9 + x4).toNatClampNeg 0) (jU) w2) (hd2 : d2 + 1 ≤ d) (k : jW C cl sl Q 82 [jR 41 false, jI x1, jI x2, jI x3, jI x4] [] w2) : jW C cl sl Q 62 [jR 41 false, jI x1, jI x2, jI x3, jI x4] [] w := jr_aload_n hm (i := 0) rfl rfl dX11_best_62 (fg_X11_109 hm dX11_best_63 (jr_bipush hm (v := 9) (by decide) dX11_best_66 (jr_iload hm (i := 4) rfl dX11_best_68 (jr_iadd hm dX11_best_70 (jr_iconst hm (v := 0) (by decide) dX11_best_71 (jr_iastore hm ja_52 h1 dX11_best_72 (jr_aload_n hm (i := 0) rfl rfl dX11_best_73 (jr_aload_n hm (i := 0) rfl rfl dX11_best_74 (fg_X11_109 hm dX11_best_75 (jr_iload_n hm (i := 1) rfl rfl dX11_best_78 (jr_callV (mc := 0) (ms := 0) hm hs hd2 jw_1732 jw_1734 jw_107 jw_125 jw_1735 jn_X11_passAll rfl jo_41 (fun _ _ _ _ _ => ⟨_, rfl⟩) rfl rfl (Nat.le_of_ble_eq_true rfl) rfl dX11_best_79 (jkF (jr_drop (jle_same (jle_same (jle_same (jle_same (jle_same jle_nil))))) k)))))))))))))
theorem bk_X11_best_82 {C : JC} {d cl sl : Nat} {Q : State → Prop} {w : JW} {x1 : Int32} {x2 : Int32} {x3 : Int32} {x4 : Int32} (hm : jok C MX11_best d cl sl) (h1 : vp_in 2 51) (kt : x2 < (w.1 52 false 2) → jW C cl sl Q 95 [jR 41 false, jI x1, jU, jU, jI x4] [] w) (kf : ¬ x2 < (w.1 52 false 2) → jW C cl sl Q 92 [jR 41 false, jI x1, jI x2, jI x3, jI x4] [] w) : jW C cl sl Q 82 [jR 41 false, jI x1, jI x2, jI x3, jI x4] [] w := jr_aload_n hm (i := 0) rfl rfl dX11_best_82 (fg_X11_109 hm dX11_best_83 (jr_iconst hm (v := 2) (by decide) dX11_best_86 (jr_iaload hm ja_52 h1 dX11_best_87 (jr_iload_n hm (i := 2) rfl rfl dX11_best_88 (jr_icmp_gt hm dX11_best_89 (by decide) (fun h => jr_drop (jle_same (jle_same (jle_drop (jle_drop (jle_same jle_nil))))) (kt h)) (fun h => jr_drop (jle_same (jle_same (jle_same (jle_same (jle_same jle_nil))))) (kf h)))))))
theorem bk_X11_best_92 {C : JC} {d cl sl : Nat} {Q : State → Prop} {w : JW} {x1 : Int32} {x2 : Int32} {x3 : Int32} {x4 : Int32} (hm : jok C MX11_best d cl sl) (k : jW C cl sl Q 105 [jR 41 false, jI x1, jI x2, jI x3, jI x4] [] w) : jW C cl sl Q 92 [jR 41 false, jI x1, jI x2, jI x3, jI x4] [] w := jr_goto hm dX11_best_92 (by decide) (jr_drop (jle_same (jle_same (jle_same (jle_same (jle_same jle_nil))))) k)
theorem bk_X11_best_95 {C : JC} {d cl sl : Nat} {Q : State → Prop} {w : JW} {x1 : Int32} {x4 : Int32} (hm : jok C MX11_best d cl sl) (h1 : vp_in 2 51) (k : jW C cl sl Q 105 [jR 41 false, jI x1, jI (w.1 52 false 2), jI x4, jI x4] [] w) : jW C cl sl Q 95 [jR 41 false, jI x1, jU, jU, jI x4] [] w := jr_iload hm (i := 4) rfl dX11_best_95 (jr_istore_n hm (i := 3) rfl (Nat.le_of_ble_eq_true rfl) rfl dX11_best_97 (jr_aload_n hm (i := 0) rfl rfl dX11_best_98 (fg_X11_109 hm dX11_best_99 (jr_iconst hm (v := 2) (by decide) dX11_best_102 (jr_iaload hm ja_52 h1 dX11_best_103 (jr_istore_n hm (i := 2) rfl (Nat.le_of_ble_eq_true rfl) rfl dX11_best_104 (jr_drop (jle_same (jle_same (jle_same (jle_same (jle_same jle_nil))))) k)))))))
theorem bk_X11_best_105 {C : JC} {d cl sl : Nat} {Q : State → Prop} {w : JW} {x1 : Int32} {x2 : Int32} {x3 : Int32} {x4 : Int32} (hm : jok C MX11_best d cl sl) (k : jW C cl sl Q 46 [jR 41 false, jI x1, jI x2, jI x3, jI (x4 + 1)] [] w) : jW C cl sl Q 105 [jR 41 false, jI x1, jI x2, jI x3, jI x4] [] w := jr_iinc hm (i := 4) (v := x4 + 1) rfl rfl rfl dX11_best_105 (jr_goto hm dX11_best_108 (by decide) (jr_drop (jle_same (jle_same (jle_same (jle_same (jle_same jle_nil))))) k))
theorem bk_X11_best_111 {C : JC} {d cl sl : Nat} {w : JW} {x3 : Int32} {P : JV → JW → Prop} (hm : jok C MX11_best d cl sl) (hp : P (jI x3) w) : jW C cl sl (jQQ C cl sl P) 111 [jU, jU, jU, jI x3, jU] [] w := jr_iload_n hm (i := 3) rfl rfl dX11_best_111 (jr_ireturn hm rfl dX11_best_112 hp)
theorem dX11_mean_0 : decode cX11_mean 0 = .ok (.aload_n 0, 1) := by decide +kernel
theorem dX11_mean_1 : decode cX11_mean 1 = .ok (.iconst 0, 1) := by decide +kernel
theorem dX11_mean_2 : decode cX11_mean 2 = .ok (.putfield 1, 3) := by decide +kernel
theorem dX11_mean_5 : decode cX11_mean 5 = .ok (.iconst 0, 1) := by decide +kernel
theorem dX11_mean_6 : decode cX11_mean 6 = .ok (.istore_n 1, 1) := by decide +kernel
theorem dX11_mean_7 : decode cX11_mean 7 = .ok (.iconst 0, 1) := by decide +kernel
theorem dX11_mean_8 : decode cX11_mean 8 = .ok (.istore_n 2, 1) := by decide +kernel
theorem dX11_mean_9 : decode cX11_mean 9 = .ok (.iload_n 2, 1) := by decide +kernel
theorem dX11_mean_10 : decode cX11_mean 10 = .ok (.aload_n 0, 1) := by decide +kernel
theorem dX11_mean_11 : decode cX11_mean 11 = .ok (.getfield 87, 3) := by decide +kernel
theorem dX11_mean_14 : decode cX11_mean 14 = .ok (.getfield 158, 3) := by decide +kernel
theorem dX11_mean_17 : decode cX11_mean 17 = .ok (.if_icmp .ge 21, 3) := by decide +kernel
theorem dX11_mean_20 : decode cX11_mean 20 = .ok (.iload_n 1, 1) := by decide +kernel
theorem dX11_mean_21 : decode cX11_mean 21 = .ok (.aload_n 0, 1) := by decide +kernel
theorem dX11_mean_22 : decode cX11_mean 22 = .ok (.getfield 106, 3) := by decide +kernel
theorem dX11_mean_25 : decode cX11_mean 25 = .ok (.bipush 21, 2) := by decide +kernel
theorem dX11_mean_27 : decode cX11_mean 27 = .ok (.iload_n 2, 1) := by decide +kernel
theorem dX11_mean_28 : decode cX11_mean 28 = .ok (.iadd, 1) := by decide +kernel
theorem dX11_mean_29 : decode cX11_mean 29 = .ok (.iaload, 1) := by decide +kernel
theorem dX11_mean_30 : decode cX11_mean 30 = .ok (.iadd, 1) := by decide +kernel
theorem dX11_mean_31 : decode cX11_mean 31 = .ok (.istore_n 1, 1) := by decide +kernel
theorem dX11_mean_32 : decode cX11_mean 32 = .ok (.iinc 2 1, 3) := by decide +kernel
theorem dX11_mean_35 : decode cX11_mean 35 = .ok (.goto (-26), 3) := by decide +kernel
theorem dX11_mean_38 : decode cX11_mean 38 = .ok (.iload_n 1, 1) := by decide +kernel
theorem dX11_mean_39 : decode cX11_mean 39 = .ok (.ifCond .ne 7, 3) := by decide +kernel
theorem dX11_mean_42 : decode cX11_mean 42 = .ok (.dconst 0, 1) := by decide +kernel
theorem dX11_mean_43 : decode cX11_mean 43 = .ok (.goto 15, 3) := by decide +kernel
theorem dX11_mean_46 : decode cX11_mean 46 = .ok (.iload_n 1, 1) := by decide +kernel
theorem dX11_mean_47 : decode cX11_mean 47 = .ok (.i2d, 1) := by decide +kernel
theorem dX11_mean_48 : decode cX11_mean 48 = .ok (.aload_n 0, 1) := by decide +kernel
theorem dX11_mean_49 : decode cX11_mean 49 = .ok (.aload_n 0, 1) := by decide +kernel
theorem dX11_mean_50 : decode cX11_mean 50 = .ok (.getfield 106, 3) := by decide +kernel
theorem dX11_mean_53 : decode cX11_mean 53 = .ok (.invokevirtual 345, 3) := by decide +kernel
theorem dX11_mean_56 : decode cX11_mean 56 = .ok (.i2d, 1) := by decide +kernel
theorem dX11_mean_57 : decode cX11_mean 57 = .ok (.ddiv, 1) := by decide +kernel
theorem dX11_mean_58 : decode cX11_mean 58 = .ok (.dreturn, 1) := by decide +kernel
theorem bk_X11_mean_0 {C : JC} {d cl sl : Nat} {Q : State → Prop} {w : JW}  (hm : jok C MX11_mean d cl sl) (k : jW C cl sl Q 9 [jR 41 false, jI 0, jI 0] [] (jset w 41 false 0 0)) : jW C cl sl Q 0 [jR 41 false, jU, jU] [] w := jr_aload_n hm (i := 0) rfl rfl dX11_mean_0 (jr_iconst hm (v := 0) (by decide) dX11_mean_1 (fp_X11_1 hm dX11_mean_2 (jr_iconst hm (v := 0) (by decide) dX11_mean_5 (jr_istore_n hm (i := 1) rfl (Nat.le_of_ble_eq_true rfl) rfl dX11_mean_6 (jr_iconst hm (v := 0) (by decide) dX11_mean_7 (jr_istore_n hm (i := 2) rfl (Nat.le_of_ble_eq_true rfl) rfl dX11_mean_8 (jr_drop (jle_same (jle_same (jle_same jle_nil))) k)))))))
theorem bk_X11_mean_9 {C : JC} {d cl sl : Nat} {Q : State → Prop} {w : JW} {x1 : Int32} {x2 : Int32} (hm : jok C MX11_mean d cl sl) (kt : (w.1 53 (w.2.2 41 8) 1) ≤ x2 → jW C cl sl Q 38 [jR 41 false, jI x1, jU] [] w) (kf : ¬ (w.1 53 (w.2.2 41 8) 1) ≤ x2 → jW C cl sl Q 20 [jR 41 false, jI x1, jI x2] [] w) : jW C cl sl Q 9 [jR 41 false, jI x1, jI x2] [] w := jr_iload_n hm (i := 2) rfl rfl dX11_mean_9 (jr_aload_n hm (i := 0) rfl rfl dX11_mean_10 (fg_X11_87 hm dX11_mean_11 (fg_X11_158 hm dX11_mean_14 (jr_icmp_ge hm dX11_mean_17 (by decide) (fun h => jr_drop (jle_same (jle_same (jle_drop jle_nil))) (kt h)) (fun h => jr_drop (jle_same (jle_same (jle_same jle_nil))) (kf h))))))
theorem bk_X11_mean_20 {C : JC} {d cl sl : Nat} {Q : State → Prop} {w : JW} {x1 : Int32} {x2 : Int32} (hm : jok C MX11_mean d cl sl) (h1 : vp_in (21 + x2) 51) (k : jW C cl sl Q 9 [jR 41 false, jI (x1 + (w.1 51 false (21 + x2).toNatClampNeg)), jI (x2 + 1)] [] w) : jW C cl sl Q 20 [jR 41 false, jI x1, jI x2] [] w := jr_iload_n hm (i := 1) rfl rfl dX11_mean_20 (jr_aload_n hm (i := 0) rfl rfl dX11_mean_21 (fg_X11_106 hm dX11_mean_22 (jr_bipush hm (v := 21) (by decide) dX11_mean_25 (jr_iload_n hm (i := 2) rfl rfl dX11_mean_27 (jr_iadd hm dX11_mean_28 (jr_iaload hm ja_51 h1 dX11_mean_29 (jr_iadd hm dX11_mean_30 (jr_istore_n hm (i := 1) rfl (Nat.le_of_ble_eq_true rfl) rfl dX11_mean_31 (jr_iinc hm (i := 2) (v := x2 + 1) rfl rfl rfl dX11_mean_32 (jr_goto hm dX11_mean_35 (by decide) (jr_drop (jle_same (jle_same (jle_same jle_nil))) k)))))))))))
theorem bk_X11_mean_38 {C : JC} {d cl sl : Nat} {Q : State → Prop} {w : JW} {x1 : Int32} (hm : jok C MX11_mean d cl sl) (kt : ¬ x1 = 0 → jW C cl sl Q 46 [jR 41 false, jI x1, jU] [] w) (kf : x1 = 0 → jW C cl sl Q 42 [jU, jU, jU] [] w) : jW C cl sl Q 38 [jR 41 false, jI x1, jU] [] w := jr_iload_n hm (i := 1) rfl rfl dX11_mean_38 (jr_if_ne hm dX11_mean_39 (by decide) (fun h => jr_drop (jle_same (jle_same (jle_same jle_nil))) (kt h)) (fun h => jr_drop (jle_drop (jle_drop (jle_same jle_nil))) (kf h)))
theorem bk_X11_mean_46 {C : JC} {d cl sl : Nat} {Q : State → Prop} {w : JW} {x1 : Int32} (hm : jok C MX11_mean d cl sl) (k : jW C cl sl Q 47 [jR 41 false, jU, jU] [jI x1] w) : jW C cl sl Q 46 [jR 41 false, jI x1, jU] [] w := jr_iload_n hm (i := 1) rfl rfl dX11_mean_46 (jr_drop (jle_same (jle_drop (jle_same jle_nil))) k)
theorem dX11_digest_0 : decode cX11_digest 0 = .ok (.aload_n 0, 1) := by decide +kernel
theorem dX11_digest_1 : decode cX11_digest 1 = .ok (.iconst 0, 1) := by decide +kernel
theorem dX11_digest_2 : decode cX11_digest 2 = .ok (.putfield 1, 3) := by decide +kernel
theorem dX11_digest_5 : decode cX11_digest 5 = .ok (.ldc2_w 391, 3) := by decide +kernel
theorem dX11_digest_8 : decode cX11_digest 8 = .ok (.lstore_n 1, 1) := by decide +kernel
theorem dX11_digest_9 : decode cX11_digest 9 = .ok (.iconst 0, 1) := by decide +kernel
theorem dX11_digest_10 : decode cX11_digest 10 = .ok (.istore_n 3, 1) := by decide +kernel
theorem dX11_digest_11 : decode cX11_digest 11 = .ok (.iload_n 3, 1) := by decide +kernel
theorem dX11_digest_12 : decode cX11_digest 12 = .ok (.bipush 14, 2) := by decide +kernel
theorem dX11_digest_14 : decode cX11_digest 14 = .ok (.if_icmp .ge 22, 3) := by decide +kernel
theorem dX11_digest_17 : decode cX11_digest 17 = .ok (.lload_n 1, 1) := by decide +kernel
theorem dX11_digest_18 : decode cX11_digest 18 = .ok (.ldc2_w 393, 3) := by decide +kernel
theorem dX11_digest_21 : decode cX11_digest 21 = .ok (.lmul, 1) := by decide +kernel
theorem dX11_digest_22 : decode cX11_digest 22 = .ok (.aload_n 0, 1) := by decide +kernel
theorem dX11_digest_23 : decode cX11_digest 23 = .ok (.iload_n 3, 1) := by decide +kernel
theorem dX11_digest_24 : decode cX11_digest 24 = .ok (.invokevirtual 355, 3) := by decide +kernel
theorem dX11_digest_27 : decode cX11_digest 27 = .ok (.i2l, 1) := by decide +kernel
theorem dX11_digest_28 : decode cX11_digest 28 = .ok (.ladd, 1) := by decide +kernel
theorem dX11_digest_29 : decode cX11_digest 29 = .ok (.lstore_n 1, 1) := by decide +kernel
theorem dX11_digest_30 : decode cX11_digest 30 = .ok (.iinc 3 1, 3) := by decide +kernel
theorem dX11_digest_33 : decode cX11_digest 33 = .ok (.goto (-22), 3) := by decide +kernel
theorem dX11_digest_36 : decode cX11_digest 36 = .ok (.iconst 0, 1) := by decide +kernel
theorem dX11_digest_37 : decode cX11_digest 37 = .ok (.istore_n 3, 1) := by decide +kernel
theorem dX11_digest_38 : decode cX11_digest 38 = .ok (.iload_n 3, 1) := by decide +kernel
theorem dX11_digest_39 : decode cX11_digest 39 = .ok (.iconst 5, 1) := by decide +kernel
theorem dX11_digest_40 : decode cX11_digest 40 = .ok (.aload_n 0, 1) := by decide +kernel
theorem dX11_digest_41 : decode cX11_digest 41 = .ok (.getfield 87, 3) := by decide +kernel
theorem dX11_digest_44 : decode cX11_digest 44 = .ok (.getfield 151, 3) := by decide +kernel
theorem dX11_digest_47 : decode cX11_digest 47 = .ok (.imul, 1) := by decide +kernel
theorem dX11_digest_48 : decode cX11_digest 48 = .ok (.if_icmp .ge 27, 3) := by decide +kernel
theorem dX11_digest_51 : decode cX11_digest 51 = .ok (.lload_n 1, 1) := by decide +kernel
theorem dX11_digest_52 : decode cX11_digest 52 = .ok (.ldc2_w 393, 3) := by decide +kernel
theorem dX11_digest_55 : decode cX11_digest 55 = .ok (.lmul, 1) := by decide +kernel
theorem dX11_digest_56 : decode cX11_digest 56 = .ok (.aload_n 0, 1) := by decide +kernel
theorem dX11_digest_57 : decode cX11_digest 57 = .ok (.iload_n 3, 1) := by decide +kernel
theorem dX11_digest_58 : decode cX11_digest 58 = .ok (.iconst 5, 1) := by decide +kernel
theorem dX11_digest_59 : decode cX11_digest 59 = .ok (.idiv, 1) := by decide +kernel
theorem dX11_digest_60 : decode cX11_digest 60 = .ok (.iload_n 3, 1) := by decide +kernel
theorem dX11_digest_61 : decode cX11_digest 61 = .ok (.iconst 5, 1) := by decide +kernel
theorem dX11_digest_62 : decode cX11_digest 62 = .ok (.irem, 1) := by decide +kernel
theorem dX11_digest_63 : decode cX11_digest 63 = .ok (.invokevirtual 364, 3) := by decide +kernel
theorem dX11_digest_66 : decode cX11_digest 66 = .ok (.i2l, 1) := by decide +kernel
theorem dX11_digest_67 : decode cX11_digest 67 = .ok (.ladd, 1) := by decide +kernel
theorem dX11_digest_68 : decode cX11_digest 68 = .ok (.lstore_n 1, 1) := by decide +kernel
theorem dX11_digest_69 : decode cX11_digest 69 = .ok (.iinc 3 1, 3) := by decide +kernel
theorem dX11_digest_72 : decode cX11_digest 72 = .ok (.goto (-34), 3) := by decide +kernel
theorem dX11_digest_75 : decode cX11_digest 75 = .ok (.iconst 0, 1) := by decide +kernel
theorem dX11_digest_76 : decode cX11_digest 76 = .ok (.istore_n 3, 1) := by decide +kernel
theorem dX11_digest_77 : decode cX11_digest 77 = .ok (.iload_n 3, 1) := by decide +kernel
theorem dX11_digest_78 : decode cX11_digest 78 = .ok (.bipush 7, 2) := by decide +kernel
theorem dX11_digest_80 : decode cX11_digest 80 = .ok (.aload_n 0, 1) := by decide +kernel
theorem dX11_digest_81 : decode cX11_digest 81 = .ok (.getfield 87, 3) := by decide +kernel
theorem dX11_digest_84 : decode cX11_digest 84 = .ok (.getfield 158, 3) := by decide +kernel
theorem dX11_digest_87 : decode cX11_digest 87 = .ok (.imul, 1) := by decide +kernel
theorem dX11_digest_88 : decode cX11_digest 88 = .ok (.if_icmp .ge 29, 3) := by decide +kernel
theorem dX11_digest_91 : decode cX11_digest 91 = .ok (.lload_n 1, 1) := by decide +kernel
theorem dX11_digest_92 : decode cX11_digest 92 = .ok (.ldc2_w 393, 3) := by decide +kernel
theorem dX11_digest_95 : decode cX11_digest 95 = .ok (.lmul, 1) := by decide +kernel
theorem dX11_digest_96 : decode cX11_digest 96 = .ok (.aload_n 0, 1) := by decide +kernel
theorem dX11_digest_97 : decode cX11_digest 97 = .ok (.iload_n 3, 1) := by decide +kernel
theorem dX11_digest_98 : decode cX11_digest 98 = .ok (.bipush 7, 2) := by decide +kernel
theorem dX11_digest_100 : decode cX11_digest 100 = .ok (.idiv, 1) := by decide +kernel
theorem dX11_digest_101 : decode cX11_digest 101 = .ok (.iload_n 3, 1) := by decide +kernel
theorem dX11_digest_102 : decode cX11_digest 102 = .ok (.bipush 7, 2) := by decide +kernel
theorem dX11_digest_104 : decode cX11_digest 104 = .ok (.irem, 1) := by decide +kernel
theorem dX11_digest_105 : decode cX11_digest 105 = .ok (.invokevirtual 370, 3) := by decide +kernel
theorem dX11_digest_108 : decode cX11_digest 108 = .ok (.i2l, 1) := by decide +kernel
theorem dX11_digest_109 : decode cX11_digest 109 = .ok (.ladd, 1) := by decide +kernel
theorem dX11_digest_110 : decode cX11_digest 110 = .ok (.lstore_n 1, 1) := by decide +kernel
theorem dX11_digest_111 : decode cX11_digest 111 = .ok (.iinc 3 1, 3) := by decide +kernel
theorem dX11_digest_114 : decode cX11_digest 114 = .ok (.goto (-37), 3) := by decide +kernel
theorem dX11_digest_117 : decode cX11_digest 117 = .ok (.iconst 0, 1) := by decide +kernel
theorem dX11_digest_118 : decode cX11_digest 118 = .ok (.istore_n 3, 1) := by decide +kernel
theorem dX11_digest_119 : decode cX11_digest 119 = .ok (.iload_n 3, 1) := by decide +kernel
theorem dX11_digest_120 : decode cX11_digest 120 = .ok (.aload_n 0, 1) := by decide +kernel
theorem dX11_digest_121 : decode cX11_digest 121 = .ok (.getfield 87, 3) := by decide +kernel
theorem dX11_digest_124 : decode cX11_digest 124 = .ok (.getfield 245, 3) := by decide +kernel
theorem dX11_digest_127 : decode cX11_digest 127 = .ok (.if_icmp .ge 88, 3) := by decide +kernel
theorem dX11_digest_130 : decode cX11_digest 130 = .ok (.iconst 0, 1) := by decide +kernel
theorem dX11_digest_131 : decode cX11_digest 131 = .ok (.istore 4, 2) := by decide +kernel
theorem dX11_digest_133 : decode cX11_digest 133 = .ok (.iload 4, 2) := by decide +kernel
theorem dX11_digest_135 : decode cX11_digest 135 = .ok (.iconst 4, 1) := by decide +kernel
theorem dX11_digest_136 : decode cX11_digest 136 = .ok (.if_icmp .ge 24, 3) := by decide +kernel
theorem dX11_digest_139 : decode cX11_digest 139 = .ok (.lload_n 1, 1) := by decide +kernel
theorem dX11_digest_140 : decode cX11_digest 140 = .ok (.ldc2_w 393, 3) := by decide +kernel
theorem dX11_digest_143 : decode cX11_digest 143 = .ok (.lmul, 1) := by decide +kernel
theorem dX11_digest_144 : decode cX11_digest 144 = .ok (.aload_n 0, 1) := by decide +kernel
theorem dX11_digest_145 : decode cX11_digest 145 = .ok (.iload_n 3, 1) := by decide +kernel
theorem dX11_digest_146 : decode cX11_digest 146 = .ok (.iload 4, 2) := by decide +kernel
theorem dX11_digest_148 : decode cX11_digest 148 = .ok (.invokevirtual 379, 3) := by decide +kernel
theorem dX11_digest_151 : decode cX11_digest 151 = .ok (.i2l, 1) := by decide +kernel
theorem dX11_digest_152 : decode cX11_digest 152 = .ok (.ladd, 1) := by decide +kernel
theorem dX11_digest_153 : decode cX11_digest 153 = .ok (.lstore_n 1, 1) := by decide +kernel
theorem dX11_digest_154 : decode cX11_digest 154 = .ok (.iinc 4 1, 3) := by decide +kernel
theorem dX11_digest_157 : decode cX11_digest 157 = .ok (.goto (-24), 3) := by decide +kernel
theorem dX11_digest_160 : decode cX11_digest 160 = .ok (.iconst 1, 1) := by decide +kernel
theorem dX11_digest_161 : decode cX11_digest 161 = .ok (.istore 4, 2) := by decide +kernel
theorem dX11_digest_163 : decode cX11_digest 163 = .ok (.iload 4, 2) := by decide +kernel
theorem dX11_digest_165 : decode cX11_digest 165 = .ok (.aload_n 0, 1) := by decide +kernel
theorem dX11_digest_166 : decode cX11_digest 166 = .ok (.getfield 87, 3) := by decide +kernel
theorem dX11_digest_169 : decode cX11_digest 169 = .ok (.getfield 257, 3) := by decide +kernel
theorem dX11_digest_172 : decode cX11_digest 172 = .ok (.bipush 7, 2) := by decide +kernel
theorem dX11_digest_174 : decode cX11_digest 174 = .ok (.iload_n 3, 1) := by decide +kernel
theorem dX11_digest_175 : decode cX11_digest 175 = .ok (.imul, 1) := by decide +kernel
theorem dX11_digest_176 : decode cX11_digest 176 = .ok (.iaload, 1) := by decide +kernel
theorem dX11_digest_177 : decode cX11_digest 177 = .ok (.if_icmp .gt 32, 3) := by decide +kernel
theorem dX11_digest_180 : decode cX11_digest 180 = .ok (.lload_n 1, 1) := by decide +kernel
theorem dX11_digest_181 : decode cX11_digest 181 = .ok (.ldc2_w 393, 3) := by decide +kernel
theorem dX11_digest_184 : decode cX11_digest 184 = .ok (.lmul, 1) := by decide +kernel
theorem dX11_digest_185 : decode cX11_digest 185 = .ok (.aload_n 0, 1) := by decide +kernel
theorem dX11_digest_186 : decode cX11_digest 186 = .ok (.getfield 87, 3) := by decide +kernel
theorem dX11_digest_189 : decode cX11_digest 189 = .ok (.getfield 257, 3) := by decide +kernel
theorem dX11_digest_192 : decode cX11_digest 192 = .ok (.bipush 7, 2) := by decide +kernel
theorem dX11_digest_194 : decode cX11_digest 194 = .ok (.iload_n 3, 1) := by decide +kernel
theorem dX11_digest_195 : decode cX11_digest 195 = .ok (.imul, 1) := by decide +kernel
theorem dX11_digest_196 : decode cX11_digest 196 = .ok (.iload 4, 2) := by decide +kernel
theorem dX11_digest_198 : decode cX11_digest 198 = .ok (.iadd, 1) := by decide +kernel
theorem dX11_digest_199 : decode cX11_digest 199 = .ok (.iaload, 1) := by decide +kernel
theorem dX11_digest_200 : decode cX11_digest 200 = .ok (.i2l, 1) := by decide +kernel
theorem dX11_digest_201 : decode cX11_digest 201 = .ok (.ladd, 1) := by decide +kernel
theorem dX11_digest_202 : decode cX11_digest 202 = .ok (.lstore_n 1, 1) := by decide +kernel
theorem dX11_digest_203 : decode cX11_digest 203 = .ok (.iinc 4 1, 3) := by decide +kernel
theorem dX11_digest_206 : decode cX11_digest 206 = .ok (.goto (-43), 3) := by decide +kernel
theorem dX11_digest_209 : decode cX11_digest 209 = .ok (.iinc 3 1, 3) := by decide +kernel
theorem dX11_digest_212 : decode cX11_digest 212 = .ok (.goto (-93), 3) := by decide +kernel
theorem dX11_digest_215 : decode cX11_digest 215 = .ok (.iconst 0, 1) := by decide +kernel
theorem dX11_digest_216 : decode cX11_digest 216 = .ok (.istore_n 3, 1) := by decide +kernel
theorem dX11_digest_217 : decode cX11_digest 217 = .ok (.iload_n 3, 1) := by decide +kernel
theorem dX11_digest_218 : decode cX11_digest 218 = .ok (.iconst 5, 1) := by decide +kernel
theorem dX11_digest_219 : decode cX11_digest 219 = .ok (.if_icmp .ge 35, 3) := by decide +kernel
theorem dX11_digest_222 : decode cX11_digest 222 = .ok (.lload_n 1, 1) := by decide +kernel
theorem dX11_digest_223 : decode cX11_digest 223 = .ok (.ldc2_w 393, 3) := by decide +kernel
theorem dX11_digest_226 : decode cX11_digest 226 = .ok (.lmul, 1) := by decide +kernel
theorem dX11_digest_227 : decode cX11_digest 227 = .ok (.aload_n 0, 1) := by decide +kernel
theorem dX11_digest_228 : decode cX11_digest 228 = .ok (.aload_n 0, 1) := by decide +kernel
theorem dX11_digest_229 : decode cX11_digest 229 = .ok (.getfield 106, 3) := by decide +kernel
theorem dX11_digest_232 : decode cX11_digest 232 = .ok (.iconst 0, 1) := by decide +kernel
theorem dX11_digest_233 : decode cX11_digest 233 = .ok (.iaload, 1) := by decide +kernel
theorem dX11_digest_234 : decode cX11_digest 234 = .ok (.iload_n 3, 1) := by decide +kernel
theorem dX11_digest_235 : decode cX11_digest 235 = .ok (.iadd, 1) := by decide +kernel
theorem dX11_digest_236 : decode cX11_digest 236 = .ok (.aload_n 0, 1) := by decide +kernel
theorem dX11_digest_237 : decode cX11_digest 237 = .ok (.getfield 106, 3) := by decide +kernel
theorem dX11_digest_240 : decode cX11_digest 240 = .ok (.iconst 1, 1) := by decide +kernel
theorem dX11_digest_241 : decode cX11_digest 241 = .ok (.iaload, 1) := by decide +kernel
theorem dX11_digest_242 : decode cX11_digest 242 = .ok (.invokevirtual 309, 3) := by decide +kernel
theorem dX11_digest_245 : decode cX11_digest 245 = .ok (.i2l, 1) := by decide +kernel
theorem dX11_digest_246 : decode cX11_digest 246 = .ok (.ladd, 1) := by decide +kernel
theorem dX11_digest_247 : decode cX11_digest 247 = .ok (.lstore_n 1, 1) := by decide +kernel
theorem dX11_digest_248 : decode cX11_digest 248 = .ok (.iinc 3 1, 3) := by decide +kernel
theorem dX11_digest_251 : decode cX11_digest 251 = .ok (.goto (-34), 3) := by decide +kernel
theorem dX11_digest_254 : decode cX11_digest 254 = .ok (.lload_n 1, 1) := by decide +kernel
theorem dX11_digest_255 : decode cX11_digest 255 = .ok (.lreturn, 1) := by decide +kernel
theorem bk_X11_digest_0 {C : JC} {d cl sl : Nat} {Q : State → Prop} {w : JW}  (hm : jok C MX11_digest d cl sl) (k : jW C cl sl Q 11 [jR 41 false, jL 827, jU, jI 0, jU] [] (jset w 41 false 0 0)) : jW C cl sl Q 0 [jR 41 false, jU, jU, jU, jU] [] w := jr_aload_n hm (i := 0) rfl rfl dX11_digest_0 (jr_iconst hm (v := 0) (by decide) dX11_digest_1 (fp_X11_1 hm dX11_digest_2 (jr_ldc2 hm (v := 827) jw_1787 dX11_digest_5 (jr_lstore_n hm (i := 1) rfl (Nat.le_of_ble_eq_true rfl) rfl dX11_digest_8 (jr_iconst hm (v := 0) (by decide) dX11_digest_9 (jr_istore_n hm (i := 3) rfl (Nat.le_of_ble_eq_true rfl) rfl dX11_digest_10 (jr_drop (jle_same (jle_same (jle_same (jle_same (jle_same jle_nil))))) k)))))))
theorem bk_X11_digest_11 {C : JC} {d cl sl : Nat} {Q : State → Prop} {w : JW} {y1 : Int64} {x3 : Int32} (hm : jok C MX11_digest d cl sl) (kt : 14 ≤ x3 → jW C cl sl Q 36 [jR 41 false, jL y1, jU, jU, jU] [] w) (kf : ¬ 14 ≤ x3 → jW C cl sl Q 17 [jR 41 false, jL y1, jU, jI x3, jU] [] w) : jW C cl sl Q 11 [jR 41 false, jL y1, jU, jI x3, jU] [] w := jr_iload_n hm (i := 3) rfl rfl dX11_digest_11 (jr_bipush hm (v := 14) (by decide) dX11_digest_12 (jr_icmp_ge hm dX11_digest_14 (by decide) (fun h => jr_drop (jle_same (jle_same (jle_same (jle_drop (jle_same jle_nil))))) (kt h)) (fun h => jr_drop (jle_same (jle_same (jle_same (jle_same (jle_same jle_nil))))) (kf h))))
theorem bk_X11_digest_17 {C : JC} {d cl sl : Nat} {Q : State → Prop} {w : JW} {y1 : Int64} {x3 : Int32} {d2 : Nat} {r : Int32} {w2 : JW} (hm : jok C MX11_digest d cl sl) (hs : jF MX11_counted d2 [jR 41 false, jI x3] w (jI r) w2) (hd2 : d2 + 1 ≤ d) (k : jW C cl sl Q 27 [jR 41 false, jU, jU, jI x3, jU] [jI r, jL (y1 * 31)] w2) : jW C cl sl Q 17 [jR 41 false, jL y1, jU, jI x3, jU] [] w := jr_lload_n hm (i := 1) rfl rfl dX11_digest_17 (jr_ldc2 hm (v := 31) jw_1788 dX11_digest_18 (jr_lmul hm dX11_digest_21 (jr_aload_n hm (i := 0) rfl rfl dX11_digest_22 (jr_iload_n hm (i := 3) rfl rfl dX11_digest_23 (jr_callV (mc := 0) (ms := 0) hm hs hd2 jw_1596 jw_1598 jw_85 jw_125 jw_1599 jn_X11_counted rfl jo_41 (fun _ _ _ _ _ => ⟨_, rfl⟩) rfl rfl (Nat.le_of_ble_eq_true rfl) rfl dX11_digest_24 (jkF (jr_drop (jle_same (jle_drop (jle_same (jle_same (jle_same jle_nil))))) k)))))))
theorem bk_X11_digest_27 {C : JC} {d cl sl : Nat} {Q : State → Prop} {w : JW} {x3 : Int32} {xs0 : Int32} {ys1 : Int64} (hm : jok C MX11_digest d cl sl) (k : jW C cl sl Q 11 [jR 41 false, jL (ys1 + xs0.toInt64), jU, jI (x3 + 1), jU] [] w) : jW C cl sl Q 27 [jR 41 false, jU, jU, jI x3, jU] [jI xs0, jL ys1] w := jr_i2l hm dX11_digest_27 (jr_ladd hm dX11_digest_28 (jr_lstore_n hm (i := 1) rfl (Nat.le_of_ble_eq_true rfl) rfl dX11_digest_29 (jr_iinc hm (i := 3) (v := x3 + 1) rfl rfl rfl dX11_digest_30 (jr_goto hm dX11_digest_33 (by decide) (jr_drop (jle_same (jle_same (jle_same (jle_same (jle_same jle_nil))))) k)))))
theorem bk_X11_digest_36 {C : JC} {d cl sl : Nat} {Q : State → Prop} {w : JW} {y1 : Int64} (hm : jok C MX11_digest d cl sl) (k : jW C cl sl Q 38 [jR 41 false, jL y1, jU, jI 0, jU] [] w) : jW C cl sl Q 36 [jR 41 false, jL y1, jU, jU, jU] [] w := jr_iconst hm (v := 0) (by decide) dX11_digest_36 (jr_istore_n hm (i := 3) rfl (Nat.le_of_ble_eq_true rfl) rfl dX11_digest_37 (jr_drop (jle_same (jle_same (jle_same (jle_same (jle_same jle_nil))))) k))
theorem bk_X11_digest_38 {C : JC} {d cl sl : Nat} {Q : State → Prop} {w : JW} {y1 : Int64} {x3 : Int32} (hm : jok C MX11_digest d cl sl) (kt : 5 * (w.1 53 (w.2.2 41 8) 0) ≤ x3 → jW C cl sl Q 75 [jR 41 false, jL y1, jU, jU, jU] [] w) (kf : ¬ 5 * (w.1 53 (w.2.2 41 8) 0) ≤ x3 → jW C cl sl Q 51 [jR 41 false, jL y1, jU, jI x3, jU] [] w) : jW C cl sl Q 38 [jR 41 false, jL y1, jU, jI x3, jU] [] w := jr_iload_n hm (i := 3) rfl rfl dX11_digest_38 (jr_iconst hm (v := 5) (by decide) dX11_digest_39 (jr_aload_n hm (i := 0) rfl rfl dX11_digest_40 (fg_X11_87 hm dX11_digest_41 (fg_X11_151 hm dX11_digest_44 (jr_imul hm dX11_digest_47 (jr_icmp_ge hm dX11_digest_48 (by decide) (fun h => jr_drop (jle_same (jle_same (jle_same (jle_drop (jle_same jle_nil))))) (kt h)) (fun h => jr_drop (jle_same (jle_same (jle_same (jle_same (jle_same jle_nil))))) (kf h))))))))
theorem bk_X11_digest_51 {C : JC} {d cl sl : Nat} {Q : State → Prop} {w : JW} {y1 : Int64} {x3 : Int32} {d2 : Nat} {r : Int32} {w2 : JW} (hm : jok C MX11_digest d cl sl) (hs : jF MX11_caveTold d2 [jR 41 false, jI (x3 / 5), jI (x3 - x3 / 5 * 5)] w (jI r) w2) (hd2 : d2 + 1 ≤ d) (k : jW C cl sl Q 66 [jR 41 false, jU, jU, jI x3, jU] [jI r, jL (y1 * 31)] w2) : jW C cl sl Q 51 [jR 41 false, jL y1, jU, jI x3, jU] [] w := jr_lload_n hm (i := 1) rfl rfl dX11_digest_51 (jr_ldc2 hm (v := 31) jw_1788 dX11_digest_52 (jr_lmul hm dX11_digest_55 (jr_aload_n hm (i := 0) rfl rfl dX11_digest_56 (jr_iload_n hm (i := 3) rfl rfl dX11_digest_57 (jr_iconst hm (v := 5) (by decide) dX11_digest_58 (jr_idiv hm (by decide) dX11_digest_59 (jr_iload_n hm (i := 3) rfl rfl dX11_digest_60 (jr_iconst hm (v := 5) (by decide) dX11_digest_61 (jr_irem hm (by decide) dX11_digest_62 (jr_callV (mc := 0) (ms := 0) hm hs hd2 jw_1624 jw_1626 jw_91 jw_125 jw_1627 jn_X11_caveTold rfl jo_41 (fun _ _ _ _ _ => ⟨_, rfl⟩) rfl rfl (Nat.le_of_ble_eq_true rfl) rfl dX11_digest_63 (jkF (jr_drop (jle_same (jle_drop (jle_same (jle_same (jle_same jle_nil))))) k))))))))))))
theorem bk_X11_digest_66 {C : JC} {d cl sl : Nat} {Q : State → Prop} {w : JW} {x3 : Int32} {xs0 : Int32} {ys1 : Int64} (hm : jok C MX11_digest d cl sl) (k : jW C cl sl Q 38 [jR 41 false, jL (ys1 + xs0.toInt64), jU, jI (x3 + 1), jU] [] w) : jW C cl sl Q 66 [jR 41 false, jU, jU, jI x3, jU] [jI xs0, jL ys1] w := jr_i2l hm dX11_digest_66 (jr_ladd hm dX11_digest_67 (jr_lstore_n hm (i := 1) rfl (Nat.le_of_ble_eq_true rfl) rfl dX11_digest_68 (jr_iinc hm (i := 3) (v := x3 + 1) rfl rfl rfl dX11_digest_69 (jr_goto hm dX11_digest_72 (by decide) (jr_drop (jle_same (jle_same (jle_same (jle_same (jle_same jle_nil))))) k)))))
theorem bk_X11_digest_75 {C : JC} {d cl sl : Nat} {Q : State → Prop} {w : JW} {y1 : Int64} (hm : jok C MX11_digest d cl sl) (k : jW C cl sl Q 77 [jR 41 false, jL y1, jU, jI 0, jU] [] w) : jW C cl sl Q 75 [jR 41 false, jL y1, jU, jU, jU] [] w := jr_iconst hm (v := 0) (by decide) dX11_digest_75 (jr_istore_n hm (i := 3) rfl (Nat.le_of_ble_eq_true rfl) rfl dX11_digest_76 (jr_drop (jle_same (jle_same (jle_same (jle_same (jle_same jle_nil))))) k))
theorem bk_X11_digest_77 {C : JC} {d cl sl : Nat} {Q : State → Prop} {w : JW} {y1 : Int64} {x3 : Int32} (hm : jok C MX11_digest d cl sl) (kt : 7 * (w.1 53 (w.2.2 41 8) 1) ≤ x3 → jW C cl sl Q 117 [jR 41 false, jL y1, jU, jU, jU] [] w) (kf : ¬ 7 * (w.1 53 (w.2.2 41 8) 1) ≤ x3 → jW C cl sl Q 91 [jR 41 false, jL y1, jU, jI x3, jU] [] w) : jW C cl sl Q 77 [jR 41 false, jL y1, jU, jI x3, jU] [] w := jr_iload_n hm (i := 3) rfl rfl dX11_digest_77 (jr_bipush hm (v := 7) (by decide) dX11_digest_78 (jr_aload_n hm (i := 0) rfl rfl dX11_digest_80 (fg_X11_87 hm dX11_digest_81 (fg_X11_158 hm dX11_digest_84 (jr_imul hm dX11_digest_87 (jr_icmp_ge hm dX11_digest_88 (by decide) (fun h => jr_drop (jle_same (jle_same (jle_same (jle_drop (jle_same jle_nil))))) (kt h)) (fun h => jr_drop (jle_same (jle_same (jle_same (jle_same (jle_same jle_nil))))) (kf h))))))))
theorem bk_X11_digest_91 {C : JC} {d cl sl : Nat} {Q : State → Prop} {w : JW} {y1 : Int64} {x3 : Int32} {d2 : Nat} {r : Int32} {w2 : JW} (hm : jok C MX11_digest d cl sl) (hs : jF MX11_pipeTold d2 [jR 41 false, jI (x3 / 7), jI (x3 - x3 / 7 * 7)] w (jI r) w2) (hd2 : d2 + 1 ≤ d) (k : jW C cl sl Q 108 [jR 41 false, jU, jU, jI x3, jU] [jI r, jL (y1 * 31)] w2) : jW C cl sl Q 91 [jR 41 false, jL y1, jU, jI x3, jU] [] w := jr_lload_n hm (i := 1) rfl rfl dX11_digest_91 (jr_ldc2 hm (v := 31) jw_1788 dX11_digest_92 (jr_lmul hm dX11_digest_95 (jr_aload_n hm (i := 0) rfl rfl dX11_digest_96 (jr_iload_n hm (i := 3) rfl rfl dX11_digest_97 (jr_bipush hm (v := 7) (by decide) dX11_digest_98 (jr_idiv hm (by decide) dX11_digest_100 (jr_iload_n hm (i := 3) rfl rfl dX11_digest_101 (jr_bipush hm (v := 7) (by decide) dX11_digest_102 (jr_irem hm (by decide) dX11_digest_104 (jr_callV (mc := 0) (ms := 0) hm hs hd2 jw_1660 jw_1662 jw_98 jw_125 jw_1663 jn_X11_pipeTold rfl jo_41 (fun _ _ _ _ _ => ⟨_, rfl⟩) rfl rfl (Nat.le_of_ble_eq_true rfl) rfl dX11_digest_105 (jkF (jr_drop (jle_same (jle_drop (jle_same (jle_same (jle_same jle_nil))))) k))))))))))))
theorem bk_X11_digest_108 {C : JC} {d cl sl : Nat} {Q : State → Prop} {w : JW} {x3 : Int32} {xs0 : Int32} {ys1 : Int64} (hm : jok C MX11_digest d cl sl) (k : jW C cl sl Q 77 [jR 41 false, jL (ys1 + xs0.toInt64), jU, jI (x3 + 1), jU] [] w) : jW C cl sl Q 108 [jR 41 false, jU, jU, jI x3, jU] [jI xs0, jL ys1] w := jr_i2l hm dX11_digest_108 (jr_ladd hm dX11_digest_109 (jr_lstore_n hm (i := 1) rfl (Nat.le_of_ble_eq_true rfl) rfl dX11_digest_110 (jr_iinc hm (i := 3) (v := x3 + 1) rfl rfl rfl dX11_digest_111 (jr_goto hm dX11_digest_114 (by decide) (jr_drop (jle_same (jle_same (jle_same (jle_same (jle_same jle_nil))))) k)))))
theorem bk_X11_digest_117 {C : JC} {d cl sl : Nat} {Q : State → Prop} {w : JW} {y1 : Int64} (hm : jok C MX11_digest d cl sl) (k : jW C cl sl Q 119 [jR 41 false, jL y1, jU, jI 0, jU] [] w) : jW C cl sl Q 117 [jR 41 false, jL y1, jU, jU, jU] [] w := jr_iconst hm (v := 0) (by decide) dX11_digest_117 (jr_istore_n hm (i := 3) rfl (Nat.le_of_ble_eq_true rfl) rfl dX11_digest_118 (jr_drop (jle_same (jle_same (jle_same (jle_same (jle_same jle_nil))))) k))
theorem bk_X11_digest_119 {C : JC} {d cl sl : Nat} {Q : State → Prop} {w : JW} {y1 : Int64} {x3 : Int32} (hm : jok C MX11_digest d cl sl) (kt : (w.1 53 (w.2.2 41 8) 4) ≤ x3 → jW C cl sl Q 215 [jR 41 false, jL y1, jU, jU, jU] [] w) (kf : ¬ (w.1 53 (w.2.2 41 8) 4) ≤ x3 → jW C cl sl Q 130 [jR 41 false, jL y1, jU, jI x3, jU] [] w) : jW C cl sl Q 119 [jR 41 false, jL y1, jU, jI x3, jU] [] w := jr_iload_n hm (i := 3) rfl rfl dX11_digest_119 (jr_aload_n hm (i := 0) rfl rfl dX11_digest_120 (fg_X11_87 hm dX11_digest_121 (fg_X11_245 hm dX11_digest_124 (jr_icmp_ge hm dX11_digest_127 (by decide) (fun h => jr_drop (jle_same (jle_same (jle_same (jle_drop (jle_same jle_nil))))) (kt h)) (fun h => jr_drop (jle_same (jle_same (jle_same (jle_same (jle_same jle_nil))))) (kf h))))))
theorem bk_X11_digest_130 {C : JC} {d cl sl : Nat} {Q : State → Prop} {w : JW} {y1 : Int64} {x3 : Int32} (hm : jok C MX11_digest d cl sl) (k : jW C cl sl Q 133 [jR 41 false, jL y1, jU, jI x3, jI 0] [] w) : jW C cl sl Q 130 [jR 41 false, jL y1, jU, jI x3, jU] [] w := jr_iconst hm (v := 0) (by decide) dX11_digest_130 (jr_istore hm (i := 4) (Nat.le_of_ble_eq_true rfl) rfl dX11_digest_131 (jr_drop (jle_same (jle_same (jle_same (jle_same (jle_same jle_nil))))) k))
theorem bk_X11_digest_133 {C : JC} {d cl sl : Nat} {Q : State → Prop} {w : JW} {y1 : Int64} {x3 : Int32} {x4 : Int32} (hm : jok C MX11_digest d cl sl) (kt : 4 ≤ x4 → jW C cl sl Q 160 [jR 41 false, jL y1, jU, jI x3, jU] [] w) (kf : ¬ 4 ≤ x4 → jW C cl sl Q 139 [jR 41 false, jL y1, jU, jI x3, jI x4] [] w) : jW C cl sl Q 133 [jR 41 false, jL y1, jU, jI x3, jI x4] [] w := jr_iload hm (i := 4) rfl dX11_digest_133 (jr_iconst hm (v := 4) (by decide) dX11_digest_135 (jr_icmp_ge hm dX11_digest_136 (by decide) (fun h => jr_drop (jle_same (jle_same (jle_same (jle_same (jle_drop jle_nil))))) (kt h)) (fun h => jr_drop (jle_same (jle_same (jle_same (jle_same (jle_same jle_nil))))) (kf h))))
theorem bk_X11_digest_139 {C : JC} {d cl sl : Nat} {Q : State → Prop} {w : JW} {y1 : Int64} {x3 : Int32} {x4 : Int32} {d2 : Nat} {r : Int32} {w2 : JW} (hm : jok C MX11_digest d cl sl) (hs : jF MX11_chordTold d2 [jR 41 false, jI x3, jI x4] w (jI r) w2) (hd2 : d2 + 1 ≤ d) (k : jW C cl sl Q 151 [jR 41 false, jU, jU, jI x3, jI x4] [jI r, jL (y1 * 31)] w2) : jW C cl sl Q 139 [jR 41 false, jL y1, jU, jI x3, jI x4] [] w := jr_lload_n hm (i := 1) rfl rfl dX11_digest_139 (jr_ldc2 hm (v := 31) jw_1788 dX11_digest_140 (jr_lmul hm dX11_digest_143 (jr_aload_n hm (i := 0) rfl rfl dX11_digest_144 (jr_iload_n hm (i := 3) rfl rfl dX11_digest_145 (jr_iload hm (i := 4) rfl dX11_digest_146 (jr_callV (mc := 0) (ms := 0) hm hs hd2 jw_1684 jw_1686 jw_103 jw_125 jw_1687 jn_X11_chordTold rfl jo_41 (fun _ _ _ _ _ => ⟨_, rfl⟩) rfl rfl (Nat.le_of_ble_eq_true rfl) rfl dX11_digest_148 (jkF (jr_drop (jle_same (jle_drop (jle_same (jle_same (jle_same jle_nil))))) k))))))))
theorem bk_X11_digest_151 {C : JC} {d cl sl : Nat} {Q : State → Prop} {w : JW} {x3 : Int32} {x4 : Int32} {xs0 : Int32} {ys1 : Int64} (hm : jok C MX11_digest d cl sl) (k : jW C cl sl Q 133 [jR 41 false, jL (ys1 + xs0.toInt64), jU, jI x3, jI (x4 + 1)] [] w) : jW C cl sl Q 151 [jR 41 false, jU, jU, jI x3, jI x4] [jI xs0, jL ys1] w := jr_i2l hm dX11_digest_151 (jr_ladd hm dX11_digest_152 (jr_lstore_n hm (i := 1) rfl (Nat.le_of_ble_eq_true rfl) rfl dX11_digest_153 (jr_iinc hm (i := 4) (v := x4 + 1) rfl rfl rfl dX11_digest_154 (jr_goto hm dX11_digest_157 (by decide) (jr_drop (jle_same (jle_same (jle_same (jle_same (jle_same jle_nil))))) k)))))
theorem bk_X11_digest_160 {C : JC} {d cl sl : Nat} {Q : State → Prop} {w : JW} {y1 : Int64} {x3 : Int32} (hm : jok C MX11_digest d cl sl) (k : jW C cl sl Q 163 [jR 41 false, jL y1, jU, jI x3, jI 1] [] w) : jW C cl sl Q 160 [jR 41 false, jL y1, jU, jI x3, jU] [] w := jr_iconst hm (v := 1) (by decide) dX11_digest_160 (jr_istore hm (i := 4) (Nat.le_of_ble_eq_true rfl) rfl dX11_digest_161 (jr_drop (jle_same (jle_same (jle_same (jle_same (jle_same jle_nil))))) k))
theorem bk_X11_digest_163 {C : JC} {d cl sl : Nat} {Q : State → Prop} {w : JW} {y1 : Int64} {x3 : Int32} {x4 : Int32} (hm : jok C MX11_digest d cl sl) (h1 : vp_in (7 * x3) 42) (kt : (w.1 58 (w.2.2 41 8) (7 * x3).toNatClampNeg) < x4 → jW C cl sl Q 209 [jR 41 false, jL y1, jU, jI x3, jU] [] w) (kf : ¬ (w.1 58 (w.2.2 41 8) (7 * x3).toNatClampNeg) < x4 → jW C cl sl Q 180 [jR 41 false, jL y1, jU, jI x3, jI x4] [] w) : jW C cl sl Q 163 [jR 41 false, jL y1, jU, jI x3, jI x4] [] w := jr_iload hm (i := 4) rfl dX11_digest_163 (jr_aload_n hm (i := 0) rfl rfl dX11_digest_165 (fg_X11_87 hm dX11_digest_166 (fg_X11_257 hm dX11_digest_169 (jr_bipush hm (v := 7) (by decide) dX11_digest_172 (jr_iload_n hm (i := 3) rfl rfl dX11_digest_174 (jr_imul hm dX11_digest_175 (jr_iaload hm (ja_58 (w.2.2 41 8)) h1 dX11_digest_176 (jr_icmp_gt hm dX11_digest_177 (by decide) (fun h => jr_drop (jle_same (jle_same (jle_same (jle_same (jle_drop jle_nil))))) (kt h)) (fun h => jr_drop (jle_same (jle_same (jle_same (jle_same (jle_same jle_nil))))) (kf h))))))))))
theorem bk_X11_digest_180 {C : JC} {d cl sl : Nat} {Q : State → Prop} {w : JW} {y1 : Int64} {x3 : Int32} {x4 : Int32} (hm : jok C MX11_digest d cl sl) (h1 : vp_in ((7 * x3) + x4) 42) (k : jW C cl sl Q 163 [jR 41 false, jL ((y1 * 31) + ((w.1 58 (w.2.2 41 8) ((7 * x3) + x4).toNatClampNeg).toInt64)), jU, jI x3, jI (x4 + 1)] [] w) : jW C cl sl Q 180 [jR 41 false, jL y1, jU, jI x3, jI x4] [] w := jr_lload_n hm (i := 1) rfl rfl dX11_digest_180 (jr_ldc2 hm (v := 31) jw_1788 dX11_digest_181 (jr_lmul hm dX11_digest_184 (jr_aload_n hm (i := 0) rfl rfl dX11_digest_185 (fg_X11_87 hm dX11_digest_186 (fg_X11_257 hm dX11_digest_189 (jr_bipush hm (v := 7) (by decide) dX11_digest_192 (jr_iload_n hm (i := 3) rfl rfl dX11_digest_194 (jr_imul hm dX11_digest_195 (jr_iload hm (i := 4) rfl dX11_digest_196 (jr_iadd hm dX11_digest_198 (jr_iaload hm (ja_58 (w.2.2 41 8)) h1 dX11_digest_199 (jr_i2l hm dX11_digest_200 (jr_ladd hm dX11_digest_201 (jr_lstore_n hm (i := 1) rfl (Nat.le_of_ble_eq_true rfl) rfl dX11_digest_202 (jr_iinc hm (i := 4) (v := x4 + 1) rfl rfl rfl dX11_digest_203 (jr_goto hm dX11_digest_206 (by decide) (jr_drop (jle_same (jle_same (jle_same (jle_same (jle_same jle_nil))))) k)))))))))))))))))
theorem bk_X11_digest_209 {C : JC} {d cl sl : Nat} {Q : State → Prop} {w : JW} {y1 : Int64} {x3 : Int32} (hm : jok C MX11_digest d cl sl) (k : jW C cl sl Q 119 [jR 41 false, jL y1, jU, jI (x3 + 1), jU] [] w) : jW C cl sl Q 209 [jR 41 false, jL y1, jU, jI x3, jU] [] w := jr_iinc hm (i := 3) (v := x3 + 1) rfl rfl rfl dX11_digest_209 (jr_goto hm dX11_digest_212 (by decide) (jr_drop (jle_same (jle_same (jle_same (jle_same (jle_same jle_nil))))) k))
theorem bk_X11_digest_215 {C : JC} {d cl sl : Nat} {Q : State → Prop} {w : JW} {y1 : Int64} (hm : jok C MX11_digest d cl sl) (k : jW C cl sl Q 217 [jR 41 false, jL y1, jU, jI 0, jU] [] w) : jW C cl sl Q 215 [jR 41 false, jL y1, jU, jU, jU] [] w := jr_iconst hm (v := 0) (by decide) dX11_digest_215 (jr_istore_n hm (i := 3) rfl (Nat.le_of_ble_eq_true rfl) rfl dX11_digest_216 (jr_drop (jle_same (jle_same (jle_same (jle_same (jle_same jle_nil))))) k))
theorem bk_X11_digest_217 {C : JC} {d cl sl : Nat} {Q : State → Prop} {w : JW} {y1 : Int64} {x3 : Int32} (hm : jok C MX11_digest d cl sl) (kt : 5 ≤ x3 → jW C cl sl Q 254 [jU, jL y1, jU, jU, jU] [] w) (kf : ¬ 5 ≤ x3 → jW C cl sl Q 222 [jR 41 false, jL y1, jU, jI x3, jU] [] w) : jW C cl sl Q 217 [jR 41 false, jL y1, jU, jI x3, jU] [] w := jr_iload_n hm (i := 3) rfl rfl dX11_digest_217 (jr_iconst hm (v := 5) (by decide) dX11_digest_218 (jr_icmp_ge hm dX11_digest_219 (by decide) (fun h => jr_drop (jle_drop (jle_same (jle_same (jle_drop (jle_same jle_nil))))) (kt h)) (fun h => jr_drop (jle_same (jle_same (jle_same (jle_same (jle_same jle_nil))))) (kf h))))
theorem bk_X11_digest_222 {C : JC} {d cl sl : Nat} {Q : State → Prop} {w : JW} {y1 : Int64} {x3 : Int32} {d2 : Nat} {r : Int32} {w2 : JW} (hm : jok C MX11_digest d cl sl) (h1 : vp_in 0 51) (h2 : vp_in 1 51) (hs : jF MX11_heightOf d2 [jR 41 false, jI ((w.1 51 false 0) + x3), jI (w.1 51 false 1)] w (jI r) w2) (hd2 : d2 + 1 ≤ d) (k : jW C cl sl Q 245 [jR 41 false, jU, jU, jI x3, jU] [jI r, jL (y1 * 31)] w2) : jW C cl sl Q 222 [jR 41 false, jL y1, jU, jI x3, jU] [] w := jr_lload_n hm (i := 1) rfl rfl dX11_digest_222 (jr_ldc2 hm (v := 31) jw_1788 dX11_digest_223 (jr_lmul hm dX11_digest_226 (jr_aload_n hm (i := 0) rfl rfl dX11_digest_227 (jr_aload_n hm (i := 0) rfl rfl dX11_digest_228 (fg_X11_106 hm dX11_digest_229 (jr_iconst hm (v := 0) (by decide) dX11_digest_232 (jr_iaload hm ja_51 h1 dX11_digest_233 (jr_iload_n hm (i := 3) rfl rfl dX11_digest_234 (jr_iadd hm dX11_digest_235 (jr_aload_n hm (i := 0) rfl rfl dX11_digest_236 (fg_X11_106 hm dX11_digest_237 (jr_iconst hm (v := 1) (by decide) dX11_digest_240 (jr_iaload hm ja_51 h2 dX11_digest_241 (jr_callV (mc := 0) (ms := 0) hm hs hd2 jw_1704 jw_1706 jw_105 jw_125 jw_1707 jn_X11_heightOf rfl jo_41 (fun _ _ _ _ _ => ⟨_, rfl⟩) rfl rfl (Nat.le_of_ble_eq_true rfl) rfl dX11_digest_242 (jkF (jr_drop (jle_same (jle_drop (jle_same (jle_same (jle_same jle_nil))))) k))))))))))))))))
theorem bk_X11_digest_245 {C : JC} {d cl sl : Nat} {Q : State → Prop} {w : JW} {x3 : Int32} {xs0 : Int32} {ys1 : Int64} (hm : jok C MX11_digest d cl sl) (k : jW C cl sl Q 217 [jR 41 false, jL (ys1 + xs0.toInt64), jU, jI (x3 + 1), jU] [] w) : jW C cl sl Q 245 [jR 41 false, jU, jU, jI x3, jU] [jI xs0, jL ys1] w := jr_i2l hm dX11_digest_245 (jr_ladd hm dX11_digest_246 (jr_lstore_n hm (i := 1) rfl (Nat.le_of_ble_eq_true rfl) rfl dX11_digest_247 (jr_iinc hm (i := 3) (v := x3 + 1) rfl rfl rfl dX11_digest_248 (jr_goto hm dX11_digest_251 (by decide) (jr_drop (jle_same (jle_same (jle_same (jle_same (jle_same jle_nil))))) k)))))
theorem bk_X11_digest_254 {C : JC} {d cl sl : Nat} {w : JW} {y1 : Int64} {P : JV → JW → Prop} (hm : jok C MX11_digest d cl sl) (hp : P (jL y1) w) : jW C cl sl (jQQ C cl sl P) 254 [jU, jL y1, jU, jU, jU] [] w := jr_lload_n hm (i := 1) rfl rfl dX11_digest_254 (jr_lreturn hm rfl dX11_digest_255 hp)
