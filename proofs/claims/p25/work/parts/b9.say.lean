theorem dL_letter_0 : decode cL_letter 0 = .ok (.iload_n 1, 1) := by decide +kernel
theorem dL_letter_1 : decode cL_letter 1 = .ok (.aload_n 0, 1) := by decide +kernel
theorem dL_letter_2 : decode cL_letter 2 = .ok (.invokevirtual 9, 3) := by decide +kernel
theorem dL_letter_5 : decode cL_letter 5 = .ok (.if_icmp .ge 11, 3) := by decide +kernel
theorem dL_letter_8 : decode cL_letter 8 = .ok (.aload_n 0, 1) := by decide +kernel
theorem dL_letter_9 : decode cL_letter 9 = .ok (.iload_n 1, 1) := by decide +kernel
theorem dL_letter_10 : decode cL_letter 10 = .ok (.invokevirtual 15, 3) := by decide +kernel
theorem dL_letter_13 : decode cL_letter 13 = .ok (.goto 5, 3) := by decide +kernel
theorem dL_letter_16 : decode cL_letter 16 = .ok (.bipush 32, 2) := by decide +kernel
theorem dL_letter_18 : decode cL_letter 18 = .ok (.ireturn, 1) := by decide +kernel
abbrev ML_letter : JM := (cL_letter, 2, RL, (some .int), yL_letter)
theorem jn_L_letter : jnm ML_letter 2 := by decide +kernel
theorem jp_L_letter : plainName ML_letter.2.2.2.2.cls = true := by decide +kernel
theorem dL_four_0 : decode cL_four 0 = .ok (.aload_n 0, 1) := by decide +kernel
theorem dL_four_1 : decode cL_four 1 = .ok (.iload_n 1, 1) := by decide +kernel
theorem dL_four_2 : decode cL_four 2 = .ok (.invokestatic 19, 3) := by decide +kernel
theorem dL_four_5 : decode cL_four 5 = .ok (.bipush 24, 2) := by decide +kernel
theorem dL_four_7 : decode cL_four 7 = .ok (.ishl, 1) := by decide +kernel
theorem dL_four_8 : decode cL_four 8 = .ok (.aload_n 0, 1) := by decide +kernel
theorem dL_four_9 : decode cL_four 9 = .ok (.iload_n 1, 1) := by decide +kernel
theorem dL_four_10 : decode cL_four 10 = .ok (.iconst 1, 1) := by decide +kernel
theorem dL_four_11 : decode cL_four 11 = .ok (.iadd, 1) := by decide +kernel
theorem dL_four_12 : decode cL_four 12 = .ok (.invokestatic 19, 3) := by decide +kernel
theorem dL_four_15 : decode cL_four 15 = .ok (.bipush 16, 2) := by decide +kernel
theorem dL_four_17 : decode cL_four 17 = .ok (.ishl, 1) := by decide +kernel
theorem dL_four_18 : decode cL_four 18 = .ok (.ior, 1) := by decide +kernel
theorem dL_four_19 : decode cL_four 19 = .ok (.aload_n 0, 1) := by decide +kernel
theorem dL_four_20 : decode cL_four 20 = .ok (.iload_n 1, 1) := by decide +kernel
theorem dL_four_21 : decode cL_four 21 = .ok (.iconst 2, 1) := by decide +kernel
theorem dL_four_22 : decode cL_four 22 = .ok (.iadd, 1) := by decide +kernel
theorem dL_four_23 : decode cL_four 23 = .ok (.invokestatic 19, 3) := by decide +kernel
theorem dL_four_26 : decode cL_four 26 = .ok (.bipush 8, 2) := by decide +kernel
theorem dL_four_28 : decode cL_four 28 = .ok (.ishl, 1) := by decide +kernel
theorem dL_four_29 : decode cL_four 29 = .ok (.ior, 1) := by decide +kernel
theorem dL_four_30 : decode cL_four 30 = .ok (.aload_n 0, 1) := by decide +kernel
theorem dL_four_31 : decode cL_four 31 = .ok (.iload_n 1, 1) := by decide +kernel
theorem dL_four_32 : decode cL_four 32 = .ok (.iconst 3, 1) := by decide +kernel
theorem dL_four_33 : decode cL_four 33 = .ok (.iadd, 1) := by decide +kernel
theorem dL_four_34 : decode cL_four 34 = .ok (.invokestatic 19, 3) := by decide +kernel
theorem dL_four_37 : decode cL_four 37 = .ok (.ior, 1) := by decide +kernel
theorem dL_four_38 : decode cL_four 38 = .ok (.ireturn, 1) := by decide +kernel
abbrev ML_four : JM := (cL_four, 2, RL, (some .int), yL_four)
theorem jn_L_four : jnm ML_four 2 := by decide +kernel
theorem jp_L_four : plainName ML_four.2.2.2.2.cls = true := by decide +kernel
theorem jw_1030 : Cond.methodLink RL 9 yJ0_length_8abf5 ∈ jGL := jmem 1030 (by decide +kernel) rfl
theorem jw_1037 : Cond.methodLink RL 15 yJ0_charAt_5068e ∈ jGL := jmem 1037 (by decide +kernel) rfl
theorem jw_1034 : Cond.methodLink RL 19 yL_letter ∈ jGL := jmem 1034 (by decide +kernel) rfl
theorem jw_1035 : Cond.static yL_letter ∈ jGL := jmem 1035 (by decide +kernel) rfl
theorem jw_1036 : Cond.code yL_letter cL_letter 2 (some .int) ∈ jGL := jmem 1036 (by decide +kernel) rfl
/-! feeding, saying -/
theorem jb_and (x : Int32) : x.toInt8.toInt32 &&& 255 = x &&& 255 := by
  apply Int32.toBitVec_inj.mp
  show (x.toBitVec.signExtend 8).signExtend 32 &&& 255#32 = x.toBitVec &&& 255#32
  apply BitVec.eq_of_getLsbD_eq
  intro i hi
  have h8 : (255#32).getLsbD i = decide (i < 8) := by
    revert i
    decide
  rw [BitVec.getLsbD_and, BitVec.getLsbD_and, h8]
  by_cases z : i < 8
  · rw [BitVec.getLsbD_signExtend, BitVec.getLsbD_signExtend]
    simp [z, hi]
  · simp [z]
/-- the byte of x at the shift sh, as a sign -/
def jby (x sh : Int32) : Nat := (x >>> (sh &&& 31) &&& 255).toNatClampNeg
theorem jby_lt (x sh : Int32) : jby x sh < 256 ∧ x >>> (sh &&& 31) &&& 255 = nI (jby x sh) := by
  obtain ⟨j, hj, e⟩ := pk_andE (x >>> (sh &&& 31)) (m := 255) 8 (by decide)
  unfold jby
  rw [e, nI_clamp (by omega)]
  exact ⟨hj, rfl⟩
def jxt (s : Nat → Nat) (L z : Nat) : Nat → Nat := fun i => if i = L then z else s i
theorem jxt_TS {s : Nat → Nat} {L z : Nat} (h : jTS s L) (hL : L < 2000) (hz : z < 256) : jTS (jxt s L z) (L + 1) := by
  refine ⟨hL, fun i hi => ?_, fun i hi => ?_⟩
  · unfold jxt
    split
    · exact hz
    · exact h.2.1 i (by omega)
  · unfold jxt
    rw [if_neg (by omega)]
    exact h.2.2 i (by omega)
def japC (x sh : Int32) (L : Nat) (w : JW) : JW := jset (jset w 2 false L (x >>> (sh &&& 31)).toInt8.toInt32) 1 false 1 (nI (L + 1))
theorem japC_C1 {s : Nat → Nat} {L : Nat} {w : JW} {x sh : Int32} (h : jC1 s L w) (hL : L < 2000) : jC1 (jxt s L (jby x sh)) (L + 1) (japC x sh L w) := by
  have hb := jby_lt x sh
  refine ⟨jxt_TS h.1 hL hb.1, ?_, fun i hi => ?_⟩
  · unfold japC
    rw [jset_I, if_pos ⟨rfl, rfl, rfl⟩]
  · unfold japC jxt
    rw [jset_I, if_neg (by omega), jset_I]
    by_cases z : i = L
    · rw [if_pos ⟨rfl, rfl, z⟩, if_pos z, jb_and]
      exact hb.2
    · rw [if_neg (fun q => z q.2.2), if_neg z]
      exact h.2.2 i (by omega)
def jaC (x : Int32) (L : Nat) (w : JW) : JW := japC x 0 (L + 3) (japC x 8 (L + 2) (japC x 16 (L + 1) (japC x 24 L w)))
def jx4 (x : Int32) (s : Nat → Nat) (L : Nat) : Nat → Nat := jxt (jxt (jxt (jxt s L (jby x 24)) (L + 1) (jby x 16)) (L + 2) (jby x 8)) (L + 3) (jby x 0)
theorem jaC_C1 {s : Nat → Nat} {L : Nat} {w : JW} {x : Int32} (h : jC1 s L w) (hL : L + 4 ≤ 2000) : jC1 (jx4 x s L) (L + 4) (jaC x L w) := japC_C1 (japC_C1 (japC_C1 (japC_C1 h (by omega)) (by omega)) (by omega)) (by omega)
theorem japC_len {x sh : Int32} {L : Nat} {w : JW} : (japC x sh L w).1 1 false 1 = nI (L + 1) := by
  unfold japC
  rw [jset_I, if_pos ⟨rfl, rfl, rfl⟩]
theorem l_append {C : JC} {Q : State → Prop} {d : Nat} (hm : jok C MX6_append d 0 0) {x sh : Int32} {L : Nat} {w : JW} (h1 : w.1 1 false 1 = nI L) (hL : L < 2000) (hs : ¬ sh < 0) (k : jW C 0 0 Q 3 [jR 1 false, jI x, jI (sh + -8)] [] (japC x sh L w)) : jW C 0 0 Q 3 [jR 1 false, jI x, jI sh] [] w := by
  refine bk_X6_append_3 hm (fun q => absurd q hs) (fun _ => bk_X6_append_7 hm (fun q => ?_) (fun _ => bk_X6_append_14 hm (fun q => ?_) (fun _ => bk_X6_append_26 hm ?_ (bk_X6_append_49 hm ?_))))
  · rw [h1] at q
    exact absurd q (nI_pos (by omega))
  · rw [h1] at q
    exact absurd ((nI_leI (a := 2000) (by omega) (by omega)).mp q) (by omega)
  · rw [h1]
    exact vp_in_nI hL (by omega)
  · have e : (jset w 2 false L (x >>> (sh &&& 31)).toInt8.toInt32).1 1 false 1 + 1 = nI (L + 1) := by
      rw [jset_I, if_neg (by omega), h1, nI_succ]
    rw [h1, nI_clamp (by omega), pk_vb, e]
    exact k
theorem c_append {x : Int32} {L : Nat} {w : JW} (h1 : w.1 1 false 1 = nI L) (hL : L + 4 ≤ 2000) : jF MX6_append 0 [jR 1 false, jI x] w jU (jaC x L w) := by
  refine jF_of jp_X6_append rfl (Nat.le_of_ble_eq_true rfl) (fun C hm => ?_)
  refine bk_X6_append_0 hm (l_append hm h1 (by omega) (by decide) ?_)
  rw [show (24 : Int32) + -8 = 16 by decide]
  refine l_append hm japC_len (by omega) (by decide) ?_
  rw [show (16 : Int32) + -8 = 8 by decide]
  refine l_append hm japC_len (by omega) (by decide) ?_
  rw [show (8 : Int32) + -8 = 0 by decide]
  refine l_append hm japC_len (by omega) (by decide) ?_
  exact bk_X6_append_3 hm (fun _ => bk_X6_append_55 hm ⟨rfl, rfl⟩) (fun q => absurd (by decide) q)
theorem c_room {w : JW} {L : Nat} (h1 : w.1 1 false 1 = nI L) (hL : L ≤ 2000) : jF MX6_hasRoomFor 0 [jR 1 false, jI 20] w (jI (if L + 20 ≤ 2000 then 1 else 0)) w := by
  refine jF_of jp_X6_hasRoomFor rfl (Nat.le_of_ble_eq_true rfl) (fun C hm => ?_)
  have e : nI L + 20 = nI (L + 20) := by rw [nI_lit, nI_add]
  refine bk_X6_hasRoomFor_0 hm (fun q => bk_X6_hasRoomFor_16 hm (bk_X6_hasRoomFor_17 hm rfl ⟨?_, rfl⟩)) (fun q => bk_X6_hasRoomFor_12 hm (bk_X6_hasRoomFor_17 hm rfl ⟨?_, rfl⟩))
  · rw [h1, e] at q
    have := (nI_ltI (a := 2000) (by omega) (by omega)).mp q
    rw [if_neg (by omega)]
  · rw [h1, e] at q
    have : ¬ 2000 < L + 20 := fun z => q ((nI_ltI (a := 2000) (by omega) (by omega)).mpr z)
    rw [if_pos (by omega)]
def jfC (x1 x2 x3 x4 x5 : Int32) (L : Nat) (w : JW) : JW := jaC x5 (L + 16) (jaC x4 (L + 12) (jaC x3 (L + 8) (jaC x2 (L + 4) (jaC x1 L w))))
theorem jaC_len {x : Int32} {L : Nat} {w : JW} : (jaC x L w).1 1 false 1 = nI (L + 4) := japC_len
theorem kif0 (p : Prop) [Decidable p] : ((if p then (1 : Int32) else 0) = 0) ↔ ¬ p := by
  by_cases h : p
  · rw [if_pos h]; exact ⟨fun z => absurd z (by decide), fun z => absurd h z⟩
  · rw [if_neg h]; exact ⟨fun _ => h, fun _ => rfl⟩
theorem c_feed {w : JW} {L : Nat} (h1 : w.1 1 false 1 = nI L) (hL : L + 20 ≤ 2000) (x1 x2 x3 x4 x5 : Int32) : jF MX9_feed 2 [jR 0 false, jI x1, jI x2, jI x3, jI x4, jI x5] w (jI (nI (L + 20))) (jfC x1 x2 x3 x4 x5 L w) := by
  refine jF_of jp_X9_feed rfl (Nat.le_of_ble_eq_true rfl) (fun C hm => ?_)
  refine bk_X9_feed_0 hm (c_room h1 (by omega)) (by decide) (bk_X9_feed_9 hm (fun q => ?_) (fun q => ?_))
  · refine bk_X9_feed_22 hm (c_append h1 (by omega)) (by decide) (bk_X9_feed_30 hm (c_append jaC_len (by omega)) (by decide) (bk_X9_feed_38 hm (c_append jaC_len (by omega)) (by decide) (bk_X9_feed_46 hm (c_append jaC_len (by omega)) (by decide) (bk_X9_feed_55 hm (c_append jaC_len (by omega)) (by decide) (bk_X9_feed_64 hm ⟨?_, rfl⟩)))))
    exact congrArg jI jaC_len
  · rw [kif0] at q
    exact absurd hL q
theorem c_trim {w : JW} {L n : Nat} (h1 : w.1 1 false 1 = nI L) (hn : n ≤ L) (hL : L ≤ 2000) : jF MX9_trim 1 [jR 0 false, jI (nI n)] w (jI (nI n)) (jset w 1 false 1 (nI n)) := by
  refine jF_of jp_X9_trim rfl (Nat.le_of_ble_eq_true rfl) (fun C hm => ?_)
  refine bk_X9_trim_0 hm (fun q => absurd q (nI_pos (by omega))) (fun _ => bk_X9_trim_4 hm (fun _ => ?_) (fun q => ?_))
  · exact bk_X9_trim_25 hm (c_shorten w _) (by decide) (bk_X9_trim_33 hm ⟨rfl, rfl⟩)
  · rw [h1] at q
    exact absurd (nI_le hn (by omega)) q
theorem c_countFact13 (w : JW) : jF MX9_countFact 0 [jR 0 false, jI 13] w (jI (w.1 1 false 1)) w := by
  refine jF_of jp_X9_countFact rfl (Nat.le_of_ble_eq_true rfl) (fun C hm => ?_)
  exact bk_X9_countFact_0 hm (fun h => absurd h (by decide)) (fun h => absurd h (by decide)) (fun h => absurd h (by decide)) (fun h => absurd h (by decide)) (fun h => absurd h (by decide)) (fun h => absurd h (by decide)) (fun h => absurd h (by decide)) (fun h => absurd h (by decide)) (fun h => absurd h (by decide)) (fun h => absurd h (by decide)) (fun h => absurd h (by decide)) (fun h => absurd h (by decide)) (fun h => absurd h (by decide)) (fun _ _ _ _ _ _ _ _ _ _ _ _ _ => bk_X9_countFact_192 hm ⟨rfl, rfl⟩)
theorem c_count13 (w : JW) : jF MX9_count 1 [jR 0 false, jI 13] w (jI (w.1 1 false 1)) w := by
  refine jF_of jp_X9_count rfl (Nat.le_of_ble_eq_true rfl) (fun C hm => ?_)
  exact bk_X9_count_0 hm (fun h => absurd h (by decide)) (fun _ => bk_X9_count_4 hm (fun _ => bk_X9_count_20 hm (c_countFact13 w) (by decide) (bk_X9_count_25 hm ⟨rfl, rfl⟩)) (fun h => absurd (by decide) h))
/-! a text's letters -/
def klt (t : List Nat) (k : Nat) : Nat := if k < t.length then t.getD k 0 else 32
theorem klt_lt {t : List Nat} (ha : ∀ x ∈ t, x < 128) (k : Nat) : klt t k < 128 := by
  unfold klt
  split
  · exact jgetD_lt ha k
  · omega
def kfr (t : List Nat) (k : Nat) : Int32 := ((nI (klt t k) <<< ((24 : Int32) &&& 31) ||| nI (klt t (k + 1)) <<< ((16 : Int32) &&& 31)) ||| nI (klt t (k + 2)) <<< ((8 : Int32) &&& 31)) ||| nI (klt t (k + 3))
theorem t_letter {xs : JS0} {h v k : Nat} {t : List Nat} (hk : k < 10000) (ht : t.length < 10000) (ha : ∀ x ∈ t, x < 128) : jSG ML_letter 4 0 0 [jR h false, jI (nI k)] (xs, some (h, v, t)) (fun _ => []) (fun _ r X => r = jI (nI (klt t k)) ∧ X = []) := by
  refine jSG_of jp_L_letter rfl (Nat.le_of_ble_eq_true rfl) (fun C hm hS hi => ?_)
  have hT := jsx_t hS.1
  have hX := (jsx_x hS.1).symm
  refine jg_iload_n hm.1 (i := 1) rfl rfl dL_letter_0 ?_
  refine jg_aload_n hm.1 (i := 0) rfl rfl dL_letter_1 ?_
  refine jt_callV (wr := []) (as := []) (st := [jI (nI k)]) hm t_length rfl ⟨hX, hS.2⟩ (jTa_same hT) (jRv_text hm (jTa_same hT)) (by omega) (Nat.le_of_ble_eq_true rfl) (Nat.le_of_ble_eq_true rfl) jw_1030 jw_839 (hm.1.hts _ jw_840) jw_59 jw_841 jn_J0_length_8abf5 rfl rfl (Nat.le_of_ble_eq_true rfl) rfl dL_letter_2 ?_
  rintro _ _ ⟨rfl, rfl⟩
  refine jg_icmp_ge hm.1 (tgt := 16) dL_letter_5 (by decide) (fun z => ?_) (fun z => ?_)
  · have hz : ¬ k < t.length := by
      have := (nI_leI (by omega) (by omega)).mp z
      omega
    refine jg_bipush hm.1 (v := 32) (by decide) dL_letter_16 ?_
    exact jt_iret hm rfl (Nat.le_of_ble_eq_true rfl) (Nat.le_of_ble_eq_true rfl) dL_letter_18 ⟨by unfold klt; rw [if_neg hz]; rfl, rfl⟩
  · have hz : k < t.length := Nat.not_le.mp fun q => z (nI_le q (by omega))
    refine jg_aload_n hm.1 (i := 0) rfl rfl dL_letter_8 ?_
    refine jg_iload_n hm.1 (i := 1) rfl rfl dL_letter_9 ?_
    refine jt_callV (wr := []) (as := [jI (nI k)]) (st := []) hm (t_charAt hz (by omega) ha) rfl ⟨hX, hS.2⟩ (jTa_same hT) (jRv_text hm (jTa_same hT)) (by omega) (Nat.le_of_ble_eq_true rfl) (Nat.le_of_ble_eq_true rfl) jw_1037 jw_1038 (hm.1.hts _ jw_1039) jw_59 jw_1040 jn_J0_charAt_5068e rfl rfl (Nat.le_of_ble_eq_true rfl) rfl dL_letter_10 ?_
    rintro _ _ ⟨rfl, rfl⟩
    refine jg_goto hm.1 (tgt := 18) dL_letter_13 (by decide) ?_
    exact jt_iret hm rfl (Nat.le_of_ble_eq_true rfl) (Nat.le_of_ble_eq_true rfl) dL_letter_18 ⟨by unfold klt; rw [if_pos hz], rfl⟩
theorem t_four {xs : JS0} {h v k : Nat} {t : List Nat} (hk : k < 9000) (ht : t.length < 10000) (ha : ∀ x ∈ t, x < 128) : jSG ML_four 5 0 0 [jR h false, jI (nI k)] (xs, some (h, v, t)) (fun _ => []) (fun _ r X => r = jI (kfr t k) ∧ X = []) := by
  refine jSG_of jp_L_four rfl (Nat.le_of_ble_eq_true rfl) (fun C hm hS hi => ?_)
  have hT := jsx_t hS.1
  have hX := (jsx_x hS.1).symm
  refine jg_aload_n hm.1 (i := 0) rfl rfl dL_four_0 ?_
  refine jg_iload_n hm.1 (i := 1) rfl rfl dL_four_1 ?_
  refine jt_callS (wr := []) (as := [jR h false, jI (nI k)]) (st := []) hm (t_letter (k := k) (by omega) ht ha) rfl ⟨hX, hS.2⟩ (jTa_same hT) (by omega) (Nat.le_of_ble_eq_true rfl) (Nat.le_of_ble_eq_true rfl) jw_1034 jw_1035 jw_46 jw_1036 jn_L_letter rfl rfl (Nat.le_of_ble_eq_true rfl) rfl dL_four_2 ?_
  rintro _ _ ⟨rfl, rfl⟩
  refine jg_bipush hm.1 (v := 24) (by decide) dL_four_5 ?_
  refine jg_ishl hm.1 dL_four_7 ?_
  refine jg_aload_n hm.1 (i := 0) rfl rfl dL_four_8 ?_
  refine jg_iload_n hm.1 (i := 1) rfl rfl dL_four_9 ?_
  refine jg_iconst hm.1 (v := 1) (by decide) dL_four_10 ?_
  refine jg_iadd hm.1 dL_four_11 ?_
  rw [nI_1]
  refine jt_callS (wr := []) (as := [jR h false, jI (nI (k + 1))]) (st := [jI (nI (klt t k) <<< ((24 : Int32) &&& 31))]) hm (t_letter (k := k + 1) (by omega) ht ha) rfl ⟨hX, hS.2⟩ (jTa_same hT) (by omega) (Nat.le_of_ble_eq_true rfl) (Nat.le_of_ble_eq_true rfl) jw_1034 jw_1035 jw_46 jw_1036 jn_L_letter rfl rfl (Nat.le_of_ble_eq_true rfl) rfl dL_four_12 ?_
  rintro _ _ ⟨rfl, rfl⟩
  refine jg_bipush hm.1 (v := 16) (by decide) dL_four_15 ?_
  refine jg_ishl hm.1 dL_four_17 ?_
  refine jg_ior hm.1 dL_four_18 ?_
  refine jg_aload_n hm.1 (i := 0) rfl rfl dL_four_19 ?_
  refine jg_iload_n hm.1 (i := 1) rfl rfl dL_four_20 ?_
  refine jg_iconst hm.1 (v := 2) (by decide) dL_four_21 ?_
  refine jg_iadd hm.1 dL_four_22 ?_
  rw [show nI k + 2 = nI (k + 2) from nI_add k 2]
  refine jt_callS (wr := []) (as := [jR h false, jI (nI (k + 2))]) (st := [jI (nI (klt t k) <<< ((24 : Int32) &&& 31) ||| nI (klt t (k + 1)) <<< ((16 : Int32) &&& 31))]) hm (t_letter (k := k + 2) (by omega) ht ha) rfl ⟨hX, hS.2⟩ (jTa_same hT) (by omega) (Nat.le_of_ble_eq_true rfl) (Nat.le_of_ble_eq_true rfl) jw_1034 jw_1035 jw_46 jw_1036 jn_L_letter rfl rfl (Nat.le_of_ble_eq_true rfl) rfl dL_four_23 ?_
  rintro _ _ ⟨rfl, rfl⟩
  refine jg_bipush hm.1 (v := 8) (by decide) dL_four_26 ?_
  refine jg_ishl hm.1 dL_four_28 ?_
  refine jg_ior hm.1 dL_four_29 ?_
  refine jg_aload_n hm.1 (i := 0) rfl rfl dL_four_30 ?_
  refine jg_iload_n hm.1 (i := 1) rfl rfl dL_four_31 ?_
  refine jg_iconst hm.1 (v := 3) (by decide) dL_four_32 ?_
  refine jg_iadd hm.1 dL_four_33 ?_
  rw [show nI k + 3 = nI (k + 3) from nI_add k 3]
  refine jt_callS (wr := []) (as := [jR h false, jI (nI (k + 3))]) (st := [jI ((nI (klt t k) <<< ((24 : Int32) &&& 31) ||| nI (klt t (k + 1)) <<< ((16 : Int32) &&& 31)) ||| nI (klt t (k + 2)) <<< ((8 : Int32) &&& 31))]) hm (t_letter (k := k + 3) (by omega) ht ha) rfl ⟨hX, hS.2⟩ (jTa_same hT) (by omega) (Nat.le_of_ble_eq_true rfl) (Nat.le_of_ble_eq_true rfl) jw_1034 jw_1035 jw_46 jw_1036 jn_L_letter rfl rfl (Nat.le_of_ble_eq_true rfl) rfl dL_four_34 ?_
  rintro _ _ ⟨rfl, rfl⟩
  refine jg_ior hm.1 dL_four_37 ?_
  exact jt_iret hm rfl (Nat.le_of_ble_eq_true rfl) (Nat.le_of_ble_eq_true rfl) dL_four_38 ⟨rfl, rfl⟩
theorem kor {x y k : Nat} (a : Nat) (hx : x = a * 2 ^ k) (hy : y < 2 ^ k) : nI x ||| nI y = nI (x + y) := by
  have h1 : nI x ||| nI y = nI (x ||| y) := by
    apply Int32.toBitVec_inj.1
    show BitVec.ofNat 32 x ||| BitVec.ofNat 32 y = BitVec.ofNat 32 (x ||| y)
    apply BitVec.eq_of_getLsbD_eq
    intro i hi
    simp [hi]
  rw [h1]
  subst hx
  congr 1
  rw [Nat.mul_comm, ← Nat.two_pow_add_eq_or_of_lt hy]
theorem kfr_val {t : List Nat} (ha : ∀ x ∈ t, x < 128) (k : Nat) : kfr t k = nI (((klt t k * 2 ^ 24 + klt t (k + 1) * 2 ^ 16) + klt t (k + 2) * 2 ^ 8) + klt t (k + 3)) := by
  have h0 := klt_lt ha k
  have h1 := klt_lt ha (k + 1)
  have h2 := klt_lt ha (k + 2)
  have h3 := klt_lt ha (k + 3)
  unfold kfr
  rw [pk_shlN ((24 : Int32) &&& 31) 24 (by decide) (by omega), pk_shlN ((16 : Int32) &&& 31) 16 (by decide) (by omega), pk_shlN ((8 : Int32) &&& 31) 8 (by decide) (by omega)]
  rw [kor (klt t k) (k := 24) rfl (by omega), kor (klt t k * 2 ^ 8 + klt t (k + 1)) (k := 16) (by omega) (by omega), kor (klt t k * 2 ^ 16 + klt t (k + 1) * 2 ^ 8 + klt t (k + 2)) (k := 8) (by omega) (by omega)]
theorem kby {t : List Nat} (ha : ∀ x ∈ t, x < 128) (k : Nat) : jby (kfr t k) 24 = klt t k ∧ jby (kfr t k) 16 = klt t (k + 1) ∧ jby (kfr t k) 8 = klt t (k + 2) ∧ jby (kfr t k) 0 = klt t (k + 3) := by
  have h0 := klt_lt ha k
  have h1 := klt_lt ha (k + 1)
  have h2 := klt_lt ha (k + 2)
  have h3 := klt_lt ha (k + 3)
  rw [kfr_val ha k]
  generalize hV : ((klt t k * 2 ^ 24 + klt t (k + 1) * 2 ^ 16) + klt t (k + 2) * 2 ^ 8) + klt t (k + 3) = V
  have hv : V < 2 ^ 31 := by omega
  unfold jby
  refine ⟨?_, ?_, ?_, ?_⟩
  · rw [pk_shrN hv ((24 : Int32) &&& 31) 24 (by decide), pk_andN (by omega) 8 (by decide), nI_clamp (by omega)]
    omega
  · rw [pk_shrN hv ((16 : Int32) &&& 31) 16 (by decide), pk_andN (by omega) 8 (by decide), nI_clamp (by omega)]
    omega
  · rw [pk_shrN hv ((8 : Int32) &&& 31) 8 (by decide), pk_andN (by omega) 8 (by decide), nI_clamp (by omega)]
    omega
  · rw [pk_shrN hv ((0 : Int32) &&& 31) 0 (by decide), pk_andN (by omega) 8 (by decide), nI_clamp (by omega)]
    omega
/-- the signs of a tape on which the first L letters stand -/
def kS (t : List Nat) (L : Nat) : Nat → Nat := fun j => if j < L then klt t j else 300
theorem kx4 {t : List Nat} (ha : ∀ x ∈ t, x < 128) (L : Nat) : jx4 (kfr t L) (kS t L) L = kS t (L + 4) := by
  obtain ⟨e0, e1, e2, e3⟩ := kby ha L
  funext j
  unfold jx4 jxt
  rw [e0, e1, e2, e3]
  unfold kS
  by_cases h3 : j = L + 3
  · rw [if_pos h3, if_pos (by omega), h3]
  rw [if_neg h3]
  by_cases h2 : j = L + 2
  · rw [if_pos h2, if_pos (by omega), h2]
  rw [if_neg h2]
  by_cases h1 : j = L + 1
  · rw [if_pos h1, if_pos (by omega), h1]
  rw [if_neg h1]
  by_cases h0 : j = L
  · rw [if_pos h0, if_pos (by omega), h0]
  rw [if_neg h0]
  by_cases h : j < L
  · rw [if_pos h, if_pos (by omega)]
  · rw [if_neg h, if_neg (by omega)]
theorem kfC_C1 {t : List Nat} (ha : ∀ x ∈ t, x < 128) {L : Nat} {w : JW} (h : jC1 (kS t L) L w) (hL : L + 20 ≤ 2000) : jC1 (kS t (L + 20)) (L + 20) (jfC (kfr t L) (kfr t (L + 4)) (kfr t (L + 8)) (kfr t (L + 12)) (kfr t (L + 16)) L w) := by
  have step : ∀ (M : Nat) (w : JW), M + 4 ≤ 2000 → jC1 (kS t M) M w → jC1 (kS t (M + 4)) (M + 4) (jaC (kfr t M) M w) := by
    intro M w hM h
    have := jaC_C1 (x := kfr t M) h hM
    rwa [kx4 ha] at this
  exact step (L + 16) _ (by omega) (step (L + 12) _ (by omega) (step (L + 8) _ (by omega) (step (L + 4) _ (by omega) (step L w (by omega) h))))
/-- the world but for the tape -/
def kTp (w w2 : JW) : Prop := w2.2 = w.2 ∧ ∀ k b, k ≠ 1 → k ≠ 2 → w2.1 k b = w.1 k b
theorem japC_Tp {x sh : Int32} {L : Nat} {w : JW} : kTp w (japC x sh L w) := by
  refine ⟨rfl, fun k b h1 h2 => ?_⟩
  funext j
  unfold japC
  rw [jset_I, if_neg (fun q => h1 q.1), jset_I, if_neg (fun q => h2 q.1)]
theorem kTp.trans {a b c : JW} (h : kTp a b) (g : kTp b c) : kTp a c := ⟨g.1.trans h.1, fun k e h1 h2 => (g.2 k e h1 h2).trans (h.2 k e h1 h2)⟩
theorem jaC_Tp {x : Int32} {L : Nat} {w : JW} : kTp w (jaC x L w) := ((japC_Tp.trans japC_Tp).trans japC_Tp).trans japC_Tp
theorem jfC_Tp {x1 x2 x3 x4 x5 : Int32} {L : Nat} {w : JW} : kTp w (jfC x1 x2 x3 x4 x5 L w) := (((jaC_Tp.trans jaC_Tp).trans jaC_Tp).trans jaC_Tp).trans jaC_Tp

