theorem jw_964 : Cond.classLink RX9 64 "java/lang/IllegalStateException" ∈ jGL := jmem 964 (by decide +kernel) rfl
theorem jw_130 : Cond.initialized "java/lang/IllegalStateException" ∈ jGL := jmem 130 (by decide +kernel) rfl
/-! feeding on both sides -/
theorem jb_and (x : Int32) : x.toInt8.toInt32 &&& 255 = x &&& 255 := by
  apply Int32.toBitVec_inj.mp
  show (x.toBitVec.signExtend 8).signExtend 32 &&& 255#32 = x.toBitVec &&& 255#32
  apply BitVec.eq_of_getLsbD_eq
  intro i hi
  have h8 : (255#32).getLsbD i = decide (i < 8) := by
    revert i
    decide
  rw [BitVec.getLsbD_and, BitVec.getLsbD_and, h8]
  by_cases z : i < 8
  · rw [BitVec.getLsbD_signExtend, BitVec.getLsbD_signExtend]
    simp [z, hi]
  · simp [z]
/-- the byte of x at the shift sh, as a sign -/
def jby (x sh : Int32) : Nat := (x >>> (sh &&& 31) &&& 255).toNatClampNeg
theorem jby_lt (x sh : Int32) : jby x sh < 256 ∧ x >>> (sh &&& 31) &&& 255 = nI (jby x sh) := by
  obtain ⟨j, hj, e⟩ := pk_andE (x >>> (sh &&& 31)) (m := 255) 8 (by decide)
  unfold jby
  rw [e, nI_clamp (by omega)]
  exact ⟨hj, rfl⟩
def jxt (s : Nat → Nat) (L z : Nat) : Nat → Nat := fun i => if i = L then z else s i
theorem jxt_TS {s : Nat → Nat} {L z : Nat} (h : jTS s L) (hL : L < 2000) (hz : z < 256) : jTS (jxt s L z) (L + 1) := by
  refine ⟨hL, fun i hi => ?_, fun i hi => ?_⟩
  · unfold jxt
    split
    · exact hz
    · exact h.2.1 i (by omega)
  · unfold jxt
    rw [if_neg (by omega)]
    exact h.2.2 i (by omega)
def japC (x sh : Int32) (L : Nat) (w : JW) : JW := jset (jset w 2 false L (x >>> (sh &&& 31)).toInt8.toInt32) 1 false 1 (nI (L + 1))
def japM (x sh : Int32) (L : Nat) (w : JW) : JW := jset (jset w 42 false L (x >>> (sh &&& 31) &&& 255)) 41 false 2 (nI (L + 1))
theorem japC_C1 {s : Nat → Nat} {L : Nat} {w : JW} {x sh : Int32} (h : jC1 s L w) (hL : L < 2000) : jC1 (jxt s L (jby x sh)) (L + 1) (japC x sh L w) := by
  have hb := jby_lt x sh
  refine ⟨jxt_TS h.1 hL hb.1, ?_, fun i hi => ?_⟩
  · unfold japC
    rw [jset_I, if_pos ⟨rfl, rfl, rfl⟩]
  · unfold japC jxt
    rw [jset_I, if_neg (by omega), jset_I]
    by_cases z : i = L
    · rw [if_pos ⟨rfl, rfl, z⟩, if_pos z, jb_and]
      exact hb.2
    · rw [if_neg (fun q => z q.2.2), if_neg z]
      exact h.2.2 i (by omega)
theorem japM_C0 {s : Nat → Nat} {L : Nat} {w : JW} {x sh : Int32} (h : jC0 s L w) (hL : L < 2000) : jC0 (jxt s L (jby x sh)) (L + 1) (japM x sh L w) := by
  have hb := jby_lt x sh
  refine ⟨jxt_TS h.1 hL hb.1, ?_, fun i hi => ?_⟩
  · unfold japM
    rw [jset_I, if_pos ⟨rfl, rfl, rfl⟩]
  · unfold japM jxt
    rw [jset_I, if_neg (by omega), jset_I]
    by_cases z : i = L
    · rw [if_pos ⟨rfl, rfl, z⟩, if_pos z]
      exact hb.2
    · rw [if_neg (fun q => z q.2.2), if_neg z]
      exact h.2.2 i (by omega)
def jaC (x : Int32) (L : Nat) (w : JW) : JW := japC x 0 (L + 3) (japC x 8 (L + 2) (japC x 16 (L + 1) (japC x 24 L w)))
def jaM (x : Int32) (L : Nat) (w : JW) : JW := japM x 0 (L + 3) (japM x 8 (L + 2) (japM x 16 (L + 1) (japM x 24 L w)))
def jx4 (x : Int32) (s : Nat → Nat) (L : Nat) : Nat → Nat := jxt (jxt (jxt (jxt s L (jby x 24)) (L + 1) (jby x 16)) (L + 2) (jby x 8)) (L + 3) (jby x 0)
theorem jaC_C1 {s : Nat → Nat} {L : Nat} {w : JW} {x : Int32} (h : jC1 s L w) (hL : L + 4 ≤ 2000) : jC1 (jx4 x s L) (L + 4) (jaC x L w) := japC_C1 (japC_C1 (japC_C1 (japC_C1 h (by omega)) (by omega)) (by omega)) (by omega)
theorem jaM_C0 {s : Nat → Nat} {L : Nat} {w : JW} {x : Int32} (h : jC0 s L w) (hL : L + 4 ≤ 2000) : jC0 (jx4 x s L) (L + 4) (jaM x L w) := japM_C0 (japM_C0 (japM_C0 (japM_C0 h (by omega)) (by omega)) (by omega)) (by omega)
theorem japC_len {x sh : Int32} {L : Nat} {w : JW} : (japC x sh L w).1 1 false 1 = nI (L + 1) := by
  unfold japC
  rw [jset_I, if_pos ⟨rfl, rfl, rfl⟩]
theorem japM_len {x sh : Int32} {L : Nat} {w : JW} : (japM x sh L w).1 41 false 2 = nI (L + 1) := by
  unfold japM
  rw [jset_I, if_pos ⟨rfl, rfl, rfl⟩]
theorem l_append {C : JC} {Q : State → Prop} {d : Nat} (hm : jok C MX6_append d 0 0) {x sh : Int32} {L : Nat} {w : JW} (h1 : w.1 1 false 1 = nI L) (hL : L < 2000) (hs : ¬ sh < 0) (k : jW C 0 0 Q 3 [jR 1 false, jI x, jI (sh + -8)] [] (japC x sh L w)) : jW C 0 0 Q 3 [jR 1 false, jI x, jI sh] [] w := by
  refine bk_X6_append_3 hm (fun q => absurd q hs) (fun _ => bk_X6_append_7 hm (fun q => ?_) (fun _ => bk_X6_append_14 hm (fun q => ?_) (fun _ => bk_X6_append_26 hm ?_ (bk_X6_append_49 hm ?_))))
  · rw [h1] at q
    exact absurd q (nI_pos (by omega))
  · rw [h1] at q
    exact absurd ((nI_leI (a := 2000) (by omega) (by omega)).mp q) (by omega)
  · rw [h1]
    exact vp_in_nI hL (by omega)
  · have e : (jset w 2 false L (x >>> (sh &&& 31)).toInt8.toInt32).1 1 false 1 + 1 = nI (L + 1) := by
      rw [jset_I, if_neg (by omega), h1, nI_succ]
    rw [h1, nI_clamp (by omega), pk_vb, e]
    exact k
theorem c_append {x : Int32} {L : Nat} {w : JW} (h1 : w.1 1 false 1 = nI L) (hL : L + 4 ≤ 2000) : jF MX6_append 0 [jR 1 false, jI x] w jU (jaC x L w) := by
  refine jF_of jp_X6_append rfl (Nat.le_of_ble_eq_true rfl) (fun C hm => ?_)
  refine bk_X6_append_0 hm (l_append hm h1 (by omega) (by decide) ?_)
  rw [show (24 : Int32) + -8 = 16 by decide]
  refine l_append hm japC_len (by omega) (by decide) ?_
  rw [show (16 : Int32) + -8 = 8 by decide]
  refine l_append hm japC_len (by omega) (by decide) ?_
  rw [show (8 : Int32) + -8 = 0 by decide]
  refine l_append hm japC_len (by omega) (by decide) ?_
  exact bk_X6_append_3 hm (fun _ => bk_X6_append_55 hm ⟨rfl, rfl⟩) (fun q => absurd (by decide) q)
theorem l_mappend {C : JC} {Q : State → Prop} {d : Nat} (hm : jok C MX11_append d 0 0) {x sh : Int32} {L : Nat} {w : JW} (h1 : w.1 41 false 2 = nI L) (hL : L < 2000) (hs : ¬ sh < 0) (k : jW C 0 0 Q 3 [jR 41 false, jI x, jI (sh + -8)] [] (japM x sh L w)) : jW C 0 0 Q 3 [jR 41 false, jI x, jI sh] [] w := by
  refine bk_X11_append_3 hm (fun q => absurd q hs) (fun _ => bk_X11_append_7 hm ?_ ?_)
  · rw [h1]
    exact vp_in_nI hL (by omega)
  · have e : (jset w 42 false L (x >>> (sh &&& 31) &&& 255)).1 41 false 2 + 1 = nI (L + 1) := by
      rw [jset_I, if_neg (by omega), h1, nI_succ]
    rw [h1, nI_clamp (by omega), e]
    exact k
theorem c_mappend {x : Int32} {L : Nat} {w : JW} (h1 : w.1 41 false 2 = nI L) (hL : L + 4 ≤ 2000) : jF MX11_append 0 [jR 41 false, jI x] w jU (jaM x L w) := by
  refine jF_of jp_X11_append rfl (Nat.le_of_ble_eq_true rfl) (fun C hm => ?_)
  refine bk_X11_append_0 hm (l_mappend hm h1 (by omega) (by decide) ?_)
  rw [show (24 : Int32) + -8 = 16 by decide]
  refine l_mappend hm japM_len (by omega) (by decide) ?_
  rw [show (16 : Int32) + -8 = 8 by decide]
  refine l_mappend hm japM_len (by omega) (by decide) ?_
  rw [show (8 : Int32) + -8 = 0 by decide]
  refine l_mappend hm japM_len (by omega) (by decide) ?_
  exact bk_X11_append_3 hm (fun _ => bk_X11_append_39 hm ⟨rfl, rfl⟩) (fun q => absurd (by decide) q)
theorem jaC_len {x : Int32} {L : Nat} {w : JW} : (jaC x L w).1 1 false 1 = nI (L + 4) := japC_len
theorem jaM_len {x : Int32} {L : Nat} {w : JW} : (jaM x L w).1 41 false 2 = nI (L + 4) := japM_len
theorem c_room {w : JW} {L : Nat} (h1 : w.1 1 false 1 = nI L) (hL : L ≤ 2000) : jF MX6_hasRoomFor 0 [jR 1 false, jI 20] w (jI (if L + 20 ≤ 2000 then 1 else 0)) w := by
  refine jF_of jp_X6_hasRoomFor rfl (Nat.le_of_ble_eq_true rfl) (fun C hm => ?_)
  have e : nI L + 20 = nI (L + 20) := by rw [nI_lit, nI_add]
  refine bk_X6_hasRoomFor_0 hm (fun q => bk_X6_hasRoomFor_16 hm (bk_X6_hasRoomFor_17 hm rfl ⟨?_, rfl⟩)) (fun q => bk_X6_hasRoomFor_12 hm (bk_X6_hasRoomFor_17 hm rfl ⟨?_, rfl⟩))
  · rw [h1, e] at q
    have := (nI_ltI (a := 2000) (by omega) (by omega)).mp q
    rw [if_neg (by omega)]
  · rw [h1, e] at q
    have : ¬ 2000 < L + 20 := fun z => q ((nI_ltI (a := 2000) (by omega) (by omega)).mpr z)
    rw [if_pos (by omega)]
def jfC (x1 x2 x3 x4 x5 : Int32) (L : Nat) (w : JW) : JW := jaC x5 (L + 16) (jaC x4 (L + 12) (jaC x3 (L + 8) (jaC x2 (L + 4) (jaC x1 L w))))
def jfM (x1 x2 x3 x4 x5 : Int32) (L : Nat) (w : JW) : JW := jaM x5 (L + 16) (jaM x4 (L + 12) (jaM x3 (L + 8) (jaM x2 (L + 4) (jaM x1 L w))))
theorem x_feed {w : JW} {L : Nat} (h1 : w.1 1 false 1 = nI L) (hL : L ≤ 2000) (x1 x2 x3 x4 x5 : Int32) : jSX MX9_feed 6 1 6 [jR 0 false, jI x1, jI x2, jI x3, jI x4, jI x5] w (fun v w2 => L + 20 ≤ 2000 ∧ v = jI (nI (L + 20)) ∧ w2 = jfC x1 x2 x3 x4 x5 L w) (fun E w2 => ¬ L + 20 ≤ 2000 ∧ E = jISE ∧ w2 = w) := by
  refine jSX_of jp_X9_feed rfl (Nat.le_of_ble_eq_true rfl) (fun C hx => ?_)
  have hm : jok C MX9_feed 6 0 0 := hx.1.less (Nat.le_refl _) (Nat.zero_le _) (Nat.zero_le _)
  refine bk_X9_feed_0 hm (c_room h1 hL) (by decide) (bk_X9_feed_9 hm (fun q => ?_) (fun q => jr_throw hx (by decide) (by decide) (by decide) (j := 32) (by decide) rfl rfl rfl jw_964 jw_130 jx_at1 jx_k1 (Nat.le_of_ble_eq_true rfl) rfl dX9_feed_12 dX9_feed_15 dX9_feed_16 dX9_feed_18 dX9_feed_21 ⟨?_, rfl, rfl⟩))
  · rw [jif0, Decidable.not_not] at q
    refine jx_fin (bk_X9_feed_22 hm (c_append h1 (by omega)) (by decide) (bk_X9_feed_30 hm (c_append jaC_len (by omega)) (by decide) (bk_X9_feed_38 hm (c_append jaC_len (by omega)) (by decide) (bk_X9_feed_46 hm (c_append jaC_len (by omega)) (by decide) (bk_X9_feed_55 hm (c_append jaC_len (by omega)) (by decide) (bk_X9_feed_64 hm ⟨q, ?_, rfl⟩))))))
    exact congrArg jI jaC_len
  · rw [jif0] at q
    exact q
theorem c_no2 (w : JW) (x : Int32) : jF MX11_no 0 [jR 41 false, jI x] w (jI 0) (jset w 41 false 0 x) := by
  refine jF_of jp_X11_no rfl (Nat.le_of_ble_eq_true rfl) (fun C hm => ?_)
  exact bk_X11_no_0 hm ⟨rfl, rfl⟩
theorem c_mfeed {w : JW} {L : Nat} (h1 : w.1 41 false 2 = nI L) (hL : L ≤ 2000) (x1 x2 x3 x4 x5 : Int32) : jSI MX11_feed 1 [jR 41 false, jI x1, jI x2, jI x3, jI x4, jI x5] w (fun r w2 => (L + 20 ≤ 2000 ∧ r = nI (L + 20) ∧ w2 = jfM x1 x2 x3 x4 x5 L (jset w 41 false 0 0)) ∨ (¬ L + 20 ≤ 2000 ∧ r = 0 ∧ w2 = jset (jset w 41 false 0 0) 41 false 0 1)) := by
  refine jSI_of jp_X11_feed rfl (Nat.le_of_ble_eq_true rfl) (fun C hm => ?_)
  have e0 : (jset w 41 false 0 0).1 41 false 2 = nI L := by
    rw [jset_I, if_neg (by omega)]
    exact h1
  have e : nI L + 20 = nI (L + 20) := by rw [nI_lit, nI_add]
  refine bk_X11_feed_0 hm (fun q => ?_) (fun q => ?_)
  · rw [e0, e] at q
    have q2 := (nI_leI (b := 2000) (by omega) (by omega)).mp q
    refine bk_X11_feed_24 hm (c_mappend e0 (by omega)) (by decide) (bk_X11_feed_29 hm (c_mappend jaM_len (by omega)) (by decide) (bk_X11_feed_34 hm (c_mappend jaM_len (by omega)) (by decide) (bk_X11_feed_39 hm (c_mappend jaM_len (by omega)) (by decide) (bk_X11_feed_45 hm (c_mappend jaM_len (by omega)) (by decide) (bk_X11_feed_51 hm ⟨_, rfl, Or.inl ⟨q2, ?_, rfl⟩⟩)))))
    exact jaM_len
  · rw [e0, e] at q
    have q2 : ¬ L + 20 ≤ 2000 := fun z => q ((nI_leI (b := 2000) (by omega) (by omega)).mpr z)
    exact bk_X11_feed_18 hm (c_no2 _ 1) (by decide) (bk_X11_feed_23 hm ⟨0, rfl, Or.inr ⟨q2, rfl, rfl⟩⟩)

