theorem jw_1449 : Cond.methodLink RX11 71 yJ0_charAt_5068e ∈ jGL := jmem 1449 (by decide +kernel) rfl
theorem jw_1448 : Cond.methodLink RX11 66 yJ0_length_8abf5 ∈ jGL := jmem 1448 (by decide +kernel) rfl
/-! the reference's tokens: signs, words -/
theorem jc0_eq {z k : Nat} (hk : k < 256) (h1 : 1 ≤ k) : jc0 z = nI k ↔ z = k := by
  unfold jc0
  by_cases h : z < 256
  · rw [if_pos h, nI_eqi (by omega) (by omega)]
  · rw [if_neg h, show (0 : Int32) = nI 0 from rfl, nI_eqi (by omega) (by omega)]
    omega
theorem jc0_lt {z k : Nat} (hk : k < 256) (h1 : 1 ≤ k) : jc0 z < nI k ↔ (z < k ∨ 256 ≤ z) := by
  unfold jc0
  by_cases h : z < 256
  · rw [if_pos h, nI_ltI (by omega) (by omega)]
    omega
  · rw [if_neg h, show (0 : Int32) = nI 0 from rfl, nI_ltI (by omega) (by omega)]
    omega
theorem jc0_gt {z k : Nat} (hk : k < 256) : nI k < jc0 z ↔ (k < z ∧ z < 256) := by
  unfold jc0
  by_cases h : z < 256
  · rw [if_pos h, nI_ltI (by omega) (by omega)]
    omega
  · rw [if_neg h, show (0 : Int32) = nI 0 from rfl, nI_ltI (by omega) (by omega)]
    omega
/-- the reference's tape has the signs s -/
def jC0 (s : Nat → Nat) (L : Nat) (w : JW) : Prop := jTS s L ∧ w.1 41 false 2 = nI L ∧ ∀ i, i < L → w.1 42 false i = nI (s i)
theorem jC0.kept {s : Nat → Nat} {L : Nat} {w w2 : JW} (h : jC0 s L w) (h1 : w2.1 41 false 2 = w.1 41 false 2) (h2 : w2.1 42 false = w.1 42 false) : jC0 s L w2 := by
  unfold jC0
  rw [h1, h2]
  exact h
theorem c_mbyteAt {s : Nat → Nat} {L : Nat} {w : JW} (h : jC0 s L w) {i : Nat} (hi : i ≤ 2100) : jF MX11_byteAt 0 [jR 41 false, jI (nI i)] w (jI (jc0 (s i))) w := by
  have hL := h.1.1
  refine jF_of jp_X11_byteAt rfl (Nat.le_of_ble_eq_true rfl) (fun C hm => ?_)
  refine bk_X11_byteAt_0 hm (fun q => ?_) (fun q => ?_)
  · rw [h.2.1, nI_leI (by omega) (by omega)] at q
    refine bk_X11_byteAt_17 hm (bk_X11_byteAt_18 hm ⟨?_, rfl⟩)
    rw [h.1.2.2 i q]
    rfl
  · rw [h.2.1, nI_leI (by omega) (by omega)] at q
    refine bk_X11_byteAt_8 hm (vp_in_nI (by omega) (by omega)) (bk_X11_byteAt_18 hm ⟨?_, rfl⟩)
    rw [nI_clamp (by omega), h.2.2 i (by omega)]
    unfold jc0
    rw [if_pos (h.1.2.1 i (by omega))]
theorem c_misLetter (w : JW) (z : Nat) : jF MX11_isLetter 0 [jI (jc0 z)] w (jI (if jlet z then 1 else 0)) w := by
  have a1 := jc0_lt (z := z) (k := 97) (by omega) (by omega)
  have a2 := jc0_gt (z := z) (k := 122) (by omega)
  refine jF_of jp_X11_isLetter rfl (Nat.le_of_ble_eq_true rfl) (fun C hm => ?_)
  refine bk_X11_isLetter_0 hm (fun q => ?_) (fun q => bk_X11_isLetter_6 hm (fun q2 => ?_) (fun q2 => ?_))
  · refine bk_X11_isLetter_16 hm (bk_X11_isLetter_17 hm rfl ⟨?_, rfl⟩)
    have := a1.mp q
    rw [if_neg (by omega)]
  · refine bk_X11_isLetter_16 hm (bk_X11_isLetter_17 hm rfl ⟨?_, rfl⟩)
    have := a2.mp q2
    rw [if_neg (by omega)]
  · refine bk_X11_isLetter_12 hm (bk_X11_isLetter_17 hm rfl ⟨?_, rfl⟩)
    have b1 : ¬ (z < 97 ∨ 256 ≤ z) := fun x => q (a1.mpr x)
    have b2 : ¬ (122 < z ∧ z < 256) := fun x => q2 (a2.mpr x)
    rw [if_pos (by omega)]
theorem c_misDigit (w : JW) (z : Nat) : jF MX11_isDigit 0 [jI (jc0 z)] w (jI (if jdig z then 1 else 0)) w := by
  have a1 := jc0_lt (z := z) (k := 48) (by omega) (by omega)
  have a2 := jc0_gt (z := z) (k := 57) (by omega)
  refine jF_of jp_X11_isDigit rfl (Nat.le_of_ble_eq_true rfl) (fun C hm => ?_)
  refine bk_X11_isDigit_0 hm (fun q => ?_) (fun q => bk_X11_isDigit_6 hm (fun q2 => ?_) (fun q2 => ?_))
  · refine bk_X11_isDigit_16 hm (bk_X11_isDigit_17 hm rfl ⟨?_, rfl⟩)
    have := a1.mp q
    rw [if_neg (by omega)]
  · refine bk_X11_isDigit_16 hm (bk_X11_isDigit_17 hm rfl ⟨?_, rfl⟩)
    have := a2.mp q2
    rw [if_neg (by omega)]
  · refine bk_X11_isDigit_12 hm (bk_X11_isDigit_17 hm rfl ⟨?_, rfl⟩)
    have b1 : ¬ (z < 48 ∨ 256 ≤ z) := fun x => q (a1.mpr x)
    have b2 : ¬ (57 < z ∧ z < 256) := fun x => q2 (a2.mpr x)
    rw [if_pos (by omega)]
theorem l_isWord {C : JC} {s : Nat → Nat} {L : Nat} {w : JW} (h : jC0 s L w) (hm : jok C MX11_isWord 4 0 0) {a n i : Nat} (hi : i < 45) (hn : n = jn_len.getD i 0) (ha : a + n ≤ L) : ∀ q j : Nat, j + q = n → jalB s a i j = true → jW C 0 0 (jQQ C 0 0 (fun v w' => v = jI (if jmtB s a n i = true then 1 else 0) ∧ w' = w)) 13 [jR 41 false, jI (nI a), jI (nI n), jR (100 + i) false, jI (nI j)] [] w := by
  have hL := h.1.1
  intro q
  induction q with
  | zero =>
    intro j hj hall
    obtain rfl : j = n := by omega
    refine jr_iload hm (i := 4) rfl dX11_isWord_13 ?_
    refine jr_iload_n hm (i := 2) rfl rfl dX11_isWord_15 ?_
    refine jr_icmp_ge hm (tgt := 45) dX11_isWord_16 (by decide) (fun _ => ?_) (fun z => absurd (nI_le (by omega) (by omega)) z)
    have ht : jmtB s a j i = true := by
      rw [jmtB_all, Bool.and_eq_true, decide_eq_true_eq]
      exact ⟨hn, hall⟩
    rw [if_pos ht]
    refine jr_iconst hm (v := 1) (by decide) dX11_isWord_45 ?_
    exact jr_zreturn hm rfl rfl dX11_isWord_46 ⟨rfl, rfl⟩
  | succ q ih =>
    intro j hj hall
    refine jr_iload hm (i := 4) rfl dX11_isWord_13 ?_
    refine jr_iload_n hm (i := 2) rfl rfl dX11_isWord_15 ?_
    refine jr_icmp_ge hm (tgt := 45) dX11_isWord_16 (by decide) (fun z => absurd z (nI_ge (by omega) (by omega))) (fun _ => ?_)
    refine jr_aload_n hm (i := 0) rfl rfl dX11_isWord_19 ?_
    refine fg_X11_18 hm dX11_isWord_20 ?_
    refine jr_iload_n hm (i := 1) rfl rfl dX11_isWord_23 ?_
    refine jr_iload hm (i := 4) rfl dX11_isWord_24 ?_
    refine jr_iadd hm dX11_isWord_26 ?_
    rw [nI_add]
    refine jr_iaload hm ja_42 (vp_in_nI (by omega) (by omega)) dX11_isWord_27 ?_
    rw [nI_clamp (by omega), h.2.2 (a + j) (by omega)]
    refine jr_aload_n hm (i := 3) rfl rfl dX11_isWord_28 ?_
    refine jr_iload hm (i := 4) rfl dX11_isWord_29 ?_
    refine jr_callK (mc := 0) (ms := 0) (as := [jI (nI j)]) hm hi (c_charAt w hi (by omega)) (by omega) jw_1449 jw_504 jw_505 jw_132 jw_506 jn_J0_charAt_5068e rfl rfl rfl (Nat.le_of_ble_eq_true rfl) rfl dX11_isWord_31 (jkF ?_)
    refine jr_icmp_eq hm (tgt := 39) dX11_isWord_34 (by decide) (fun z => ?_) (fun z => ?_)
    · refine jr_iinc hm (i := 4) rfl (nI_inc _) rfl dX11_isWord_39 ?_
      refine jr_goto hm (tgt := 13) dX11_isWord_42 (by decide) ?_
      refine ih (j + 1) (by omega) ?_
      rw [jalB_succ, Bool.and_eq_true, decide_eq_true_eq]
      exact ⟨hall, z⟩
    · rw [if_neg]
      · refine jr_iconst hm (v := 0) (by decide) dX11_isWord_37 ?_
        exact jr_zreturn hm rfl rfl dX11_isWord_38 ⟨rfl, rfl⟩
      · intro y
        have y2 := (jmtB_iff.mp y).2 j (by omega)
        exact z y2
theorem c_isWord {s : Nat → Nat} {L : Nat} {w : JW} (h : jC0 s L w) {a n i : Nat} (hi : i < 45) (ha : a + n ≤ L) : jF MX11_isWord 4 [jR 41 false, jI (nI a), jI (nI n), jR (100 + i) false] w (jI (if jmtB s a n i = true then 1 else 0)) w := by
  have hL := h.1.1
  have hl := jn_lens i hi
  refine jF_of jp_X11_isWord rfl (Nat.le_of_ble_eq_true rfl) (fun C hm => ?_)
  refine jr_aload_n hm (i := 3) rfl rfl dX11_isWord_0 ?_
  refine jr_callK (mc := 0) (ms := 0) (as := []) (st := []) hm hi (c_slength w hi) (by omega) jw_1448 jw_494 jw_495 jw_132 jw_496 jn_J0_length_8abf5 rfl rfl rfl (Nat.le_of_ble_eq_true rfl) rfl dX11_isWord_1 (jkF ?_)
  refine jr_iload_n hm (i := 2) rfl rfl dX11_isWord_4 ?_
  refine jr_icmp_eq hm (tgt := 10) dX11_isWord_5 (by decide) (fun z => ?_) (fun z => ?_)
  · have z2 := (nI_eqi (by omega) (by omega)).mp z
    refine jr_iconst hm (v := 0) (by decide) dX11_isWord_10 ?_
    refine jr_istore hm (i := 4) (Nat.le_of_ble_eq_true rfl) rfl dX11_isWord_11 ?_
    exact l_isWord h hm hi z2.symm ha n 0 (Nat.zero_add _) rfl
  · rw [if_neg]
    · refine jr_iconst hm (v := 0) (by decide) dX11_isWord_8 ?_
      exact jr_zreturn hm rfl rfl dX11_isWord_9 ⟨rfl, rfl⟩
    · intro y
      exact z (by rw [(jmtB_iff.mp y).1])

