/-! the law's loop -/
theorem i32_out {y : Int32} (h : y ≠ 0 ∧ y ≠ 1 ∧ y ≠ 2 ∧ y ≠ 3 ∧ y ≠ 4 ∧ y ≠ 5 ∧ y ≠ 6 ∧ y ≠ 7 ∧ y ≠ 8 ∧ y ≠ 9 ∧ y ≠ 10 ∧ y ≠ 11 ∧ y ≠ 12 ∧ y ≠ 13 ∧ y ≠ 14 ∧ y ≠ 15 ∧ y ≠ 16 ∧ y ≠ 17 ∧ y ≠ 18 ∧ y ≠ 19 ∧ y ≠ 20 ∧ y ≠ 21) : y.toInt < 0 ∨ 21 < y.toInt := by
  refine Classical.byContradiction (fun z => ?_)
  have k : ∀ c : Int32, y ≠ c → y.toInt ≠ c.toInt := fun c hc e => hc (Int32.toInt_inj.mp e)
  obtain ⟨h0, h1, h2, h3, h4, h5, h6, h7, h8, h9, h10, h11, h12, h13, h14, h15, h16, h17, h18, h19, h20, h21⟩ := h
  have g0 := k 0 h0
  have g1 := k 1 h1
  have g2 := k 2 h2
  have g3 := k 3 h3
  have g4 := k 4 h4
  have g5 := k 5 h5
  have g6 := k 6 h6
  have g7 := k 7 h7
  have g8 := k 8 h8
  have g9 := k 9 h9
  have g10 := k 10 h10
  have g11 := k 11 h11
  have g12 := k 12 h12
  have g13 := k 13 h13
  have g14 := k 14 h14
  have g15 := k 15 h15
  have g16 := k 16 h16
  have g17 := k 17 h17
  have g18 := k 18 h18
  have g19 := k 19 h19
  have g20 := k 20 h20
  have g21 := k 21 h21
  simp only [show (0 : Int32).toInt = 0 from by decide, show (1 : Int32).toInt = 1 from by decide, show (2 : Int32).toInt = 2 from by decide, show (3 : Int32).toInt = 3 from by decide, show (4 : Int32).toInt = 4 from by decide, show (5 : Int32).toInt = 5 from by decide, show (6 : Int32).toInt = 6 from by decide, show (7 : Int32).toInt = 7 from by decide, show (8 : Int32).toInt = 8 from by decide, show (9 : Int32).toInt = 9 from by decide, show (10 : Int32).toInt = 10 from by decide, show (11 : Int32).toInt = 11 from by decide, show (12 : Int32).toInt = 12 from by decide, show (13 : Int32).toInt = 13 from by decide, show (14 : Int32).toInt = 14 from by decide, show (15 : Int32).toInt = 15 from by decide, show (16 : Int32).toInt = 16 from by decide, show (17 : Int32).toInt = 17 from by decide, show (18 : Int32).toInt = 18 from by decide, show (19 : Int32).toInt = 19 from by decide, show (20 : Int32).toInt = 20 from by decide, show (21 : Int32).toInt = 21 from by decide] at *
  omega
/-- THE LOOP, from any even state of the two -/
theorem jl_loop {C : JC} {b L : Nat} {xs : Nat → Int32} (hm : jok C ML_law 500 600000 7200000) (hE : jLE C) (hS : jScr C b L xs) (hL : L ≤ 3072) {Q : State → Prop} {c0 s0 : Nat} (hc0 : c0 ≤ 1000) (hs0 : s0 ≤ 20000)
    (hend : ∀ q : Drawn, (js C).drawn.sameBut q lw_cs → ∀ (cl sl : Nat) (w : JW), cl ≤ 600000 → sl ≤ 7200000 → jW (jdr C q) cl sl Q 1378 [jU, jU, jU, jU, jU, jU, jU, jU, jU] [] w) :
    ∀ m i : Nat, L ≤ 6 * i + m → i ≤ 512 → ∀ q : Drawn, (js C).drawn.sameBut q lw_cs → ∀ w, jInv i w → jW (jdr C q) (c0 + i) (s0 + 6 * i) Q 23 [jR 97 false, jR 0 false, jR 41 false, jR 63 false, jI (nI (6 * i)), jU, jU, jU, jU] [] w := by
  intro m
  induction m with
  | zero =>
    intro i hi hi5 q hq w hI
    have hmA : jok (jdr C q) ML_law 500 (c0 + i) (s0 + 6 * i) := (hm.dr q).less (Nat.le_refl _) (by omega) (by omega)
    refine jr_iload hmA (i := 4) rfl dL_law_23 (jr_aload_n hmA (i := 0) rfl rfl dL_law_25 (jl_slen hmA (hS.dr q) dL_law_26 (jr_bipush hmA (v := 6) (by decide) dL_law_27 (jr_isub hmA dL_law_29 (jr_icmp_gt hmA (tgt := 1378) dL_law_30 (by decide) (fun z => ?_) (fun z => ?_))))))
    · exact jr_drop (jle_drop (jle_drop (jle_drop (jle_drop (jle_drop (jle_same (jle_same (jle_same (jle_same jle_nil))))))))) (hend q hq _ _ w (by omega) (by omega))
    · refine absurd ?_ z
      rw [Int32.lt_iff_toInt_lt, nI_toInt (by omega), show (6 : Int32) = nI 6 from rfl, pk_sub_toInt (by omega) (by omega)]
      omega
  | succ m ih =>
    intro i hi5 hi512 q hq w hI
    have hmA : jok (jdr C q) ML_law 500 (c0 + i) (s0 + 6 * i) := (hm.dr q).less (Nat.le_refl _) (by omega) (by omega)
    refine jr_iload hmA (i := 4) rfl dL_law_23 (jr_aload_n hmA (i := 0) rfl rfl dL_law_25 (jl_slen hmA (hS.dr q) dL_law_26 (jr_bipush hmA (v := 6) (by decide) dL_law_27 (jr_isub hmA dL_law_29 (jr_icmp_gt hmA (tgt := 1378) dL_law_30 (by decide) (fun z => ?_) (fun z => ?_))))))
    · exact jr_drop (jle_drop (jle_drop (jle_drop (jle_drop (jle_drop (jle_same (jle_same (jle_same (jle_same jle_nil))))))))) (hend q hq _ _ w (by omega) (by omega))
    have hi : 6 * i + 6 ≤ L := by
      rw [Int32.lt_iff_toInt_lt, nI_toInt (by omega), show (6 : Int32) = nI 6 from rfl, pk_sub_toInt (by omega) (by omega)] at z
      omega
    have hmB : jok (jdr C q) ML_law 500 (c0 + i + 1) (s0 + 6 * i + 6) := (hm.dr q).less (Nat.le_refl _) (by omega) (by omega)
    have tail : ∀ q2 : Drawn, (js C).drawn.sameBut q2 lw_cs → ∀ w2, jInv (i + 1) w2 → jW (jdr C q2) (c0 + i + 1) (s0 + 6 * i + 6) Q 1372 [jR 97 false, jR 0 false, jR 41 false, jR 63 false, jI (nI (6 * i)), jU, jU, jU, jU] [] w2 := by
      intro q2 hq2 w2 h2
      have hmC : jok (jdr C q2) ML_law 500 (c0 + i + 1) (s0 + 6 * i + 6) := (hm.dr q2).less (Nat.le_refl _) (by omega) (by omega)
      have k := ih (i + 1) (by omega) (by omega) q2 hq2 w2 h2
      rw [show s0 + 6 * (i + 1) = s0 + 6 * i + 6 by omega, show c0 + (i + 1) = c0 + i + 1 by omega] at k
      refine jr_iinc hmC (i := 4) (v := nI (6 * (i + 1))) rfl ?_ rfl dL_law_1372 (jr_goto hmC (tgt := 23) dL_law_1375 (by decide) k)
      rw [show (Int32.ofInt 6) = nI 6 from by decide, nI_add, show 6 * i + 6 = 6 * (i + 1) by omega]
    refine jr_aload_n hmA (i := 0) rfl rfl dL_law_33 (jr_iload hmA (i := 4) rfl dL_law_34 (jl_sld hmA (hS.dr q) (vp_in_nI (by omega) (by omega)) dL_law_36 (jr_bipush hmA (v := 31) (by decide) dL_law_37 (jr_iand hmA dL_law_39 ?_))))
    generalize xs (nI (6 * i)).toNatClampNeg &&& 31 = y
    by_cases y0 : y = 0
    · subst y0
      exact jr_tab_in hmA (off := 104) (tgt := 144) dL_law_40 (by decide) (by decide) rfl (by decide) (lc_feed hmA hmB (hE.dr q) (hS.dr q) hi hL hI (tail q hq))
    by_cases y1 : y = 1
    · subst y1
      exact jr_tab_in hmA (off := 208) (tgt := 248) dL_law_40 (by decide) (by decide) rfl (by decide) (lc_trim hmA hmB (hE.dr q) (hS.dr q) hi hL hI (tail q hq))
    by_cases y2 : y = 2
    · subst y2
      exact jr_tab_in hmA (off := 264) (tgt := 304) dL_law_40 (by decide) (by decide) rfl (by decide) (lc_teach hmA hmB (hE.dr q) (hS.dr q) hi hL hI (tail q hq))
    by_cases y3 : y = 3
    · subst y3
      exact jr_tab_in hmA (off := 277) (tgt := 317) dL_law_40 (by decide) (by decide) rfl (by decide) (lc_errorAt hmA hmB (hE.dr q) (hS.dr q) hi hL hI (tail q hq))
    by_cases y4 : y = 4
    · subst y4
      exact jr_tab_in hmA (off := 290) (tgt := 330) dL_law_40 (by decide) (by decide) rfl (by decide) (lc_count hmA hmB (hE.dr q) (hS.dr q) hi hL hI (tail q hq))
    by_cases y5 : y = 5
    · subst y5
      exact jr_tab_in hmA (off := 346) (tgt := 386) dL_law_40 (by decide) (by decide) rfl (by decide) (lc_cave hmA hmB (hE.dr q) (hS.dr q) hi hL hI (tail q hq))
    by_cases y6 : y = 6
    · subst y6
      exact jr_tab_in hmA (off := 414) (tgt := 454) dL_law_40 (by decide) (by decide) rfl (by decide) (lc_pipe hmA hmB (hE.dr q) (hS.dr q) hi hL hI (tail q hq))
    by_cases y7 : y = 7
    · subst y7
      exact jr_tab_in hmA (off := 482) (tgt := 522) dL_law_40 (by decide) (by decide) rfl (by decide) (lc_chord hmA hmB (hE.dr q) (hS.dr q) hi hL hI (tail q hq))
    by_cases y8 : y = 8
    · subst y8
      exact jr_tab_in hmA (off := 550) (tgt := 590) dL_law_40 (by decide) (by decide) rfl (by decide) (lc_note hmA hmB (hE.dr q) (hS.dr q) hi hL hI (tail q hq))
    by_cases y9 : y = 9
    · subst y9
      exact jr_tab_in hmA (off := 618) (tgt := 658) dL_law_40 (by decide) (by decide) rfl (by decide) (lc_apart hmA hmB (hE.dr q) (hS.dr q) hi hL hI (tail q hq))
    by_cases y10 : y = 10
    · subst y10
      exact jr_tab_in hmA (off := 686) (tgt := 726) dL_law_40 (by decide) (by decide) rfl (by decide) (lc_height hmA hmB (hE.dr q) (hS.dr q) hi hL hI (tail q hq))
    by_cases y11 : y = 11
    · subst y11
      exact jr_tab_in hmA (off := 742) (tgt := 782) dL_law_40 (by decide) (by decide) rfl (by decide) (lc_isSilent hmA hmB (hE.dr q) (hS.dr q) hi hL hI (tail q hq))
    by_cases y12 : y = 12
    · subst y12
      exact jr_tab_in hmA (off := 805) (tgt := 845) dL_law_40 (by decide) (by decide) rfl (by decide) (lc_setTide hmA hmB (hE.dr q) (hS.dr q) hi hL hI (tail q hq))
    by_cases y13 : y = 13
    · subst y13
      exact jr_tab_in hmA (off := 861) (tgt := 901) dL_law_40 (by decide) (by decide) rfl (by decide) (lc_clean hmA hmB (hE.dr q) (hS.dr q) hi hL hI (tail q hq))
    by_cases y14 : y = 14
    · subst y14
      exact jr_tab_in hmA (off := 917) (tgt := 957) dL_law_40 (by decide) (by decide) rfl (by decide) (lc_cut hmA hmB (hE.dr q) (hS.dr q) hi hL hI (tail q hq))
    by_cases y15 : y = 15
    · subst y15
      exact jr_tab_in hmA (off := 985) (tgt := 1025) dL_law_40 (by decide) (by decide) rfl (by decide) (lc_pass hmA hmB (hE.dr q) (hS.dr q) hi hL hI (tail q hq))
    by_cases y16 : y = 16
    · subst y16
      exact jr_tab_in hmA (off := 1041) (tgt := 1081) dL_law_40 (by decide) (by decide) rfl (by decide) (lc_until hmA hmB (hE.dr q) (hS.dr q) hi hL hI (tail q hq))
    by_cases y17 : y = 17
    · subst y17
      exact jr_tab_in hmA (off := 1097) (tgt := 1137) dL_law_40 (by decide) (by decide) rfl (by decide) (lc_foresee hmA hmB (hE.dr q) (hS.dr q) hi hL hI (tail q hq))
    by_cases y18 : y = 18
    · subst y18
      exact jr_tab_in hmA (off := 1165) (tgt := 1205) dL_law_40 (by decide) (by decide) rfl (by decide) (lc_advise hmA hmB (hE.dr q) (hS.dr q) hi hL hI (tail q hq))
    by_cases y19 : y = 19
    · subst y19
      exact jr_tab_in hmA (off := 1221) (tgt := 1261) dL_law_40 (by decide) (by decide) rfl (by decide) (lc_best hmA hmB (hE.dr q) (hS.dr q) hi hL hI (tail q hq))
    by_cases y20 : y = 20
    · subst y20
      exact jr_tab_in hmA (off := 1277) (tgt := 1317) dL_law_40 (by decide) (by decide) rfl (by decide) (lc_mean hmA hmB (hE.dr q) (hS.dr q) hi hL hI (fun q2 hq2 w2 h2 => tail q2 (hq.trans hq2) w2 h2))
    by_cases y21 : y = 21
    · subst y21
      exact jr_tab_in hmA (off := 1318) (tgt := 1358) dL_law_40 (by decide) (by decide) rfl (by decide) (lc_digest hmA hmB (hE.dr q) (hS.dr q) hi hL hI (tail q hq))
    exact jr_tab_out hmA (tgt := 1372) dL_law_40 (i32_out ⟨y0, y1, y2, y3, y4, y5, y6, y7, y8, y9, y10, y11, y12, y13, y14, y15, y16, y17, y18, y19, y20, y21⟩) (by decide) (jw_widen (Nat.le_add_right _ _) (Nat.le_add_right _ _) (tail q hq w (hI.qu jQu.rf)))
