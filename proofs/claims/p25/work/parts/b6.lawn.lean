theorem dL_below_0 : decode cL_below 0 = .ok (.iload_n 0, 1) := by decide +kernel
theorem dL_below_1 : decode cL_below 1 = .ok (.ldc 7, 2) := by decide +kernel
theorem dL_below_3 : decode cL_below 3 = .ok (.iand, 1) := by decide +kernel
theorem dL_below_4 : decode cL_below 4 = .ok (.iload_n 1, 1) := by decide +kernel
theorem dL_below_5 : decode cL_below 5 = .ok (.irem, 1) := by decide +kernel
theorem dL_below_6 : decode cL_below 6 = .ok (.ireturn, 1) := by decide +kernel
abbrev ML_below : JM := (cL_below, 2, RL, (some .int), yL_below)
theorem jn_L_below : jnm ML_below 2 := by decide +kernel
theorem jp_L_below : plainName ML_below.2.2.2.2.cls = true := by decide +kernel
theorem dL_cell_0 : decode cL_cell 0 = .ok (.iload_n 1, 1) := by decide +kernel
theorem dL_cell_1 : decode cL_cell 1 = .ok (.aload_n 0, 1) := by decide +kernel
theorem dL_cell_2 : decode cL_cell 2 = .ok (.arraylength, 1) := by decide +kernel
theorem dL_cell_3 : decode cL_cell 3 = .ok (.if_icmp .ge 9, 3) := by decide +kernel
theorem dL_cell_6 : decode cL_cell 6 = .ok (.aload_n 0, 1) := by decide +kernel
theorem dL_cell_7 : decode cL_cell 7 = .ok (.iload_n 1, 1) := by decide +kernel
theorem dL_cell_8 : decode cL_cell 8 = .ok (.iaload, 1) := by decide +kernel
theorem dL_cell_9 : decode cL_cell 9 = .ok (.goto 9, 3) := by decide +kernel
theorem dL_cell_12 : decode cL_cell 12 = .ok (.ldc 8, 2) := by decide +kernel
theorem dL_cell_14 : decode cL_cell 14 = .ok (.iload_n 1, 1) := by decide +kernel
theorem dL_cell_15 : decode cL_cell 15 = .ok (.iconst 3, 1) := by decide +kernel
theorem dL_cell_16 : decode cL_cell 16 = .ok (.iadd, 1) := by decide +kernel
theorem dL_cell_17 : decode cL_cell 17 = .ok (.imul, 1) := by decide +kernel
theorem dL_cell_18 : decode cL_cell 18 = .ok (.ireturn, 1) := by decide +kernel
abbrev ML_cell : JM := (cL_cell, 2, RL, (some .int), yL_cell)
theorem jn_L_cell : jnm ML_cell 2 := by decide +kernel
theorem jp_L_cell : plainName ML_cell.2.2.2.2.cls = true := by decide +kernel
theorem dL_mouth_0 : decode cL_mouth 0 = .ok (.iconst 1, 1) := by decide +kernel
theorem dL_mouth_1 : decode cL_mouth 1 = .ok (.aload_n 0, 1) := by decide +kernel
theorem dL_mouth_2 : decode cL_mouth 2 = .ok (.iload_n 1, 1) := by decide +kernel
theorem dL_mouth_3 : decode cL_mouth 3 = .ok (.invokestatic 62, 3) := by decide +kernel
theorem dL_mouth_6 : decode cL_mouth 6 = .ok (.bipush 9, 2) := by decide +kernel
theorem dL_mouth_8 : decode cL_mouth 8 = .ok (.invokestatic 66, 3) := by decide +kernel
theorem dL_mouth_11 : decode cL_mouth 11 = .ok (.iadd, 1) := by decide +kernel
theorem dL_mouth_12 : decode cL_mouth 12 = .ok (.ireturn, 1) := by decide +kernel
abbrev ML_mouth : JM := (cL_mouth, 2, RL, (some .int), yL_mouth)
theorem jn_L_mouth : jnm ML_mouth 2 := by decide +kernel
theorem jp_L_mouth : plainName ML_mouth.2.2.2.2.cls = true := by decide +kernel
theorem dL_deep_0 : decode cL_deep 0 = .ok (.iconst 1, 1) := by decide +kernel
theorem dL_deep_1 : decode cL_deep 1 = .ok (.aload_n 0, 1) := by decide +kernel
theorem dL_deep_2 : decode cL_deep 2 = .ok (.iload_n 1, 1) := by decide +kernel
theorem dL_deep_3 : decode cL_deep 3 = .ok (.invokestatic 62, 3) := by decide +kernel
theorem dL_deep_6 : decode cL_deep 6 = .ok (.iconst 4, 1) := by decide +kernel
theorem dL_deep_7 : decode cL_deep 7 = .ok (.ishr, 1) := by decide +kernel
theorem dL_deep_8 : decode cL_deep 8 = .ok (.iconst 5, 1) := by decide +kernel
theorem dL_deep_9 : decode cL_deep 9 = .ok (.invokestatic 66, 3) := by decide +kernel
theorem dL_deep_12 : decode cL_deep 12 = .ok (.iadd, 1) := by decide +kernel
theorem dL_deep_13 : decode cL_deep 13 = .ok (.ireturn, 1) := by decide +kernel
abbrev ML_deep : JM := (cL_deep, 2, RL, (some .int), yL_deep)
theorem jn_L_deep : jnm ML_deep 2 := by decide +kernel
theorem jp_L_deep : plainName ML_deep.2.2.2.2.cls = true := by decide +kernel
theorem dL_long0_0 : decode cL_long0 0 = .ok (.iconst 1, 1) := by decide +kernel
theorem dL_long0_1 : decode cL_long0 1 = .ok (.aload_n 0, 1) := by decide +kernel
theorem dL_long0_2 : decode cL_long0 2 = .ok (.iconst 2, 1) := by decide +kernel
theorem dL_long0_3 : decode cL_long0 3 = .ok (.iload_n 1, 1) := by decide +kernel
theorem dL_long0_4 : decode cL_long0 4 = .ok (.iadd, 1) := by decide +kernel
theorem dL_long0_5 : decode cL_long0 5 = .ok (.invokestatic 62, 3) := by decide +kernel
theorem dL_long0_8 : decode cL_long0 8 = .ok (.bipush 40, 2) := by decide +kernel
theorem dL_long0_10 : decode cL_long0 10 = .ok (.invokestatic 66, 3) := by decide +kernel
theorem dL_long0_13 : decode cL_long0 13 = .ok (.iadd, 1) := by decide +kernel
theorem dL_long0_14 : decode cL_long0 14 = .ok (.ireturn, 1) := by decide +kernel
abbrev ML_long0 : JM := (cL_long0, 2, RL, (some .int), yL_long0)
theorem jn_L_long0 : jnm ML_long0 2 := by decide +kernel
theorem jp_L_long0 : plainName ML_long0.2.2.2.2.cls = true := by decide +kernel
theorem dL_isReed_0 : decode cL_isReed 0 = .ok (.aload_n 0, 1) := by decide +kernel
theorem dL_isReed_1 : decode cL_isReed 1 = .ok (.iconst 2, 1) := by decide +kernel
theorem dL_isReed_2 : decode cL_isReed 2 = .ok (.iload_n 1, 1) := by decide +kernel
theorem dL_isReed_3 : decode cL_isReed 3 = .ok (.iadd, 1) := by decide +kernel
theorem dL_isReed_4 : decode cL_isReed 4 = .ok (.invokestatic 62, 3) := by decide +kernel
theorem dL_isReed_7 : decode cL_isReed 7 = .ok (.bipush 6, 2) := by decide +kernel
theorem dL_isReed_9 : decode cL_isReed 9 = .ok (.ishr, 1) := by decide +kernel
theorem dL_isReed_10 : decode cL_isReed 10 = .ok (.iconst 2, 1) := by decide +kernel
theorem dL_isReed_11 : decode cL_isReed 11 = .ok (.invokestatic 66, 3) := by decide +kernel
theorem dL_isReed_14 : decode cL_isReed 14 = .ok (.iconst 1, 1) := by decide +kernel
theorem dL_isReed_15 : decode cL_isReed 15 = .ok (.if_icmp .ne 7, 3) := by decide +kernel
theorem dL_isReed_18 : decode cL_isReed 18 = .ok (.iconst 1, 1) := by decide +kernel
theorem dL_isReed_19 : decode cL_isReed 19 = .ok (.goto 4, 3) := by decide +kernel
theorem dL_isReed_22 : decode cL_isReed 22 = .ok (.iconst 0, 1) := by decide +kernel
theorem dL_isReed_23 : decode cL_isReed 23 = .ok (.ireturn, 1) := by decide +kernel
abbrev ML_isReed : JM := (cL_isReed, 2, RL, (some .boolean), yL_isReed)
theorem jn_L_isReed : jnm ML_isReed 2 := by decide +kernel
theorem jp_L_isReed : plainName ML_isReed.2.2.2.2.cls = true := by decide +kernel
theorem dL_high_0 : decode cL_high 0 = .ok (.iconst 1, 1) := by decide +kernel
theorem dL_high_1 : decode cL_high 1 = .ok (.aload_n 0, 1) := by decide +kernel
theorem dL_high_2 : decode cL_high 2 = .ok (.bipush 6, 2) := by decide +kernel
theorem dL_high_4 : decode cL_high 4 = .ok (.iload_n 1, 1) := by decide +kernel
theorem dL_high_5 : decode cL_high 5 = .ok (.iadd, 1) := by decide +kernel
theorem dL_high_6 : decode cL_high 6 = .ok (.invokestatic 62, 3) := by decide +kernel
theorem dL_high_9 : decode cL_high 9 = .ok (.bipush 30, 2) := by decide +kernel
theorem dL_high_11 : decode cL_high 11 = .ok (.invokestatic 66, 3) := by decide +kernel
theorem dL_high_14 : decode cL_high 14 = .ok (.iadd, 1) := by decide +kernel
theorem dL_high_15 : decode cL_high 15 = .ok (.ireturn, 1) := by decide +kernel
abbrev ML_high : JM := (cL_high, 2, RL, (some .int), yL_high)
theorem jn_L_high : jnm ML_high 2 := by decide +kernel
theorem jp_L_high : plainName ML_high.2.2.2.2.cls = true := by decide +kernel
theorem dL_every_0 : decode cL_every 0 = .ok (.iconst 1, 1) := by decide +kernel
theorem dL_every_1 : decode cL_every 1 = .ok (.aload_n 0, 1) := by decide +kernel
theorem dL_every_2 : decode cL_every 2 = .ok (.bipush 6, 2) := by decide +kernel
theorem dL_every_4 : decode cL_every 4 = .ok (.iload_n 1, 1) := by decide +kernel
theorem dL_every_5 : decode cL_every 5 = .ok (.iadd, 1) := by decide +kernel
theorem dL_every_6 : decode cL_every 6 = .ok (.invokestatic 62, 3) := by decide +kernel
theorem dL_every_9 : decode cL_every 9 = .ok (.iconst 5, 1) := by decide +kernel
theorem dL_every_10 : decode cL_every 10 = .ok (.ishr, 1) := by decide +kernel
theorem dL_every_11 : decode cL_every 11 = .ok (.bipush 6, 2) := by decide +kernel
theorem dL_every_13 : decode cL_every 13 = .ok (.invokestatic 66, 3) := by decide +kernel
theorem dL_every_16 : decode cL_every 16 = .ok (.iadd, 1) := by decide +kernel
theorem dL_every_17 : decode cL_every 17 = .ok (.ireturn, 1) := by decide +kernel
abbrev ML_every : JM := (cL_every, 2, RL, (some .int), yL_every)
theorem jn_L_every : jnm ML_every 2 := by decide +kernel
theorem jp_L_every : plainName ML_every.2.2.2.2.cls = true := by decide +kernel
theorem dL_from_0 : decode cL_from 0 = .ok (.aload_n 0, 1) := by decide +kernel
theorem dL_from_1 : decode cL_from 1 = .ok (.bipush 6, 2) := by decide +kernel
theorem dL_from_3 : decode cL_from 3 = .ok (.iload_n 1, 1) := by decide +kernel
theorem dL_from_4 : decode cL_from 4 = .ok (.iadd, 1) := by decide +kernel
theorem dL_from_5 : decode cL_from 5 = .ok (.invokestatic 62, 3) := by decide +kernel
theorem dL_from_8 : decode cL_from 8 = .ok (.bipush 9, 2) := by decide +kernel
theorem dL_from_10 : decode cL_from 10 = .ok (.ishr, 1) := by decide +kernel
theorem dL_from_11 : decode cL_from 11 = .ok (.bipush 20, 2) := by decide +kernel
theorem dL_from_13 : decode cL_from 13 = .ok (.invokestatic 66, 3) := by decide +kernel
theorem dL_from_16 : decode cL_from 16 = .ok (.ireturn, 1) := by decide +kernel
abbrev ML_from : JM := (cL_from, 2, RL, (some .int), yL_from)
theorem jn_L_from : jnm ML_from 2 := by decide +kernel
theorem jp_L_from : plainName ML_from.2.2.2.2.cls = true := by decide +kernel
theorem dL_quietFrom_0 : decode cL_quietFrom 0 = .ok (.aload_n 0, 1) := by decide +kernel
theorem dL_quietFrom_1 : decode cL_quietFrom 1 = .ok (.bipush 8, 2) := by decide +kernel
theorem dL_quietFrom_3 : decode cL_quietFrom 3 = .ok (.invokestatic 62, 3) := by decide +kernel
theorem dL_quietFrom_6 : decode cL_quietFrom 6 = .ok (.bipush 24, 2) := by decide +kernel
theorem dL_quietFrom_8 : decode cL_quietFrom 8 = .ok (.invokestatic 66, 3) := by decide +kernel
theorem dL_quietFrom_11 : decode cL_quietFrom 11 = .ok (.ireturn, 1) := by decide +kernel
abbrev ML_quietFrom : JM := (cL_quietFrom, 1, RL, (some .int), yL_quietFrom)
theorem jn_L_quietFrom : jnm ML_quietFrom 1 := by decide +kernel
theorem jp_L_quietFrom : plainName ML_quietFrom.2.2.2.2.cls = true := by decide +kernel
theorem dL_quietTo_0 : decode cL_quietTo 0 = .ok (.aload_n 0, 1) := by decide +kernel
theorem dL_quietTo_1 : decode cL_quietTo 1 = .ok (.bipush 8, 2) := by decide +kernel
theorem dL_quietTo_3 : decode cL_quietTo 3 = .ok (.invokestatic 62, 3) := by decide +kernel
theorem dL_quietTo_6 : decode cL_quietTo 6 = .ok (.iconst 5, 1) := by decide +kernel
theorem dL_quietTo_7 : decode cL_quietTo 7 = .ok (.ishr, 1) := by decide +kernel
theorem dL_quietTo_8 : decode cL_quietTo 8 = .ok (.bipush 24, 2) := by decide +kernel
theorem dL_quietTo_10 : decode cL_quietTo 10 = .ok (.invokestatic 66, 3) := by decide +kernel
theorem dL_quietTo_13 : decode cL_quietTo 13 = .ok (.ireturn, 1) := by decide +kernel
abbrev ML_quietTo : JM := (cL_quietTo, 1, RL, (some .int), yL_quietTo)
theorem jn_L_quietTo : jnm ML_quietTo 1 := by decide +kernel
theorem jp_L_quietTo : plainName ML_quietTo.2.2.2.2.cls = true := by decide +kernel
theorem dL_mostIn_0 : decode cL_mostIn 0 = .ok (.iconst 5, 1) := by decide +kernel
theorem dL_mostIn_1 : decode cL_mostIn 1 = .ok (.aload_n 0, 1) := by decide +kernel
theorem dL_mostIn_2 : decode cL_mostIn 2 = .ok (.bipush 9, 2) := by decide +kernel
theorem dL_mostIn_4 : decode cL_mostIn 4 = .ok (.invokestatic 62, 3) := by decide +kernel
theorem dL_mostIn_7 : decode cL_mostIn 7 = .ok (.bipush 60, 2) := by decide +kernel
theorem dL_mostIn_9 : decode cL_mostIn 9 = .ok (.invokestatic 66, 3) := by decide +kernel
theorem dL_mostIn_12 : decode cL_mostIn 12 = .ok (.iadd, 1) := by decide +kernel
theorem dL_mostIn_13 : decode cL_mostIn 13 = .ok (.ireturn, 1) := by decide +kernel
abbrev ML_mostIn : JM := (cL_mostIn, 1, RL, (some .int), yL_mostIn)
theorem jn_L_mostIn : jnm ML_mostIn 1 := by decide +kernel
theorem jp_L_mostIn : plainName ML_mostIn.2.2.2.2.cls = true := by decide +kernel
theorem dL_mostSilt_0 : decode cL_mostSilt 0 = .ok (.iconst 1, 1) := by decide +kernel
theorem dL_mostSilt_1 : decode cL_mostSilt 1 = .ok (.aload_n 0, 1) := by decide +kernel
theorem dL_mostSilt_2 : decode cL_mostSilt 2 = .ok (.bipush 9, 2) := by decide +kernel
theorem dL_mostSilt_4 : decode cL_mostSilt 4 = .ok (.invokestatic 62, 3) := by decide +kernel
theorem dL_mostSilt_7 : decode cL_mostSilt 7 = .ok (.bipush 6, 2) := by decide +kernel
theorem dL_mostSilt_9 : decode cL_mostSilt 9 = .ok (.ishr, 1) := by decide +kernel
theorem dL_mostSilt_10 : decode cL_mostSilt 10 = .ok (.bipush 20, 2) := by decide +kernel
theorem dL_mostSilt_12 : decode cL_mostSilt 12 = .ok (.invokestatic 66, 3) := by decide +kernel
theorem dL_mostSilt_15 : decode cL_mostSilt 15 = .ok (.iadd, 1) := by decide +kernel
theorem dL_mostSilt_16 : decode cL_mostSilt 16 = .ok (.ireturn, 1) := by decide +kernel
abbrev ML_mostSilt : JM := (cL_mostSilt, 1, RL, (some .int), yL_mostSilt)
theorem jn_L_mostSilt : jnm ML_mostSilt 1 := by decide +kernel
theorem jp_L_mostSilt : plainName ML_mostSilt.2.2.2.2.cls = true := by decide +kernel
theorem jw_409 : Cond.constant RL 7 2147483647 ∈ jGL := jmem 409 (by decide +kernel) rfl
theorem jw_413 : Cond.constant RL 8 461243603 ∈ jGL := jmem 413 (by decide +kernel) rfl
theorem jw_410 : Cond.methodLink RL 62 yL_cell ∈ jGL := jmem 410 (by decide +kernel) rfl
theorem jw_411 : Cond.static yL_cell ∈ jGL := jmem 411 (by decide +kernel) rfl
theorem jw_46 : Cond.initialized RL ∈ jGL := jmem 46 (by decide +kernel) rfl
theorem jw_412 : Cond.code yL_cell cL_cell 2 (some .int) ∈ jGL := jmem 412 (by decide +kernel) rfl
theorem jw_406 : Cond.methodLink RL 66 yL_below ∈ jGL := jmem 406 (by decide +kernel) rfl
theorem jw_407 : Cond.static yL_below ∈ jGL := jmem 407 (by decide +kernel) rfl
theorem jw_408 : Cond.code yL_below cL_below 2 (some .int) ∈ jGL := jmem 408 (by decide +kernel) rfl
/-! THE LAW's NUMBERS: its script, read -/
abbrev JS0 : Type := Nat × (Nat × (Nat → Int32))
/-- a cell of the script, or what stands for it behind the end -/
def kcl (xs : JS0) (k : Nat) : Int32 := if k < xs.2.1 then xs.2.2 k else 461243603 * (nI k + 3)
def kbl (v : Int32) (n : Nat) : Nat := v.toBitVec.toNat % 2 ^ 31 % n
theorem kbl_lt (v : Int32) {n : Nat} (h : 0 < n) : kbl v n < n := Nat.mod_lt _ h
theorem t_below {xs : JS0} {o : Option (Nat × (Nat × List Nat))} {v : Int32} {n : Nat} (h0 : 0 < n) (hn : n < 2 ^ 31) : jSG ML_below 0 0 0 [jI v, jI (nI n)] (xs, o) (fun _ => []) (fun _ r X => r = jI (nI (kbl v n)) ∧ X = []) := by
  refine jSG_of jp_L_below rfl (Nat.le_of_ble_eq_true rfl) (fun C hm hS hi => ?_)
  have hT := jsx_t hS.1
  have hX := (jsx_x hS.1).symm
  refine jg_iload_n hm.1 (i := 0) rfl rfl dL_below_0 ?_
  refine jg_ldc hm.1 (v := 2147483647) jw_409 dL_below_1 ?_
  refine jg_iand hm.1 dL_below_3 ?_
  refine jg_iload_n hm.1 (i := 1) rfl rfl dL_below_4 ?_
  rw [pk_and v (m := 2147483647) 31 (by decide)]
  refine jg_irem hm.1 (fun z => ?_) dL_below_5 ?_
  · have := (nI_eq (a := n) (b := 0) hn (by omega)).mp z
    omega
  · rw [pk_rem (Nat.mod_lt _ (Nat.two_pow_pos 31)) h0 hn]
    exact jt_iret hm rfl (Nat.le_of_ble_eq_true rfl) (Nat.le_of_ble_eq_true rfl) dL_below_6 ⟨rfl, rfl⟩
theorem t_cell {xs : JS0} {o : Option (Nat × (Nat × List Nat))} {k : Nat} (hk : k < 1000) (hx : xs.2.1 ≤ 260) : jSG ML_cell 0 0 0 [jR xs.1 false, jI (nI k)] (xs, o) (fun _ => []) (fun _ r X => r = jI (kcl xs k) ∧ X = []) := by
  refine jSG_of jp_L_cell rfl (Nat.le_of_ble_eq_true rfl) (fun C hm hS hi => ?_)
  have hT := jsx_t hS.1
  have hX := (jsx_x hS.1).symm
  have hXx : (jS C).2.2.2.1 = (xs.1, xs.2.1, xs.2.2) := hX.symm
  refine jg_iload_n hm.1 (i := 1) rfl rfl dL_cell_0 ?_
  refine jg_aload_n hm.1 (i := 0) rfl rfl dL_cell_1 ?_
  refine jt_xlen hm hXx dL_cell_2 ?_
  refine jg_icmp_ge hm.1 (tgt := 12) dL_cell_3 (by decide) (fun z => ?_) (fun z => ?_)
  · have hz : xs.2.1 ≤ k := (nI_leI (by omega) (by omega)).mp z
    refine jg_ldc hm.1 (v := 461243603) jw_413 dL_cell_12 ?_
    refine jg_iload_n hm.1 (i := 1) rfl rfl dL_cell_14 ?_
    refine jg_iconst hm.1 (v := 3) (by decide) dL_cell_15 ?_
    refine jg_iadd hm.1 dL_cell_16 ?_
    refine jg_imul hm.1 dL_cell_17 ?_
    rw [show (461243603 : Int32) * (nI k + 3) = kcl xs k by unfold kcl; rw [if_neg (by omega)]]
    exact jt_iret hm rfl (Nat.le_of_ble_eq_true rfl) (Nat.le_of_ble_eq_true rfl) dL_cell_18 ⟨rfl, rfl⟩
  · have hz : k < xs.2.1 := Nat.not_le.mp fun q => z (nI_le q (by omega))
    refine jg_aload_n hm.1 (i := 0) rfl rfl dL_cell_6 ?_
    refine jg_iload_n hm.1 (i := 1) rfl rfl dL_cell_7 ?_
    refine jt_xld hm hXx (vp_in_nI hz (by omega)) dL_cell_8 ?_
    refine jg_goto hm.1 (tgt := 18) dL_cell_9 (by decide) ?_
    rw [nI_clamp (by omega), show xs.2.2 k = kcl xs k by unfold kcl; rw [if_pos hz]]
    exact jt_iret hm rfl (Nat.le_of_ble_eq_true rfl) (Nat.le_of_ble_eq_true rfl) dL_cell_18 ⟨rfl, rfl⟩
theorem t_mouth {xs : JS0} {o : Option (Nat × (Nat × List Nat))} {k : Nat} (hk : k < 100) (hx : xs.2.1 ≤ 260) : jSG ML_mouth 1 0 0 [jR xs.1 false, jI (nI k)] (xs, o) (fun _ => []) (fun _ r X => r = jI (nI (1 + kbl (kcl xs k) 9)) ∧ X = []) := by
  refine jSG_of jp_L_mouth rfl (Nat.le_of_ble_eq_true rfl) (fun C hm hS hi => ?_)
  have hT := jsx_t hS.1
  have hX := (jsx_x hS.1).symm
  refine jg_iconst hm.1 (v := 1) (by decide) dL_mouth_0 ?_
  refine jg_aload_n hm.1 (i := 0) rfl rfl dL_mouth_1 ?_
  refine jg_iload_n hm.1 (i := 1) rfl rfl dL_mouth_2 ?_
  refine jt_callS (wr := []) (as := [jR xs.1 false, jI (nI k)]) (st := [jI 1]) hm (t_cell (k := k) (by omega) hx) rfl ⟨hX, hS.2⟩ (jTa_same hT) (by omega) (Nat.le_of_ble_eq_true rfl) (Nat.le_of_ble_eq_true rfl) jw_410 jw_411 jw_46 jw_412 jn_L_cell rfl rfl (Nat.le_of_ble_eq_true rfl) rfl dL_mouth_3 ?_
  rintro _ _ ⟨rfl, rfl⟩
  refine jg_bipush hm.1 (v := 9) (by decide) dL_mouth_6 ?_
  refine jt_callS (wr := []) (as := [jI (kcl xs k), jI (nI 9)]) (st := [jI 1]) hm (t_below (v := (kcl xs k)) (n := 9) (by omega) (by omega)) rfl ⟨hX, hS.2⟩ (jTa_same hT) (by omega) (Nat.le_of_ble_eq_true rfl) (Nat.le_of_ble_eq_true rfl) jw_406 jw_407 jw_46 jw_408 jn_L_below rfl rfl (Nat.le_of_ble_eq_true rfl) rfl dL_mouth_8 ?_
  rintro _ _ ⟨rfl, rfl⟩
  refine jg_iadd hm.1 dL_mouth_11 ?_
  rw [show (1 : Int32) + nI (kbl (kcl xs k) 9) = nI (1 + kbl (kcl xs k) 9) from nI_add 1 _]
  exact jt_iret hm rfl (Nat.le_of_ble_eq_true rfl) (Nat.le_of_ble_eq_true rfl) dL_mouth_12 ⟨rfl, rfl⟩
theorem t_deep {xs : JS0} {o : Option (Nat × (Nat × List Nat))} {k : Nat} (hk : k < 100) (hx : xs.2.1 ≤ 260) : jSG ML_deep 1 0 0 [jR xs.1 false, jI (nI k)] (xs, o) (fun _ => []) (fun _ r X => r = jI (nI (1 + kbl (kcl xs k >>> (4 &&& 31)) 5)) ∧ X = []) := by
  refine jSG_of jp_L_deep rfl (Nat.le_of_ble_eq_true rfl) (fun C hm hS hi => ?_)
  have hT := jsx_t hS.1
  have hX := (jsx_x hS.1).symm
  refine jg_iconst hm.1 (v := 1) (by decide) dL_deep_0 ?_
  refine jg_aload_n hm.1 (i := 0) rfl rfl dL_deep_1 ?_
  refine jg_iload_n hm.1 (i := 1) rfl rfl dL_deep_2 ?_
  refine jt_callS (wr := []) (as := [jR xs.1 false, jI (nI k)]) (st := [jI 1]) hm (t_cell (k := k) (by omega) hx) rfl ⟨hX, hS.2⟩ (jTa_same hT) (by omega) (Nat.le_of_ble_eq_true rfl) (Nat.le_of_ble_eq_true rfl) jw_410 jw_411 jw_46 jw_412 jn_L_cell rfl rfl (Nat.le_of_ble_eq_true rfl) rfl dL_deep_3 ?_
  rintro _ _ ⟨rfl, rfl⟩
  refine jg_iconst hm.1 (v := 4) (by decide) dL_deep_6 ?_
  refine jg_ishr hm.1 dL_deep_7 ?_
  refine jg_iconst hm.1 (v := 5) (by decide) dL_deep_8 ?_
  refine jt_callS (wr := []) (as := [jI (kcl xs k >>> (4 &&& 31)), jI (nI 5)]) (st := [jI 1]) hm (t_below (v := (kcl xs k >>> (4 &&& 31))) (n := 5) (by omega) (by omega)) rfl ⟨hX, hS.2⟩ (jTa_same hT) (by omega) (Nat.le_of_ble_eq_true rfl) (Nat.le_of_ble_eq_true rfl) jw_406 jw_407 jw_46 jw_408 jn_L_below rfl rfl (Nat.le_of_ble_eq_true rfl) rfl dL_deep_9 ?_
  rintro _ _ ⟨rfl, rfl⟩
  refine jg_iadd hm.1 dL_deep_12 ?_
  rw [show (1 : Int32) + nI (kbl (kcl xs k >>> (4 &&& 31)) 5) = nI (1 + kbl (kcl xs k >>> (4 &&& 31)) 5) from nI_add 1 _]
  exact jt_iret hm rfl (Nat.le_of_ble_eq_true rfl) (Nat.le_of_ble_eq_true rfl) dL_deep_13 ⟨rfl, rfl⟩
theorem t_long0 {xs : JS0} {o : Option (Nat × (Nat × List Nat))} {k : Nat} (hk : k < 100) (hx : xs.2.1 ≤ 260) : jSG ML_long0 1 0 0 [jR xs.1 false, jI (nI k)] (xs, o) (fun _ => []) (fun _ r X => r = jI (nI (1 + kbl (kcl xs (2 + k)) 40)) ∧ X = []) := by
  refine jSG_of jp_L_long0 rfl (Nat.le_of_ble_eq_true rfl) (fun C hm hS hi => ?_)
  have hT := jsx_t hS.1
  have hX := (jsx_x hS.1).symm
  refine jg_iconst hm.1 (v := 1) (by decide) dL_long0_0 ?_
  refine jg_aload_n hm.1 (i := 0) rfl rfl dL_long0_1 ?_
  refine jg_iconst hm.1 (v := 2) (by decide) dL_long0_2 ?_
  refine jg_iload_n hm.1 (i := 1) rfl rfl dL_long0_3 ?_
  refine jg_iadd hm.1 dL_long0_4 ?_
  rw [show (2 : Int32) + nI k = nI (2 + k) from nI_add 2 k]
  refine jt_callS (wr := []) (as := [jR xs.1 false, jI (nI (2 + k))]) (st := [jI 1]) hm (t_cell (k := (2 + k)) (by omega) hx) rfl ⟨hX, hS.2⟩ (jTa_same hT) (by omega) (Nat.le_of_ble_eq_true rfl) (Nat.le_of_ble_eq_true rfl) jw_410 jw_411 jw_46 jw_412 jn_L_cell rfl rfl (Nat.le_of_ble_eq_true rfl) rfl dL_long0_5 ?_
  rintro _ _ ⟨rfl, rfl⟩
  refine jg_bipush hm.1 (v := 40) (by decide) dL_long0_8 ?_
  refine jt_callS (wr := []) (as := [jI (kcl xs (2 + k)), jI (nI 40)]) (st := [jI 1]) hm (t_below (v := (kcl xs (2 + k))) (n := 40) (by omega) (by omega)) rfl ⟨hX, hS.2⟩ (jTa_same hT) (by omega) (Nat.le_of_ble_eq_true rfl) (Nat.le_of_ble_eq_true rfl) jw_406 jw_407 jw_46 jw_408 jn_L_below rfl rfl (Nat.le_of_ble_eq_true rfl) rfl dL_long0_10 ?_
  rintro _ _ ⟨rfl, rfl⟩
  refine jg_iadd hm.1 dL_long0_13 ?_
  rw [show (1 : Int32) + nI (kbl (kcl xs (2 + k)) 40) = nI (1 + kbl (kcl xs (2 + k)) 40) from nI_add 1 _]
  exact jt_iret hm rfl (Nat.le_of_ble_eq_true rfl) (Nat.le_of_ble_eq_true rfl) dL_long0_14 ⟨rfl, rfl⟩
theorem t_isReed {xs : JS0} {o : Option (Nat × (Nat × List Nat))} {k : Nat} (hk : k < 100) (hx : xs.2.1 ≤ 260) : jSG ML_isReed 1 0 0 [jR xs.1 false, jI (nI k)] (xs, o) (fun _ => []) (fun _ r X => r = jI (if kbl (kcl xs (2 + k) >>> (6 &&& 31)) 2 = 1 then 1 else 0) ∧ X = []) := by
  refine jSG_of jp_L_isReed rfl (Nat.le_of_ble_eq_true rfl) (fun C hm hS hi => ?_)
  have hT := jsx_t hS.1
  have hX := (jsx_x hS.1).symm
  refine jg_aload_n hm.1 (i := 0) rfl rfl dL_isReed_0 ?_
  refine jg_iconst hm.1 (v := 2) (by decide) dL_isReed_1 ?_
  refine jg_iload_n hm.1 (i := 1) rfl rfl dL_isReed_2 ?_
  refine jg_iadd hm.1 dL_isReed_3 ?_
  rw [show (2 : Int32) + nI k = nI (2 + k) from nI_add 2 k]
  refine jt_callS (wr := []) (as := [jR xs.1 false, jI (nI (2 + k))]) (st := []) hm (t_cell (k := (2 + k)) (by omega) hx) rfl ⟨hX, hS.2⟩ (jTa_same hT) (by omega) (Nat.le_of_ble_eq_true rfl) (Nat.le_of_ble_eq_true rfl) jw_410 jw_411 jw_46 jw_412 jn_L_cell rfl rfl (Nat.le_of_ble_eq_true rfl) rfl dL_isReed_4 ?_
  rintro _ _ ⟨rfl, rfl⟩
  refine jg_bipush hm.1 (v := 6) (by decide) dL_isReed_7 ?_
  refine jg_ishr hm.1 dL_isReed_9 ?_
  refine jg_iconst hm.1 (v := 2) (by decide) dL_isReed_10 ?_
  refine jt_callS (wr := []) (as := [jI (kcl xs (2 + k) >>> (6 &&& 31)), jI (nI 2)]) (st := []) hm (t_below (v := (kcl xs (2 + k) >>> (6 &&& 31))) (n := 2) (by omega) (by omega)) rfl ⟨hX, hS.2⟩ (jTa_same hT) (by omega) (Nat.le_of_ble_eq_true rfl) (Nat.le_of_ble_eq_true rfl) jw_406 jw_407 jw_46 jw_408 jn_L_below rfl rfl (Nat.le_of_ble_eq_true rfl) rfl dL_isReed_11 ?_
  rintro _ _ ⟨rfl, rfl⟩
  refine jg_iconst hm.1 (v := 1) (by decide) dL_isReed_14 ?_
  have hb : kbl (kcl xs (2 + k) >>> (6 &&& 31)) 2 < 2 := kbl_lt _ (by omega)
  refine jg_icmp_ne hm.1 (tgt := 22) dL_isReed_15 (by decide) (fun z => ?_) (fun z => ?_)
  · have z2 : ¬ kbl (kcl xs (2 + k) >>> (6 &&& 31)) 2 = 1 := fun q => z (by rw [q]; rfl)
    rw [if_neg z2]
    refine jg_iconst hm.1 (v := 0) (by decide) dL_isReed_22 ?_
    exact jt_zret hm (Or.inl rfl) rfl rfl (Nat.le_of_ble_eq_true rfl) (Nat.le_of_ble_eq_true rfl) dL_isReed_23 ⟨rfl, rfl⟩
  · have z2 : kbl (kcl xs (2 + k) >>> (6 &&& 31)) 2 = 1 := (nI_eq (b := 1) (by omega) (by omega)).mp z
    rw [if_pos z2]
    refine jg_iconst hm.1 (v := 1) (by decide) dL_isReed_18 ?_
    refine jg_goto hm.1 (tgt := 23) dL_isReed_19 (by decide) ?_
    exact jt_zret hm (Or.inl rfl) rfl rfl (Nat.le_of_ble_eq_true rfl) (Nat.le_of_ble_eq_true rfl) dL_isReed_23 ⟨rfl, rfl⟩
theorem t_high {xs : JS0} {o : Option (Nat × (Nat × List Nat))} {k : Nat} (hk : k < 100) (hx : xs.2.1 ≤ 260) : jSG ML_high 1 0 0 [jR xs.1 false, jI (nI k)] (xs, o) (fun _ => []) (fun _ r X => r = jI (nI (1 + kbl (kcl xs (6 + k)) 30)) ∧ X = []) := by
  refine jSG_of jp_L_high rfl (Nat.le_of_ble_eq_true rfl) (fun C hm hS hi => ?_)
  have hT := jsx_t hS.1
  have hX := (jsx_x hS.1).symm
  refine jg_iconst hm.1 (v := 1) (by decide) dL_high_0 ?_
  refine jg_aload_n hm.1 (i := 0) rfl rfl dL_high_1 ?_
  refine jg_bipush hm.1 (v := 6) (by decide) dL_high_2 ?_
  refine jg_iload_n hm.1 (i := 1) rfl rfl dL_high_4 ?_
  refine jg_iadd hm.1 dL_high_5 ?_
  rw [show (6 : Int32) + nI k = nI (6 + k) from nI_add 6 k]
  refine jt_callS (wr := []) (as := [jR xs.1 false, jI (nI (6 + k))]) (st := [jI 1]) hm (t_cell (k := (6 + k)) (by omega) hx) rfl ⟨hX, hS.2⟩ (jTa_same hT) (by omega) (Nat.le_of_ble_eq_true rfl) (Nat.le_of_ble_eq_true rfl) jw_410 jw_411 jw_46 jw_412 jn_L_cell rfl rfl (Nat.le_of_ble_eq_true rfl) rfl dL_high_6 ?_
  rintro _ _ ⟨rfl, rfl⟩
  refine jg_bipush hm.1 (v := 30) (by decide) dL_high_9 ?_
  refine jt_callS (wr := []) (as := [jI (kcl xs (6 + k)), jI (nI 30)]) (st := [jI 1]) hm (t_below (v := (kcl xs (6 + k))) (n := 30) (by omega) (by omega)) rfl ⟨hX, hS.2⟩ (jTa_same hT) (by omega) (Nat.le_of_ble_eq_true rfl) (Nat.le_of_ble_eq_true rfl) jw_406 jw_407 jw_46 jw_408 jn_L_below rfl rfl (Nat.le_of_ble_eq_true rfl) rfl dL_high_11 ?_
  rintro _ _ ⟨rfl, rfl⟩
  refine jg_iadd hm.1 dL_high_14 ?_
  rw [show (1 : Int32) + nI (kbl (kcl xs (6 + k)) 30) = nI (1 + kbl (kcl xs (6 + k)) 30) from nI_add 1 _]
  exact jt_iret hm rfl (Nat.le_of_ble_eq_true rfl) (Nat.le_of_ble_eq_true rfl) dL_high_15 ⟨rfl, rfl⟩
theorem t_every {xs : JS0} {o : Option (Nat × (Nat × List Nat))} {k : Nat} (hk : k < 100) (hx : xs.2.1 ≤ 260) : jSG ML_every 1 0 0 [jR xs.1 false, jI (nI k)] (xs, o) (fun _ => []) (fun _ r X => r = jI (nI (1 + kbl (kcl xs (6 + k) >>> (5 &&& 31)) 6)) ∧ X = []) := by
  refine jSG_of jp_L_every rfl (Nat.le_of_ble_eq_true rfl) (fun C hm hS hi => ?_)
  have hT := jsx_t hS.1
  have hX := (jsx_x hS.1).symm
  refine jg_iconst hm.1 (v := 1) (by decide) dL_every_0 ?_
  refine jg_aload_n hm.1 (i := 0) rfl rfl dL_every_1 ?_
  refine jg_bipush hm.1 (v := 6) (by decide) dL_every_2 ?_
  refine jg_iload_n hm.1 (i := 1) rfl rfl dL_every_4 ?_
  refine jg_iadd hm.1 dL_every_5 ?_
  rw [show (6 : Int32) + nI k = nI (6 + k) from nI_add 6 k]
  refine jt_callS (wr := []) (as := [jR xs.1 false, jI (nI (6 + k))]) (st := [jI 1]) hm (t_cell (k := (6 + k)) (by omega) hx) rfl ⟨hX, hS.2⟩ (jTa_same hT) (by omega) (Nat.le_of_ble_eq_true rfl) (Nat.le_of_ble_eq_true rfl) jw_410 jw_411 jw_46 jw_412 jn_L_cell rfl rfl (Nat.le_of_ble_eq_true rfl) rfl dL_every_6 ?_
  rintro _ _ ⟨rfl, rfl⟩
  refine jg_iconst hm.1 (v := 5) (by decide) dL_every_9 ?_
  refine jg_ishr hm.1 dL_every_10 ?_
  refine jg_bipush hm.1 (v := 6) (by decide) dL_every_11 ?_
  refine jt_callS (wr := []) (as := [jI (kcl xs (6 + k) >>> (5 &&& 31)), jI (nI 6)]) (st := [jI 1]) hm (t_below (v := (kcl xs (6 + k) >>> (5 &&& 31))) (n := 6) (by omega) (by omega)) rfl ⟨hX, hS.2⟩ (jTa_same hT) (by omega) (Nat.le_of_ble_eq_true rfl) (Nat.le_of_ble_eq_true rfl) jw_406 jw_407 jw_46 jw_408 jn_L_below rfl rfl (Nat.le_of_ble_eq_true rfl) rfl dL_every_13 ?_
  rintro _ _ ⟨rfl, rfl⟩
  refine jg_iadd hm.1 dL_every_16 ?_
  rw [show (1 : Int32) + nI (kbl (kcl xs (6 + k) >>> (5 &&& 31)) 6) = nI (1 + kbl (kcl xs (6 + k) >>> (5 &&& 31)) 6) from nI_add 1 _]
  exact jt_iret hm rfl (Nat.le_of_ble_eq_true rfl) (Nat.le_of_ble_eq_true rfl) dL_every_17 ⟨rfl, rfl⟩
theorem t_from {xs : JS0} {o : Option (Nat × (Nat × List Nat))} {k : Nat} (hk : k < 100) (hx : xs.2.1 ≤ 260) : jSG ML_from 1 0 0 [jR xs.1 false, jI (nI k)] (xs, o) (fun _ => []) (fun _ r X => r = jI (nI (kbl (kcl xs (6 + k) >>> (9 &&& 31)) 20)) ∧ X = []) := by
  refine jSG_of jp_L_from rfl (Nat.le_of_ble_eq_true rfl) (fun C hm hS hi => ?_)
  have hT := jsx_t hS.1
  have hX := (jsx_x hS.1).symm
  refine jg_aload_n hm.1 (i := 0) rfl rfl dL_from_0 ?_
  refine jg_bipush hm.1 (v := 6) (by decide) dL_from_1 ?_
  refine jg_iload_n hm.1 (i := 1) rfl rfl dL_from_3 ?_
  refine jg_iadd hm.1 dL_from_4 ?_
  rw [show (6 : Int32) + nI k = nI (6 + k) from nI_add 6 k]
  refine jt_callS (wr := []) (as := [jR xs.1 false, jI (nI (6 + k))]) (st := []) hm (t_cell (k := (6 + k)) (by omega) hx) rfl ⟨hX, hS.2⟩ (jTa_same hT) (by omega) (Nat.le_of_ble_eq_true rfl) (Nat.le_of_ble_eq_true rfl) jw_410 jw_411 jw_46 jw_412 jn_L_cell rfl rfl (Nat.le_of_ble_eq_true rfl) rfl dL_from_5 ?_
  rintro _ _ ⟨rfl, rfl⟩
  refine jg_bipush hm.1 (v := 9) (by decide) dL_from_8 ?_
  refine jg_ishr hm.1 dL_from_10 ?_
  refine jg_bipush hm.1 (v := 20) (by decide) dL_from_11 ?_
  refine jt_callS (wr := []) (as := [jI (kcl xs (6 + k) >>> (9 &&& 31)), jI (nI 20)]) (st := []) hm (t_below (v := (kcl xs (6 + k) >>> (9 &&& 31))) (n := 20) (by omega) (by omega)) rfl ⟨hX, hS.2⟩ (jTa_same hT) (by omega) (Nat.le_of_ble_eq_true rfl) (Nat.le_of_ble_eq_true rfl) jw_406 jw_407 jw_46 jw_408 jn_L_below rfl rfl (Nat.le_of_ble_eq_true rfl) rfl dL_from_13 ?_
  rintro _ _ ⟨rfl, rfl⟩
  exact jt_iret hm rfl (Nat.le_of_ble_eq_true rfl) (Nat.le_of_ble_eq_true rfl) dL_from_16 ⟨rfl, rfl⟩
theorem t_quietFrom {xs : JS0} {o : Option (Nat × (Nat × List Nat))} (hx : xs.2.1 ≤ 260) : jSG ML_quietFrom 1 0 0 [jR xs.1 false] (xs, o) (fun _ => []) (fun _ r X => r = jI (nI (kbl (kcl xs 8) 24)) ∧ X = []) := by
  refine jSG_of jp_L_quietFrom rfl (Nat.le_of_ble_eq_true rfl) (fun C hm hS hi => ?_)
  have hT := jsx_t hS.1
  have hX := (jsx_x hS.1).symm
  refine jg_aload_n hm.1 (i := 0) rfl rfl dL_quietFrom_0 ?_
  refine jg_bipush hm.1 (v := 8) (by decide) dL_quietFrom_1 ?_
  refine jt_callS (wr := []) (as := [jR xs.1 false, jI (nI 8)]) (st := []) hm (t_cell (k := 8) (by omega) hx) rfl ⟨hX, hS.2⟩ (jTa_same hT) (by omega) (Nat.le_of_ble_eq_true rfl) (Nat.le_of_ble_eq_true rfl) jw_410 jw_411 jw_46 jw_412 jn_L_cell rfl rfl (Nat.le_of_ble_eq_true rfl) rfl dL_quietFrom_3 ?_
  rintro _ _ ⟨rfl, rfl⟩
  refine jg_bipush hm.1 (v := 24) (by decide) dL_quietFrom_6 ?_
  refine jt_callS (wr := []) (as := [jI (kcl xs 8), jI (nI 24)]) (st := []) hm (t_below (v := (kcl xs 8)) (n := 24) (by omega) (by omega)) rfl ⟨hX, hS.2⟩ (jTa_same hT) (by omega) (Nat.le_of_ble_eq_true rfl) (Nat.le_of_ble_eq_true rfl) jw_406 jw_407 jw_46 jw_408 jn_L_below rfl rfl (Nat.le_of_ble_eq_true rfl) rfl dL_quietFrom_8 ?_
  rintro _ _ ⟨rfl, rfl⟩
  exact jt_iret hm rfl (Nat.le_of_ble_eq_true rfl) (Nat.le_of_ble_eq_true rfl) dL_quietFrom_11 ⟨rfl, rfl⟩
theorem t_quietTo {xs : JS0} {o : Option (Nat × (Nat × List Nat))} (hx : xs.2.1 ≤ 260) : jSG ML_quietTo 1 0 0 [jR xs.1 false] (xs, o) (fun _ => []) (fun _ r X => r = jI (nI (kbl (kcl xs 8 >>> (5 &&& 31)) 24)) ∧ X = []) := by
  refine jSG_of jp_L_quietTo rfl (Nat.le_of_ble_eq_true rfl) (fun C hm hS hi => ?_)
  have hT := jsx_t hS.1
  have hX := (jsx_x hS.1).symm
  refine jg_aload_n hm.1 (i := 0) rfl rfl dL_quietTo_0 ?_
  refine jg_bipush hm.1 (v := 8) (by decide) dL_quietTo_1 ?_
  refine jt_callS (wr := []) (as := [jR xs.1 false, jI (nI 8)]) (st := []) hm (t_cell (k := 8) (by omega) hx) rfl ⟨hX, hS.2⟩ (jTa_same hT) (by omega) (Nat.le_of_ble_eq_true rfl) (Nat.le_of_ble_eq_true rfl) jw_410 jw_411 jw_46 jw_412 jn_L_cell rfl rfl (Nat.le_of_ble_eq_true rfl) rfl dL_quietTo_3 ?_
  rintro _ _ ⟨rfl, rfl⟩
  refine jg_iconst hm.1 (v := 5) (by decide) dL_quietTo_6 ?_
  refine jg_ishr hm.1 dL_quietTo_7 ?_
  refine jg_bipush hm.1 (v := 24) (by decide) dL_quietTo_8 ?_
  refine jt_callS (wr := []) (as := [jI (kcl xs 8 >>> (5 &&& 31)), jI (nI 24)]) (st := []) hm (t_below (v := (kcl xs 8 >>> (5 &&& 31))) (n := 24) (by omega) (by omega)) rfl ⟨hX, hS.2⟩ (jTa_same hT) (by omega) (Nat.le_of_ble_eq_true rfl) (Nat.le_of_ble_eq_true rfl) jw_406 jw_407 jw_46 jw_408 jn_L_below rfl rfl (Nat.le_of_ble_eq_true rfl) rfl dL_quietTo_10 ?_
  rintro _ _ ⟨rfl, rfl⟩
  exact jt_iret hm rfl (Nat.le_of_ble_eq_true rfl) (Nat.le_of_ble_eq_true rfl) dL_quietTo_13 ⟨rfl, rfl⟩
theorem t_mostIn {xs : JS0} {o : Option (Nat × (Nat × List Nat))} (hx : xs.2.1 ≤ 260) : jSG ML_mostIn 1 0 0 [jR xs.1 false] (xs, o) (fun _ => []) (fun _ r X => r = jI (nI (5 + kbl (kcl xs 9) 60)) ∧ X = []) := by
  refine jSG_of jp_L_mostIn rfl (Nat.le_of_ble_eq_true rfl) (fun C hm hS hi => ?_)
  have hT := jsx_t hS.1
  have hX := (jsx_x hS.1).symm
  refine jg_iconst hm.1 (v := 5) (by decide) dL_mostIn_0 ?_
  refine jg_aload_n hm.1 (i := 0) rfl rfl dL_mostIn_1 ?_
  refine jg_bipush hm.1 (v := 9) (by decide) dL_mostIn_2 ?_
  refine jt_callS (wr := []) (as := [jR xs.1 false, jI (nI 9)]) (st := [jI 5]) hm (t_cell (k := 9) (by omega) hx) rfl ⟨hX, hS.2⟩ (jTa_same hT) (by omega) (Nat.le_of_ble_eq_true rfl) (Nat.le_of_ble_eq_true rfl) jw_410 jw_411 jw_46 jw_412 jn_L_cell rfl rfl (Nat.le_of_ble_eq_true rfl) rfl dL_mostIn_4 ?_
  rintro _ _ ⟨rfl, rfl⟩
  refine jg_bipush hm.1 (v := 60) (by decide) dL_mostIn_7 ?_
  refine jt_callS (wr := []) (as := [jI (kcl xs 9), jI (nI 60)]) (st := [jI 5]) hm (t_below (v := (kcl xs 9)) (n := 60) (by omega) (by omega)) rfl ⟨hX, hS.2⟩ (jTa_same hT) (by omega) (Nat.le_of_ble_eq_true rfl) (Nat.le_of_ble_eq_true rfl) jw_406 jw_407 jw_46 jw_408 jn_L_below rfl rfl (Nat.le_of_ble_eq_true rfl) rfl dL_mostIn_9 ?_
  rintro _ _ ⟨rfl, rfl⟩
  refine jg_iadd hm.1 dL_mostIn_12 ?_
  rw [show (5 : Int32) + nI (kbl (kcl xs 9) 60) = nI (5 + kbl (kcl xs 9) 60) from nI_add 5 _]
  exact jt_iret hm rfl (Nat.le_of_ble_eq_true rfl) (Nat.le_of_ble_eq_true rfl) dL_mostIn_13 ⟨rfl, rfl⟩
theorem t_mostSilt {xs : JS0} {o : Option (Nat × (Nat × List Nat))} (hx : xs.2.1 ≤ 260) : jSG ML_mostSilt 1 0 0 [jR xs.1 false] (xs, o) (fun _ => []) (fun _ r X => r = jI (nI (1 + kbl (kcl xs 9 >>> (6 &&& 31)) 20)) ∧ X = []) := by
  refine jSG_of jp_L_mostSilt rfl (Nat.le_of_ble_eq_true rfl) (fun C hm hS hi => ?_)
  have hT := jsx_t hS.1
  have hX := (jsx_x hS.1).symm
  refine jg_iconst hm.1 (v := 1) (by decide) dL_mostSilt_0 ?_
  refine jg_aload_n hm.1 (i := 0) rfl rfl dL_mostSilt_1 ?_
  refine jg_bipush hm.1 (v := 9) (by decide) dL_mostSilt_2 ?_
  refine jt_callS (wr := []) (as := [jR xs.1 false, jI (nI 9)]) (st := [jI 1]) hm (t_cell (k := 9) (by omega) hx) rfl ⟨hX, hS.2⟩ (jTa_same hT) (by omega) (Nat.le_of_ble_eq_true rfl) (Nat.le_of_ble_eq_true rfl) jw_410 jw_411 jw_46 jw_412 jn_L_cell rfl rfl (Nat.le_of_ble_eq_true rfl) rfl dL_mostSilt_4 ?_
  rintro _ _ ⟨rfl, rfl⟩
  refine jg_bipush hm.1 (v := 6) (by decide) dL_mostSilt_7 ?_
  refine jg_ishr hm.1 dL_mostSilt_9 ?_
  refine jg_bipush hm.1 (v := 20) (by decide) dL_mostSilt_10 ?_
  refine jt_callS (wr := []) (as := [jI (kcl xs 9 >>> (6 &&& 31)), jI (nI 20)]) (st := [jI 1]) hm (t_below (v := (kcl xs 9 >>> (6 &&& 31))) (n := 20) (by omega) (by omega)) rfl ⟨hX, hS.2⟩ (jTa_same hT) (by omega) (Nat.le_of_ble_eq_true rfl) (Nat.le_of_ble_eq_true rfl) jw_406 jw_407 jw_46 jw_408 jn_L_below rfl rfl (Nat.le_of_ble_eq_true rfl) rfl dL_mostSilt_12 ?_
  rintro _ _ ⟨rfl, rfl⟩
  refine jg_iadd hm.1 dL_mostSilt_15 ?_
  rw [show (1 : Int32) + nI (kbl (kcl xs 9 >>> (6 &&& 31)) 20) = nI (1 + kbl (kcl xs 9 >>> (6 &&& 31)) 20) from nI_add 1 _]
  exact jt_iret hm rfl (Nat.le_of_ble_eq_true rfl) (Nat.le_of_ble_eq_true rfl) dL_mostSilt_16 ⟨rfl, rfl⟩

