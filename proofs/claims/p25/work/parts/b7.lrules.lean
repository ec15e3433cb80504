theorem dL_num_0 : decode cL_num 0 = .ok (.ldc 41, 2) := by decide +kernel
theorem dL_num_2 : decode cL_num 2 = .ok (.iload_n 0, 1) := by decide +kernel
theorem dL_num_3 : decode cL_num 3 = .ok (.bipush 10, 2) := by decide +kernel
theorem dL_num_5 : decode cL_num 5 = .ok (.irem, 1) := by decide +kernel
theorem dL_num_6 : decode cL_num 6 = .ok (.iload_n 0, 1) := by decide +kernel
theorem dL_num_7 : decode cL_num 7 = .ok (.bipush 10, 2) := by decide +kernel
theorem dL_num_9 : decode cL_num 9 = .ok (.irem, 1) := by decide +kernel
theorem dL_num_10 : decode cL_num 10 = .ok (.iconst 1, 1) := by decide +kernel
theorem dL_num_11 : decode cL_num 11 = .ok (.iadd, 1) := by decide +kernel
theorem dL_num_12 : decode cL_num 12 = .ok (.invokevirtual 43, 3) := by decide +kernel
theorem dL_num_15 : decode cL_num 15 = .ok (.astore_n 1, 1) := by decide +kernel
theorem dL_num_16 : decode cL_num 16 = .ok (.iload_n 0, 1) := by decide +kernel
theorem dL_num_17 : decode cL_num 17 = .ok (.bipush 10, 2) := by decide +kernel
theorem dL_num_19 : decode cL_num 19 = .ok (.if_icmp .ge 7, 3) := by decide +kernel
theorem dL_num_22 : decode cL_num 22 = .ok (.aload_n 1, 1) := by decide +kernel
theorem dL_num_23 : decode cL_num 23 = .ok (.goto 27, 3) := by decide +kernel
theorem dL_num_26 : decode cL_num 26 = .ok (.new 47, 3) := by decide +kernel
theorem dL_num_29 : decode cL_num 29 = .ok (.dup, 1) := by decide +kernel
theorem dL_num_30 : decode cL_num 30 = .ok (.invokespecial 49, 3) := by decide +kernel
theorem dL_num_33 : decode cL_num 33 = .ok (.iload_n 0, 1) := by decide +kernel
theorem dL_num_34 : decode cL_num 34 = .ok (.bipush 10, 2) := by decide +kernel
theorem dL_num_36 : decode cL_num 36 = .ok (.idiv, 1) := by decide +kernel
theorem dL_num_37 : decode cL_num 37 = .ok (.invokestatic 50, 3) := by decide +kernel
theorem dL_num_40 : decode cL_num 40 = .ok (.invokevirtual 54, 3) := by decide +kernel
theorem dL_num_43 : decode cL_num 43 = .ok (.aload_n 1, 1) := by decide +kernel
theorem dL_num_44 : decode cL_num 44 = .ok (.invokevirtual 54, 3) := by decide +kernel
theorem dL_num_47 : decode cL_num 47 = .ok (.invokevirtual 58, 3) := by decide +kernel
theorem dL_num_50 : decode cL_num 50 = .ok (.areturn, 1) := by decide +kernel
abbrev ML_num : JM := (cL_num, 2, RL, (some (.object "java/lang/String")), yL_num)
theorem jn_L_num : jnm ML_num 1 := by decide +kernel
theorem jp_L_num : plainName ML_num.2.2.2.2.cls = true := by decide +kernel
theorem jw_733 : Cond.classLink RL 47 RJ4 ∈ jGL := jmem 733 (by decide +kernel) rfl
theorem jw_734 : Cond.instantiable RJ4 4 ∈ jGL := jmem 734 (by decide +kernel) rfl
theorem jw_735 : Cond.methodLink RL 49 yJ4_init_da8c8 ∈ jGL := jmem 735 (by decide +kernel) rfl
theorem jw_736 : Cond.instanceMethod yJ4_init_da8c8 ∈ jGL := jmem 736 (by decide +kernel) rfl
theorem jw_737 : Cond.code yJ4_init_da8c8 cJ4_init_da8c8 1 none ∈ jGL := jmem 737 (by decide +kernel) rfl
theorem jw_765 : Cond.methodLink RL 54 yJ4_append_15ec4 ∈ jGL := jmem 765 (by decide +kernel) rfl
theorem jw_766 : Cond.instanceMethod yJ4_append_15ec4 ∈ jGL := jmem 766 (by decide +kernel) rfl
theorem jw_768 : Cond.code yJ4_append_15ec4 cJ4_append_15ec4 2 (some (.object "java/lang/StringBuilder")) ∈ jGL := jmem 768 (by decide +kernel) rfl
theorem jw_767 : Cond.selects RJ4 yJ4_append_15ec4 yJ4_append_15ec4 ∈ jGL := jmem 767 (by decide +kernel) rfl
theorem jw_948 : Cond.methodLink RL 58 yJ4_toString_0e30d ∈ jGL := jmem 948 (by decide +kernel) rfl
theorem jw_949 : Cond.instanceMethod yJ4_toString_0e30d ∈ jGL := jmem 949 (by decide +kernel) rfl
theorem jw_951 : Cond.code yJ4_toString_0e30d cJ4_toString_0e30d 1 (some (.object "java/lang/String")) ∈ jGL := jmem 951 (by decide +kernel) rfl
theorem jw_950 : Cond.selects RJ4 yJ4_toString_0e30d yJ4_toString_0e30d ∈ jGL := jmem 950 (by decide +kernel) rfl
theorem jw_888 : Cond.methodLink RL 43 yJ0_substring_37a41 ∈ jGL := jmem 888 (by decide +kernel) rfl
theorem jw_889 : Cond.instanceMethod yJ0_substring_37a41 ∈ jGL := jmem 889 (by decide +kernel) rfl
theorem jw_891 : Cond.code yJ0_substring_37a41 cJ0_substring_37a41 5 (some (.object "java/lang/String")) ∈ jGL := jmem 891 (by decide +kernel) rfl
theorem jw_890 : Cond.selects RJ0 yJ0_substring_37a41 yJ0_substring_37a41 ∈ jGL := jmem 890 (by decide +kernel) rfl
theorem jw_884 : Cond.methodLink RL 50 yL_num ∈ jGL := jmem 884 (by decide +kernel) rfl
theorem jw_885 : Cond.static yL_num ∈ jGL := jmem 885 (by decide +kernel) rfl
theorem jw_886 : Cond.code yL_num cL_num 2 (some (.object "java/lang/String")) ∈ jGL := jmem 886 (by decide +kernel) rfl
/-! cells in another order, fewer: lists that are variables -/
theorem vL {X Y : va_W} {k : Nat} {q : Nat × va_E} (h : X[k]? = some q) : (X ++ Y)[k]? = some q := by
  rw [List.getElem?_append_left (List.getElem?_eq_some_iff.mp h).1]
  exact h
theorem vR {X Y : va_W} {k : Nat} {q : Nat × va_E} (h : Y[k]? = some q) : (X ++ Y)[X.length + k]? = some q := by
  rw [List.getElem?_append_right (Nat.le_add_right _ _), Nat.add_sub_cancel_left]
  exact h
theorem vP_l {D : va_G} {cl : List vw_C} {H : Heap} {X Y : va_W} (h : va_P D cl (X ++ Y) H) : va_P D cl X H := fun k q hq => h k q (vL hq)
theorem vP_r {D : va_G} {cl : List vw_C} {H : Heap} {X Y : va_W} (h : va_P D cl (X ++ Y) H) : va_P D cl Y H := fun k q hq => h (X.length + k) q (vR hq)
theorem vD_l {A : Nat → Prop} {X Y : va_W} (h : va_D A (X ++ Y)) : va_D A X := ⟨fun i j p q hi hj e => h.1 i j p q (vL hi) (vL hj) e, fun k q hq => h.2 k q (vL hq)⟩
theorem vD_r {A : Nat → Prop} {X Y : va_W} (h : va_D A (X ++ Y)) : va_D A Y := ⟨fun i j p q hi hj e => by have := h.1 _ _ p q (vR hi) (vR hj) e; omega, fun k q hq => h.2 _ q (vR hq)⟩
theorem vD_x {A : Nat → Prop} {X Y : va_W} (h : va_D A (X ++ Y)) {i j : Nat} {p q : Nat × va_E} (hi : X[i]? = some p) (hj : Y[j]? = some q) : p.1 ≠ q.1 := by
  intro e
  have := h.1 _ _ p q (vL hi) (vR hj) e
  have := (List.getElem?_eq_some_iff.mp hi).1
  omega
theorem vX {X Y : va_W} {i : Nat} {p : Nat × va_E} (h : (X ++ Y)[i]? = some p) : (∃ j : Nat, X[j]? = some p) ∨ ∃ j : Nat, Y[j]? = some p := by
  by_cases q : i < X.length
  · rw [List.getElem?_append_left q] at h
    exact Or.inl ⟨i, h⟩
  · rw [List.getElem?_append_right (by omega)] at h
    exact Or.inr ⟨_, h⟩
theorem jg_swap {C : JC} {cl sl : Nat} {Q : State → Prop} {pc : Nat} {ls st : List JV} {X Y Z : va_W} (k : jG C cl sl Q pc ls st ((X ++ Z) ++ Y)) : jG C cl sl Q pc ls st ((X ++ Y) ++ Z) := by
  intro H locs a h1 h2 h3 hl
  refine k H locs a ((vP_l (vP_l h1)).app (vP_r h1) |>.app (vP_r (vP_l h1))) ?_ h3 hl
  refine va_D.app (va_D.app (vD_l (vD_l h2)) (vD_r h2) (fun i j p q hi hj => vD_x h2 (vL hi) hj)) (vD_r (vD_l h2)) (fun i j p q hi hj e => ?_)
  rcases vX hi with ⟨i2, hi2⟩ | ⟨i2, hi2⟩
  · exact vD_x (vD_l h2) hi2 hj e
  · exact vD_x h2 (vR hj) hi2 e.symm
theorem jg_take {C : JC} {cl sl : Nat} {Q : State → Prop} {pc : Nat} {ls st : List JV} {X Y : va_W} (k : jG C cl sl Q pc ls st X) : jG C cl sl Q pc ls st (X ++ Y) := fun H locs a h1 h2 h3 hl => k H locs a (vP_l h1) (vD_l h2) h3 hl
theorem jg_subR {C : JC} {cl sl : Nat} {Q : State → Prop} {pc : Nat} {ls st : List JV} {X Y Y2 : va_W} (is : List Nat) (hs : is.map (fun i => Y[i]?) = Y2.map some) (hn : va_nd is = true) (k : jG C cl sl Q pc ls st (X ++ Y2)) : jG C cl sl Q pc ls st (X ++ Y) := by
  intro H locs a h1 h2 h3 hl
  have at' : ∀ (j : Nat) (q : Nat × va_E), Y2[j]? = some q → ∃ i : Nat, Y[i]? = some q := by
    intro j q hq
    have e1 : (is.map (fun i => Y[i]?))[j]? = some (some q) := by rw [hs, List.getElem?_map, hq]; rfl
    rw [List.getElem?_map] at e1
    cases hi : is[j]? with
    | none => rw [hi] at e1; cases e1
    | some i =>
      rw [hi] at e1
      exact ⟨i, Option.some.inj e1⟩
  refine k H locs a ((vP_l h1).app (fun j q hq => ?_)) (va_D.app (vD_l h2) ((vD_r h2).sub is hn hs) (fun i j p q hi hj => ?_)) h3 hl
  · obtain ⟨i, hi⟩ := at' j q hq
    exact vP_r h1 i q hi
  · obtain ⟨i2, hi2⟩ := at' j q hj
    exact vD_x h2 hi hi2
theorem jg_dropM {C : JC} {cl sl : Nat} {Q : State → Prop} {pc : Nat} {ls st : List JV} {X Y Z : va_W} (k : jG C cl sl Q pc ls st (X ++ Z)) : jG C cl sl Q pc ls st ((X ++ Y) ++ Z) := jg_swap (jg_take k)
/-! what the law does with texts -/
/-- a text of the law's: its bytes, its cell -/
abbrev jStC (cs : Nat → ClassId) (q v : Nat) (t : List Nat) (f : Nat → Int32) : va_W := [(v, .inl (cs 1, t.length, .inl f)), (q, .inr (0, [.ref v, .int 0, .int 0, .int 0]))]
def jFt (t : List Nat) (f : Nat → Int32) : Prop := ∀ j, j < t.length → f j = nI (t.getD j 0)
theorem jTa_str {C : JC} {X Y : va_W} {q v : Nat} {t : List Nat} {f : Nat → Int32} (h : jFt t f) : jTa C ((X ++ jStC (jcs C) q v t f) ++ Y) (some (q, v, t)) := jTa_cell (X.length + 1) (X.length + 0) (vL (vR rfl)) (vL (vR rfl)) h
theorem jl_new {C : JC} {mb : ByteArray} {ml : Nat} {mr : Option FieldType} {my : MethodName} {d mc ms cl sl : Nat} {Q : State → Prop} {pc : Nat} {ls st : List JV} {X : va_W} (hm : jokT C (mb, ml, RL, mr, my) d mc ms) (hq : jFq (jS C)) (hd : 3 ≤ d) (hc : cl + 2 ≤ mc) (hs : sl + 20 ≤ ms) (hln : ls.length = ml) (hcat : ∀ h : Nat, jcats (jR h false :: st) ≤ 8) (h0 : decode mb pc = .ok (.new 47, 3)) (h3 : decode mb (pc + 3) = .ok (.dup, 1)) (h4 : decode mb (pc + 4) = .ok (.invokespecial 49, 3)) (k : ∀ h v : Nat, jG C (cl + 2) (sl + 20) Q (pc + 7) ls (jR h false :: st) (X ++ jBd (jcs C) h v 16 0 (fun _ => 0))) : jG C cl sl Q pc ls st X := by
  refine jg_new hm.1 (ty := tyJ4) (fs := [.null, .int 0, .int 0, .int 0]) (ci := 1) jin_J4 tyJ4_ok jw_733 jw_734 jw_58 rfl df_J4 (by omega) (by omega) h0 (fun h => ?_)
  refine jg_dup hm.1 h3 ?_
  refine jt_callI (sl := sl + 4) (wr := X) (as := []) (st := jR h false :: st) hm (t_binit (xs := (jS C).2.2.2.1) (o := none)) rfl ⟨rfl, hq⟩ jTa_none (by omega) (by omega) (by omega) jw_735 jw_736 jw_58 jw_737 jn_J4_init_da8c8 rfl rfl rfl (hcat h) hln h4 ?_
  rintro _ _ ⟨rfl, v, rfl⟩
  exact k h v
theorem jBT0 : jBT 16 (fun _ => 0) [] := ⟨Nat.zero_le _, by omega, fun j hj => absurd hj (Nat.not_lt_zero j), sb_fit0⟩
theorem jl_app {C : JC} {mb : ByteArray} {ml : Nat} {mr : Option FieldType} {my : MethodName} {d mc ms cl sl B L : Nat} {Q : State → Prop} {pc : Nat} {ls st : List JV} {X : va_W} (hm : jokT C (mb, ml, RL, mr, my) d mc ms) (hq : jFq (jS C)) {ht hv : Nat} {t u : List Nat} {h v m : Nat} {f : Nat → Int32} (hB : jBT m f u) (hu : u.length ≤ B) (hL : t.length ≤ L) (hBL : B + L ≤ 1000) (ha : ∀ x ∈ t, x < 128) (hta : jTa C X (some (ht, hv, t))) (hd : 6 ≤ d) (hc : cl + 1 ≤ mc) (hs : sl + 4000 ≤ ms) (hln : ls.length = ml) (hcat : jcats st ≤ 8) (h0 : decode mb pc = .ok (.invokevirtual 54, 3))
    (k : ∀ (v2 m2 : Nat) (f2 : Nat → Int32), jBT m2 f2 (u ++ t) → (u ++ t).length ≤ B + L → jG C (cl + 1) (sl + 4000) Q (pc + 3) ls (jR h false :: st) (X ++ jBd (jcs C) h v2 m2 (u ++ t).length f2)) : jG C cl sl Q pc ls (jR ht false :: jR h false :: st) (X ++ jBd (jcs C) h v m u.length f) := by
  refine jt_callV (wr := X) (as := [jR ht false]) (st := st) hm (t_append (xs := (jS C).2.2.2.1) (h2 := ht) (v2 := hv) (v := v) hB (by omega) ha) rfl ⟨rfl, hq⟩ hta (jRv_cell hm (i := X.length + 0) (vR rfl) rfl) (by omega) hc hs jw_765 jw_766 (hm.1.hts _ jw_767) jw_58 jw_768 jn_J4_append_15ec4 rfl rfl hcat hln h0 ?_
  rintro _ _ ⟨rfl, v2, m2, f2, rfl, hB2⟩
  exact k v2 m2 f2 hB2 (by rw [List.length_append]; omega)
/-- a constant is appended -/
theorem jl_capp {C : JC} {mb : ByteArray} {ml : Nat} {mr : Option FieldType} {my : MethodName} {d mc ms cl sl B L : Nat} {Q : State → Prop} {pc : Nat} {ls st : List JV} {X : va_W} (hm : jokT C (mb, ml, RL, mr, my) d mc ms) (hq : jFq (jS C)) (i : Nat) {index : Nat} {u : List Nat} {h v m : Nat} {f : Nat → Int32} (hB : jBT m f u) (hu : u.length ≤ B) (hi : i < 23) (ho : jn_o.getD i "" = RL) (hx : jn_i.getD i 0 = index) (hL : (jkt i).length ≤ L) (hBL : B + L ≤ 1000) (hd : 6 ≤ d) (hc : cl + 1 ≤ mc) (hs : sl + 4000 ≤ ms) (hln : ls.length = ml) (hcat : jcats st ≤ 8) (h0 : decode mb pc = .ok (.ldc index, 2)) (h2 : decode mb (pc + 2) = .ok (.invokevirtual 54, 3))
    (k : ∀ (v2 m2 : Nat) (f2 : Nat → Int32), jBT m2 f2 (u ++ jkt i) → (u ++ jkt i).length ≤ B + L → jG C (cl + 1) (sl + 4000) Q (pc + 5) ls (jR h false :: st) (X ++ jBd (jcs C) h v2 m2 (u ++ jkt i).length f2)) : jG C cl sl Q pc ls (jR h false :: st) (X ++ jBd (jcs C) h v m u.length f) := by
  refine jt_ldcS hm i hi ho hx h0 ?_
  exact jl_app hm hq hB hu hL hBL (jkt_ok i hi).2.2 (jTa_const i hi) hd hc hs hln hcat h2 k
/-- the builder's text -/
theorem jl_str {C : JC} {mb : ByteArray} {ml : Nat} {mr : Option FieldType} {my : MethodName} {d mc ms cl sl : Nat} {Q : State → Prop} {pc : Nat} {ls st : List JV} {X : va_W} (hm : jokT C (mb, ml, RL, mr, my) d mc ms) (hq : jFq (jS C)) {u : List Nat} {h v m : Nat} {f : Nat → Int32} (hB : jBT m f u) (hd : 6 ≤ d) (hc : cl + 2 ≤ mc) (hs : sl + 4004 ≤ ms) (hln : ls.length = ml) (hcat : jcats st ≤ 8) (h0 : decode mb pc = .ok (.invokevirtual 58, 3))
    (k : ∀ (q v2 : Nat) (f2 : Nat → Int32), jFt u f2 → jG C (cl + 2) (sl + 4004) Q (pc + 3) ls (jR q false :: st) (X ++ jStC (jcs C) q v2 u f2)) : jG C cl sl Q pc ls (jR h false :: st) (X ++ jBd (jcs C) h v m u.length f) := by
  refine jt_callV (wr := X) (as := []) (st := st) hm (t_toString (xs := (jS C).2.2.2.1) (o := none) (v := v) hB) rfl ⟨rfl, hq⟩ jTa_none (jRv_cell hm (i := X.length + 0) (vR rfl) rfl) (by omega) hc hs jw_948 jw_949 (hm.1.hts _ jw_950) jw_58 jw_951 jn_J4_toString_0e30d rfl rfl hcat hln h0 ?_
  rintro _ _ ⟨q, v2, f2, rfl, rfl, hf⟩
  exact jg_subR (Y2 := jStC (jcs C) q v2 u f2) [3, 0] rfl rfl (k q v2 f2 hf)
/-! a number in digits -/
def kdg (n : Nat) : List Nat := if n < 10 then [48 + n] else [48 + n / 10, 48 + n % 10]
theorem kdg_asc {n : Nat} (h : n < 100) : ∀ x ∈ kdg n, x < 128 := by
  intro x hx
  unfold kdg at hx
  split at hx
  · simp at hx
    omega
  · simp at hx
    omega
theorem kdg_len (n : Nat) : (kdg n).length ≤ 2 := by
  unfold kdg
  split <;> simp
theorem jkt2_len : (jkt 2).length = 10 := by decide +kernel
theorem jkt2_at : ∀ k, k < 10 → (jkt 2).getD k 0 = 48 + k := by decide +kernel
theorem k_num0 {C : JC} {d mc ms n : Nat} {Q : State → Prop} (hm : jokT C ML_num d mc ms) (hq : jFq (jS C)) (hn : n < 1000) (hd : 5 ≤ d) (hc : 2 ≤ mc) (hs : 4004 ≤ ms) (k : ∀ (q v : Nat) (f : Nat → Int32), jFt [48 + n % 10] f → jG C 2 4004 Q 16 [jI (nI n), jR q false] [] (jStC (jcs C) q v [48 + n % 10] f)) : jG C 0 0 Q 0 [jI (nI n), jU] [] [] := by
  refine jt_ldcS hm 2 (by decide) rfl rfl dL_num_0 ?_
  refine jg_iload_n hm.1 (i := 0) rfl rfl dL_num_2 ?_
  refine jg_bipush hm.1 (v := 10) (by decide) dL_num_3 ?_
  refine jg_irem hm.1 (by decide) dL_num_5 ?_
  rw [show nI n - nI n / 10 * 10 = nI (n % 10) from pk_rem (d := 10) (by omega) (by omega) (by omega)]
  refine jg_iload_n hm.1 (i := 0) rfl rfl dL_num_6 ?_
  refine jg_bipush hm.1 (v := 10) (by decide) dL_num_7 ?_
  refine jg_irem hm.1 (by decide) dL_num_9 ?_
  rw [show nI n - nI n / 10 * 10 = nI (n % 10) from pk_rem (d := 10) (by omega) (by omega) (by omega)]
  refine jg_iconst hm.1 (v := 1) (by decide) dL_num_10 ?_
  refine jg_iadd hm.1 dL_num_11 ?_
  rw [nI_1]
  refine jt_callV (wr := []) (as := [jI (nI (n % 10)), jI (nI (n % 10 + 1))]) (st := []) hm (t_substring (xs := (jS C).2.2.2.1) (h := (jS C).1 2) (v := (jS C).2.1 2) (k := n % 10) (t := jkt 2) (by rw [jkt2_len]; omega) (by rw [jkt2_len]; omega) (by rw [jkt2_len]; omega) (jkt_ok 2 (by decide)).2.2) rfl ⟨rfl, hq⟩ (jTa_const 2 (by decide)) (jRv_text hm (jTa_const 2 (by decide))) (by omega) (by omega) (by omega) jw_888 jw_889 (hm.1.hts _ jw_890) jw_59 jw_891 jn_J0_substring_37a41 rfl rfl (Nat.le_of_ble_eq_true rfl) rfl dL_num_12 ?_
  rintro _ _ ⟨q, v2, f2, rfl, rfl, g1⟩
  refine jg_astore_n hm.1 (i := 1) rfl (Nat.le_of_ble_eq_true rfl) rfl dL_num_15 ?_
  rw [jkt2_at _ (by omega)] at g1
  exact k q v2 f2 (fun j hj => by
    obtain rfl : j = 0 := by simp at hj; omega
    exact g1)
theorem t_num1 {xs : JS0} {o : Option (Nat × (Nat × List Nat))} {n : Nat} (hn : n < 10) : jSG ML_num 5 2 4004 [jI (nI n)] (xs, o) (fun _ => []) (fun cs r X => ∃ (q v : Nat) (f : Nat → Int32), r = jR q false ∧ X = jStC cs q v (kdg n) f ∧ jFt (kdg n) f) := by
  refine jSG_of jp_L_num rfl (Nat.le_of_ble_eq_true rfl) (fun C hm hS hi => ?_)
  have hT := jsx_t hS.1
  have hX := (jsx_x hS.1).symm
  refine k_num0 hm hS.2 (by omega) (by omega) (by omega) (by omega) (fun q v f hf => ?_)
  have e : kdg n = [48 + n % 10] := by
    unfold kdg
    rw [if_pos hn, Nat.mod_eq_of_lt hn]
  refine jg_iload_n hm.1 (i := 0) rfl rfl dL_num_16 ?_
  refine jg_bipush hm.1 (v := 10) (by decide) dL_num_17 ?_
  refine jg_icmp_ge hm.1 (tgt := 26) dL_num_19 (by decide) (fun z => absurd z (nI_ge (b := 10) hn (by omega))) (fun _ => ?_)
  refine jg_aload_n hm.1 (i := 1) rfl rfl dL_num_22 ?_
  refine jg_goto hm.1 (tgt := 50) dL_num_23 (by decide) ?_
  exact jt_aret hm rfl (Or.inl ⟨_, rfl⟩) (Nat.le_of_ble_eq_true rfl) (Nat.le_of_ble_eq_true rfl) dL_num_50 ⟨q, v, f, rfl, by rw [e], by rw [e]; exact hf⟩
theorem t_num {xs : JS0} {o : Option (Nat × (Nat × List Nat))} {n : Nat} (hn : n < 100) : jSG ML_num 6 10 20200 [jI (nI n)] (xs, o) (fun _ => []) (fun cs r X => ∃ (q v : Nat) (f : Nat → Int32), r = jR q false ∧ X = jStC cs q v (kdg n) f ∧ jFt (kdg n) f) := by
  refine jSG_of jp_L_num rfl (Nat.le_of_ble_eq_true rfl) (fun C hm hS hi => ?_)
  have hT := jsx_t hS.1
  have hX := (jsx_x hS.1).symm
  refine k_num0 hm hS.2 (by omega) (by omega) (by omega) (by omega) (fun q v f hf => ?_)
  refine jg_iload_n hm.1 (i := 0) rfl rfl dL_num_16 ?_
  refine jg_bipush hm.1 (v := 10) (by decide) dL_num_17 ?_
  refine jg_icmp_ge hm.1 (tgt := 26) dL_num_19 (by decide) (fun z => ?_) (fun z => ?_)
  · have h10 : 10 ≤ n := (nI_leI (a := 10) (by omega) (by omega)).mp z
    have e : kdg n = ([] ++ kdg (n / 10)) ++ [48 + n % 10] := by
      unfold kdg
      rw [if_neg (by omega), if_pos (by omega)]
      rfl
    refine jl_new hm hS.2 (by omega) (by omega) (by omega) rfl (fun _ => (Nat.le_of_ble_eq_true rfl)) dL_num_26 dL_num_29 dL_num_30 (fun h v0 => ?_)
    refine jg_iload_n hm.1 (i := 0) rfl rfl dL_num_33 ?_
    refine jg_bipush hm.1 (v := 10) (by decide) dL_num_34 ?_
    refine jg_idiv hm.1 (by decide) dL_num_36 ?_
    rw [show nI n / 10 = nI (n / 10) from pk_div (d := 10) (by omega) (by omega) (by omega)]
    refine jt_callS (wr := jStC (jcs C) q v [48 + n % 10] f ++ jBd (jcs C) h v0 16 0 (fun _ => 0)) (as := [jI (nI (n / 10))]) (st := [jR h false]) hm (t_num1 (xs := (jS C).2.2.2.1) (o := none) (n := n / 10) (by omega)) rfl ⟨rfl, hS.2⟩ jTa_none (by omega) (by omega) (by omega) jw_884 jw_885 jw_46 jw_886 jn_L_num rfl rfl (Nat.le_of_ble_eq_true rfl) rfl dL_num_37 ?_
    rintro _ _ ⟨q2, v2, f2, rfl, rfl, hf2⟩
    refine jg_swap ?_
    refine jl_app (B := 0) (L := 2) (u := []) hm hS.2 jBT0 (Nat.le_refl _) (kdg_len _) (by omega) (kdg_asc (by omega)) (jTa_cell 3 2 rfl rfl hf2) (by omega) (by omega) (by omega) rfl (Nat.le_of_ble_eq_true rfl) dL_num_40 (fun v3 m3 f3 hB3 hl3 => ?_)
    refine jg_aload_n hm.1 (i := 1) rfl rfl dL_num_43 ?_
    refine jl_app (B := 2) (L := 1) hm hS.2 hB3 hl3 (Nat.le_refl _) (by omega) (t := [48 + n % 10]) (fun x hx => by simp at hx; omega) (jTa_cell 1 0 rfl rfl hf) (by omega) (by omega) (by omega) rfl (Nat.le_of_ble_eq_true rfl) dL_num_44 (fun v4 m4 f4 hB4 hl4 => ?_)
    refine jl_str hm hS.2 hB4 (by omega) (by omega) (by omega) rfl (Nat.le_of_ble_eq_true rfl) dL_num_47 (fun q5 v5 f5 hf5 => ?_)
    refine jg_sub (X2 := jStC (jcs C) q5 v5 (([] ++ kdg (n / 10)) ++ [48 + n % 10]) f5) [4, 5] rfl rfl ?_
    rw [← e]
    rw [← e] at hf5
    exact jt_aret hm rfl (Or.inl ⟨_, rfl⟩) (Nat.le_of_ble_eq_true rfl) (Nat.le_of_ble_eq_true rfl) dL_num_50 ⟨q5, v5, f5, rfl, rfl, hf5⟩
  · have h10 : n < 10 := Nat.not_le.mp fun w => z (nI_le w (by omega))
    have e : kdg n = [48 + n % 10] := by
      unfold kdg
      rw [if_pos h10, Nat.mod_eq_of_lt h10]
    refine jg_aload_n hm.1 (i := 1) rfl rfl dL_num_22 ?_
    refine jg_goto hm.1 (tgt := 50) dL_num_23 (by decide) ?_
    exact jt_aret hm rfl (Or.inl ⟨_, rfl⟩) (Nat.le_of_ble_eq_true rfl) (Nat.le_of_ble_eq_true rfl) dL_num_50 ⟨q, v, f, rfl, by rw [e], by rw [e]; exact hf⟩
/-- a number is appended -/
theorem jl_napp {C : JC} {mb : ByteArray} {ml : Nat} {mr : Option FieldType} {my : MethodName} {d mc ms cl sl B n : Nat} {Q : State → Prop} {pc : Nat} {ls st : List JV} {X : va_W} (hm : jokT C (mb, ml, RL, mr, my) d mc ms) (hq : jFq (jS C)) {u : List Nat} {h v m : Nat} {f : Nat → Int32} (hB : jBT m f u) (hu : u.length ≤ B) (hn : n < 100) (hBL : B + 2 ≤ 1000) (hd : 7 ≤ d) (hc : cl + 11 ≤ mc) (hs : sl + 24200 ≤ ms) (hln : ls.length = ml) (hcat : jcats st ≤ 8) (hcat2 : ∀ h : Nat, jcats (jR h false :: st) ≤ 8) (h0 : decode mb pc = .ok (.invokestatic 50, 3)) (h3 : decode mb (pc + 3) = .ok (.invokevirtual 54, 3))
    (k : ∀ (v2 m2 : Nat) (f2 : Nat → Int32), jBT m2 f2 (u ++ kdg n) → (u ++ kdg n).length ≤ B + 2 → jG C (cl + 11) (sl + 24200) Q (pc + 6) ls (jR h false :: st) (X ++ jBd (jcs C) h v2 m2 (u ++ kdg n).length f2)) : jG C cl sl Q pc ls (jI (nI n) :: jR h false :: st) (X ++ jBd (jcs C) h v m u.length f) := by
  refine jt_callS (wr := X ++ jBd (jcs C) h v m u.length f) (as := [jI (nI n)]) (st := jR h false :: st) hm (t_num (xs := (jS C).2.2.2.1) (o := none) hn) (List.append_nil _).symm ⟨rfl, hq⟩ jTa_none hd (by omega) (by omega) jw_884 jw_885 jw_46 jw_886 jn_L_num rfl rfl (hcat2 h) hln h0 ?_
  rintro _ _ ⟨q2, v2, f2, rfl, rfl, hf2⟩
  refine jg_swap ?_
  refine jl_app (L := 2) hm hq hB hu (kdg_len _) hBL (kdg_asc hn) (jTa_cell (X.length + 1) (X.length + 0) (vR rfl) (vR rfl) hf2) (by omega) (by omega) (by omega) hln hcat h3 (fun v3 m3 f3 hB3 hl3 => ?_)
  exact jg_dropM (k v3 m3 f3 hB3 hl3)
/-- a static method that makes nothing -/
theorem jl_pure {C : JC} {mb : ByteArray} {ml : Nat} {mr : Option FieldType} {my : MethodName} {d mc ms cl sl d2 n index : Nat} {Q : State → Prop} {pc : Nat} {ls st st0 : List JV} {X : va_W} (hm : jokT C (mb, ml, RL, mr, my) d mc ms) (hq : jFq (jS C)) {Mc : JM} {as : List JV} {a : Int32} (hs : jSG Mc d2 0 0 as ((jS C).2.2.2.1, none) (fun _ => []) (fun _ r X => r = jI a ∧ X = [])) (hd2 : d2 + 1 ≤ d) (hc : cl ≤ mc) (hsl : sl ≤ ms)
    (hw1 : Cond.methodLink RL index Mc.2.2.2.2 ∈ jGL) (hw2 : Cond.static Mc.2.2.2.2 ∈ jGL) (hw4 : Cond.initialized Mc.2.2.1 ∈ jGL) (hw5 : Cond.code Mc.2.2.2.2 Mc.1 Mc.2.1 Mc.2.2.2.1 ∈ jGL) (hy : jnm Mc n) (hn : as.length = n) (hst : st0 = as.reverse ++ st) (hcat : jcats st ≤ 8) (hln : ls.length = ml) (hd : decode mb pc = .ok (.invokestatic index, 3)) (k : jG C cl sl Q (pc + 3) ls (jI a :: st) X) : jG C cl sl Q pc ls st0 X := by
  refine jt_callS (wr := X) hm hs (List.append_nil _).symm ⟨rfl, hq⟩ jTa_none hd2 hc hsl hw1 hw2 hw4 hw5 hy hn hst hcat hln hd ?_
  rintro _ _ ⟨rfl, rfl⟩
  rw [List.append_nil]
  exact k

