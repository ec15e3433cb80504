theorem dL_height_0 : decode cL_height 0 = .ok (.aload_n 2, 1) := by decide +kernel
theorem dL_height_1 : decode cL_height 1 = .ok (.iconst 0, 1) := by decide +kernel
theorem dL_height_2 : decode cL_height 2 = .ok (.aload_n 0, 1) := by decide +kernel
theorem dL_height_3 : decode cL_height 3 = .ok (.iload_n 1, 1) := by decide +kernel
theorem dL_height_4 : decode cL_height 4 = .ok (.invokevirtual 42, 3) := by decide +kernel
theorem dL_height_7 : decode cL_height 7 = .ok (.i2l, 1) := by decide +kernel
theorem dL_height_8 : decode cL_height 8 = .ok (.lastore, 1) := by decide +kernel
theorem dL_height_9 : decode cL_height 9 = .ok (.goto 6, 3) := by decide +kernel
theorem dL_height_12 : decode cL_height 12 = .ok (.astore_n 3, 1) := by decide +kernel
theorem dL_height_13 : decode cL_height 13 = .ok (.iconst 1, 1) := by decide +kernel
theorem dL_height_14 : decode cL_height 14 = .ok (.ireturn, 1) := by decide +kernel
theorem dL_height_15 : decode cL_height 15 = .ok (.iconst 0, 1) := by decide +kernel
theorem dL_height_16 : decode cL_height 16 = .ok (.ireturn, 1) := by decide +kernel
abbrev ML_height : JM := (cL_height, 4, RL, (some .int), yL_height)
theorem jn_L_height : jnm ML_height 3 := by decide +kernel
theorem jp_L_height : plainName ML_height.2.2.2.2.cls = true := by decide +kernel
theorem jw_1133 : Cond.methodLink RL 42 yX9_height ∈ jGL := jmem 1133 (by decide +kernel) rfl
theorem jw_1134 : Cond.instanceMethod yX9_height ∈ jGL := jmem 1134 (by decide +kernel) rfl
theorem jw_1135 : Cond.selects RX9 yX9_height yX9_height ∈ jGL := jmem 1135 (by decide +kernel) rfl
theorem jw_1136 : Cond.code yX9_height cX9_height 2 (some .int) ∈ jGL := jmem 1136 (by decide +kernel) rfl
theorem jw_1038 : Cond.classLink RL 19 "java/lang/IllegalArgumentException" ∈ jGL := jmem 1038 (by decide +kernel) rfl
/-! the law's wrappers: a call, and a handler that answers a number -/
theorem jloc_stU {ad : JAd} {ls : List JV} {a a2 : Array Slot} {i : Nat} {X : Value} (hl : jloc ad ls a) (hi : i < ls.length) (hn : jnl ls i = true) (h : lv_has a2 ls.length ((i, X) :: (jfl ad ls).filter (fun q => !(q.1 == i) && !(q.1 + 1 == i && q.2.category == 2)))) : jloc ad (ls.set i jU) a2 := by
  refine ⟨by rw [List.length_set]; exact h.1, h.2.1, fun j u hj hu => ?_⟩
  rw [List.getElem?_set] at hj
  by_cases e : i = j
  · subst e
    rw [if_pos rfl, if_pos hi] at hj
    cases hj
    exact absurd rfl hu
  · rw [if_neg e] at hj
    refine h.2.2 (j, jcv ad u) (List.mem_cons_of_mem _ (List.mem_filter.mpr ⟨jfl_in hj hu, ?_⟩))
    simp only [Bool.and_eq_true, Bool.not_eq_true', beq_eq_false_iff_ne, ne_eq, Bool.and_eq_false_iff]
    refine ⟨fun h => e h.symm, ?_⟩
    by_cases e2 : j + 1 = i
    · exact Or.inr (jnl_cat hn hj e2)
    · exact Or.inl e2
/-- the handler's first instruction puts the thing caught away -/
theorem jh_astore {C : JC} {M : JM} {d cl sl : Nat} {Q : State → Prop} {pc i : Nat} {ls : List JV} {w : JW} (hm : jok C M d cl sl) (hlt : i < ls.length) (hn : jnl ls i = true) (hd : decode M.1 pc = .ok (.astore i, 2)) (k : jW C cl sl Q (pc + 2) (ls.set i jU) [] w) (q : Addr) (H : Heap) (locs : List Loc) (a : Array Slot) (hr : jrep C w H locs) (hl : jloc (jad C) ls a) : W (jp C) (jl C) (je C) (jR0 C) (js C) (jm C) (jar C) (jbe C) (jme C) (jco C) H locs cl sl Q (F0 (jm C) pc a [.ref q]) :=
  lv_astore hm.exec hm.code hd (jloc_has hl) hlt rfl (fun a2 h2 => k H locs a2 hr (jloc_stU (X := .ref q) hl hlt hn h2))
theorem jh_astore_n {C : JC} {M : JM} {d cl sl : Nat} {Q : State → Prop} {pc i : Nat} {n : Fin 4} {ls : List JV} {w : JW} (hm : jok C M d cl sl) (hi : (n : Nat) = i) (hlt : i < ls.length) (hn : jnl ls i = true) (hd : decode M.1 pc = .ok (.astore_n n, 1)) (k : jW C cl sl Q (pc + 1) (ls.set i jU) [] w) (q : Addr) (H : Heap) (locs : List Loc) (a : Array Slot) (hr : jrep C w H locs) (hl : jloc (jad C) ls a) : W (jp C) (jl C) (je C) (jR0 C) (js C) (jm C) (jar C) (jbe C) (jme C) (jco C) H locs cl sl Q (F0 (jm C) pc a [.ref q]) :=
  lv_astore_n hm.exec hm.code hd hi (jloc_has hl) hlt rfl (fun a2 h2 => k H locs a2 hr (jloc_stU (X := .ref q) hl hlt hn h2))
/-- THE CONTRACT of a wrapper: it answers, whatever is thrown below it -/
def jSW (M : JM) (hh : List (Nat × Nat × Nat × Nat)) (d mc ms : Nat) (as : List JV) (w : JW) (P : JV → JW → Prop) : Prop :=
  ∀ (l : Launch) (D : va_G) (ad : JAd) (cs : Nat → ClassId) (S : JT) (sz : Nat), l.stackTraces = false → vx_Met l M.2.2.2.2 [Cond.codeWith M.2.2.2.2 M.1 M.2.1 M.2.2.2.1 hh] (jroom d mc ms) (va_Pc (as.map (jcv ad)) (jBX D ad cs S sz w)) (jQc D ad cs (jAd ad sz) P) (fun _ _ _ => False) mc ms (jAd ad sz)
theorem jSW_of {M : JM} {hh : List (Nat × Nat × Nat × Nat)} {d mc ms : Nat} {as : List JV} {w : JW} {P : JV → JW → Prop} (hy : plainName M.2.2.2.2.cls = true) (hc : M.2.2.2.2.cls = M.2.2.1) (hlen : (jent as).length ≤ M.2.1)
    (h : ∀ C : JC, jokW C M hh d mc ms → jW C 0 0 (jQQ C mc ms P) 0 (jentry as M.2.1) [] w) : jSW M hh d mc ms as w P := by
  intro l D ad cs S sz hst
  refine vx_ofWH (cc := M.1) (maxL := M.2.1) (ret := M.2.2.2.1) (hh := hh) hy rfl ?_
  intro p e s m args below meth c s₁ B hml hv
  have htab := vx_table (x := M.2.2.2.2) B (atoms_spec (ws := [Cond.codeWith M.2.2.2.2 M.1 M.2.1 M.2.2.2.1 hh]) B.pre _ List.mem_cons_self)
  obtain ⟨rfl, ⟨hsz, hP, hD, hK, hF, hSs⟩, hX, hZ⟩ := hv
  have hown : s.vm.findClass M.2.2.2.2.cls = some m.cls := findClass_of_methodNamed B.named
  rw [hc] at hown
  subst hsz
  have hl := lv_entry (as.map (jcv ad)) (n := M.2.1) (by rw [jent_len]; exact hlen)
  rw [lg_entry_eq]
  have key := h (p, l, e, jroom d mc ms, s, m, (as.map (jcv ad)).toArray, below, meth, c, D, ad, cs, jAd ad s.heap.size, S)
    ⟨⟨B.exec, B.bytes, hml, hown, B.returns, B.notSynchronized, hK, ⟨hF, hSs⟩, fun q hq => Or.inr hq, Nat.le_refl _, Nat.le_refl _, Nat.le_refl _, Nat.le_refl _⟩, hst, hX, hZ, htab⟩
  refine vx_ret (key s.heap [] _ ⟨hP, ⟨hD.1, fun k q hk => ?_⟩, va_S.rf⟩ ⟨?_, hl.2.1, fun i v hi hv => ?_⟩)
  · simp only [jWs, List.getElem?_map, Option.map_eq_some_iff] at hk
    obtain ⟨o, ho, rfl⟩ := hk
    exact Or.inl ⟨o, List.mem_of_getElem? ho, rfl⟩
  · rw [hl.1]
    unfold jentry
    rw [List.length_append, List.length_replicate]
    omega
  · refine hl.2.2 (i, jcv ad v) ?_
    unfold jentry at hi
    by_cases hlt : i < (jent as).length
    · rw [List.getElem?_append_left hlt] at hi
      have := jent_args (ad := ad) as 0 i v hi hv
      rwa [Nat.zero_add] at this
    · rw [List.getElem?_append_right (by omega)] at hi
      exact absurd (List.eq_of_mem_replicate (List.mem_of_getElem? hi)) hv
/-- what a wrapper with one handler answers -/
def jWr (P : JV → JW → Prop) (PX : String → JW → Prop) (X : String) (v : JV) (w2 : JW) : Prop := (∃ r w1, P (jI r) w1 ∧ v = jI 0 ∧ w2 = jsetL w1 63 0 r.toInt64) ∨ (PX X w2 ∧ v = jI 1)
theorem jcast_ISE : Cond.castable jISE jISE ∈ lw_tbl := List.mem_of_getElem? (i := 966) (by decide +kernel)
theorem jcast_IAE : Cond.castable jIAE jIAE ∈ lw_tbl := List.mem_of_getElem? (i := 1045) (by decide +kernel)
theorem jcast_IOB : Cond.castable jIOB jIOB ∈ lw_tbl := List.mem_of_getElem? (i := 1069) (by decide +kernel)
theorem w_height {w : JW} {P : JV → JW → Prop} {PX : String → JW → Prop} {d : Nat} (x : Int32) (hs : jSX MX9_height d 1 6 [jR 0 false, jI x] w P PX) (hP : ∀ v w', P v w' → ∃ r, v = jI r) (hX : ∀ E w', PX E w' → E = jIAE) : jSW ML_height [(0, 9, 12, 19)] (d + 1) 1 6 [jR 0 false, jI x, jR 63 false] w (jWr P PX jIAE) := by
  refine jSW_of jp_L_height rfl (Nat.le_of_ble_eq_true rfl) (fun C hw => ?_)
  have h6 := hw.1
  have hm : jok C ML_height (d + 1) 0 0 := h6.less (Nat.le_refl _) (Nat.zero_le _) (Nat.zero_le _)
  refine jr_aload_n hm (i := 2) rfl rfl dL_height_0 ?_
  refine jr_iconst hm (v := 0) (by decide) dL_height_1 ?_
  refine jr_aload_n hm (i := 0) rfl rfl dL_height_2 ?_
  refine jr_iload_n hm (i := 1) rfl rfl dL_height_3 ?_
  refine jr_callVX (cl := 0) (sl := 0) (mc := 1) (ms := 6) (as := [jI x]) hw hs (Nat.le_refl _) jw_1133 jw_1134 jw_1135 jw_115 jw_1136 jn_X9_height rfl jo_0 (fun _ _ _ _ _ => ⟨_, rfl⟩) rfl rfl (Nat.le_of_ble_eq_true rfl) rfl dL_height_4 (fun v w2 hp => ?_) (fun E w2 hp => ?_)
  · obtain ⟨r, rfl⟩ := hP v w2 hp
    have hm : jok C ML_height (d + 1) (0 + 1) (0 + 6) := h6
    refine jr_i2l hm dL_height_7 ?_
    refine jr_lastore hm (Or.inr rfl) ja_63 (show vp_in (nI 0) 1 from vp_in_nI (by omega) (by omega)) dL_height_8 ?_
    refine jr_goto hm (tgt := 15) dL_height_9 (by decide) ?_
    refine jr_iconst hm (v := 0) (by decide) dL_height_15 ?_
    exact jr_ireturn hm rfl dL_height_16 (Or.inl ⟨r, w2, hp, rfl, rfl⟩)
  · obtain rfl := hX E w2 hp
    have hm : jok C ML_height (d + 1) (0 + 1) (0 + 6) := h6
    refine jr_catch (cl := 0 + 1) (sl := 0 + 6) hw [] _ [] rfl (fun z hz => absurd hz List.not_mem_nil) rfl (by decide) jw_1038 jcast_IAE (jh_astore_n hm (i := 3) rfl (Nat.le_of_ble_eq_true rfl) rfl dL_height_12 ?_)
    refine jr_iconst hm (v := 1) (by decide) dL_height_13 ?_
    exact jr_ireturn hm rfl dL_height_14 (Or.inr ⟨hp, rfl⟩)

