theorem dL_organ_0 : decode cL_organ 0 = .ok (.new 26, 3) := by decide +kernel
theorem dL_organ_3 : decode cL_organ 3 = .ok (.dup, 1) := by decide +kernel
theorem dL_organ_4 : decode cL_organ 4 = .ok (.invokespecial 145, 3) := by decide +kernel
theorem dL_organ_7 : decode cL_organ 7 = .ok (.astore_n 1, 1) := by decide +kernel
theorem dL_organ_8 : decode cL_organ 8 = .ok (.aload_n 1, 1) := by decide +kernel
theorem dL_organ_9 : decode cL_organ 9 = .ok (.aload_n 0, 1) := by decide +kernel
theorem dL_organ_10 : decode cL_organ 10 = .ok (.invokestatic 146, 3) := by decide +kernel
theorem dL_organ_13 : decode cL_organ 13 = .ok (.invokestatic 150, 3) := by decide +kernel
theorem dL_organ_16 : decode cL_organ 16 = .ok (.aload_n 1, 1) := by decide +kernel
theorem dL_organ_17 : decode cL_organ 17 = .ok (.invokevirtual 154, 3) := by decide +kernel
theorem dL_organ_20 : decode cL_organ 20 = .ok (.pop, 1) := by decide +kernel
theorem dL_organ_21 : decode cL_organ 21 = .ok (.aload_n 1, 1) := by decide +kernel
theorem dL_organ_22 : decode cL_organ 22 = .ok (.aload_n 0, 1) := by decide +kernel
theorem dL_organ_23 : decode cL_organ 23 = .ok (.bipush 10, 2) := by decide +kernel
theorem dL_organ_25 : decode cL_organ 25 = .ok (.invokestatic 62, 3) := by decide +kernel
theorem dL_organ_28 : decode cL_organ 28 = .ok (.bipush 10, 2) := by decide +kernel
theorem dL_organ_30 : decode cL_organ 30 = .ok (.invokestatic 66, 3) := by decide +kernel
theorem dL_organ_33 : decode cL_organ 33 = .ok (.invokevirtual 157, 3) := by decide +kernel
theorem dL_organ_36 : decode cL_organ 36 = .ok (.pop, 1) := by decide +kernel
theorem dL_organ_37 : decode cL_organ 37 = .ok (.aload_n 1, 1) := by decide +kernel
theorem dL_organ_38 : decode cL_organ 38 = .ok (.areturn, 1) := by decide +kernel
abbrev ML_organ : JM := (cL_organ, 2, RL, (some (.object "DriftOrgan")), yL_organ)
theorem jn_L_organ : jnm ML_organ 1 := by decide +kernel
theorem jp_L_organ : plainName ML_organ.2.2.2.2.cls = true := by decide +kernel
theorem jw_1094 : Cond.methodLink RL 154 yX9_teach ∈ jGL := jmem 1094 (by decide +kernel) rfl
theorem jw_1095 : Cond.instanceMethod yX9_teach ∈ jGL := jmem 1095 (by decide +kernel) rfl
theorem jw_1096 : Cond.selects RX9 yX9_teach yX9_teach ∈ jGL := jmem 1096 (by decide +kernel) rfl
theorem jw_1097 : Cond.code yX9_teach cX9_teach 2 (some .int) ∈ jGL := jmem 1097 (by decide +kernel) rfl
theorem jw_417 : Cond.classLink RL 26 RX9 ∈ jGL := jmem 417 (by decide +kernel) rfl
theorem jw_151 : Cond.instantiable RX9 8 ∈ jGL := jmem 151 (by decide +kernel) rfl
theorem jw_418 : Cond.methodLink RL 145 yX9_init ∈ jGL := jmem 418 (by decide +kernel) rfl
theorem jw_419 : Cond.instanceMethod yX9_init ∈ jGL := jmem 419 (by decide +kernel) rfl
theorem jw_420 : Cond.code yX9_init cX9_init 1 none ∈ jGL := jmem 420 (by decide +kernel) rfl
theorem jw_730 : Cond.methodLink RL 146 yL_list ∈ jGL := jmem 730 (by decide +kernel) rfl
theorem jw_731 : Cond.static yL_list ∈ jGL := jmem 731 (by decide +kernel) rfl
theorem jw_732 : Cond.code yL_list cL_list 4 (some (.object "java/lang/String")) ∈ jGL := jmem 732 (by decide +kernel) rfl
theorem jw_1027 : Cond.methodLink RL 150 yL_say ∈ jGL := jmem 1027 (by decide +kernel) rfl
theorem jw_1028 : Cond.static yL_say ∈ jGL := jmem 1028 (by decide +kernel) rfl
theorem jw_1029 : Cond.code yL_say cL_say 4 none ∈ jGL := jmem 1029 (by decide +kernel) rfl
/-! THE ORGAN is made, told and set -/
def kS0 : JT := (fun _ => 0, fun _ => 0, .null, (0, 0, fun _ => 0), none)
theorem jAd_A {ad : JAd} {cs : Nat → ClassId} {w : JW} {sz : Nat} : jAd ad sz = va_A (jWs ad cs w) sz := by
  funext q
  refine propext ⟨fun h => ?_, fun h => ?_⟩
  · rcases h with ⟨o, ho, rfl⟩ | h
    · obtain ⟨i, -, hi⟩ := jWs_at (ad := ad) (cs := cs) (w := w) (k := o.1) (b := o.2) ho
      exact Or.inl ⟨i, _, hi⟩
    · exact Or.inr h
  · rcases h with ⟨k, e, h⟩ | h
    · simp only [jWs, List.getElem?_map, Option.map_eq_some_iff] at h
      obtain ⟨o, ho, he⟩ := h
      exact Or.inl ⟨o, List.mem_of_getElem? ho, congrArg Prod.fst he⟩
    · exact Or.inr h
theorem jFq.q {S : JT} (h : jFq S) : ∃ q, S.2.2.1 = .null ∨ S.2.2.1 = .ref q := by
  rcases h with h | ⟨q, h⟩
  · exact ⟨0, Or.inl h⟩
  · exact ⟨q, Or.inr h⟩
/-- say, over cells -/
theorem jSG_say {xs : JS0} {t : List Nat} {x h v : Nat} {tx : List Nat} (ex : t.getD 0 0 = x) (ha : ∀ y ∈ tx, y < 128) (ht : tx.length ≤ 1000) {w : JW} (h0 : w.1 1 false 1 = 0) : jSG ML_say 8 0 0 [jR x false, jR h false] (xs, some (h, v, tx)) (fun cs => jWs (kad t h v 0 kS0) cs w) (fun cs r X => r = jU ∧ ∃ w2, kSaid tx w w2 ∧ X = jWs (kad t h v 0 kS0) cs w2) := by
  subst ex
  rintro l D cs S sz ⟨hsx, hq⟩
  obtain ⟨q98, hq98⟩ := hq.q
  have hM := l_say (h := h) (v := v) ha ht h0 l D (kad t h v q98 S) cs S sz (by rw [hsx])
  have eW : ∀ w, jWs (kad t h v 0 kS0) cs w = jWs (kad t h v q98 S) cs w := fun w => kad_Ws t h v 0 h v q98 kS0 S cs w
  have eA : jAd (kad t h v q98 S) sz = va_A (jWs (kad t h v 0 kS0) cs w) sz := by
    rw [eW]
    exact jAd_A
  have hSS : jadS (kad t h v q98 S) S := kad_S hq98 (fun y hy => by
    rw [hsx] at hy
    obtain rfl := Option.some.inj hy
    exact ⟨rfl, rfl⟩)
  rw [eA] at hM
  refine MetFree.mono hM (fun a s q => ?_) (fun _ _ _ _ _ q => q) ?_
  · obtain ⟨q0, q1, qP, qD, qK, qF⟩ := q
    refine ⟨q0, q1, by rw [← eW]; exact qP, by rw [← eW]; exact qD, qK, by rw [eA]; exact qF, hSS⟩
  · rintro a s o t2 ⟨q0, q1, qP, qD, qK, qF⟩ ⟨⟨⟨u, w', h1, ⟨rfl, h2⟩, h3⟩, hF⟩, hL⟩
    refine ⟨⟨⟨jU, jWs (kad t h v 0 kS0) cs w', h1, ⟨rfl, w', h2, rfl⟩, by rw [eW]; exact h3, ?_⟩, hF⟩, hL⟩
    have d2 := jWs_D (w2 := w') qD
    refine ⟨d2.1, fun k q hq => ?_⟩
    simp only [jWs, List.getElem?_map, Option.map_eq_some_iff] at hq
    obtain ⟨o, ho, rfl⟩ := hq
    refine Or.inl ⟨k, jEw (kad t h v 0 kS0) cs w o.1 o.2, ?_⟩
    simp only [jWs, List.getElem?_map, ho, Option.map_some]
/-! from cells to the pure world -/
abbrev jCw (C : JC) (ad : JAd) (S : JT) : JC := (jp C, jl C, je C, jR0 C, js C, jm C, jar C, jbe C, jme C, jco C, jD C, ad, jcs C, jA C, S)
abbrev jSn (C : JC) : JT := ((jS C).1, (jS C).2.1, (jS C).2.2.1, (jS C).2.2.2.1, none)
theorem jok_W {C : JC} {M : JM} {d mc ms cl sl : Nat} (hm : jokT C M d mc ms) {ad : JAd} (hS : jadS ad (jSn C)) (hc : cl ≤ mc) (hs : sl ≤ ms) : jok (jCw C ad (jSn C)) M d cl sl :=
  ⟨hm.1.exec, hm.1.code, hm.1.ml, hm.1.own, hm.1.ret, hm.1.locks, hm.1.K, ⟨⟨hm.2.1, hm.2.2.1, hm.2.2.2.1, hm.2.2.2.2.1, hm.2.2.2.2.2.1, hm.2.2.2.2.2.2.1, fun x hx => (by cases hx), hm.2.2.2.2.2.2.2.2⟩, hS⟩, hm.1.new, hm.1.fr, hm.1.lo, Nat.le_trans hc hm.1.ce, Nat.le_trans hs hm.1.sl⟩
def jlw (ad : JAd) (lg ls : List JV) : Prop := ls.length = lg.length ∧ ∀ (i : Nat) (v : JV), ls[i]? = some v → v ≠ jU → ∃ u, lg[i]? = some u ∧ u ≠ jU ∧ jcv jid u = jcv ad v
theorem jlw_nil {ad : JAd} : jlw ad [] [] := ⟨rfl, fun i v h => by cases h⟩
theorem jlw_same {ad : JAd} {lg ls : List JV} {u v : JV} (h : jlw ad lg ls) (hu : u ≠ jU) (e : jcv jid u = jcv ad v) : jlw ad (u :: lg) (v :: ls) := by
  refine ⟨congrArg (· + 1) h.1, fun i w hi hw => ?_⟩
  cases i with
  | zero =>
    cases hi
    exact ⟨u, rfl, hu, e⟩
  | succ i => exact h.2 i w hi hw
theorem jlw_drop {ad : JAd} {lg ls : List JV} {u : JV} (h : jlw ad lg ls) : jlw ad (u :: lg) (jU :: ls) := by
  refine ⟨congrArg (· + 1) h.1, fun i w hi hw => ?_⟩
  cases i with
  | zero =>
    cases hi
    exact absurd rfl hw
  | succ i => exact h.2 i w hi hw
theorem jg_toW {C : JC} {cl sl : Nat} {Q : State → Prop} {pc : Nat} {lg ls : List JV} {wr X : va_W} {ad : JAd} {S : JT} {w : JW} (hX : X = jWs ad (jcs C) w) (hl : jlw ad lg ls) (k : jW (jCw C ad S) cl sl Q pc ls [] w) : jG C cl sl Q pc lg [] (wr ++ X) := by
  subst hX
  intro H locs a h1 h2 h3 hl0
  refine k H locs a ⟨vP_r h1, vD_r h2, h3⟩ ⟨hl0.1.trans hl.1.symm, hl0.2.1, fun i v hi hv => ?_⟩
  obtain ⟨u, g1, g2, g3⟩ := hl.2 i v hi hv
  rw [← g3]
  exact hl0.2.2 i u g1 g2
theorem jx_aret {C : JC} {M : JM} {d mc ms cl sl pc k : Nat} {b : Bool} {ls : List JV} {w : JW} {ad : JAd} {S : JT} {X : String} (hm : jok (jCw C ad S) M d cl sl) {P : JV → va_W → Prop} (hret : M.2.2.2.1 = some (.object X)) (hc : cl ≤ mc) (hs : sl ≤ ms) (hd : decode M.1 pc = .ok (.areturn, 1)) (hp : P (jR (ad k b) false) (jWs ad (jcs C) w)) : jW (jCw C ad S) cl sl (jMQ C mc ms P) pc ls [jR k b] w := fun H locs a hr hl =>
  W.widen hc hs (W.aret (v := .ref (ad k b)) hm.exec hm.code (hm.2.2.2.2.1.trans hret) (Or.inl ⟨X, rfl⟩) (Or.inr ⟨_, rfl⟩) (fun t ht _ => ⟨⟨jR (ad k b) false, jWs ad (jcs C) w, rfl, hp, by rw [ht]; exact hr.1, hr.2.1⟩, hr.2.2.F ht⟩) hr.2.2.2.2 hd hm.2.2.2.2.2.1)
theorem kRow0 : kRI 0 (fun i => if i = 1 then 4 else 0) := by
  refine ⟨⟨rfl, ⟨4, rfl, by omega⟩, fun p hp => ⟨0, if_neg (by omega), by omega⟩, fun c hc => ⟨0, if_neg (by omega), by omega⟩⟩, fun p hp => ⟨0, if_neg (by omega), by omega⟩, fun p hp => ⟨0, 0, if_neg (by omega), by omega, if_neg (by omega), by omega⟩, ⟨0, rfl, by omega⟩, ⟨0, rfl, by omega⟩⟩
theorem l_organW {C : JC} {mc ms cl sl q98 : Nat} {t : List Nat} (hT : jokT C ML_organ 52 mc ms) (hx : (jS C).2.2.2.1.2.1 ≤ 260) (hq98 : (jSn C).2.2.1 = .null ∨ (jSn C).2.2.1 = .ref q98) (hc : cl ≤ mc) (hs : sl ≤ ms) {w1 : JW} (h1 : kSaid (kList (jS C).2.2.2.1) jw0 w1) (hl : (kList (jS C).2.2.2.1).length ≤ 2000) {P : JV → va_W → Prop} (hP : ∀ w D R len, kOg D R 0 len w → P (jR (t.getD 0 0) false) (jWs (kad t 0 0 q98 (jSn C)) (jcs C) w)) : jW (jCw C (kad t 0 0 q98 (jSn C)) (jSn C)) cl sl (jMQ C mc ms P) 16 [jR 97 false, jR 0 false] [] w1 := by
  have hm : jok (jCw C (kad t 0 0 q98 (jSn C)) (jSn C)) ML_organ 52 cl sl := jok_W hT (kad_S hq98 (fun x hx => by cases hx)) hc hs
  obtain ⟨L, hL, hF⟩ := kTold (jS C).2.2.2.1 hl
  have ct := c_teach h1.1
  rw [hL] at ct
  refine jr_aload_n hm (i := 1) rfl rfl dL_organ_16 ?_
  refine jr_callV (mc := 0) (ms := 0) (as := []) (st := []) hm ct (by omega) jw_1094 jw_1095 jw_1096 jw_47 jw_1097 jn_X9_teach rfl jo_0 (fun _ _ _ _ _ => ⟨_, rfl⟩) rfl rfl (Nat.le_of_ble_eq_true rfl) rfl dL_organ_17 (jkI (fun r w2 hp => ?_))
  obtain ⟨rfl, -, -, hp⟩ := hp
  obtain ⟨-, hC, hO, hWF⟩ := hp rfl
  have hrow : ∀ i, i < 51 → (fun i => if i = 1 then (4 : Int32) else 0) i = jrow w2 false i := by
    intro i hi
    rw [hC.2.2.2.2 i hi, jrow_cong (w := jw0) (fun k h2 h3 => h1.2.2 k false (by omega) (by omega))]
    show (if i = 1 then (4 : Int32) else 0) = _
    by_cases e1 : i = 1
    · subst e1
      rfl
    · rw [if_neg e1]
      by_cases e0 : i = 0
      · subst e0
        rfl
      · rw [if_neg (by omega)]
  have hg : kOg L.1 (fun i => if i = 1 then (4 : Int32) else 0) 0 0 w2 := ⟨hO, hWF, hF, hrow, kRow0, hC.2.2.1⟩
  have e97 : jcv (jad (jCw C (kad t 0 0 q98 (jSn C)) (jSn C))) (jR 97 false) = Value.ref (jS C).2.2.2.1.1 := rfl
  refine jr_popI hm dL_organ_20 ?_
  refine jr_aload_n hm (i := 1) rfl rfl dL_organ_21 ?_
  refine jr_aload_n hm (i := 0) rfl rfl dL_organ_22 ?_
  refine jr_bipush hm (v := 10) (by decide) dL_organ_23 ?_
  refine jr_pureS (as := [jR (jS C).2.2.2.1.1 false, jI (nI 10)]) (st := [jR 0 false]) hm (t_cell (xs := (jS C).2.2.2.1) (o := none) (k := 10) (by omega) hx) (by omega) jw_410 jw_411 jw_46 jw_412 jn_L_cell rfl (by simp only [List.map_cons, List.map_nil, e97]; rfl) (Nat.le_of_ble_eq_true rfl) rfl dL_organ_25 ?_
  refine jr_bipush hm (v := 10) (by decide) dL_organ_28 ?_
  refine jr_callS (mc := 0) (ms := 0) (as := [jI (kcl (jS C).2.2.2.1 10), jI (nI 10)]) (st := [jR 0 false]) hm (c_below (kcl (jS C).2.2.2.1 10) (n := 10) (by omega) (by omega)) (by omega) jw_406 jw_407 jw_46 jw_408 jn_L_below rfl rfl (Nat.le_of_ble_eq_true rfl) rfl dL_organ_30 (jkF ?_)
  have ht := kbl_lt (kcl (jS C).2.2.2.1 10) (n := 10) (by omega)
  refine jr_callV (mc := 0) (ms := 0) (as := [jI (nI (kbl (kcl (jS C).2.2.2.1 10) 10))]) (st := []) hm (k_setTide hg (t := kbl (kcl (jS C).2.2.2.1 10) 10) (by omega)) (by omega) jw_293 jw_294 jw_295 jw_47 jw_296 jn_X9_setTide rfl jo_0 (fun _ _ _ _ _ => ⟨_, rfl⟩) rfl rfl (Nat.le_of_ble_eq_true rfl) rfl dL_organ_33 (jkI (fun r w3 h3 => ?_))
  refine jr_popI hm dL_organ_36 ?_
  refine jr_aload_n hm (i := 1) rfl rfl dL_organ_37 ?_
  exact jx_aret hm rfl hc hs dL_organ_38 (hP w3 _ _ _ h3)
theorem t_organ {xs : JS0} {o : Option (Nat × (Nat × List Nat))} (hx : xs.2.1 ≤ 260) : jSG ML_organ 52 400 710000 [jR xs.1 false] (xs, o) (fun _ => []) (fun cs r X => ∃ (t : List Nat) (w : JW) (D : JD) (R : Nat → Int32) (len : Int32), r = jR (t.getD 0 0) false ∧ X = jWs (kad t 0 0 0 kS0) cs w ∧ kOg D R 0 len w) := by
  refine jSG_of jp_L_organ rfl (Nat.le_of_ble_eq_true rfl) (fun C hm hS hi => ?_)
  have hT := jsx_t hS.1
  have hX := (jsx_x hS.1).symm
  subst hX
  refine jg_new hm.1 (ty := tyX9) (fs := [.null, .null, .null, .null, .null, .null, .null, .int 0]) (ci := 11) jin_X9 tyX9_ok jw_417 jw_151 jw_47 rfl df_X9 (by omega) (by omega) dL_organ_0 (fun h => ?_)
  refine jg_dup hm.1 dL_organ_3 ?_
  refine jg_initP hm.1 (as := []) (st := [jR h false]) (k_X9 h) (by decide) (Nat.le_of_ble_eq_true rfl) (Nat.le_of_ble_eq_true rfl) jw_418 jw_419 jw_47 jw_420 jn_X9_init rfl rfl rfl (Nat.le_of_ble_eq_true rfl) rfl dL_organ_4 (fun Y hY => ?_)
  refine jg_astore_n hm.1 (i := 1) rfl (Nat.le_of_ble_eq_true rfl) rfl dL_organ_7 ?_
  refine jg_aload_n hm.1 (i := 1) rfl rfl dL_organ_8 ?_
  refine jg_aload_n hm.1 (i := 0) rfl rfl dL_organ_9 ?_
  refine jt_callS (wr := Y) (as := [jR (jS C).2.2.2.1.1 false]) (st := [jR h false]) hm (t_list (xs := (jS C).2.2.2.1) (o := none) hx) (List.append_nil _).symm ⟨rfl, hS.2⟩ jTa_none (by omega) (Nat.le_of_ble_eq_true rfl) (Nat.le_of_ble_eq_true rfl) jw_730 jw_731 jw_46 jw_732 jn_L_list rfl rfl (Nat.le_of_ble_eq_true rfl) rfl dL_organ_10 ?_
  rintro _ _ ⟨q, v, f, rfl, rfl, hf, hl⟩
  obtain ⟨t, et, hrep⟩ := jw0_rep hY q v 0 kS0
  refine jg_swap (X := []) (Y := Y) (Z := jStC (jcs C) q v (kList (jS C).2.2.2.1) f) ?_
  refine jg_subR (X := jStC (jcs C) q v (kList (jS C).2.2.2.1) f) (Y := Y) (Y2 := jWs (kad t q v 0 kS0) (jcs C) jw0) kPlc hrep kPlc_nd ?_
  refine jt_callS (wr := jStC (jcs C) q v (kList (jS C).2.2.2.1) f) (as := [jR h false, jR q false]) (st := []) hm (jSG_say (xs := (jS C).2.2.2.1) (v := v) et (kList_asc (jS C).2.2.2.1) (Nat.le_trans hl (by omega)) jw0_len) rfl ⟨rfl, hS.2⟩ (jTa_cell 1 0 rfl rfl hf) (by omega) (Nat.le_of_ble_eq_true rfl) (Nat.le_of_ble_eq_true rfl) jw_1027 jw_1028 jw_46 jw_1029 jn_L_say rfl rfl (Nat.le_of_ble_eq_true rfl) rfl dL_organ_13 ?_
  rintro _ _ ⟨rfl, w1, hw1, rfl⟩
  obtain ⟨q98, hq98⟩ := hS.2.q
  refine jg_toW (ad := kad t 0 0 q98 (jSn C)) (S := jSn C) (w := w1) (ls := [jR 97 false, jR 0 false]) (kad_Ws t q v 0 0 0 q98 kS0 (jSn C) (jcs C) w1) (jlw_same (jlw_same jlw_nil (fun z => by cases z) (congrArg Value.ref et.symm)) (fun z => by cases z) rfl) ?_
  refine l_organW hm hx hq98 (Nat.le_of_ble_eq_true rfl) (Nat.le_of_ble_eq_true rfl) hw1 (Nat.le_trans hl (by omega)) (fun w D R len hO => ⟨t, w, D, R, len, rfl, kad_Ws t 0 0 q98 0 0 0 (jSn C) kS0 (jcs C) w, hO⟩)

