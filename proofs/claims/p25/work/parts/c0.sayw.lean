theorem dL_say_0 : decode cL_say 0 = .ok (.aload_n 0, 1) := by decide +kernel
theorem dL_say_1 : decode cL_say 1 = .ok (.bipush 13, 2) := by decide +kernel
theorem dL_say_3 : decode cL_say 3 = .ok (.invokevirtual 25, 3) := by decide +kernel
theorem dL_say_6 : decode cL_say 6 = .ok (.istore_n 2, 1) := by decide +kernel
theorem dL_say_7 : decode cL_say 7 = .ok (.iconst 0, 1) := by decide +kernel
theorem dL_say_8 : decode cL_say 8 = .ok (.istore_n 3, 1) := by decide +kernel
theorem dL_say_9 : decode cL_say 9 = .ok (.iload_n 3, 1) := by decide +kernel
theorem dL_say_10 : decode cL_say 10 = .ok (.aload_n 1, 1) := by decide +kernel
theorem dL_say_11 : decode cL_say 11 = .ok (.invokevirtual 9, 3) := by decide +kernel
theorem dL_say_14 : decode cL_say 14 = .ok (.if_icmp .ge 50, 3) := by decide +kernel
theorem dL_say_17 : decode cL_say 17 = .ok (.aload_n 0, 1) := by decide +kernel
theorem dL_say_18 : decode cL_say 18 = .ok (.aload_n 1, 1) := by decide +kernel
theorem dL_say_19 : decode cL_say 19 = .ok (.iload_n 3, 1) := by decide +kernel
theorem dL_say_20 : decode cL_say 20 = .ok (.invokestatic 31, 3) := by decide +kernel
theorem dL_say_23 : decode cL_say 23 = .ok (.aload_n 1, 1) := by decide +kernel
theorem dL_say_24 : decode cL_say 24 = .ok (.iload_n 3, 1) := by decide +kernel
theorem dL_say_25 : decode cL_say 25 = .ok (.iconst 4, 1) := by decide +kernel
theorem dL_say_26 : decode cL_say 26 = .ok (.iadd, 1) := by decide +kernel
theorem dL_say_27 : decode cL_say 27 = .ok (.invokestatic 31, 3) := by decide +kernel
theorem dL_say_30 : decode cL_say 30 = .ok (.aload_n 1, 1) := by decide +kernel
theorem dL_say_31 : decode cL_say 31 = .ok (.iload_n 3, 1) := by decide +kernel
theorem dL_say_32 : decode cL_say 32 = .ok (.bipush 8, 2) := by decide +kernel
theorem dL_say_34 : decode cL_say 34 = .ok (.iadd, 1) := by decide +kernel
theorem dL_say_35 : decode cL_say 35 = .ok (.invokestatic 31, 3) := by decide +kernel
theorem dL_say_38 : decode cL_say 38 = .ok (.aload_n 1, 1) := by decide +kernel
theorem dL_say_39 : decode cL_say 39 = .ok (.iload_n 3, 1) := by decide +kernel
theorem dL_say_40 : decode cL_say 40 = .ok (.bipush 12, 2) := by decide +kernel
theorem dL_say_42 : decode cL_say 42 = .ok (.iadd, 1) := by decide +kernel
theorem dL_say_43 : decode cL_say 43 = .ok (.invokestatic 31, 3) := by decide +kernel
theorem dL_say_46 : decode cL_say 46 = .ok (.aload_n 1, 1) := by decide +kernel
theorem dL_say_47 : decode cL_say 47 = .ok (.iload_n 3, 1) := by decide +kernel
theorem dL_say_48 : decode cL_say 48 = .ok (.bipush 16, 2) := by decide +kernel
theorem dL_say_50 : decode cL_say 50 = .ok (.iadd, 1) := by decide +kernel
theorem dL_say_51 : decode cL_say 51 = .ok (.invokestatic 31, 3) := by decide +kernel
theorem dL_say_54 : decode cL_say 54 = .ok (.invokevirtual 34, 3) := by decide +kernel
theorem dL_say_57 : decode cL_say 57 = .ok (.pop, 1) := by decide +kernel
theorem dL_say_58 : decode cL_say 58 = .ok (.iinc 3 20, 3) := by decide +kernel
theorem dL_say_61 : decode cL_say 61 = .ok (.goto (-52), 3) := by decide +kernel
theorem dL_say_64 : decode cL_say 64 = .ok (.aload_n 0, 1) := by decide +kernel
theorem dL_say_65 : decode cL_say 65 = .ok (.iload_n 2, 1) := by decide +kernel
theorem dL_say_66 : decode cL_say 66 = .ok (.aload_n 1, 1) := by decide +kernel
theorem dL_say_67 : decode cL_say 67 = .ok (.invokevirtual 9, 3) := by decide +kernel
theorem dL_say_70 : decode cL_say 70 = .ok (.iadd, 1) := by decide +kernel
theorem dL_say_71 : decode cL_say 71 = .ok (.invokevirtual 38, 3) := by decide +kernel
theorem dL_say_74 : decode cL_say 74 = .ok (.pop, 1) := by decide +kernel
theorem dL_say_75 : decode cL_say 75 = .ok (.return_, 1) := by decide +kernel
abbrev ML_say : JM := (cL_say, 4, RL, none, yL_say)
theorem jn_L_say : jnm ML_say 2 := by decide +kernel
theorem jp_L_say : plainName ML_say.2.2.2.2.cls = true := by decide +kernel
theorem jw_1085 : Cond.methodLink RL 38 yX9_trim ∈ jGL := jmem 1085 (by decide +kernel) rfl
theorem jw_1086 : Cond.instanceMethod yX9_trim ∈ jGL := jmem 1086 (by decide +kernel) rfl
theorem jw_1087 : Cond.selects RX9 yX9_trim yX9_trim ∈ jGL := jmem 1087 (by decide +kernel) rfl
theorem jw_1088 : Cond.code yX9_trim cX9_trim 2 (some .int) ∈ jGL := jmem 1088 (by decide +kernel) rfl
theorem jw_1031 : Cond.methodLink RL 31 yL_four ∈ jGL := jmem 1031 (by decide +kernel) rfl
theorem jw_1032 : Cond.static yL_four ∈ jGL := jmem 1032 (by decide +kernel) rfl
theorem jw_1033 : Cond.code yL_four cL_four 2 (some .int) ∈ jGL := jmem 1033 (by decide +kernel) rfl
theorem jw_1057 : Cond.methodLink RL 34 yX9_feed ∈ jGL := jmem 1057 (by decide +kernel) rfl
theorem jw_1058 : Cond.instanceMethod yX9_feed ∈ jGL := jmem 1058 (by decide +kernel) rfl
theorem jw_1059 : Cond.selects RX9 yX9_feed yX9_feed ∈ jGL := jmem 1059 (by decide +kernel) rfl
theorem jw_1060 : Cond.code yX9_feed cX9_feed 6 (some .int) ∈ jGL := jmem 1060 (by decide +kernel) rfl
theorem jw_74 : Cond.methodLink RL 25 yX9_count ∈ jGL := jmem 74 (by decide +kernel) rfl
theorem jw_75 : Cond.instanceMethod yX9_count ∈ jGL := jmem 75 (by decide +kernel) rfl
theorem jw_76 : Cond.selects RX9 yX9_count yX9_count ∈ jGL := jmem 76 (by decide +kernel) rfl
theorem jw_77 : Cond.code yX9_count cX9_count 2 (some .int) ∈ jGL := jmem 77 (by decide +kernel) rfl
/-! SAYING: a frame over a pure world that calls methods over no cells; a contract for a text at hand -/
theorem jok.fq {C : JC} {M : JM} {d cl sl : Nat} (hm : jok C M d cl sl) : jFq (jS C) := by
  rcases hm.adS.2.2.1 with h | h
  · exact Or.inl h
  · exact Or.inr ⟨_, h⟩
theorem va_A0 {sz q : Nat} (h : va_A [] sz q) : sz ≤ q := by
  rcases h with ⟨k, e, h⟩ | h
  · cases h
  · exact h
theorem jr_behind0 {C : JC} {M : JM} {d cl sl : Nat} {Q : State → Prop} {pc : Nat} {ls st : List JV} {w : JW} (hm : jok C M d cl sl) {a : Int32} {st0 : List Value}
    (hrun : ∀ (H : Heap) (locs : List Loc) (a0 : Array Slot), jrep C w H locs → jloc (jad C) ls a0 → va_Run (jp C) (jl C) (je C) (jR0 C) (js C) (jm C) (jar C) (jbe C) (jme C) (jco C) H locs cl sl 0 0 (F0 (jm C) pc a0 st0) (st.map (jcv (jad C))) (jQG (jD C) (va_A [] H.size) (fun r X => r = jI a ∧ X = []) #[]) (va_A [] H.size))
    (kk : jW C cl sl Q (pc + 3) ls (jI a :: st) w) : ∀ (H : Heap) (locs : List Loc) (a0 : Array Slot), jrep C w H locs → jloc (jad C) ls a0 →
    W (jp C) (jl C) (je C) (jR0 C) (js C) (jm C) (jar C) (jbe C) (jme C) (jco C) H locs cl sl Q (F0 (jm C) pc a0 st0) := by
  intro H locs a0 hr hl T hT X
  obtain ⟨v, s0, t, T', L, h0, X', hL, e1, e2, ⟨⟨u, X2, hv, ⟨rfl, rfl⟩, hb, -⟩, hz, hk⟩, step⟩ := hrun H locs a0 hr hl T hT X
  cases hv
  rw [h0] at hz hk
  have same : ∀ q : Nat, q < H.size → t.heap[q]? = H[q]? := fun q hq => hk q hq (fun z => by have := va_A0 z; omega)
  have hr2 : jrep C w T'.heap (locs ++ L) := by
    refine ⟨va_P.kept hr.1 (fun k q hq => by rw [e1]; exact same q.1 (hr.1 k q hq).lt), hr.2.1, Nat.le_trans hr.2.2.1 (by rw [e1]; exact hz), fun q h1 h2 => ?_, fun q hq => ?_⟩
    · have hlt : q < H.size := Nat.lt_of_lt_of_le h1 hr.2.2.1
      rw [e1, same q hlt]
      exact hr.2.2.2.1 q h1 h2
    · rcases List.mem_append.mp hq with h | h
      · exact hr.2.2.2.2 q h
      · exact hm.new _ (Nat.le_trans hr.2.2.1 (va_A0 (hL q h)))
  obtain ⟨t2, a1, b1⟩ := kk T'.heap (locs ++ L) a0 hr2 hl T' rfl X'
  exact ⟨t2, step t2 a1, b1⟩
theorem jBG0 {C : JC} {M : JM} {d cl sl : Nat} (hm : jok C M d cl sl) {w : JW} {H : Heap} {locs : List Loc} (hr : jrep C w H locs) {U : State} (hU : U.heap = H) (hW : (js C).WarmedH U.vm) : jBG (jD C) (jcs C) (jS C) H.size [] U := by
  refine ⟨by rw [hU], fun k q hq => (by cases hq), ⟨fun i j p q hp => (by cases hp), fun _ _ _ => trivial⟩, va_K.moved hW.alike hm.K, ?_⟩
  rw [hU]
  exact ((hm.SF.warm hW).kept hr.2.2.2.1).narrow (fun q hq => hm.new q (Nat.le_trans hr.2.2.1 (va_A0 hq)))
theorem jr_pureS {C : JC} {M : JM} {d cl sl : Nat} {Q : State → Prop} {pc : Nat} {ls st st0 : List JV} {w : JW} (hm : jok C M d cl sl) {Mc : JM} {d2 n index : Nat} {as : List JV} {a : Int32} (hs : jSG Mc d2 0 0 as ((jS C).2.2.2) (fun _ => []) (fun _ r X => r = jI a ∧ X = [])) (hd2 : d2 + 1 ≤ d)
    (hw1 : Cond.methodLink M.2.2.1 index Mc.2.2.2.2 ∈ jGL) (hw2 : Cond.static Mc.2.2.2.2 ∈ jGL) (hw4 : Cond.initialized Mc.2.2.1 ∈ jGL) (hw5 : Cond.code Mc.2.2.2.2 Mc.1 Mc.2.1 Mc.2.2.2.1 ∈ jGL) (hy : jnm Mc n)
    (hn : as.length = n) (hst : st0.map (jcv (jad C)) = (as.map (jcv jid)).reverse ++ st.map (jcv (jad C))) (hcat : jcats st ≤ 8) (hln : ls.length = M.2.1) (hd : decode M.1 pc = .ok (.invokestatic index, 3)) (kk : jW C cl sl Q (pc + 3) ls (jI a :: st) w) : jW C cl sl Q pc ls st0 w := by
  have h40 := hm.2.2.2.2.2.2.2.2.2.2.1
  have hfr := hm.2.2.2.2.2.2.2.2.2.1
  have h21 := hy.2.2.2.2
  intro H locs a0 hr hl
  rw [hst]
  refine jr_behind0 hm (st0 := (as.map (jcv jid)).reverse ++ st.map (jcv (jad C))) (fun H locs a0 hr hl => ?_) kk H locs a0 hr hl
  have hM := hs (jl C) (jD C) (jcs C) (jS C) H.size ⟨rfl, hm.fq⟩
  exact va_runS (own := M.2.2.1) (n := n) (nL := M.2.1) (Ts := jGL) (As := as.map (jcv jid)) (rest := st.map (jcv (jad C))) ⟨hm.exec, hm.code, hm.2.2.1, hm.own, hm.hts⟩ hM
    ⟨⟨rfl, rfl, Nat.le_trans hd2 hfr, by show 8 + (Mc.2.1 + 11) + 40 * d2 ≤ _; omega, jcode_pay hm hw5, List.mem_cons_self, hm.hts _ hw5, by rw [hy.1]; exact hm.hts _ hw4, ⟨hy.2.1, hy.2.2.1⟩, jnm_len hy, hm.hts _ hw1⟩, hm.hts _ hw2⟩
    ⟨jBG_blind, fun U hU hW => ⟨rfl, jBG0 hm hr hU hW⟩⟩ rfl (by rw [List.length_map]; exact hn) (by rw [← hln]; exact hl.1) rfl (lv_room (Nat.le_trans (jcats_le st) hcat)) hd ⟨hm.2.2.2.2.2.2.2.2.2.2.2.1, hm.2.2.2.2.2.2.2.2.2.2.2.2⟩
theorem jr_pureV {C : JC} {M : JM} {d cl sl : Nat} {Q : State → Prop} {pc : Nat} {ls st st0 : List JV} {w : JW} (hm : jok C M d cl sl) {Mc : JM} {d2 n index h v : Nat} {t : List Nat} {as : List JV} {a : Int32} (hT : (jS C).2.2.2.2 = some (h, v, t)) (hcl : Mc.2.2.1 = "java/lang/String") (hs : jSG Mc d2 0 0 (jR h false :: as) ((jS C).2.2.2) (fun _ => []) (fun _ r X => r = jI a ∧ X = [])) (hd2 : d2 + 1 ≤ d)
    (hw1 : Cond.methodLink M.2.2.1 index Mc.2.2.2.2 ∈ jGL) (hw2 : Cond.instanceMethod Mc.2.2.2.2 ∈ jGL) (hw3 : Cond.selects Mc.2.2.1 Mc.2.2.2.2 Mc.2.2.2.2 ∈ jGL) (hw4 : Cond.initialized Mc.2.2.1 ∈ jGL) (hw5 : Cond.code Mc.2.2.2.2 Mc.1 Mc.2.1 Mc.2.2.2.1 ∈ jGL) (hy : jnm Mc n)
    (hn : as.length = n) (hst : st0.map (jcv (jad C)) = (as.map (jcv jid)).reverse ++ Value.ref h :: st.map (jcv (jad C))) (hcat : jcats st ≤ 8) (hln : ls.length = M.2.1) (hd : decode M.1 pc = .ok (.invokevirtual index, 3)) (kk : jW C cl sl Q (pc + 3) ls (jI a :: st) w) : jW C cl sl Q pc ls st0 w := by
  have h40 := hm.2.2.2.2.2.2.2.2.2.2.1
  have hfr := hm.2.2.2.2.2.2.2.2.2.1
  have h21 := hy.2.2.2.2
  intro H locs a0 hr hl
  rw [hst]
  refine jr_behind0 hm (st0 := (as.map (jcv jid)).reverse ++ Value.ref h :: st.map (jcv (jad C))) (fun H locs a0 hr hl => ?_) kk H locs a0 hr hl
  have hM := hs (jl C) (jD C) (jcs C) (jS C) H.size ⟨rfl, hm.fq⟩
  have hrecv : ∃ cell : Cell, H[h]? = some cell ∧ cell.vm.isStatics = false ∧ (js C).vm.findClass Mc.2.2.1 = some cell.cls := by
    obtain ⟨cell, g1, g2, g3, -⟩ := (hm.SF.2.2.2.2.2.2.1 _ hT).1.kept hr.2.2.2.1
    rw [hcl]
    exact ⟨cell, g1, g2, g3⟩
  exact va_runV (C := Mc.2.2.1) (own := M.2.2.1) (n := n) (nL := M.2.1) (Ts := jGL) (As := as.map (jcv jid)) (rest := st.map (jcv (jad C))) ⟨hm.exec, hm.code, hm.2.2.1, hm.own, hm.hts⟩ hM
    ⟨⟨rfl, rfl, Nat.le_trans hd2 hfr, by show 8 + (Mc.2.1 + 11) + 40 * d2 ≤ _; omega, jcode_pay hm hw5, List.mem_cons_self, hm.hts _ hw5, by rw [hy.1]; exact hm.hts _ hw4, ⟨hy.2.1, hy.2.2.1⟩, jnm_len hy, hm.hts _ hw1⟩, hm.hts _ hw2, hm.hts _ hw3⟩
    ⟨jBG_blind, hrecv, fun U hU hW => ⟨rfl, jBG0 hm hr hU hW⟩⟩ rfl (by rw [List.length_map]; exact hn) (by rw [← hln]; exact hl.1) rfl (lv_room (Nat.le_trans (jcats_le st) hcat)) hd ⟨hm.2.2.2.2.2.2.2.2.2.2.2.1, hm.2.2.2.2.2.2.2.2.2.2.2.2⟩
/-- a contract for a text at hand -/
def jSpT (M : JM) (d mc ms : Nat) (o : Option (Nat × (Nat × List Nat))) (as : List JV) (w : JW) (P : JV → JW → Prop) : Prop :=
  ∀ (l : Launch) (D : va_G) (ad : JAd) (cs : Nat → ClassId) (S : JT) (sz : Nat), S.2.2.2.2 = o → Met l M.2.2.2.2 (jws M) (jroom d mc ms) (va_Pc (as.map (jcv ad)) (jB D ad cs S sz w)) (jQc D ad cs (jAd ad sz) P) mc ms (jAd ad sz)
theorem jSpT_of {M : JM} {d mc ms : Nat} {o : Option (Nat × (Nat × List Nat))} {as : List JV} {w : JW} {P : JV → JW → Prop} (hy : plainName M.2.2.2.2.cls = true) (hc : M.2.2.2.2.cls = M.2.2.1) (hlen : (jent as).length ≤ M.2.1)
    (h : ∀ C : JC, jok C M d mc ms → (jS C).2.2.2.2 = o → jW C 0 0 (jQQ C mc ms P) 0 (jentry as M.2.1) [] w) : jSpT M d mc ms o as w P := by
  intro l D ad cs S sz hSo
  refine Met.ofW (cc := M.1) (maxL := M.2.1) (ret := M.2.2.2.1) hy rfl ?_
  intro p e s m args below meth c s₁ B hml hv
  obtain ⟨rfl, hsz, hP, hD, hK, hF, hSs⟩ := hv
  have hown : s.vm.findClass M.2.2.2.2.cls = some m.cls := findClass_of_methodNamed B.named
  rw [hc] at hown
  subst hsz
  have hl := lv_entry (as.map (jcv ad)) (n := M.2.1) (by rw [jent_len]; exact hlen)
  rw [lg_entry_eq]
  have key := h (p, l, e, jroom d mc ms, s, m, (as.map (jcv ad)).toArray, below, meth, c, D, ad, cs, jAd ad s.heap.size, S)
    ⟨B.exec, B.bytes, hml, hown, B.returns, B.notSynchronized, hK, ⟨hF, hSs⟩, fun q hq => Or.inr hq, Nat.le_refl _, Nat.le_refl _, Nat.le_refl _, Nat.le_refl _⟩ hSo
  refine key s.heap [] _ ⟨hP, ⟨hD.1, fun k q hk => ?_⟩, va_S.rf⟩ ⟨?_, hl.2.1, fun i v hi hv => ?_⟩
  · simp only [jWs, List.getElem?_map, Option.map_eq_some_iff] at hk
    obtain ⟨o, ho, rfl⟩ := hk
    exact Or.inl ⟨o, List.mem_of_getElem? ho, rfl⟩
  · rw [hl.1]
    unfold jentry
    rw [List.length_append, List.length_replicate]
    omega
  · refine hl.2.2 (i, jcv ad v) ?_
    unfold jentry at hi
    by_cases hlt : i < (jent as).length
    · rw [List.getElem?_append_left hlt] at hi
      have := jent_args (ad := ad) as 0 i v hi hv
      rwa [Nat.zero_add] at this
    · rw [List.getElem?_append_right (by omega)] at hi
      exact absurd (List.eq_of_mem_replicate (List.mem_of_getElem? hi)) hv
/-- the text's letters have been said -/
def kSaid (t : List Nat) (w w2 : JW) : Prop := jC1 (kS t t.length) t.length w2 ∧ kTp w w2
theorem l_sayloop {C : JC} (hm : jok C ML_say 8 0 0) {h v : Nat} {t : List Nat} (hT : (jS C).2.2.2.2 = some (h, v, t)) (had : jad C 96 false = h) (ha : ∀ x ∈ t, x < 128) (ht : t.length ≤ 1000) {w : JW} : ∀ m i : Nat, t.length ≤ 20 * i + m → 20 * i < t.length + 20 → ∀ w1 : JW, jC1 (kS t (20 * i)) (20 * i) w1 → kTp w w1 → jW C 0 0 (jQQ C 0 0 (fun r w' => r = jU ∧ kSaid t w w')) 9 [jR 0 false, jR 96 false, jI 0, jI (nI (20 * i))] [] w1 := by
  have hS : (jS C).2.2.2 = ((jS C).2.2.2.1, some (h, v, t)) := Prod.ext rfl hT
  have e96 : jcv (jad C) (jR 96 false) = Value.ref h := congrArg Value.ref had
  have tl : ∀ {xs : JS0}, jSG MJ0_length_8abf5 1 0 0 [jR h false] (xs, some (h, v, t)) (fun _ => []) (fun _ r X => r = jI (nI t.length) ∧ X = []) := t_length
  have ihz : ∀ i : Nat, t.length ≤ 20 * i → 20 * i < t.length + 20 → ∀ w1 : JW, jC1 (kS t (20 * i)) (20 * i) w1 → kTp w w1 → jW C 0 0 (jQQ C 0 0 (fun r w' => r = jU ∧ kSaid t w w')) 9 [jR 0 false, jR 96 false, jI 0, jI (nI (20 * i))] [] w1 := by
    intro i h1 h2 w1 hw hTp
    refine jr_iload_n hm (i := 3) rfl rfl dL_say_9 ?_
    refine jr_aload_n hm (i := 1) rfl rfl dL_say_10 ?_
    refine jr_pureV (as := []) (st := [jI (nI (20 * i))]) hm hT rfl (by rw [hS]; exact tl) (by omega) jw_1030 jw_839 jw_840 jw_59 jw_841 jn_J0_length_8abf5 rfl (by simp only [List.map_cons, List.map_nil, e96]; rfl) (Nat.le_of_ble_eq_true rfl) rfl dL_say_11 ?_
    refine jr_icmp_ge hm (tgt := 64) dL_say_14 (by decide) (fun _ => ?_) (fun z => absurd (nI_le (a := t.length) (b := 20 * i) (by omega) (by omega)) z)
    refine jr_aload_n hm (i := 0) rfl rfl dL_say_64 ?_
    refine jr_iload_n hm (i := 2) rfl rfl dL_say_65 ?_
    refine jr_aload_n hm (i := 1) rfl rfl dL_say_66 ?_
    refine jr_pureV (as := []) (st := [jI 0, jR 0 false]) hm hT rfl (by rw [hS]; exact tl) (by omega) jw_1030 jw_839 jw_840 jw_59 jw_841 jn_J0_length_8abf5 rfl (by simp only [List.map_cons, List.map_nil, e96]; rfl) (Nat.le_of_ble_eq_true rfl) rfl dL_say_67 ?_
    refine jr_iadd hm dL_say_70 ?_
    rw [show (0 : Int32) + nI t.length = nI (0 + t.length) from nI_add 0 _, Nat.zero_add]
    refine jr_callV (mc := 0) (ms := 0) (as := [jI (nI t.length)]) (st := []) hm (c_trim (n := t.length) hw.2.1 (by omega) (by omega)) (by omega) jw_1085 jw_1086 jw_1087 jw_47 jw_1088 jn_X9_trim rfl jo_0 (fun _ _ _ _ _ => ⟨_, rfl⟩) rfl rfl (Nat.le_of_ble_eq_true rfl) rfl dL_say_71 (jkF ?_)
    refine jr_popI hm dL_say_74 ?_
    refine jr_return hm rfl dL_say_75 ⟨rfl, ⟨⟨by have := hw.1.1; omega, fun j hj => ?_, fun j hj => ?_⟩, ?_, fun j hj => ?_⟩, hTp.trans ⟨rfl, fun k b k1 k2 => ?_⟩⟩
    · unfold kS
      rw [if_pos hj]
      have := klt_lt ha j
      omega
    · unfold kS
      rw [if_neg (by omega)]
    · rw [jset_I, if_pos ⟨rfl, rfl, rfl⟩]
    · rw [jset_I, if_neg (by omega), hw.2.2 j (by omega)]
      unfold kS
      rw [if_pos (by omega), if_pos hj]
    · funext j
      rw [jset_I, if_neg (fun q => k1 q.1)]
  intro m
  induction m with
  | zero => exact fun i h1 => ihz i h1
  | succ m ih =>
    intro i h1 h2 w1 hw hTp
    by_cases hle : t.length ≤ 20 * i
    · exact ihz i hle h2 w1 hw hTp
    have f4 : ∀ {xs : JS0} {k : Nat}, k < 9000 → jSG ML_four 5 0 0 [jR h false, jI (nI k)] (xs, some (h, v, t)) (fun _ => []) (fun _ r X => r = jI (kfr t k) ∧ X = []) := fun hk => t_four hk (by omega) ha
    refine jr_iload_n hm (i := 3) rfl rfl dL_say_9 ?_
    refine jr_aload_n hm (i := 1) rfl rfl dL_say_10 ?_
    refine jr_pureV (as := []) (st := [jI (nI (20 * i))]) hm hT rfl (by rw [hS]; exact tl) (by omega) jw_1030 jw_839 jw_840 jw_59 jw_841 jn_J0_length_8abf5 rfl (by simp only [List.map_cons, List.map_nil, e96]; rfl) (Nat.le_of_ble_eq_true rfl) rfl dL_say_11 ?_
    refine jr_icmp_ge hm (tgt := 64) dL_say_14 (by decide) (fun z => absurd ((nI_leI (a := t.length) (b := 20 * i) (by omega) (by omega)).mp z) hle) (fun _ => ?_)
    refine jr_aload_n hm (i := 0) rfl rfl dL_say_17 ?_
    refine jr_aload_n hm (i := 1) rfl rfl dL_say_18 ?_
    refine jr_iload_n hm (i := 3) rfl rfl dL_say_19 ?_
    refine jr_pureS (as := [jR h false, jI (nI (20 * i))]) (st := [jR 0 false]) hm (by rw [hS]; exact f4 (k := 20 * i) (by omega)) (by omega) jw_1031 jw_1032 jw_46 jw_1033 jn_L_four rfl (by simp only [List.map_cons, List.map_nil, e96]; rfl) (Nat.le_of_ble_eq_true rfl) rfl dL_say_20 ?_
    refine jr_aload_n hm (i := 1) rfl rfl dL_say_23 ?_
    refine jr_iload_n hm (i := 3) rfl rfl dL_say_24 ?_
    refine jr_iconst hm (v := 4) (by decide) dL_say_25 ?_
    refine jr_iadd hm dL_say_26 ?_
    rw [show nI (20 * i) + 4 = nI (20 * i + 4) from nI_add _ 4]
    refine jr_pureS (as := [jR h false, jI (nI (20 * i + 4))]) (st := [jI (kfr t (20 * i)), jR 0 false]) hm (by rw [hS]; exact f4 (k := 20 * i + 4) (by omega)) (by omega) jw_1031 jw_1032 jw_46 jw_1033 jn_L_four rfl (by simp only [List.map_cons, List.map_nil, e96]; rfl) (Nat.le_of_ble_eq_true rfl) rfl dL_say_27 ?_
    refine jr_aload_n hm (i := 1) rfl rfl dL_say_30 ?_
    refine jr_iload_n hm (i := 3) rfl rfl dL_say_31 ?_
    refine jr_bipush hm (v := 8) (by decide) dL_say_32 ?_
    refine jr_iadd hm dL_say_34 ?_
    rw [show nI (20 * i) + 8 = nI (20 * i + 8) from nI_add _ 8]
    refine jr_pureS (as := [jR h false, jI (nI (20 * i + 8))]) (st := [jI (kfr t (20 * i + 4)), jI (kfr t (20 * i)), jR 0 false]) hm (by rw [hS]; exact f4 (k := 20 * i + 8) (by omega)) (by omega) jw_1031 jw_1032 jw_46 jw_1033 jn_L_four rfl (by simp only [List.map_cons, List.map_nil, e96]; rfl) (Nat.le_of_ble_eq_true rfl) rfl dL_say_35 ?_
    refine jr_aload_n hm (i := 1) rfl rfl dL_say_38 ?_
    refine jr_iload_n hm (i := 3) rfl rfl dL_say_39 ?_
    refine jr_bipush hm (v := 12) (by decide) dL_say_40 ?_
    refine jr_iadd hm dL_say_42 ?_
    rw [show nI (20 * i) + 12 = nI (20 * i + 12) from nI_add _ 12]
    refine jr_pureS (as := [jR h false, jI (nI (20 * i + 12))]) (st := [jI (kfr t (20 * i + 8)), jI (kfr t (20 * i + 4)), jI (kfr t (20 * i)), jR 0 false]) hm (by rw [hS]; exact f4 (k := 20 * i + 12) (by omega)) (by omega) jw_1031 jw_1032 jw_46 jw_1033 jn_L_four rfl (by simp only [List.map_cons, List.map_nil, e96]; rfl) (Nat.le_of_ble_eq_true rfl) rfl dL_say_43 ?_
    refine jr_aload_n hm (i := 1) rfl rfl dL_say_46 ?_
    refine jr_iload_n hm (i := 3) rfl rfl dL_say_47 ?_
    refine jr_bipush hm (v := 16) (by decide) dL_say_48 ?_
    refine jr_iadd hm dL_say_50 ?_
    rw [show nI (20 * i) + 16 = nI (20 * i + 16) from nI_add _ 16]
    refine jr_pureS (as := [jR h false, jI (nI (20 * i + 16))]) (st := [jI (kfr t (20 * i + 12)), jI (kfr t (20 * i + 8)), jI (kfr t (20 * i + 4)), jI (kfr t (20 * i)), jR 0 false]) hm (by rw [hS]; exact f4 (k := 20 * i + 16) (by omega)) (by omega) jw_1031 jw_1032 jw_46 jw_1033 jn_L_four rfl (by simp only [List.map_cons, List.map_nil, e96]; rfl) (Nat.le_of_ble_eq_true rfl) rfl dL_say_51 ?_
    refine jr_callV (mc := 0) (ms := 0) (as := [jI (kfr t (20 * i)), jI (kfr t (20 * i + 4)), jI (kfr t (20 * i + 8)), jI (kfr t (20 * i + 12)), jI (kfr t (20 * i + 16))]) (st := []) hm (c_feed hw.2.1 (by omega) _ _ _ _ _) (by omega) jw_1057 jw_1058 jw_1059 jw_47 jw_1060 jn_X9_feed rfl jo_0 (fun _ _ _ _ _ => ⟨_, rfl⟩) rfl rfl (Nat.le_of_ble_eq_true rfl) rfl dL_say_54 (jkF ?_)
    refine jr_popI hm dL_say_57 ?_
    refine jr_iinc hm (i := 3) (v := nI (20 * i + 20)) rfl (show nI (20 * i) + Int32.ofInt 20 = nI (20 * i + 20) from nI_add (20 * i) 20) rfl dL_say_58 ?_
    refine jr_goto hm (tgt := 9) dL_say_61 (by decide) ?_
    exact ih (i + 1) (by omega) (by omega) _ (kfC_C1 (L := 20 * i) ha hw (by omega)) (hTp.trans jfC_Tp)
theorem l_say {h v : Nat} {t : List Nat} (ha : ∀ x ∈ t, x < 128) (ht : t.length ≤ 1000) {w : JW} (h0 : w.1 1 false 1 = 0) : jSpT ML_say 8 0 0 (some (h, v, t)) [jR 0 false, jR 96 false] w (fun r w' => r = jU ∧ kSaid t w w') := by
  refine jSpT_of jp_L_say rfl (Nat.le_of_ble_eq_true rfl) (fun C hm hT => ?_)
  refine jr_aload_n hm (i := 0) rfl rfl dL_say_0 ?_
  refine jr_bipush hm (v := 13) (by decide) dL_say_1 ?_
  refine jr_callV (mc := 0) (ms := 0) (as := [jI 13]) (st := []) hm (c_count13 w) (by omega) jw_74 jw_75 jw_76 jw_47 jw_77 jn_X9_count rfl jo_0 (fun _ _ _ _ _ => ⟨_, rfl⟩) rfl rfl (Nat.le_of_ble_eq_true rfl) rfl dL_say_3 (jkF ?_)
  rw [h0]
  refine jr_istore_n hm (i := 2) rfl (Nat.le_of_ble_eq_true rfl) rfl dL_say_6 ?_
  refine jr_iconst hm (v := 0) (by decide) dL_say_7 ?_
  refine jr_istore_n hm (i := 3) rfl (Nat.le_of_ble_eq_true rfl) rfl dL_say_8 ?_
  refine l_sayloop hm hT (hm.adS.2.2.2 _ hT).1 ha ht t.length 0 (by omega) (by omega) w ⟨⟨by omega, fun i hi => absurd hi (Nat.not_lt_zero i), fun i _ => if_neg (Nat.not_lt_zero i)⟩, h0, fun i hi => absurd hi (Nat.not_lt_zero i)⟩ ⟨rfl, fun _ _ _ _ => rfl⟩

