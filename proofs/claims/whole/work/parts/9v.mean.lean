/-! doubles: the mean on both sides; it may draw -/
def jQD (D : va_G) (ad : JAd) (cs : Nat → ClassId) (A : Nat → Prop) (P : UInt64 → JW → Prop) : Array Value → State → Outcome → State → Prop := fun _ s0 oc t =>
  (∃ (r : UInt64) (w : JW), oc = .returned (some (.double r)) ∧ P r w ∧ va_P D vwCl (jWs ad cs w) t.heap) ∧ va_F A s0 t
def jSD (M : JM) (d : Nat) (as : List JV) (w : JW) (P : UInt64 → JW → Prop) : Prop :=
  ∀ (l : Launch) (D : va_G) (ad : JAd) (cs : Nat → ClassId) (S : JT) (sz : Nat), MetD lw_cs l M.2.2.2.2 (jws M) (jroom d 0 0) (va_Pc (as.map (jcv ad)) (jB D ad cs S sz w)) (jQD D ad cs (jAd ad sz) P) 0 0 (jAd ad sz)
abbrev jQQD (C : JC) (P : UInt64 → JW → Prop) : State → Prop := MQD lw_cs (jbe C) (jQD (jD C) (jad C) (jcs C) (jA C) P) (jar C) (js C) 0 0 (jA C)
theorem jSD_of {M : JM} {d : Nat} {as : List JV} {w : JW} {P : UInt64 → JW → Prop} (hy : plainName M.2.2.2.2.cls = true) (hc : M.2.2.2.2.cls = M.2.2.1) (hlen : (jent as).length ≤ M.2.1)
    (h : ∀ C : JC, jok C M d 0 0 → jW C 0 0 (jQQD C P) 0 (jentry as M.2.1) [] w) : jSD M d as w P := by
  intro l D ad cs S sz
  refine MetD.ofW (cc := M.1) (maxL := M.2.1) (ret := M.2.2.2.1) hy rfl ?_
  intro p e s m args below meth c s₁ B hml hv hd0
  obtain ⟨rfl, hsz, hP, hD, hK, hF, hSs⟩ := hv
  have hown : s.vm.findClass M.2.2.2.2.cls = some m.cls := findClass_of_methodNamed B.named
  rw [hc] at hown
  subst hsz
  have hl := lv_entry (as.map (jcv ad)) (n := M.2.1) (by rw [jent_len]; exact hlen)
  rw [lg_entry_eq]
  have key := h (p, l, e, jroom d 0 0, s, m, (as.map (jcv ad)).toArray, below, meth, c, D, ad, cs, jAd ad s.heap.size, S)
    ⟨B.exec, B.bytes, hml, hown, B.returns, B.notSynchronized, hK, ⟨hF, hSs⟩, fun q hq => Or.inr hq, Nat.le_refl _, Nat.le_refl _, Nat.le_refl _, Nat.le_refl _⟩
  refine key s.heap [] _ ⟨hP, ⟨hD.1, fun k q hk => ?_⟩, va_S.rf⟩ ⟨?_, hl.2.1, fun i v hi hv => ?_⟩
  · simp only [jWs, List.getElem?_map, Option.map_eq_some_iff] at hk
    obtain ⟨o, ho, rfl⟩ := hk
    exact Or.inl ⟨o, List.mem_of_getElem? ho, rfl⟩
  · rw [hl.1]
    unfold jentry
    rw [List.length_append, List.length_replicate]
    omega
  · refine hl.2.2 (i, jcv ad v) ?_
    unfold jentry at hi
    by_cases hlt : i < (jent as).length
    · rw [List.getElem?_append_left hlt] at hi
      have := jent_args (ad := ad) as 0 i v hi hv
      rwa [Nat.zero_add] at this
    · rw [List.getElem?_append_right (by omega)] at hi
      exact absurd (List.eq_of_mem_replicate (List.mem_of_getElem? hi)) hv
theorem jr_dret {C : JC} {M : JM} {d : Nat} (hm : jok C M d 0 0) {P : UInt64 → JW → Prop} (hret : M.2.2.2.1 = some .double) {d1 : Drawn} (hd1 : (js C).drawn.sameBut d1 lw_cs) {pc : Nat} {a : Array Slot} {H : Heap} {locs : List Loc} {w : JW} {r : UInt64} (hr : jrep C w H locs) (hd : decode M.1 pc = .ok (.dreturn, 1)) (hp : P r w) : W (jp C) (jl C) (je C) (jR0 C) ((js C).setDrawn d1) (jm C) (jar C) (jbe C) (jme C) (jco C) H locs 0 0 (jQQD C P) (F0 (jm C) pc a [.double r]) :=
  W.endD hd1 (W.dret hm.exec hm.code (hm.2.2.2.2.1.trans hret) (fun t ht _ => ⟨⟨r, w, rfl, hp, by rw [ht]; exact hr.1⟩, hr.2.2.F ht⟩) hr.2.2.2.2 hd hm.2.2.2.2.2.1)
/-- a call over a rest of any values -/
theorem jr_callVR {C : JC} {M : JM} {d cl sl : Nat} {Q : State → Prop} {pc : Nat} {ls : List JV} {w : JW} (hm : jok C M d cl sl) {Mc : JM} {d2 n index k ci N : Nat} {b : Bool} {T : u_T} {as : List JV} {P : JV → JW → Prop} (hs : jSp Mc d2 0 0 (jR k b :: as) w P) (hd2 : d2 + 1 ≤ d)
    (hw1 : Cond.methodLink M.2.2.1 index Mc.2.2.2.2 ∈ jGL) (hw2 : Cond.instanceMethod Mc.2.2.2.2 ∈ jGL) (hw3 : Cond.selects Mc.2.2.1 Mc.2.2.2.2 Mc.2.2.2.2 ∈ jGL) (hw4 : Cond.initialized Mc.2.2.1 ∈ jGL) (hw5 : Cond.code Mc.2.2.2.2 Mc.1 Mc.2.1 Mc.2.2.2.1 ∈ jGL) (hy : jnm Mc n)
    (hn : as.length = n) (hO : (k, b) ∈ jO) (hE : ∀ ad cs f g q, ∃ fs, jE ad cs f g q k b = .inr (ci, fs)) (hc : vwCl[ci]? = some (Mc.2.2.1, T, N)) {rest : List Value} (hcat : (rest.map fun v => v.category).sum ≤ 8) (hln : ls.length = M.2.1) (hd : decode M.1 pc = .ok (.invokevirtual index, 3))
    (kk : ∀ (v : JV) (w2 : JW), P v w2 → ∀ (H : Heap) (locs : List Loc) (a : Array Slot), jrep C w2 H locs → jloc (jad C) ls a → W (jp C) (jl C) (je C) (jR0 C) (js C) (jm C) (jar C) (jbe C) (jme C) (jco C) H locs cl sl Q (F0 (jm C) (pc + 3) a ((jout (jad C) v).toList ++ rest))) (H : Heap) (locs : List Loc) (a : Array Slot) (hr : jrep C w H locs) (hl : jloc (jad C) ls a) :
    W (jp C) (jl C) (je C) (jR0 C) (js C) (jm C) (jar C) (jbe C) (jme C) (jco C) H locs cl sl Q (F0 (jm C) pc a ((as.map (jcv (jad C))).reverse ++ Value.ref (jad C k b) :: rest)) := by
  have h40 := hm.2.2.2.2.2.2.2.2.2.2.1
  have hfr := hm.2.2.2.2.2.2.2.2.2.1
  have h21 := hy.2.2.2.2
  have hM := hs (jl C) (jD C) (jad C) (jcs C) (jS C) H.size
  obtain ⟨q0, -, hq⟩ := jWs_at (ad := jad C) (cs := jcs C) (w := w) hO
  obtain ⟨fs, hf⟩ := hE (jad C) (jcs C) (w.1 k b) (w.2.1 k) (w.2.2 k)
  unfold jEw at hq
  rw [hf] at hq
  have hrun : va_Run (jp C) (jl C) (je C) (jR0 C) (js C) (jm C) (jar C) (jbe C) (jme C) (jco C) H locs cl sl 0 0 (F0 (jm C) pc a ((as.map (jcv (jad C))).reverse ++ Value.ref (jad C k b) :: rest)) rest (jQc (jD C) (jad C) (jcs C) (jAd (jad C) H.size) P #[]) (jAd (jad C) H.size) :=
    va_runV (C := Mc.2.2.1) (own := M.2.2.1) (n := n) (nL := M.2.1) (Ts := jGL) (As := as.map (jcv (jad C))) (rest := rest) ⟨hm.exec, hm.code, hm.2.2.1, hm.own, hm.hts⟩ hM
    ⟨⟨rfl, rfl, Nat.le_trans hd2 hfr, by show 8 + (Mc.2.1 + 11) + 40 * d2 ≤ _; omega, jcode_pay hm hw5, List.mem_cons_self, hm.hts _ hw5, by rw [hy.1]; exact hm.hts _ hw4, ⟨hy.2.1, hy.2.2.1⟩, jnm_len hy, hm.hts _ hw1⟩, hm.hts _ hw2, hm.hts _ hw3⟩
    ⟨jB_blind, va_recv hm.K hr.1 hc hq, fun U hU hW => ⟨by simp [jcv, jR], jB_of hm hr hU hW⟩⟩ rfl (by rw [List.length_map]; exact hn) (by rw [← hln]; exact hl.1) rfl (lv_room hcat) hd ⟨hm.2.2.2.2.2.2.2.2.2.2.2.1, hm.2.2.2.2.2.2.2.2.2.2.2.2⟩
  intro T hT X
  obtain ⟨v, s0, t, T', L, h0, X', hL, e1, e2, ⟨⟨u, w2, hv, hp, hb⟩, hz, hk⟩, step⟩ := hrun T hT X
  cases hv
  rw [h0] at hz hk
  have hin := jAd_in hr hm.new
  have hr2 : jrep C w2 T'.heap (locs ++ L) := by
    refine ⟨by rw [e1]; exact hb, jWs_D hr.2.1, Nat.le_trans hr.2.2.1 (by rw [e1]; exact hz), fun q h1 h2 => ?_, fun q hq => ?_⟩
    · have hlt : q < H.size := Nat.lt_of_lt_of_le h1 hr.2.2.1
      rw [e1, hk q hlt (fun z => h2 (hin q z))]
      exact hr.2.2.2.1 q h1 h2
    · rcases List.mem_append.mp hq with h | h
      · exact hr.2.2.2.2 q h
      · exact hin _ (hL q h)
  obtain ⟨t2, a1, b1⟩ := kk u w2 hp T'.heap (locs ++ L) a hr2 hl T' rfl X'
  exact ⟨t2, step t2 a1, b1⟩
def jMean1 (S n : Int32) (r : UInt64) : Prop := (n = 0 ∧ r = FP.dconst0) ∨ (¬ n = 0 ∧ alike64 r (FP.ddiv (FP.i2d S) (FP.i2d n)) = true)
def jMean2 (S n : Int32) (r : UInt64) : Prop := (S = 0 ∧ r = FP.dconst0) ∨ (¬ S = 0 ∧ alike64 r (FP.ddiv (FP.i2d S) (FP.i2d n)) = true)
theorem c_mean {w : JW} {D : JD} (hO : jOrg w (w.2.2 0 6) D) (hW : jWF D) : jSD MX9_mean 3 [jR 0 false] w (fun r w2 => w2 = w ∧ jMean1 (jsum (fun p => w.1 17 false p) (D.1 1)) (nI (jct (fun p => decide (0 < w.1 17 false p)) (D.1 1))) r) := by
  refine jSD_of jp_X9_mean rfl (Nat.le_of_ble_eq_true rfl) (fun C hm => ?_)
  have h12 := hW.1.2.1
  have e := hO.1.2.1
  refine bk_X9_mean_0 hm (d2 := 2) (by rw [e]; exact c_pipesSounding w false h12) (by decide) ?_
  refine bk_X9_mean_14 hm (fun q => bk_X9_mean_21 hm ?_) (fun q => ?_)
  · refine jfor (P := fun i => i ≤ D.1 1 → jW C 0 0 _ 25 [jR 0 false, jI (nI (jct (fun p => decide (0 < w.1 17 false p)) (D.1 1))), jI (jsum (fun p => w.1 17 false p) i), jI (nI i)] [] w) (D.1 1) ?_ ?_ (Nat.zero_le _)
    · intro _
      refine bk_X9_mean_25 hm (fun _ => bk_X9_mean_56 hm ?_) (fun z => absurd (by rw [e]; exact (nI_leI (by omega) (by omega)).mpr (Nat.le_refl _)) z)
      intro H locs a hr hl
      refine lv_i2d hm.exec hm.code dX9_mean_57 ?_
      refine lv_iload_n hm.exec hm.code dX9_mean_58 (i := 1) rfl (hl.2.2 1 _ rfl (fun h => by cases h)) ?_
      refine lv_i2d hm.exec hm.code dX9_mean_59 ?_
      refine W.base ?_
      refine lv_ddiv_any (Drawn.sameBut.refl _ lw_cs) lw_bits hm.exec hm.code dX9_mean_60 (fun r d1 hal hd1 => ?_)
      exact jr_dret hm rfl hd1 hr dX9_mean_61 ⟨rfl, Or.inr ⟨q, hal⟩⟩
    · intro i hi ih _
      refine bk_X9_mean_25 hm (fun z => absurd ((nI_leI (a := D.1 1) (b := i) (by omega) (by omega)).mp (by rw [← e]; exact z)) (by omega)) (fun _ => ?_)
      refine bk_X9_mean_36 hm (c_atN (ja_17 false) w (j := i) (by omega)) (by decide) (bk_X9_mean_48 hm ?_)
      rw [nI_1]
      exact ih (by omega)
  · intro H locs a hr hl
    refine lv_dconst0 hm.exec hm.code dX9_mean_19 ?_
    refine W.base ?_
    exact jr_dret hm rfl (Drawn.sameBut.refl _ lw_cs) hr dX9_mean_20 ⟨rfl, Or.inl ⟨q, rfl⟩⟩
theorem c_mmean {w : JW} {D : JD} (hB : jBk w (w.2.2 41 8) D) (hW : jWF D) : jSD MX11_mean 1 [jR 41 false] w (fun r w2 => w2 = jT0 w 0 ∧ jMean2 (jsum (fun p => w.1 51 false (21 + p)) (D.1 1)) (jSnd D (w.1 51 false)) r) := by
  refine jSD_of jp_X11_mean rfl (Nat.le_of_ble_eq_true rfl) (fun C hm => ?_)
  have h12 := hW.1.2.1
  have hB0 := hB.t0 0
  have e : (jT0 w 0).1 53 ((jT0 w 0).2.2 41 8) 1 = nI (D.1 1) := hB0.1.2.1
  have e51 : (jT0 w 0).1 51 false = w.1 51 false := jset_k (by omega)
  refine bk_X11_mean_0 hm ?_
  refine jfor (P := fun i => i ≤ D.1 1 → jW C 0 0 _ 9 [jR 41 false, jI (jsum (fun p => w.1 51 false (21 + p)) i), jI (nI i)] [] (jT0 w 0)) (D.1 1) ?_ ?_ (Nat.zero_le _)
  · intro _
    refine bk_X11_mean_9 hm (fun _ => ?_) (fun z => absurd (by rw [e]; exact (nI_leI (by omega) (by omega)).mpr (Nat.le_refl _)) z)
    refine bk_X11_mean_38 hm (fun q => bk_X11_mean_46 hm ?_) (fun q => ?_)
    · intro H locs a hr hl
      refine lv_i2d hm.exec hm.code dX11_mean_47 ?_
      refine lv_aload_n hm.exec hm.code dX11_mean_48 (i := 0) rfl (hl.2.2 0 _ rfl (fun h => by cases h)) ?_
      refine lv_aload_n hm.exec hm.code dX11_mean_49 (i := 0) rfl (hl.2.2 0 _ rfl (fun h => by cases h)) ?_
      obtain ⟨q0, -, hq⟩ := jWs_at (ad := jad C) (cs := jcs C) (w := jT0 w 0) jo_41
      refine va_get (v := .ref (jad C 51 false)) (C := RX11) (T := TX11) (N := 21) (ci := 11) (ref := RX11) hm.exec hm.code hm.hts jin_X11 hm.own hm.K hr.1 q0 hq rfl 19 (by decide) (hm.hts _ jw_1371) (fun x hx => hx) rfl dX11_mean_50 ?_
      refine jr_callVR hm (as := [jR 51 false]) (c_msounding hB0 hW ja_51) (by decide) jw_1600 jw_1602 jw_86 jw_125 jw_1603 jn_X11_sounding rfl jo_41 (fun _ _ _ _ _ => ⟨_, rfl⟩) rfl (rest := [.double (FP.i2d _)]) (Nat.le_of_ble_eq_true rfl) rfl dX11_mean_53 (fun v w2 hp H locs a hr hl => ?_) H locs a hr hl
      obtain ⟨rfl, rfl⟩ := hp
      refine lv_i2d hm.exec hm.code dX11_mean_56 ?_
      refine W.base ?_
      refine lv_ddiv_any (Drawn.sameBut.refl _ lw_cs) lw_bits hm.exec hm.code dX11_mean_57 (fun r d1 hal hd1 => ?_)
      rw [e51] at hal
      exact jr_dret hm rfl hd1 hr dX11_mean_58 ⟨rfl, Or.inr ⟨q, hal⟩⟩
    · intro H locs a hr hl
      refine lv_dconst0 hm.exec hm.code dX11_mean_42 ?_
      refine lv_goto (tgt := 58) hm.exec hm.code dX11_mean_43 (by decide) ?_
      refine W.base ?_
      exact jr_dret hm rfl (Drawn.sameBut.refl _ lw_cs) hr dX11_mean_58 ⟨rfl, Or.inl ⟨q, rfl⟩⟩
  · intro i hi ih _
    refine bk_X11_mean_9 hm (fun z => absurd ((nI_leI (a := D.1 1) (b := i) (by omega) (by omega)).mp (by rw [← e]; exact z)) (by omega)) (fun _ => ?_)
    refine bk_X11_mean_20 hm (by rw [xa21]; exact vp_in_nI (by omega) (by omega)) ?_
    rw [xa21, nI_clamp (by omega), nI_1, e51]
    exact ih (by omega)
