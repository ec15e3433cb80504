/-! the law's frame: its script, its calls of wrappers, a record of draws that moves -/
abbrev ML_law : JM := (cL_law, 9, RL, ret, yL_law)
/-- what a frame needs beside jok to call what may throw -/
def jLE (C : JC) : Prop := (jl C).stackTraces = false ∧ jGX (js C) ∧ jZZ (jA C) (js C) (js C).heap
/-- the script: L ints xs, outside the world; kind 97 -/
def jScr (C : JC) (b L : Nat) (xs : Nat → Int32) : Prop := va_X b L xs (js C) (js C).heap ∧ b < (js C).heap.size ∧ ¬ jA C b ∧ jad C 97 false = b
theorem jl_sld {C : JC} {M : JM} {d cl sl : Nat} {Q : State → Prop} {pc : Nat} {ls st : List JV} {w : JW} {b L : Nat} {xs : Nat → Int32} (hm : jok C M d cl sl) (hs : jScr C b L xs) {i : Int32} (hin : vp_in i L) (hd : decode M.1 pc = .ok (.iaload, 1)) (k : jW C cl sl Q (pc + 1) ls (jI (xs i.toNatClampNeg) :: st) w) : jW C cl sl Q pc ls (jI i :: jR 97 false :: st) w := by
  intro H locs a hr hl
  show W (jp C) (jl C) (je C) (jR0 C) (js C) (jm C) (jar C) (jbe C) (jme C) (jco C) H locs cl sl Q (F0 (jm C) pc a (.int i :: .ref (jad C 97 false) :: st.map (jcv (jad C))))
  rw [hs.2.2.2]
  exact va_sld hm.exec hm.code hs.1 hs.2.1 hs.2.2.1 hr.2.2 hin hd (k H locs a hr hl)
theorem jl_slen {C : JC} {M : JM} {d cl sl : Nat} {Q : State → Prop} {pc : Nat} {ls st : List JV} {w : JW} {b L : Nat} {xs : Nat → Int32} (hm : jok C M d cl sl) (hs : jScr C b L xs) (hd : decode M.1 pc = .ok (.arraylength, 1)) (k : jW C cl sl Q (pc + 1) ls (jI (nI L) :: st) w) : jW C cl sl Q pc ls (jR 97 false :: st) w := by
  intro H locs a hr hl
  show W (jp C) (jl C) (je C) (jR0 C) (js C) (jm C) (jar C) (jbe C) (jme C) (jco C) H locs cl sl Q (F0 (jm C) pc a (.ref (jad C 97 false) :: st.map (jcv (jad C))))
  rw [hs.2.2.2]
  exact va_slen hm.exec hm.code hs.1 hs.2.1 hs.2.2.1 hr.2.2 hd (k H locs a hr hl)
theorem jr_callSW {C : JC} {M : JM} {d cl sl mc ms : Nat} {Q : State → Prop} {pc : Nat} {ls st st0 : List JV} {w : JW} (hm : jok C M d (cl + mc) (sl + ms)) (hE : jLE C) {Mc : JM} {hh : List (Nat × Nat × Nat × Nat)} {d2 n index : Nat} {as : List JV} {P : JV → JW → Prop} (hs : jSW Mc hh d2 mc ms as w P) (hd2 : d2 + 1 ≤ d)
    (hw1 : Cond.methodLink M.2.2.1 index Mc.2.2.2.2 ∈ jGL) (hw2 : Cond.static Mc.2.2.2.2 ∈ jGL) (hw4 : Cond.initialized Mc.2.2.1 ∈ jGL) (hw5 : Cond.codeWith Mc.2.2.2.2 Mc.1 Mc.2.1 Mc.2.2.2.1 hh ∈ jGL) (hy : jnm Mc n)
    (hn : as.length = n) (hst : st0 = as.reverse ++ st) (hcat : jcats st ≤ 8) (hln : ls.length = M.2.1) (hd : decode M.1 pc = .ok (.invokestatic index, 3))
    (kk : ∀ (v : JV) (w2 : JW), P v w2 → jW C (cl + mc) (sl + ms) Q (pc + 3) ls (jpush v st) w2) : jW C cl sl Q pc ls st0 w := by
  subst hst
  obtain ⟨htr, hG, hZ⟩ := hE
  have h40 := hm.2.2.2.2.2.2.2.2.2.2.1
  have hfr := hm.2.2.2.2.2.2.2.2.2.1
  have h21 := hy.2.2.2.2
  intro H locs a hr hl
  have e : (as.reverse ++ st).map (jcv (jad C)) = (as.map (jcv (jad C))).reverse ++ st.map (jcv (jad C)) := by simp [List.map_reverse]
  rw [e]
  have hM := hs (jl C) (jD C) (jad C) (jcs C) (jS C) H.size htr
  have hrun : vx_Run (jp C) (jl C) (je C) (jR0 C) (js C) (jm C) (jar C) (jbe C) (jme C) (jco C) H locs cl sl mc ms (F0 (jm C) pc a ((as.map (jcv (jad C))).reverse ++ st.map (jcv (jad C)))) (st.map (jcv (jad C))) (jQc (jD C) (jad C) (jcs C) (jAd (jad C) H.size) P #[]) (fun _ _ _ => False) (jAd (jad C) H.size) :=
    vx_runSX (own := M.2.2.1) (n := n) (nL := M.2.1) (Ts := jGL) (As := as.map (jcv (jad C))) (rest := st.map (jcv (jad C))) ⟨hm.exec, hm.code, hm.2.2.1, hm.own, hm.hts⟩ hM
    ⟨⟨rfl, rfl, Nat.le_trans hd2 hfr, by show 8 + (Mc.2.1 + 11) + 40 * d2 ≤ _; omega, pay_in (big := jGL) hm.hts (fun x hx => by
      obtain rfl := List.mem_singleton.mp hx
      exact ⟨hw5, Or.inl rfl⟩), List.mem_cons_self⟩, hm.hts _ hw5, by rw [hy.1]; exact hm.hts _ hw4, ⟨hy.2.1, hy.2.2.1⟩, jnm_len hy, hm.hts _ hw1, hm.hts _ hw2⟩
    ⟨jBX_blind, fun U hU hW => ⟨rfl, jBX_of hm hG hZ hr hU hW⟩⟩ rfl (by rw [List.length_map]; exact hn) (by rw [← hln]; exact hl.1) rfl (lv_room (Nat.le_trans (jcats_le st) hcat)) hd ⟨hm.2.2.2.2.2.2.2.2.2.2.2.1, hm.2.2.2.2.2.2.2.2.2.2.2.2⟩
  have hin := jAd_in hr hm.new
  intro T hT X
  rcases hrun T hT X with ⟨v, s0, t, T', L, h0, X', hL, e1, e2, ⟨⟨u, w2, hv, hp, hb⟩, hz, hk⟩, step⟩ | ⟨q, s0, t, T', L, E, ce, h0, X', hL, e1, e2, hx, -⟩
  · cases hv
    rw [h0] at hz hk
    have hr2 : jrep C w2 T'.heap (locs ++ L) := by
      refine ⟨by rw [e1]; exact hb, jWs_D hr.2.1, Nat.le_trans hr.2.2.1 (by rw [e1]; exact hz), fun q h1 h2 => ?_, fun q hq => ?_⟩
      · have hlt : q < H.size := Nat.lt_of_lt_of_le h1 hr.2.2.1
        rw [e1, hk q hlt (fun z => h2 (hin q z))]
        exact hr.2.2.2.1 q h1 h2
      · rcases List.mem_append.mp hq with h | h
        · exact hr.2.2.2.2 q h
        · exact hin _ (hL q h)
    obtain ⟨t2, a1, b1⟩ := kk u w2 hp T'.heap (locs ++ L) a hr2 hl T' rfl X'
    refine ⟨t2, step t2 ?_, b1⟩
    have e3 := jpush_map (ad := jad C) u st
    show Steps (jp C).tables (je C) (jbe C) (T'.setTop { method := jm C, pc := pc + 3, locals := a, stack := (jout (jad C) u).toList ++ st.map (jcv (jad C)), locked := none }) t2
    rw [e3]
    exact a1
  · exact hx.elim
/-- the context with another record of draws -/
abbrev jdr (C : JC) (d : Drawn) : JC := (jp C, jl C, je C, jR0 C, (js C).setDrawn d, jm C, jar C, jbe C, jme C, jco C, jD C, jad C, jcs C, jA C, jS C)
theorem jdr_warm {s : State} {d : Drawn} : s.WarmedH (s.setDrawn d).vm := State.WarmedH.refl s
theorem jok.dr {C : JC} {M : JM} {d cl sl : Nat} (h : jok C M d cl sl) (q : Drawn) : jok (jdr C q) M d cl sl := by
  obtain ⟨a1, a2, a3, a4, a5, a6, a7, ⟨a8, a9⟩, b1, b2, b3, b4, b5⟩ := h
  exact ⟨a1, a2, a3, a4, a5, a6, va_K.moved (U := (js C).setDrawn q) jdr_warm.alike a7, ⟨jSF.warm (U := (js C).setDrawn q) jdr_warm a8, a9⟩, b1, b2, b3, b4, b5⟩
theorem jLE.dr {C : JC} (h : jLE C) (q : Drawn) : jLE (jdr C q) := ⟨h.1, jGX_warm (U := (js C).setDrawn q) jdr_warm h.2.1, jZZ.moved (U := (js C).setDrawn q) jdr_warm.alike h.2.2⟩
theorem jScr.dr {C : JC} {b L : Nat} {xs : Nat → Int32} (h : jScr C b L xs) (q : Drawn) : jScr (jdr C q) b L xs := ⟨va_X.moved (U := (js C).setDrawn q) jdr_warm.alike h.1, h.2⟩
/-- a call of a method that may draw -/
theorem jl_callD {C : JC} {M : JM} {d cl sl : Nat} {Q : State → Prop} {pc : Nat} {ls : List JV} {w : JW} (hm : jok C M d cl sl) {Mc : JM} {d2 n index k ci N : Nat} {b : Bool} {T : u_T} {as : List JV} {P : UInt64 → JW → Prop} (hs : jSD Mc d2 (jR k b :: as) w P) (hd2 : d2 + 1 ≤ d)
    (hw1 : Cond.methodLink M.2.2.1 index Mc.2.2.2.2 ∈ jGL) (hw2 : Cond.instanceMethod Mc.2.2.2.2 ∈ jGL) (hw3 : Cond.selects Mc.2.2.1 Mc.2.2.2.2 Mc.2.2.2.2 ∈ jGL) (hw4 : Cond.initialized Mc.2.2.1 ∈ jGL) (hw5 : Cond.code Mc.2.2.2.2 Mc.1 Mc.2.1 Mc.2.2.2.1 ∈ jGL) (hy : jnm Mc n)
    (hn : as.length = n) (hO : (k, b) ∈ jO) (hE : ∀ ad cs f g q, ∃ fs, jE ad cs f g q k b = .inr (ci, fs)) (hc : vwCl[ci]? = some (Mc.2.2.1, T, N)) {rest : List Value} (hcat : (rest.map fun v => v.category).sum ≤ 8) (hln : M.2.1 = ls.length) (hd : decode M.1 pc = .ok (.invokevirtual index, 3))
    (H : Heap) (locs : List Loc) (a : Array Slot) (hsz : a.size = ls.length) (hr : jrep C w H locs)
    (kk : ∀ (r : UInt64) (w2 : JW), P r w2 → ∀ (H : Heap) (locs : List Loc), jrep C w2 H locs → ∀ q : Drawn, (js C).drawn.sameBut q lw_cs → W (jp C) (jl C) (je C) (jR0 C) ((js C).setDrawn q) (jm C) (jar C) (jbe C) (jme C) (jco C) H locs cl sl Q (F0 (jm C) (pc + 3) a (.double r :: rest))) :
    W (jp C) (jl C) (je C) (jR0 C) (js C) (jm C) (jar C) (jbe C) (jme C) (jco C) H locs cl sl Q (F0 (jm C) pc a ((as.map (jcv (jad C))).reverse ++ Value.ref (jad C k b) :: rest)) := by
  have h40 := hm.2.2.2.2.2.2.2.2.2.2.1
  have hfr := hm.2.2.2.2.2.2.2.2.2.1
  have h21 := hy.2.2.2.2
  have hM := hs (jl C) (jD C) (jad C) (jcs C) (jS C) H.size
  obtain ⟨q0, -, hq⟩ := jWs_at (ad := jad C) (cs := jcs C) (w := w) hO
  obtain ⟨fs, hf⟩ := hE (jad C) (jcs C) (w.1 k b) (w.2.1 k) (w.2.2 k)
  unfold jEw at hq
  rw [hf] at hq
  have hrun : va_RunD lw_cs (jp C) (jl C) (je C) (jR0 C) (js C) (jm C) (jar C) (jbe C) (jme C) (jco C) H locs cl sl 0 0 (F0 (jm C) pc a ((as.map (jcv (jad C))).reverse ++ Value.ref (jad C k b) :: rest)) rest (jQD (jD C) (jad C) (jcs C) (jAd (jad C) H.size) P #[]) (jAd (jad C) H.size) :=
    va_runV_D (C := Mc.2.2.1) (own := M.2.2.1) (n := n) (nL := M.2.1) (Ts := jGL) (As := as.map (jcv (jad C))) (rest := rest) ⟨hm.exec, hm.code, hm.2.2.1, hm.own, hm.hts⟩ hM
    ⟨⟨rfl, rfl, Nat.le_trans hd2 hfr, by show 8 + (Mc.2.1 + 11) + 40 * d2 ≤ _; omega, jcode_pay hm hw5, List.mem_cons_self, hm.hts _ hw5, by rw [hy.1]; exact hm.hts _ hw4, ⟨hy.2.1, hy.2.2.1⟩, jnm_len hy, hm.hts _ hw1⟩, hm.hts _ hw2, hm.hts _ hw3⟩
    ⟨jB_blind, va_recv hm.K hr.1 hc hq, fun U hU hW => ⟨by simp [jcv, jR], jB_of hm hr hU hW⟩⟩ rfl (by rw [List.length_map]; exact hn) (by rw [hln]; exact hsz) rfl (lv_room hcat) hd ⟨hm.2.2.2.2.2.2.2.2.2.2.2.1, hm.2.2.2.2.2.2.2.2.2.2.2.2⟩
  intro T hT X
  obtain ⟨v, s0, t, T', L, q, hq2, h0, X', hL, e1, e2, ⟨⟨r, w2, hv, hp, hb⟩, hz, hk⟩, step⟩ := hrun T hT X
  cases hv
  rw [h0] at hz hk
  have hin := jAd_in hr hm.new
  have hr2 : jrep C w2 T'.heap (locs ++ L) := by
    refine ⟨by rw [e1]; exact hb, jWs_D hr.2.1, Nat.le_trans hr.2.2.1 (by rw [e1]; exact hz), fun q h1 h2 => ?_, fun q hq => ?_⟩
    · have hlt : q < H.size := Nat.lt_of_lt_of_le h1 hr.2.2.1
      rw [e1, hk q hlt (fun z => h2 (hin q z))]
      exact hr.2.2.2.1 q h1 h2
    · rcases List.mem_append.mp hq with h | h
      · exact hr.2.2.2.2 q h
      · exact hin _ (hL q h)
  obtain ⟨t2, a1, b1⟩ := kk r w2 hp T'.heap (locs ++ L) hr2 q hq2 T' rfl X'
  exact ⟨t2, step t2 a1, b1⟩
theorem jvi {j k L : Nat} (h : j + k < L) (hL : L ≤ 3072) : vp_in (nI j + nI k) L := by
  rw [nI_add]
  exact vp_in_nI h (by omega)
