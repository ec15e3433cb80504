/-! calls of methods that may throw, and handlers -/
def jokW (C : JC) (M : JM) (hh : List (Nat × Nat × Nat × Nat)) (d cl sl : Nat) : Prop := jok C M d cl sl ∧ (jl C).stackTraces = false ∧ jGX (js C) ∧ jZZ (jA C) (js C) (js C).heap ∧ (jco C).exceptionTable.toList = tableOf hh
theorem jBX_of {C : JC} {M : JM} {d cl sl : Nat} (hm : jok C M d cl sl) (hG : jGX (js C)) (hZ : jZZ (jA C) (js C) (js C).heap) {w : JW} {H : Heap} {locs : List Loc} (hr : jrep C w H locs) {U : State} (hU : U.heap = H) (hW : (js C).WarmedH U.vm) : jBX (jD C) (jad C) (jcs C) (jS C) H.size w U := by
  refine ⟨jB_of hm hr hU hW, jGX_warm hW hG, ?_⟩
  rw [hU]
  exact ((hZ.moved hW.alike).kept hr.2.2.2.1).narrow (jAd_in hr hm.new)
/-- an E is thrown over the frame at pc, over the world w -/
def jVX (C : JC) (cl sl : Nat) (Q : State → Prop) (pc : Nat) (ls : List JV) (E : String) (w : JW) : Prop :=
  ∀ (H : Heap) (locs : List Loc) (a : Array Slot) (q : Addr) (ce : Cell) (st : List Value), jrep C w H locs → jloc (jad C) ls a → H[q]? = some ce → ce.vm = .none → (js C).vm.findClass E = some ce.cls →
    vx_W (jp C) (jl C) (je C) (jR0 C) (js C) (jm C) (jar C) (jbe C) (jme C) (jco C) H locs cl sl Q (F0 (jm C) pc a st) q
theorem jr_callVX {C : JC} {M : JM} {hh : List (Nat × Nat × Nat × Nat)} {d cl sl mc ms : Nat} {Q : State → Prop} {pc : Nat} {ls st st0 : List JV} {w : JW} (hw : jokW C M hh d (cl + mc) (sl + ms)) {Mc : JM} {d2 n index k ci N : Nat} {b : Bool} {T : u_T} {as : List JV} {P : JV → JW → Prop} {PX : String → JW → Prop} (hs : jSX Mc d2 mc ms (jR k b :: as) w P PX) (hd2 : d2 + 1 ≤ d)
    (hw1 : Cond.methodLink M.2.2.1 index Mc.2.2.2.2 ∈ jGL) (hw2 : Cond.instanceMethod Mc.2.2.2.2 ∈ jGL) (hw3 : Cond.selects Mc.2.2.1 Mc.2.2.2.2 Mc.2.2.2.2 ∈ jGL) (hw4 : Cond.initialized Mc.2.2.1 ∈ jGL) (hw5 : Cond.code Mc.2.2.2.2 Mc.1 Mc.2.1 Mc.2.2.2.1 ∈ jGL) (hy : jnm Mc n)
    (hn : as.length = n) (hO : (k, b) ∈ jO) (hE : ∀ ad cs f g q, ∃ fs, jE ad cs f g q k b = .inr (ci, fs)) (hc : vwCl[ci]? = some (Mc.2.2.1, T, N)) (hst : st0 = as.reverse ++ jR k b :: st) (hcat : jcats st ≤ 8) (hln : ls.length = M.2.1) (hd : decode M.1 pc = .ok (.invokevirtual index, 3))
    (kk : ∀ (v : JV) (w2 : JW), P v w2 → jW C (cl + mc) (sl + ms) Q (pc + 3) ls (jpush v st) w2) (kx : ∀ (E : String) (w2 : JW), PX E w2 → jVX C (cl + mc) (sl + ms) Q pc ls E w2) : jW C cl sl Q pc ls st0 w := by
  subst hst
  obtain ⟨hm, htr, hG, hZ, -⟩ := hw
  have h40 := hm.2.2.2.2.2.2.2.2.2.2.1
  have hfr := hm.2.2.2.2.2.2.2.2.2.1
  have h21 := hy.2.2.2.2
  intro H locs a hr hl
  have e : (as.reverse ++ jR k b :: st).map (jcv (jad C)) = (as.map (jcv (jad C))).reverse ++ Value.ref (jad C k b) :: st.map (jcv (jad C)) := by simp [List.map_reverse, jcv, jR]
  rw [e]
  have hM := hs (jl C) (jD C) (jad C) (jcs C) (jS C) H.size htr
  obtain ⟨q0, -, hq⟩ := jWs_at (ad := jad C) (cs := jcs C) (w := w) hO
  obtain ⟨fs, hf⟩ := hE (jad C) (jcs C) (w.1 k b) (w.2.1 k) (w.2.2 k)
  unfold jEw at hq
  rw [hf] at hq
  have hrun : vx_Run (jp C) (jl C) (je C) (jR0 C) (js C) (jm C) (jar C) (jbe C) (jme C) (jco C) H locs cl sl mc ms (F0 (jm C) pc a ((as.map (jcv (jad C))).reverse ++ Value.ref (jad C k b) :: st.map (jcv (jad C)))) (st.map (jcv (jad C))) (jQc (jD C) (jad C) (jcs C) (jAd (jad C) H.size) P #[]) (jXc (jD C) (jad C) (jcs C) (jAd (jad C) H.size) PX) (jAd (jad C) H.size) :=
    vx_runV (C := Mc.2.2.1) (own := M.2.2.1) (n := n) (nL := M.2.1) (Ts := jGL) (As := as.map (jcv (jad C))) (rest := st.map (jcv (jad C))) ⟨hm.exec, hm.code, hm.2.2.1, hm.own, hm.hts⟩ hM
    ⟨⟨rfl, rfl, Nat.le_trans hd2 hfr, by show 8 + (Mc.2.1 + 11) + 40 * d2 ≤ _; omega, jcode_pay hm hw5, List.mem_cons_self, hm.hts _ hw5, by rw [hy.1]; exact hm.hts _ hw4, ⟨hy.2.1, hy.2.2.1⟩, jnm_len hy, hm.hts _ hw1⟩, hm.hts _ hw2, hm.hts _ hw3⟩
    ⟨jBX_blind, va_recv hm.K hr.1 hc hq, fun U hU hW => ⟨by simp [jcv, jR], jBX_of hm hG hZ hr hU hW⟩⟩ rfl (by rw [List.length_map]; exact hn) (by rw [← hln]; exact hl.1) rfl (lv_room (Nat.le_trans (jcats_le st) hcat)) hd ⟨hm.2.2.2.2.2.2.2.2.2.2.2.1, hm.2.2.2.2.2.2.2.2.2.2.2.2⟩
  have hin := jAd_in hr hm.new
  have hrep : ∀ (w2 : JW) (st0 t T' : State) (L : List Loc), st0.heap = H → T'.heap = t.heap → (∀ q ∈ L, jAd (jad C) H.size q.base) → va_P (jD C) vwCl (jWs (jad C) (jcs C) w2) t.heap → va_F (jAd (jad C) H.size) st0 t → jrep C w2 T'.heap (locs ++ L) := by
    intro w2 st0 t T' L h0 e1 hL hb hF
    obtain ⟨hz, hk⟩ := hF
    rw [h0] at hz hk
    refine ⟨by rw [e1]; exact hb, jWs_D hr.2.1, Nat.le_trans hr.2.2.1 (by rw [e1]; exact hz), fun q h1 h2 => ?_, fun q hq => ?_⟩
    · have hlt : q < H.size := Nat.lt_of_lt_of_le h1 hr.2.2.1
      rw [e1, hk q hlt (fun z => h2 (hin q z))]
      exact hr.2.2.2.1 q h1 h2
    · rcases List.mem_append.mp hq with h | h
      · exact hr.2.2.2.2 q h
      · exact hin _ (hL q h)
  intro T hT X
  rcases hrun T hT X with ⟨v, s0, t, T', L, h0, X', hL, e1, e2, ⟨⟨u, w2, hv, hp, hb⟩, hF⟩, step⟩ | ⟨q, s0, t, T', L, E, ce, h0, X', hL, e1, e2, ⟨⟨w2, hp, hb⟩, hF⟩, hce, hcv, hcl, step⟩
  · cases hv
    obtain ⟨t2, a1, b1⟩ := kk u w2 hp T'.heap (locs ++ L) a (hrep w2 s0 t T' L h0 e1 hL hb hF) hl T' rfl X'
    refine ⟨t2, step t2 ?_, b1⟩
    have e3 := jpush_map (ad := jad C) u st
    show Steps (jp C).tables (je C) (jbe C) (T'.setTop { method := jm C, pc := pc + 3, locals := a, stack := (jout (jad C) u).toList ++ st.map (jcv (jad C)), locked := none }) t2
    rw [e3]
    exact a1
  · obtain ⟨t2, a1, b1⟩ := kx E w2 hp T'.heap (locs ++ L) a q ce (st.map (jcv (jad C))) (hrep w2 s0 t T' L h0 e1 hL hb hF) hl (by rw [e1]; exact hce) hcv hcl T' rfl X'
    exact ⟨t2, step.trans a1, b1⟩
/-- caught: at the handler, the thing thrown on the stack, stored away at i -/
theorem jr_catch {C : JC} {M : JM} {hh : List (Nat × Nat × Nat × Nat)} {d cl sl : Nat} {Q : State → Prop} {pc : Nat} {ls : List JV} {w : JW} (hw : jokW C M hh d cl sl) {E name : String} (pre : List ExceptionTableEntry) (x : ExceptionTableEntry) (suf : List ExceptionTableEntry) (hsplit : tableOf hh = pre ++ x :: suf)
    (hpass : ∀ z ∈ pre, covers z pc = false ∨ (z.catchType ≠ 0 ∧ ∃ nm : String, Cond.classLink M.2.2.1 z.catchType nm ∈ jGL ∧ va_Nc E nm (js C))) (hx : covers x pc = true) (h0 : x.catchType ≠ 0) (hlink : Cond.classLink M.2.2.1 x.catchType name ∈ jGL) (hcast : Cond.castable E name ∈ lw_tbl)
    (kk : ∀ (q : Addr) (H : Heap) (locs : List Loc) (a : Array Slot), jrep C w H locs → jloc (jad C) ls a → W (jp C) (jl C) (je C) (jR0 C) (js C) (jm C) (jar C) (jbe C) (jme C) (jco C) H locs cl sl Q (F0 (jm C) x.handlerPc a [.ref q])) : jVX C cl sl Q pc ls E w := by
  obtain ⟨hm, htr, hG, hZ, htab⟩ := hw
  intro H locs a q ce st hr hl hce hcv hcl
  exact vx_catch hm.own pre x suf (htab.trans hsplit) (fun z hz => (hpass z hz).imp id (fun ⟨y1, nm, y2, y3⟩ => ⟨y1, nm, hm.hts _ y2, y3⟩)) hx h0 (hm.hts _ hlink) (jGX_use hG hcast rfl rfl) hce hcv hcl (kk q H locs a hr hl)
