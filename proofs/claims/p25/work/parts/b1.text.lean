
/-! TEXT FRAMES: growing frames that read texts and the script, and their contracts -/
theorem jin_J0 : ∀ x ∈ u_ws RJ0 TJ0 4, x ∈ jGL := jin_of [919, 921, 923, 925] (by decide +kernel) (by decide +kernel)
theorem jin_J4 : ∀ x ∈ u_ws RJ4 TJ4 4, x ∈ jGL := jin_of [755, 757, 759, 761] (by decide +kernel) (by decide +kernel)
def jokT (C : JC) (M : JM) (d mc ms : Nat) : Prop := jokN C M d mc ms ∧ jSF (jS C) (jA C) (js C) (js C).heap
def jBG (D : va_G) (cs : Nat → ClassId) (S : JT) (sz : Nat) (X : va_W) : State → Prop := fun U => U.heap.size = sz ∧ va_P D vwCl X U.heap ∧ va_D (fun _ => True) X ∧ va_K D vwCl (jty cs) U ∧ jSF S (va_A X sz) U U.heap
def jQG (D : va_G) (A : Nat → Prop) (P : JV → va_W → Prop) : Array Value → State → Outcome → State → Prop := fun _ s0 oc t => (∃ (v : JV) (X : va_W), oc = .returned (jout jid v) ∧ P v X ∧ va_P D vwCl X t.heap ∧ va_D A X) ∧ va_F A s0 t
/-- SIOOBE_FORMATTER holds null or a reference -/
def jFq (S : JT) : Prop := S.2.2.1 = .null ∨ ∃ q, S.2.2.1 = .ref q
/-- THE CONTRACT over cells: called with the arguments, the script and the text at hand sx, the cells X, the method returns so that P -/
def jSG (M : JM) (d mc ms : Nat) (as : List JV) (sx : JX) (X : (Nat → ClassId) → va_W) (P : (Nat → ClassId) → JV → va_W → Prop) : Prop :=
  ∀ (l : Launch) (D : va_G) (cs : Nat → ClassId) (S : JT) (sz : Nat), S.2.2.2 = sx ∧ jFq S → Met l M.2.2.2.2 (jws M) (jroom d mc ms) (va_Pc (as.map (jcv jid)) (jBG D cs S sz (X cs))) (jQG D (va_A (X cs) sz) (P cs)) mc ms (va_A (X cs) sz)
theorem jBG_blind {D : va_G} {cs : Nat → ClassId} {S : JT} {sz : Nat} {X : va_W} {av : List Value} : FrameBlind (va_Pc av (jBG D cs S sz X)) := by
  intro a U g mk q
  obtain ⟨q0, q1, qP, qD, qK, qF⟩ := q
  exact ⟨q0, q1, qP, qD, va_K.moved (u := U) (U := U.calling g mk a) (Vm.Alike.refl U.vm) qK, jSF.warm (s := U) (U := U.calling g mk a) (State.WarmedH.refl U) qF⟩
def jMQ (C : JC) (mc ms : Nat) (P : JV → va_W → Prop) : State → Prop := MQ (jbe C) (jQG (jD C) (jA C) P) (jar C) (js C) mc ms (jA C)
theorem jSG_of {M : JM} {d mc ms : Nat} {as : List JV} {sx : JX} {X : (Nat → ClassId) → va_W} {P : (Nat → ClassId) → JV → va_W → Prop} (hy : plainName M.2.2.2.2.cls = true) (hc : M.2.2.2.2.cls = M.2.2.1) (hlen : (jent as).length ≤ M.2.1)
    (hh : ∀ C : JC, jokT C M d mc ms → (jS C).2.2.2 = sx ∧ jFq (jS C) → (jme C).name = M.2.2.2.2.name → jG C 0 0 (jMQ C mc ms (P (jcs C))) 0 (jentry as M.2.1) [] (X (jcs C))) : jSG M d mc ms as sx X P := by
  intro l D cs S sz hsx
  refine Met.ofW (cc := M.1) (maxL := M.2.1) (ret := M.2.2.2.1) hy rfl ?_
  intro p e1 s m args below meth c s₁ B hml hv
  obtain ⟨rfl, hsz, hP, hD, hK, hF⟩ := hv
  have hown : s.vm.findClass M.2.2.2.2.cls = some m.cls := findClass_of_methodNamed B.named
  have hin : meth.name = M.2.2.2.2.name := (name_of_methodNamed B.named B.method).1
  rw [hc] at hown
  subst hsz
  have hl := lv_entry (as.map (jcv jid)) (n := M.2.1) (by rw [jent_len]; exact hlen)
  rw [lg_entry_eq]
  have key := hh (p, l, e1, jroom d mc ms, s, m, (as.map (jcv jid)).toArray, below, meth, c, D, jid, cs, va_A (X cs) s.heap.size, S)
    ⟨⟨B.exec, B.bytes, hml, hown, B.returns, B.notSynchronized, hK, ⟨hF.1, hF.2.2.2.2.2.2.2.1⟩, fun q hq => Or.inr hq, Nat.le_refl _, Nat.le_refl _, Nat.le_refl _, Nat.le_refl _⟩, hF⟩ hsx hin
  refine key s.heap [] _ hP hD.self va_S.rf ⟨?_, hl.2.1, fun i v hi hv => ?_⟩
  · rw [hl.1]
    unfold jentry
    rw [List.length_append, List.length_replicate]
    omega
  · refine hl.2.2 (i, jcv jid v) ?_
    unfold jentry at hi
    by_cases hlt : i < (jent as).length
    · rw [List.getElem?_append_left hlt] at hi
      have := jent_args (ad := jid) as 0 i v hi hv
      rwa [Nat.zero_add] at this
    · rw [List.getElem?_append_right (by omega)] at hi
      exact absurd (List.eq_of_mem_replicate (List.mem_of_getElem? hi)) hv
/-! returns -/
theorem jt_ret {C : JC} {M : JM} {d mc ms cl sl : Nat} {pc : Nat} {ls : List JV} {X : va_W} (hm : jokT C M d mc ms) {P : JV → va_W → Prop} (hret : M.2.2.2.1 = none) (hc : cl ≤ mc) (hs : sl ≤ ms) (hd : decode M.1 pc = .ok (.return_, 1)) (hp : P jU X) : jG C cl sl (jMQ C mc ms P) pc ls [] X := fun H locs a h1 h2 h3 hl =>
  W.widen hc hs (W.vret hm.1.exec hm.1.code (hm.1.ret.trans hret) (fun t ht _ => ⟨⟨jU, X, rfl, hp, by rw [ht]; exact h1, h2⟩, h3.F ht⟩) h3.2.2 hd hm.1.locks)
theorem jt_iret {C : JC} {M : JM} {d mc ms cl sl : Nat} {pc : Nat} {ls : List JV} {X : va_W} (hm : jokT C M d mc ms) {P : JV → va_W → Prop} {x : Int32} (hret : M.2.2.2.1 = some .int) (hc : cl ≤ mc) (hs : sl ≤ ms) (hd : decode M.1 pc = .ok (.ireturn, 1)) (hp : P (jI x) X) : jG C cl sl (jMQ C mc ms P) pc ls [jI x] X := fun H locs a h1 h2 h3 hl =>
  W.widen hc hs (W.iret hm.1.exec hm.1.code (hm.1.ret.trans hret) (fun t ht _ => ⟨⟨jI x, X, rfl, hp, by rw [ht]; exact h1, h2⟩, h3.F ht⟩) h3.2.2 hd hm.1.locks)
theorem jt_zret {C : JC} {M : JM} {d mc ms cl sl : Nat} {pc : Nat} {ls : List JV} {X : va_W} (hm : jokT C M d mc ms) {P : JV → va_W → Prop} {x : Int32} {ty : FieldType} (hty : ty = .boolean ∨ ty = .byte ∨ ty = .char) (hret : M.2.2.2.1 = some ty) (hz : narrow ty (.int x) = .int x) (hc : cl ≤ mc) (hs : sl ≤ ms) (hd : decode M.1 pc = .ok (.ireturn, 1)) (hp : P (jI x) X) : jG C cl sl (jMQ C mc ms P) pc ls [jI x] X := by
  rcases hty with rfl | rfl | rfl
  · exact fun H locs a h1 h2 h3 hl => W.widen hc hs (W.zret (ty := .boolean) hm.1.exec hm.1.code (hm.1.ret.trans hret) hz (fun t ht _ => ⟨⟨jI x, X, rfl, hp, by rw [ht]; exact h1, h2⟩, h3.F ht⟩) h3.2.2 hd hm.1.locks)
  · exact fun H locs a h1 h2 h3 hl => W.widen hc hs (W.zret (ty := .byte) hm.1.exec hm.1.code (hm.1.ret.trans hret) hz (fun t ht _ => ⟨⟨jI x, X, rfl, hp, by rw [ht]; exact h1, h2⟩, h3.F ht⟩) h3.2.2 hd hm.1.locks)
  · exact fun H locs a h1 h2 h3 hl => W.widen hc hs (W.zret (ty := .char) hm.1.exec hm.1.code (hm.1.ret.trans hret) hz (fun t ht _ => ⟨⟨jI x, X, rfl, hp, by rw [ht]; exact h1, h2⟩, h3.F ht⟩) h3.2.2 hd hm.1.locks)
theorem jt_aret {C : JC} {M : JM} {d mc ms cl sl : Nat} {pc : Nat} {ls : List JV} {X : va_W} (hm : jokT C M d mc ms) {P : JV → va_W → Prop} {q : Nat} {T : FieldType} (hret : M.2.2.2.1 = some T) (hT : (∃ Y, T = .object Y) ∨ ∃ Y, T = .array Y) (hc : cl ≤ mc) (hs : sl ≤ ms) (hd : decode M.1 pc = .ok (.areturn, 1)) (hp : P (jR q false) X) : jG C cl sl (jMQ C mc ms P) pc ls [jR q false] X := fun H locs a h1 h2 h3 hl =>
  W.widen hc hs (W.aret (v := .ref q) hm.1.exec hm.1.code (hm.1.ret.trans hret) hT (Or.inr ⟨_, rfl⟩) (fun t ht _ => ⟨⟨jR q false, X, rfl, hp, by rw [ht]; exact h1, h2⟩, h3.F ht⟩) h3.2.2 hd hm.1.locks)
/-! the cells: in another order, fewer -/
theorem jg_sub {C : JC} {cl sl : Nat} {Q : State → Prop} {pc : Nat} {ls st : List JV} {X X2 : va_W} (is : List Nat) (hs : is.map (fun i => X[i]?) = X2.map some) (hn : va_nd is = true) (k : jG C cl sl Q pc ls st X2) : jG C cl sl Q pc ls st X := by
  intro H locs a h1 h2 h3 hl
  refine k H locs a (fun j q hq => ?_) (h2.sub is hn hs) h3 hl
  have e1 : (is.map (fun i => X[i]?))[j]? = some (some q) := by rw [hs, List.getElem?_map, hq]; rfl
  rw [List.getElem?_map] at e1
  cases hi : is[j]? with
  | none => rw [hi] at e1; cases e1
  | some i =>
    rw [hi] at e1
    exact h1 i q (Option.some.inj e1)
theorem jg_dropL {C : JC} {cl sl : Nat} {Q : State → Prop} {pc : Nat} {ls l2 st : List JV} {X : va_W} (h : jle l2 ls) (k : jG C cl sl Q pc l2 st X) : jG C cl sl Q pc ls st X :=
  fun H locs a h1 h2 h3 hl => k H locs a h1 h2 h3 ⟨hl.1.trans h.1.symm, hl.2.1, fun i v hv hn => hl.2.2 i v (h.2 i v hv hn) hn⟩
/-! calls -/
theorem jg_behindG {C : JC} {M : JM} {d mc ms cl sl mc2 ms2 : Nat} {Q : State → Prop} {pc : Nat} {ls st : List JV} (hm : jokT C M d mc ms) {wr X : va_W} {P : JV → va_W → Prop} {st0 : List Value}
    (hrun : ∀ (H : Heap) (locs : List Loc) (a : Array Slot), va_P (jD C) vwCl (wr ++ X) H → va_D (jA C) (wr ++ X) → va_S (jA C) (js C).heap H locs → jloc jid ls a → va_Run (jp C) (jl C) (je C) (jR0 C) (js C) (jm C) (jar C) (jbe C) (jme C) (jco C) H locs cl sl mc2 ms2 (F0 (jm C) pc a st0) (st.map (jcv jid)) (jQG (jD C) (va_A X H.size) P #[]) (va_A X H.size))
    (kk : ∀ (v : JV) (X2 : va_W), P v X2 → jG C (cl + mc2) (sl + ms2) Q (pc + 3) ls (jpush v st) (wr ++ X2)) : ∀ (H : Heap) (locs : List Loc) (a : Array Slot), va_P (jD C) vwCl (wr ++ X) H → va_D (jA C) (wr ++ X) → va_S (jA C) (js C).heap H locs → jloc jid ls a →
    W (jp C) (jl C) (je C) (jR0 C) (js C) (jm C) (jar C) (jbe C) (jme C) (jco C) H locs cl sl Q (F0 (jm C) pc a st0) := by
  intro H locs a hP hD hS hl T hT X'0
  obtain ⟨v, s0, t, T', L, h0, X', hL, e1, e2, ⟨⟨u, X2, hv, hp, hb, hd2⟩, hz, hk⟩, step⟩ := hrun H locs a hP hD hS hl T hT X'0
  cases hv
  rw [h0] at hz hk
  have hright : ∀ (k : Nat) (q : Nat × va_E), X[k]? = some q → (wr ++ X)[wr.length + k]? = some q := by
    intro k q hq
    rw [List.getElem?_append_right (Nat.le_add_right _ _), Nat.add_sub_cancel_left]
    exact hq
  have hin : ∀ q, va_A X H.size q → jA C q := by
    rintro q (⟨k, e', hq⟩ | hq)
    · exact hD.2 _ _ (hright k _ hq)
    · exact hm.1.new q (Nat.le_trans hS.1 hq)
  have hleft : ∀ (k : Nat) (q : Nat × va_E), wr[k]? = some q → (wr ++ X)[k]? = some q := by
    intro k q hq
    rw [List.getElem?_append_left (List.getElem?_eq_some_iff.mp hq).1]
    exact hq
  have hwr : ∀ (k : Nat) (q : Nat × va_E), wr[k]? = some q → q.1 < H.size ∧ ¬ va_A X H.size q.1 := by
    intro k q hq
    have hlt := (hP k q (hleft k q hq)).lt
    refine ⟨hlt, fun z => ?_⟩
    rcases z with ⟨k2, e', hq2⟩ | z
    · have := hD.1 k (wr.length + k2) q (q.1, e') (hleft k q hq) (hright k2 _ hq2) rfl
      have h3 := (List.getElem?_eq_some_iff.mp hq).1
      omega
    · omega
  have hP2 : va_P (jD C) vwCl (wr ++ X2) T'.heap := by
    refine va_P.app (va_P.kept (fun k q hq => hP k q (hleft k q hq)) (fun k q hq => ?_)) (by rw [e1]; exact hb)
    rw [e1]
    exact hk q.1 (hwr k q hq).1 (hwr k q hq).2
  have hD2 : va_D (jA C) (wr ++ X2) := va_D.app (w1 := wr) (w2 := X2) ⟨fun i j p q hi hj z => hD.1 i j p q (hleft i p hi) (hleft j q hj) z, fun k q hq => hD.2 k q (hleft k q hq)⟩ (hd2.weaken (fun k q hq ha => hin _ ha)) (fun i j p q hi hj z => (hwr i p hi).2 (by rw [z]; exact hd2.2 j q hj))
  have hS2 : va_S (jA C) (js C).heap T'.heap (locs ++ L) := by
    refine ⟨Nat.le_trans hS.1 (by rw [e1]; exact hz), fun q h1 h2 => ?_, fun q hq => ?_⟩
    · have hlt : q < H.size := Nat.lt_of_lt_of_le h1 hS.1
      rw [e1, hk q hlt (fun z => h2 (hin q z))]
      exact hS.2.1 q h1 h2
    · rcases List.mem_append.mp hq with z | z
      · exact hS.2.2 q z
      · exact hin _ (hL q z)
  obtain ⟨t2, a1, b1⟩ := kk u X2 hp T'.heap (locs ++ L) a hP2 hD2 hS2 hl T' rfl X'
  refine ⟨t2, step t2 ?_, b1⟩
  have e3 := jpush_map (ad := jid) u st
  show Steps (jp C).tables (je C) (jbe C) (T'.setTop { method := jm C, pc := pc + 3, locals := a, stack := (jout jid u).toList ++ st.map (jcv jid), locked := none }) t2
  rw [e3]
  exact a1
/-- a text that the frame can hand on: the one at hand, a constant, or one in its own cells -/
def jTa (C : JC) (wr : va_W) (o : Option (Nat × (Nat × List Nat))) : Prop := ∀ x, o = some x →
  ((jS C).2.2.2.2 = some x ∨ (∃ i, i < 23 ∧ x.1 = (jS C).1 i ∧ x.2.1 = (jS C).2.1 i ∧ x.2.2.length = jn_len.getD i 0 ∧ ∀ j, j < x.2.2.length → (jn_byt.getD i []).getD j 0 = nI (x.2.2.getD j 0)) ∨
   ∃ (i j : Nat) (z1 z2 : Int32) (f : Nat → Int32), wr[i]? = some (x.1, .inr (0, [.ref x.2.1, .int 0, .int z1, .int z2])) ∧ wr[j]? = some (x.2.1, .inl (jcs C 1, x.2.2.length, .inl f)) ∧ ∀ k, k < x.2.2.length → f k = nI (x.2.2.getD k 0))
theorem jTx_cells {D : va_G} {cs : Nat → ClassId} {U : State} {H : Heap} {A : Nat → Prop} {h v : Nat} {t : List Nat} {z1 z2 : Int32} {f : Nat → Int32} (hG : jGW U) (hK : va_K D vwCl (jty cs) U) (h1 : va_at D vwCl (h, .inr (0, [.ref v, .int 0, .int z1, .int z2])) H) (h2 : va_at D vwCl (v, .inl (cs 1, t.length, .inl f)) H) (hf : ∀ k, k < t.length → f k = nI (t.getD k 0)) (hAh : ¬ A h) (hAv : ¬ A v) : jTx h v t A U H := by
  obtain ⟨r, hr, cell, q1, q2, q3, q4⟩ := h1
  have hr2 : r = (RJ0, TJ0, 4) := Option.some.inj (hr.symm.trans (show vwCl[0]? = some (RJ0, TJ0, 4) from rfl))
  subst hr2
  obtain ⟨hS, hfc, kC, hkC, hkind⟩ := hK.1 0 (RJ0, TJ0, 4) rfl
  have hts : ∀ w ∈ jGL, w.before #[] U = true := jGW_use hG
  have fld : ∀ k, k < 4 → va_OF (TJ0 k).1 (TJ0 k).2.1 (TJ0 k).2.2.1 (vp_V [.ref v, .int 0, .int z1, .int z2] k) h A U H := by
    intro k hk
    obtain ⟨cf, kf, fi, fd, hi, hsl⟩ := hS k hk
    exact ⟨cf, kf, fi, fd, cell, hi, (u_facts hfc hkC (u_lays hts jin_J0 hk) hi).1, q1, (by rw [q3]; exact fun z => by cases z), (by rw [hsl]; exact q4 k hk), hAh⟩
  refine ⟨⟨cell, q1, by rw [q3]; rfl, by rw [q2]; exact hfc, hAh⟩, fld 1 (by omega), fld 0 (by omega), ?_⟩
  refine ⟨_, h2, (hK.2 1 (cs 1, .byte) rfl).1 t.length (fun j => .int (f j)), (fun z => by cases z), ?_, ?_, fun j hj => ?_, hAv⟩
  · show t.length ≤ (arrV _ _ _).slots.size
    rw [arrV_size]
    exact Nat.le_refl _
  · show (arrV _ _ _).slots.size.toInt32 = _
    rw [arrV_size]
  · show (arrV _ _ _).slots[j]? = _
    rw [arrV_read _ _ hj, hf j hj]
theorem jTa.use {C : JC} {M : JM} {d mc ms : Nat} (hm : jokT C M d mc ms) {wr X : va_W} {o : Option (Nat × (Nat × List Nat))} (h : jTa C wr o) {H : Heap} {locs : List Loc} (hP : va_P (jD C) vwCl (wr ++ X) H) (hD : va_D (jA C) (wr ++ X)) (hS : va_S (jA C) (js C).heap H locs) {U : State} (hU : U.heap = H) (hW : (js C).WarmedH U.vm) : jTq o (va_A X H.size) U H := by
  intro x hx
  have hin : ∀ q, va_A X H.size q → jA C q := by
    rintro q (⟨k, e', hq⟩ | hq)
    · exact hD.2 (wr.length + k) (q, e') (by rw [List.getElem?_append_right (Nat.le_add_right _ _), Nat.add_sub_cancel_left]; exact hq)
    · exact hm.1.new q (Nat.le_trans hS.1 hq)
  have hleft : ∀ (k : Nat) (q : Nat × va_E), wr[k]? = some q → (wr ++ X)[k]? = some q := by
    intro k q hq
    rw [List.getElem?_append_left (List.getElem?_eq_some_iff.mp hq).1]
    exact hq
  have hwr : ∀ (k : Nat) (q : Nat × va_E), wr[k]? = some q → ¬ va_A X H.size q.1 := by
    intro k q hq
    have hlt := (hP k q (hleft k q hq)).lt
    intro z
    rcases z with ⟨k2, e', hq2⟩ | z
    · have := hD.1 k (wr.length + k2) q (q.1, e') (hleft k q hq) (by rw [List.getElem?_append_right (Nat.le_add_right _ _), Nat.add_sub_cancel_left]; exact hq2) rfl
      have h3 := (List.getElem?_eq_some_iff.mp hq).1
      omega
    · omega
  have hF := ((hm.2.warm hW).kept hS.2.1).narrow hin
  rcases h x hx with h | ⟨i, hi, e1, e2, e3, e4⟩ | ⟨i, j, z1, z2, f, h1, h2, h3⟩
  · exact hF.2.2.2.2.2.2.1 x h
  · obtain ⟨g1, g2, g3, g4⟩ := hF.2.1.1 i hi
    refine ⟨by rw [e1]; exact g1, by rw [e1]; exact g2, by rw [e1, e2]; exact g3, ?_⟩
    rw [e2, e3]
    obtain ⟨cell, q1, q2, q3, q4, q5, q6, q7⟩ := g4
    exact ⟨cell, q1, q2, q3, q4, q5, fun j hj => (q6 j hj).trans (congrArg (fun z => some (Value.int z)) (e4 j (by omega))), q7⟩
  · exact jTx_cells (hF.1) (va_K.moved hW.alike hm.1.K) (hP i _ (hleft i _ h1)) (hP j _ (hleft j _ h2)) h3 (hwr i _ h1) (hwr j _ h2)
/-- what a callee finds -/
theorem jBG_at {C : JC} {M : JM} {d mc ms : Nat} (hm : jokT C M d mc ms) {wr X : va_W} {o : Option (Nat × (Nat × List Nat))} (h : jTa C wr o) {H : Heap} {locs : List Loc} (hP : va_P (jD C) vwCl (wr ++ X) H) (hD : va_D (jA C) (wr ++ X)) (hS : va_S (jA C) (js C).heap H locs) {U : State} (hU : U.heap = H) (hW : (js C).WarmedH U.vm) :
    jBG (jD C) (jcs C) ((jS C).1, (jS C).2.1, (jS C).2.2.1, (jS C).2.2.2.1, o) H.size X U := by
  have hin : ∀ q, va_A X H.size q → jA C q := by
    rintro q (⟨k, e', hq⟩ | hq)
    · exact hD.2 (wr.length + k) (q, e') (by rw [List.getElem?_append_right (Nat.le_add_right _ _), Nat.add_sub_cancel_left]; exact hq)
    · exact hm.1.new q (Nat.le_trans hS.1 hq)
  have hF := ((hm.2.warm hW).kept hS.2.1).narrow hin
  have hT := h.use hm hP hD hS hU hW
  refine ⟨by rw [hU], by rw [hU]; exact fun k q hq => hP (wr.length + k) q (by rw [List.getElem?_append_right (Nat.le_add_right _ _), Nat.add_sub_cancel_left]; exact hq), ⟨fun i j p q hp hq e => ?_, fun _ _ _ => trivial⟩, va_K.moved hW.alike hm.1.K, ?_⟩
  · have := hD.1 (wr.length + i) (wr.length + j) p q (by rw [List.getElem?_append_right (Nat.le_add_right _ _), Nat.add_sub_cancel_left]; exact hp) (by rw [List.getElem?_append_right (Nat.le_add_right _ _), Nat.add_sub_cancel_left]; exact hq) e
    omega
  · rw [hU]
    exact ⟨hF.1, hF.2.1, hF.2.2.1, hF.2.2.2.1, hF.2.2.2.2.1, hF.2.2.2.2.2.1, hT, hF.2.2.2.2.2.2.2⟩
/-- a receiver: a text at hand; an object among the cells -/
def jRv (C : JC) (W0 : va_W) (h : Nat) (Cr : String) : Prop := ∀ (H : Heap) (locs : List Loc), va_P (jD C) vwCl W0 H → va_D (jA C) W0 → va_S (jA C) (js C).heap H locs → ∃ cell : Cell, H[h]? = some cell ∧ cell.vm.isStatics = false ∧ (js C).vm.findClass Cr = some cell.cls
theorem jRv_text {C : JC} {M : JM} {d mc ms : Nat} (hm : jokT C M d mc ms) {wr X : va_W} {h v : Nat} {t : List Nat} (hta : jTa C wr (some (h, v, t))) : jRv C (wr ++ X) h "java/lang/String" := by
  intro H locs hP hD hS
  obtain ⟨⟨cell, h1, h2, h3, -⟩, -⟩ := hta.use hm hP hD hS (U := { (js C) with heap := H }) rfl (State.WarmedH.refl (js C)) _ rfl
  exact ⟨cell, h1, h2, h3⟩
theorem jRv_cell {C : JC} {M : JM} {d mc ms : Nat} (hm : jokT C M d mc ms) {W0 : va_W} {i h ci N : Nat} {fs : List Value} {Cr : String} {T : u_T} (he : W0[i]? = some (h, .inr (ci, fs))) (hc : vwCl[ci]? = some (Cr, T, N)) : jRv C W0 h Cr := fun _ _ hP _ _ => va_recv hm.1.K hP hc he
theorem jt_sx {C : JC} {sx : JX} (h : sx.1 = (jS C).2.2.2.1 ∧ jFq (jS C)) : (((jS C).1, (jS C).2.1, (jS C).2.2.1, (jS C).2.2.2.1, sx.2) : JT).2.2.2 = sx ∧ jFq (((jS C).1, (jS C).2.1, (jS C).2.2.1, (jS C).2.2.2.1, sx.2) : JT) := ⟨Prod.ext h.1.symm rfl, h.2⟩
theorem jt_callS {C : JC} {M : JM} {d mc ms cl sl mc2 ms2 : Nat} {Q : State → Prop} {pc : Nat} {ls st st0 : List JV} {wr W0 : va_W} (hm : jokT C M d mc ms) {Mc : JM} {d2 n index : Nat} {as : List JV} {sx : JX} {X : (Nat → ClassId) → va_W} {P : (Nat → ClassId) → JV → va_W → Prop} (hs : jSG Mc d2 mc2 ms2 as sx X P) (hX : W0 = wr ++ X (jcs C)) (hsx : sx.1 = (jS C).2.2.2.1 ∧ jFq (jS C)) (hta : jTa C wr sx.2) (hd2 : d2 + 1 ≤ d) (hc : cl + mc2 ≤ mc) (hsl : sl + ms2 ≤ ms)
    (hw1 : Cond.methodLink M.2.2.1 index Mc.2.2.2.2 ∈ jGL) (hw2 : Cond.static Mc.2.2.2.2 ∈ jGL) (hw4 : Cond.initialized Mc.2.2.1 ∈ jGL) (hw5 : Cond.code Mc.2.2.2.2 Mc.1 Mc.2.1 Mc.2.2.2.1 ∈ jGL) (hy : jnm Mc n)
    (hn : as.length = n) (hst : st0 = as.reverse ++ st) (hcat : jcats st ≤ 8) (hln : ls.length = M.2.1) (hd : decode M.1 pc = .ok (.invokestatic index, 3)) (kk : ∀ (v : JV) (X2 : va_W), P (jcs C) v X2 → jG C (cl + mc2) (sl + ms2) Q (pc + 3) ls (jpush v st) (wr ++ X2)) : jG C cl sl Q pc ls st0 W0 := by
  subst hst; subst hX
  have h40 := hm.1.lo
  have hfr := hm.1.fr
  have h21 : Mc.2.1 ≤ 21 := hy.2.2.2.2
  intro H locs a hP hD hS hl
  have e0 : (as.reverse ++ st).map (jcv jid) = (as.map (jcv jid)).reverse ++ st.map (jcv jid) := by simp [List.map_reverse]
  rw [e0]
  refine jg_behindG hm (P := P (jcs C)) (st0 := (as.map (jcv jid)).reverse ++ st.map (jcv jid)) (fun H locs a hP hD hS hl => ?_) kk H locs a hP hD hS hl
  have hM := hs (jl C) (jD C) (jcs C) _ H.size (jt_sx hsx)
  exact va_runS (own := M.2.2.1) (n := n) (nL := M.2.1) (Ts := jGL) (As := as.map (jcv jid)) (rest := st.map (jcv jid)) ⟨hm.1.exec, hm.1.code, hm.1.ml, hm.1.own, hm.1.hts⟩ hM
    ⟨⟨rfl, rfl, Nat.le_trans hd2 hfr, by show 8 + (Mc.2.1 + 11) + 40 * d2 ≤ _; omega, jgcode_pay hm.1 hw5, List.mem_cons_self, hm.1.hts _ hw5, by rw [hy.1]; exact hm.1.hts _ hw4, ⟨hy.2.1, hy.2.2.1⟩, jnm_len hy, hm.1.hts _ hw1⟩, hm.1.hts _ hw2⟩
    ⟨jBG_blind, fun U hU hW => ⟨rfl, jBG_at hm hta hP hD hS hU hW⟩⟩ rfl (by rw [List.length_map]; exact hn) (by rw [← hln]; exact hl.1) rfl (lv_room (Nat.le_trans (jcats_le st) hcat)) hd ⟨Nat.le_trans hc hm.1.ce, Nat.le_trans hsl hm.1.sl⟩
theorem jt_callV {C : JC} {M : JM} {d mc ms cl sl mc2 ms2 : Nat} {Q : State → Prop} {pc : Nat} {ls st st0 : List JV} {wr W0 : va_W} (hm : jokT C M d mc ms) {Mc : JM} {d2 n index h : Nat} {Cr : String} {as : List JV} {sx : JX} {X : (Nat → ClassId) → va_W} {P : (Nat → ClassId) → JV → va_W → Prop} (hs : jSG Mc d2 mc2 ms2 (jR h false :: as) sx X P) (hX : W0 = wr ++ X (jcs C)) (hsx : sx.1 = (jS C).2.2.2.1 ∧ jFq (jS C)) (hta : jTa C wr sx.2) (hrv : jRv C (wr ++ X (jcs C)) h Cr) (hd2 : d2 + 1 ≤ d) (hc : cl + mc2 ≤ mc) (hsl : sl + ms2 ≤ ms)
    (hw1 : Cond.methodLink M.2.2.1 index Mc.2.2.2.2 ∈ jGL) (hw2 : Cond.instanceMethod Mc.2.2.2.2 ∈ jGL) (hw3 : (Cond.selects Cr Mc.2.2.2.2 Mc.2.2.2.2).before (jar C) (js C) = true) (hw4 : Cond.initialized Mc.2.2.1 ∈ jGL) (hw5 : Cond.code Mc.2.2.2.2 Mc.1 Mc.2.1 Mc.2.2.2.1 ∈ jGL) (hy : jnm Mc n)
    (hn : as.length = n) (hst : st0 = as.reverse ++ jR h false :: st) (hcat : jcats st ≤ 8) (hln : ls.length = M.2.1) (hd : decode M.1 pc = .ok (.invokevirtual index, 3)) (kk : ∀ (v : JV) (X2 : va_W), P (jcs C) v X2 → jG C (cl + mc2) (sl + ms2) Q (pc + 3) ls (jpush v st) (wr ++ X2)) : jG C cl sl Q pc ls st0 W0 := by
  subst hst; subst hX
  have h40 := hm.1.lo
  have hfr := hm.1.fr
  have h21 : Mc.2.1 ≤ 21 := hy.2.2.2.2
  intro H locs a hP hD hS hl
  have e0 : (as.reverse ++ jR h false :: st).map (jcv jid) = (as.map (jcv jid)).reverse ++ Value.ref h :: st.map (jcv jid) := by simp [List.map_reverse, jcv, jR]
  rw [e0]
  refine jg_behindG hm (P := P (jcs C)) (st0 := (as.map (jcv jid)).reverse ++ Value.ref h :: st.map (jcv jid)) (fun H locs a hP hD hS hl => ?_) kk H locs a hP hD hS hl
  have hM := hs (jl C) (jD C) (jcs C) _ H.size (jt_sx hsx)
  exact va_runV (C := Cr) (own := M.2.2.1) (n := n) (nL := M.2.1) (Ts := jGL) (As := as.map (jcv jid)) (rest := st.map (jcv jid)) ⟨hm.1.exec, hm.1.code, hm.1.ml, hm.1.own, hm.1.hts⟩ hM
    ⟨⟨rfl, rfl, Nat.le_trans hd2 hfr, by show 8 + (Mc.2.1 + 11) + 40 * d2 ≤ _; omega, jgcode_pay hm.1 hw5, List.mem_cons_self, hm.1.hts _ hw5, by rw [hy.1]; exact hm.1.hts _ hw4, ⟨hy.2.1, hy.2.2.1⟩, jnm_len hy, hm.1.hts _ hw1⟩, hm.1.hts _ hw2, hw3⟩
    ⟨jBG_blind, hrv H locs hP hD hS, fun U hU hW => ⟨rfl, jBG_at hm hta hP hD hS hU hW⟩⟩ rfl (by rw [List.length_map]; exact hn) (by rw [← hln]; exact hl.1) rfl (lv_room (Nat.le_trans (jcats_le st) hcat)) hd ⟨Nat.le_trans hc hm.1.ce, Nat.le_trans hsl hm.1.sl⟩
/-- a constructor as a contract over cells -/
theorem jt_callI {C : JC} {M : JM} {d mc ms cl sl mc2 ms2 : Nat} {Q : State → Prop} {pc : Nat} {ls st st0 : List JV} {wr W0 : va_W} (hm : jokT C M d mc ms) {mb : ByteArray} {ml : Nat} {Cn : String} {y : MethodName} {d2 n index h : Nat} {as : List JV} {sx : JX} {X : (Nat → ClassId) → va_W} {P : (Nat → ClassId) → JV → va_W → Prop} (hs : jSG (mb, ml, Cn, none, y) d2 mc2 ms2 (jR h false :: as) sx X P) (hX : W0 = wr ++ X (jcs C)) (hsx : sx.1 = (jS C).2.2.2.1 ∧ jFq (jS C)) (hta : jTa C wr sx.2) (hd2 : d2 + 1 ≤ d) (hc : cl + mc2 ≤ mc) (hsl : sl + ms2 ≤ ms)
    (hw1 : Cond.methodLink M.2.2.1 index y ∈ jGL) (hw2 : Cond.instanceMethod y ∈ jGL) (hw4 : Cond.initialized Cn ∈ jGL) (hw5 : Cond.code y mb ml none ∈ jGL) (hy : jnm (mb, ml, Cn, none, y) n) (hi : y.name = "<init>")
    (hn : as.length = n) (hst : st0.map (jcv jid) = (as.map (jcv jid)).reverse ++ Value.ref h :: st.map (jcv jid)) (hcat : jcats st ≤ 8) (hln : ls.length = M.2.1) (hd : decode M.1 pc = .ok (.invokespecial index, 3)) (kk : ∀ (v : JV) (X2 : va_W), P (jcs C) v X2 → jG C (cl + mc2) (sl + ms2) Q (pc + 3) ls (jpush v st) (wr ++ X2)) : jG C cl sl Q pc ls st0 W0 := by
  subst hX
  have h40 := hm.1.lo
  have hfr := hm.1.fr
  have h21 : ml ≤ 21 := hy.2.2.2.2
  have hcls : y.cls = Cn := hy.1
  intro H locs a hP hD hS hl
  rw [hst]
  refine jg_behindG hm (P := P (jcs C)) (st0 := (as.map (jcv jid)).reverse ++ Value.ref h :: st.map (jcv jid)) (fun H locs a hP hD hS hl => ?_) kk H locs a hP hD hS hl
  have hM := hs (jl C) (jD C) (jcs C) _ H.size (jt_sx hsx)
  exact va_runI (own := M.2.2.1) (n := n) (nL := M.2.1) (Ts := jGL) (As := as.map (jcv jid)) (rest := st.map (jcv jid)) ⟨hm.1.exec, hm.1.code, hm.1.ml, hm.1.own, hm.1.hts⟩ hM
    ⟨⟨rfl, rfl, Nat.le_trans hd2 hfr, by show 8 + (ml + 11) + 40 * d2 ≤ _; omega, jgcode_pay hm.1 (Mc := (mb, ml, Cn, none, y)) hw5, List.mem_cons_self, hm.1.hts _ hw5, by rw [hcls]; exact hm.1.hts _ hw4, ⟨hy.2.1, hy.2.2.1⟩, jnm_len hy, hm.1.hts _ hw1⟩, hi, hm.1.hts _ hw2⟩
    ⟨jBG_blind, fun U hU hW => ⟨rfl, jBG_at hm hta hP hD hS hU hW⟩⟩ rfl (by rw [List.length_map]; exact hn) (by rw [← hln]; exact hl.1) rfl (lv_room (Nat.le_trans (jcats_le st) hcat)) hd ⟨Nat.le_trans hc hm.1.ce, Nat.le_trans hsl hm.1.sl⟩
/-- super.m(..) on a StringBuilder -/
theorem jt_callSU {C : JC} {M : JM} {d mc ms cl sl mc2 ms2 : Nat} {Q : State → Prop} {pc : Nat} {ls st st0 : List JV} {wr W0 : va_W} (hm : jokT C M d mc ms) {Mc : JM} {d2 n index h : Nat} {as : List JV} {sx : JX} {X : (Nat → ClassId) → va_W} {P : (Nat → ClassId) → JV → va_W → Prop} (hs : jSG Mc d2 mc2 ms2 (jR h false :: as) sx X P) (hX : W0 = wr ++ X (jcs C)) (hsx : sx.1 = (jS C).2.2.2.1 ∧ jFq (jS C)) (hta : jTa C wr sx.2) (hrv : jRv C (wr ++ X (jcs C)) h RJ4) (hd2 : d2 + 1 ≤ d) (hc : cl + mc2 ≤ mc) (hsl : sl + ms2 ≤ ms)
    (hw1 : Cond.methodLink M.2.2.1 index Mc.2.2.2.2 ∈ jGL) (hw2 : Cond.instanceMethod Mc.2.2.2.2 ∈ jGL) (hw3 : Cond.sameMethod Mc.2.2.2.2.cls Mc.2.2.2.2.cls Mc.2.2.2.2.name Mc.2.2.2.2.desc ∈ jGL) (hw6 : Cond.superclass M.2.2.1 Mc.2.2.2.2.cls ∈ jGL) (hw4 : Cond.initialized Mc.2.2.1 ∈ jGL) (hw5 : Cond.code Mc.2.2.2.2 Mc.1 Mc.2.1 Mc.2.2.2.1 ∈ jGL) (hy : jnm Mc n) (hno : Mc.2.2.2.2.name ≠ "<init>")
    (hn : as.length = n) (hst : st0 = as.reverse ++ jR h false :: st) (hcat : jcats st ≤ 8) (hln : ls.length = M.2.1) (hd : decode M.1 pc = .ok (.invokespecial index, 3)) (kk : ∀ (v : JV) (X2 : va_W), P (jcs C) v X2 → jG C (cl + mc2) (sl + ms2) Q (pc + 3) ls (jpush v st) (wr ++ X2)) : jG C cl sl Q pc ls st0 W0 := by
  subst hst; subst hX
  have h40 := hm.1.lo
  have hfr := hm.1.fr
  have h21 : Mc.2.1 ≤ 21 := hy.2.2.2.2
  intro H locs a hP hD hS hl
  have e0 : (as.reverse ++ jR h false :: st).map (jcv jid) = (as.map (jcv jid)).reverse ++ Value.ref h :: st.map (jcv jid) := by simp [List.map_reverse, jcv, jR]
  rw [e0]
  refine jg_behindG hm (P := P (jcs C)) (st0 := (as.map (jcv jid)).reverse ++ Value.ref h :: st.map (jcv jid)) (fun H locs a hP hD hS hl => ?_) kk H locs a hP hD hS hl
  have hM := hs (jl C) (jD C) (jcs C) _ H.size (jt_sx hsx)
  exact va_runSU (C := RJ4) (cC := (jD C).1 1) (own := M.2.2.1) (n := n) (nL := M.2.1) (Ts := jGL) (As := as.map (jcv jid)) (rest := st.map (jcv jid)) (hm.1.K.1 1 (RJ4, TJ4, 4) rfl).2 ⟨hm.1.exec, hm.1.code, hm.1.ml, hm.1.own, hm.1.hts⟩ hM
    ⟨⟨rfl, rfl, Nat.le_trans hd2 hfr, by show 8 + (Mc.2.1 + 11) + 40 * d2 ≤ _; omega, jgcode_pay hm.1 hw5, List.mem_cons_self⟩, hm.1.hts _ hw1, hm.1.hts _ hw3, hm.1.hts _ hw6, hm.1.hts _ hw2, by rw [hy.1]; exact hm.1.hts _ hw4, hm.1.hts _ hw5, hno, jnm_len hy⟩
    ⟨jBG_blind, hrv H locs hP hD hS, fun U hU hW => ⟨rfl, jBG_at hm hta hP hD hS hU hW⟩⟩ rfl (by rw [List.length_map]; exact hn) (by rw [← hln]; exact hl.1) rfl (lv_room (Nat.le_trans (jcats_le st) hcat)) hd ⟨Nat.le_trans hc hm.1.ce, Nat.le_trans hsl hm.1.sl⟩
/-- a method that another overrides -/
theorem jt_callO {C : JC} {M : JM} {d mc ms cl sl mc2 ms2 : Nat} {Q : State → Prop} {pc : Nat} {ls st st0 : List JV} {wr W0 : va_W} (hm : jokT C M d mc ms) {Mc : JM} {d2 n index h : Nat} {Cr : String} {x : MethodName} {b0 : ByteArray} {m0 : Nat} {r0 : Option FieldType} {as : List JV} {sx : JX} {X : (Nat → ClassId) → va_W} {P : (Nat → ClassId) → JV → va_W → Prop} (hs : jSG Mc d2 mc2 ms2 (jR h false :: as) sx X P) (hX : W0 = wr ++ X (jcs C)) (hsx : sx.1 = (jS C).2.2.2.1 ∧ jFq (jS C)) (hta : jTa C wr sx.2) (hrv : jRv C (wr ++ X (jcs C)) h Cr) (hd2 : d2 + 1 ≤ d) (hc : cl + mc2 ≤ mc) (hsl : sl + ms2 ≤ ms)
    (hw1 : Cond.methodLink M.2.2.1 index x ∈ jGL) (hw6 : Cond.sameMethod x.cls x.cls x.name x.desc ∈ jGL) (hw7 : Cond.instanceMethod x ∈ jGL) (hw8 : Cond.code x b0 m0 r0 ∈ jGL) (hw2 : Cond.instanceMethod Mc.2.2.2.2 ∈ jGL) (hw3 : Cond.selects Cr x Mc.2.2.2.2 ∈ jGL) (hw4 : Cond.initialized Mc.2.2.1 ∈ jGL) (hw5 : Cond.code Mc.2.2.2.2 Mc.1 Mc.2.1 Mc.2.2.2.1 ∈ jGL) (hy : jnm Mc n) (hx : x.cls ≠ "java/lang/invoke/MethodHandle" ∧ x.cls ≠ "java/lang/invoke/VarHandle" ∧ (parseMethodDescriptor x.desc).map (fun d => d.parameters.length) = some n)
    (hn : as.length = n) (hst : st0 = as.reverse ++ jR h false :: st) (hcat : jcats st ≤ 8) (hln : ls.length = M.2.1) (hd : decode M.1 pc = .ok (.invokevirtual index, 3)) (kk : ∀ (v : JV) (X2 : va_W), P (jcs C) v X2 → jG C (cl + mc2) (sl + ms2) Q (pc + 3) ls (jpush v st) (wr ++ X2)) : jG C cl sl Q pc ls st0 W0 := by
  subst hst; subst hX
  have h40 := hm.1.lo
  have hfr := hm.1.fr
  have h21 : Mc.2.1 ≤ 21 := hy.2.2.2.2
  intro H locs a hP hD hS hl
  have e0 : (as.reverse ++ jR h false :: st).map (jcv jid) = (as.map (jcv jid)).reverse ++ Value.ref h :: st.map (jcv jid) := by simp [List.map_reverse, jcv, jR]
  rw [e0]
  refine jg_behindG hm (P := P (jcs C)) (st0 := (as.map (jcv jid)).reverse ++ Value.ref h :: st.map (jcv jid)) (fun H locs a hP hD hS hl => ?_) kk H locs a hP hD hS hl
  have hM := hs (jl C) (jD C) (jcs C) _ H.size (jt_sx hsx)
  have hlen : ∀ sig, parseMethodDescriptor x.desc = some sig → n = sig.parameters.length := by
    intro sig hs2
    have h2 := hx.2.2
    rw [hs2] at h2
    exact (Option.some.inj h2).symm
  exact va_runU (C := Cr) (owner := x.cls) (x := x) (own := M.2.2.1) (n := n) (nL := M.2.1) (Ts := jGL) (As := as.map (jcv jid)) (rest := st.map (jcv jid)) ⟨hm.1.exec, hm.1.code, hm.1.ml, hm.1.own, hm.1.hts⟩ hM
    ⟨⟨rfl, rfl, Nat.le_trans hd2 hfr, by show 8 + (Mc.2.1 + 11) + 40 * d2 ≤ _; omega, jgcode_pay hm.1 hw5, List.mem_cons_self⟩, hm.1.hts _ hw5, by rw [hy.1]; exact hm.1.hts _ hw4, ⟨hx.1, hx.2.1⟩, hlen, hm.1.hts _ hw1, hm.1.hts _ hw6, va_Decl.of (hm.1.hts _ hw7) (hm.1.hts _ hw8), hm.1.hts _ hw3, hm.1.hts _ hw2⟩
    ⟨jBG_blind, hrv H locs hP hD hS, fun U hU hW => ⟨rfl, jBG_at hm hta hP hD hS hU hW⟩⟩ rfl (by rw [List.length_map]; exact hn) (by rw [← hln]; exact hl.1) rfl (lv_room (Nat.le_trans (jcats_le st) hcat)) hd ⟨Nat.le_trans hc hm.1.ce, Nat.le_trans hsl hm.1.sl⟩
/-- a private method is its own choice, whatever class the receiver has -/
theorem jsel_priv {s : State} {args : Array Value} {Cr : String} {y z : MethodName} (hyz : y.cls = z.cls) (hy : y.cls ≠ "java/lang/invoke/MethodHandle" ∧ y.cls ≠ "java/lang/invoke/VarHandle") (hz : (Cond.selects Cr z z).before args s = true) (hpriv : (Cond.privateMethod y).before args s = true) (hinst : (Cond.instanceMethod y).before args s = true) : (Cond.selects Cr y y).before args s = true := by
  obtain ⟨c, r, m, g1, g2, g3, g4, kz, g5, g6⟩ := Cond.selects_spec hz
  obtain ⟨mk, methM, hnamed, hmethM, -, -⟩ := Cond.instanceMethod_spec hinst
  have hfound : s.methodFound? y.cls y.name y.desc = some mk := State.methodFound?_of_named hnamed hy
  have hcls : mk.cls = m.cls := Option.some.inj (((findClass_of_methodNamed hnamed).symm.trans (by rw [hyz])).trans (findClass_of_methodNamed g3))
  have hsel : selectMethod {} s.vm c mk = .method mk := selectMethod_private hmethM (Cond.privateMethod_at hpriv mk methM hnamed hmethM)
  simp only [Cond.before, Cond.holds, Cond.value, g1, hfound, hnamed, hsel, hcls, g5]
  simp; exact g6
theorem jsel_p {C : JC} {M : JM} {d mc ms : Nat} (hm : jokT C M d mc ms) {w : Cond} (hw : w ∈ jGP) : w.before (jar C) (js C) = true := by
  have h2 := jGP_on w hw
  simp only [Bool.and_eq_true] at h2
  exact va_Nw.use h2.1 (hm.2.2.2.2.2.2.2.2.2.2.2 w hw)

