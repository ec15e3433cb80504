/-! contracts of methods that may throw -/
def jZZ (A : Nat → Prop) (U : State) (H : Heap) : Prop := vx_Zq Bundle.tN "UNASSIGNED_STACK" Bundle.steD A U H ∧ vx_Zq Bundle.tN "SUPPRESSED_SENTINEL" Bundle.listD A U H
theorem jZZ.kept {A : Nat → Prop} {U : State} {H H1 : Heap} (h : jZZ A U H) (hq : ∀ a : Nat, a < H.size → ¬ A a → H1[a]? = H[a]?) : jZZ A U H1 := ⟨h.1.kept hq, h.2.kept hq⟩
theorem jZZ.moved {A : Nat → Prop} {u U : State} {H : Heap} (hvm : u.vm.Alike U.vm) (h : jZZ A u H) : jZZ A U H := ⟨h.1.moved hvm, h.2.moved hvm⟩
theorem jZZ.narrow {A B : Nat → Prop} {U : State} {H : Heap} (h : jZZ A U H) (hAB : ∀ q, B q → A q) : jZZ B U H := ⟨h.1.narrow hAB, h.2.narrow hAB⟩
def jBX (D : va_G) (ad : JAd) (cs : Nat → ClassId) (S : JT) (sz : Nat) (w : JW) : State → Prop := fun U => jB D ad cs S sz w U ∧ jGX U ∧ jZZ (jAd ad sz) U U.heap
theorem jBX_blind {D : va_G} {ad : JAd} {cs : Nat → ClassId} {S : JT} {sz : Nat} {w : JW} {av : List Value} : FrameBlind (va_Pc av (jBX D ad cs S sz w)) := by
  intro a U g mk q
  obtain ⟨q0, q1, q2, q3⟩ := q
  obtain ⟨z0, z1⟩ := jB_blind (D := D) (ad := ad) (cs := cs) (S := S) (sz := sz) (w := w) (av := av) a U g mk ⟨q0, q1⟩
  exact ⟨z0, z1, jGX_warm (s := U) (U := U.calling g mk a) (State.WarmedH.refl U) q2, jZZ.moved (u := U) (U := U.calling g mk a) (Vm.Alike.refl U.vm) q3⟩
/-- what a throw leaves: the class, the world -/
def jXc (D : va_G) (ad : JAd) (cs : Nat → ClassId) (A : Nat → Prop) (PX : String → JW → Prop) : String → State → State → Prop := fun E st t => (∃ w, PX E w ∧ va_P D vwCl (jWs ad cs w) t.heap) ∧ va_F A st t
/-- THE CONTRACT of a method that returns so that P or throws so that PX -/
def jSX (M : JM) (d mc ms : Nat) (as : List JV) (w : JW) (P : JV → JW → Prop) (PX : String → JW → Prop) : Prop :=
  ∀ (l : Launch) (D : va_G) (ad : JAd) (cs : Nat → ClassId) (S : JT) (sz : Nat), l.stackTraces = false → vx_Met l M.2.2.2.2 (jws M) (jroom d mc ms) (va_Pc (as.map (jcv ad)) (jBX D ad cs S sz w)) (jQc D ad cs (jAd ad sz) P) (jXc D ad cs (jAd ad sz) PX) mc ms (jAd ad sz)
def jokX (C : JC) (M : JM) (d cl sl : Nat) : Prop := jok C M d cl sl ∧ (jl C).stackTraces = false ∧ jGX (js C) ∧ jZZ (jA C) (js C) (js C).heap ∧ ∀ x ∈ (jco C).exceptionTable.toList, False
abbrev jXP (C : JC) (mc ms : Nat) (P : JV → JW → Prop) (PX : String → JW → Prop) : State → Prop := jXQ C mc ms P (jXc (jD C) (jad C) (jcs C) (jA C) PX)
theorem jSX_of {M : JM} {d mc ms : Nat} {as : List JV} {w : JW} {P : JV → JW → Prop} {PX : String → JW → Prop} (hy : plainName M.2.2.2.2.cls = true) (hc : M.2.2.2.2.cls = M.2.2.1) (hlen : (jent as).length ≤ M.2.1)
    (h : ∀ C : JC, jokX C M d mc ms → jW C 0 0 (jXP C mc ms P PX) 0 (jentry as M.2.1) [] w) : jSX M d mc ms as w P PX := by
  intro l D ad cs S sz hst
  refine vx_ofW (cc := M.1) (maxL := M.2.1) (ret := M.2.2.2.1) hy rfl ?_
  intro p e s m args below meth c s₁ B hml hex hv
  obtain ⟨rfl, ⟨hsz, hP, hD, hK, hF, hSs⟩, hX, hZ⟩ := hv
  have hown : s.vm.findClass M.2.2.2.2.cls = some m.cls := findClass_of_methodNamed B.named
  rw [hc] at hown
  subst hsz
  have hl := lv_entry (as.map (jcv ad)) (n := M.2.1) (by rw [jent_len]; exact hlen)
  rw [lg_entry_eq]
  have key := h (p, l, e, jroom d mc ms, s, m, (as.map (jcv ad)).toArray, below, meth, c, D, ad, cs, jAd ad s.heap.size, S)
    ⟨⟨B.exec, B.bytes, hml, hown, B.returns, B.notSynchronized, hK, ⟨hF, hSs⟩, fun q hq => Or.inr hq, Nat.le_refl _, Nat.le_refl _, Nat.le_refl _, Nat.le_refl _⟩, hst, hX, hZ, hex⟩
  refine key s.heap [] _ ⟨hP, ⟨hD.1, fun k q hk => ?_⟩, va_S.rf⟩ ⟨?_, hl.2.1, fun i v hi hv => ?_⟩
  · simp only [jWs, List.getElem?_map, Option.map_eq_some_iff] at hk
    obtain ⟨o, ho, rfl⟩ := hk
    exact Or.inl ⟨o, List.mem_of_getElem? ho, rfl⟩
  · rw [hl.1]
    unfold jentry
    rw [List.length_append, List.length_replicate]
    omega
  · refine hl.2.2 (i, jcv ad v) ?_
    unfold jentry at hi
    by_cases hlt : i < (jent as).length
    · rw [List.getElem?_append_left hlt] at hi
      have := jent_args (ad := ad) as 0 i v hi hv
      rwa [Nat.zero_add] at this
    · rw [List.getElem?_append_right (by omega)] at hi
      exact absurd (List.eq_of_mem_replicate (List.mem_of_getElem? hi)) hv
theorem jok.less {C : JC} {M : JM} {d cl sl d2 cl2 sl2 : Nat} (h : jok C M d cl sl) (h1 : d2 ≤ d) (h2 : cl2 ≤ cl) (h3 : sl2 ≤ sl) : jok C M d2 cl2 sl2 := by
  obtain ⟨a1, a2, a3, a4, a5, a6, a7, a8, a9, b1, b2, b3, b4⟩ := h
  exact ⟨a1, a2, a3, a4, a5, a6, a7, a8, a9, Nat.le_trans h1 b1, Nat.le_trans (Nat.mul_le_mul_left 40 h1) b2, Nat.le_trans h2 b3, Nat.le_trans h3 b4⟩
/-- a plain end serves -/
theorem jx_fin {C : JC} {mc ms : Nat} {P : JV → JW → Prop} {PX : String → JW → Prop} {pc : Nat} {ls st : List JV} {w : JW} (k : jW C 0 0 (jQQ C 0 0 P) pc ls st w) : jW C 0 0 (jXP C mc ms P PX) pc ls st w := by
  intro H locs a hr hl T hT X
  obtain ⟨t, a1, o, q1, q2, q3, L, ⟨f1, f2, f3⟩, q4⟩ := k H locs a hr hl T hT X
  exact ⟨t, a1, o, q1, q2, Or.inl ⟨q3, L, ⟨f1, f2, f3.mono (Nat.zero_le _) (Nat.zero_le _)⟩, q4⟩⟩
/-- 'throw new X(text)' -/
theorem jr_throw {C : JC} {ml : Nat} {mb : ByteArray} {mr : Option FieldType} {my : MethodName} {d mc ms : Nat} (hm : jokX C (mb, ml, RX9, mr, my) d mc ms) {P : JV → JW → Prop} {PX : String → JW → Prop} {pc : Nat} {ls st : List JV} {w : JW} {X : String} {ik ic is j : Nat} (hd6 : 6 ≤ d) (hmc : 1 ≤ mc) (hms : 6 ≤ ms) (hj : j < 45) (ho : jn_o.getD j "" = RX9) (hx : jn_i.getD j 0 = is)
    (hX : Bundle.fit X = true) (hk : Cond.classLink RX9 ik X ∈ jGL) (hi : Cond.initialized X ∈ jGL) (hw : ∀ w ∈ jxw X ic, w ∈ lw_tbl) (hw2 : (jxw X ic).all (fun w => jxk w && w.onTables) = true) (hst : jcats st ≤ 8)
    (hls : ls.length = ml) (d0 : decode mb pc = .ok (.new ik, 3)) (d3 : decode mb (pc + 3) = .ok (.dup, 1)) (d4 : decode mb (pc + 4) = .ok (.ldc is, 2)) (d6 : decode mb (pc + 6) = .ok (.invokespecial ic, 3)) (d9 : decode mb (pc + 9) = .ok (.athrow, 1)) (hp : PX X w) : jW C 0 0 (jXP C mc ms P PX) pc ls st w := by
  obtain ⟨h, htr, hG, hZ, hex⟩ := hm
  intro H locs a hr hl
  have hstr := h.SF.2.2.1 j hj
  rw [ho, hx] at hstr
  have hall := List.all_eq_true.mp hw2
  have hfr := h.2.2.2.2.2.2.2.2.2.1
  have h40 := h.2.2.2.2.2.2.2.2.2.2.1
  have hcl := h.2.2.2.2.2.2.2.2.2.2.2.1
  have hsl := h.2.2.2.2.2.2.2.2.2.2.2.2
  have hcat := jcats_le (ad := jad C) st
  refine vx_throwS (own := RX9) (cls := X) (text := jn_t.getD j "") (names := ["java/lang/RuntimeException", "java/lang/Exception"]) (ik := ik) (is := is) (ic := ic) (A := jA C) h.exec h.code htr h.own hX (by decide) (h.hts _ hk) (h.hts _ hi) hstr ?_ ?_ hZ.1 hZ.2 hr.2.2 ?_ d0 d3 d4 d6 d9 (fun x hx => (hex x hx).elim) ?_ ?_ (by omega) (by omega) h.2.2.2.2.2.1 ?_ hr.2.2.2.2 (by omega) (by omega)
  · intro w2 h2
    have q := hall w2 h2
    rw [Bool.and_eq_true] at q
    exact jGX_use hG (hw w2 h2) q.1 q.2
  · intro w2 h2
    rcases List.mem_cons.mp h2 with e | h2
    · rw [e]; rfl
    rcases List.mem_cons.mp h2 with e | h2
    · rw [e]; rfl
    · have q := hall w2 h2
      rw [Bool.and_eq_true] at q
      unfold vx_ot
      rw [q.2]
      rfl
  · have := h.2.2.1
    rw [hl.1, hls]
    exact this.symm
  · show 2 + 3 < _
    omega
  · show _ + (13 * (2 + 1) + 43) ≤ _
    omega
  · intro t hal hsz hkp
    refine ⟨⟨w, hp, hr.1.kept (fun k q hk => hkp q.1 (vx_lt hr.1 hk))⟩, Nat.le_trans hr.2.2.1 hsz, fun q hq hA => ?_⟩
    rw [hkp q (Nat.lt_of_lt_of_le hq hr.2.2.1)]
    exact hr.2.2.2.1 q hq hA
