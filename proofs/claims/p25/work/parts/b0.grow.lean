/-! GROWING WORLDS: constructors, over cells at addresses that are variables -/
abbrev jid : JAd := fun k _ => k
def jokN (C : JC) (M : JM) (d cl sl : Nat) : Prop :=
  (jp C).tables.exec = Jvm.exec ∧ (jco C).code = M.1 ∧ (jco C).maxLocals = M.2.1 ∧ (js C).vm.findClass M.2.2.1 = some (jm C).cls ∧ (jme C).sig.returnType = M.2.2.2.1 ∧ (jme C).locks = false ∧
  va_K (jD C) vwCl (jty (jcs C)) (js C) ∧ (jGW (js C) ∧ jGA (js C)) ∧ (∀ q : Nat, (js C).heap.size ≤ q → jA C q) ∧ d ≤ (jR0 C).frames ∧ 40 * d ≤ (jR0 C).locals ∧ cl ≤ (jR0 C).cells ∧ sl ≤ (jR0 C).slots
theorem jokN.exec {C : JC} {M : JM} {d cl sl : Nat} (h : jokN C M d cl sl) : (jp C).tables.exec = Jvm.exec := h.1
theorem jokN.code {C : JC} {M : JM} {d cl sl : Nat} (h : jokN C M d cl sl) : (jco C).code = M.1 := h.2.1
theorem jokN.ml {C : JC} {M : JM} {d cl sl : Nat} (h : jokN C M d cl sl) : (jco C).maxLocals = M.2.1 := h.2.2.1
theorem jokN.own {C : JC} {M : JM} {d cl sl : Nat} (h : jokN C M d cl sl) : (js C).vm.findClass M.2.2.1 = some (jm C).cls := h.2.2.2.1
theorem jokN.ret {C : JC} {M : JM} {d cl sl : Nat} (h : jokN C M d cl sl) : (jme C).sig.returnType = M.2.2.2.1 := h.2.2.2.2.1
theorem jokN.locks {C : JC} {M : JM} {d cl sl : Nat} (h : jokN C M d cl sl) : (jme C).locks = false := h.2.2.2.2.2.1
theorem jokN.K {C : JC} {M : JM} {d cl sl : Nat} (h : jokN C M d cl sl) : va_K (jD C) vwCl (jty (jcs C)) (js C) := h.2.2.2.2.2.2.1
theorem jokN.hts {C : JC} {M : JM} {d cl sl : Nat} (h : jokN C M d cl sl) : ∀ w ∈ jGL, w.before (jar C) (js C) = true := jGW_use h.2.2.2.2.2.2.2.1.1
theorem jokN.GW {C : JC} {M : JM} {d cl sl : Nat} (h : jokN C M d cl sl) : jGW (js C) := h.2.2.2.2.2.2.2.1.1
theorem jokN.GA {C : JC} {M : JM} {d cl sl : Nat} (h : jokN C M d cl sl) : jGA (js C) := h.2.2.2.2.2.2.2.1.2
theorem jokN.new {C : JC} {M : JM} {d cl sl : Nat} (h : jokN C M d cl sl) : ∀ q : Nat, (js C).heap.size ≤ q → jA C q := h.2.2.2.2.2.2.2.2.1
theorem jokN.fr {C : JC} {M : JM} {d cl sl : Nat} (h : jokN C M d cl sl) : d ≤ (jR0 C).frames := h.2.2.2.2.2.2.2.2.2.1
theorem jokN.lo {C : JC} {M : JM} {d cl sl : Nat} (h : jokN C M d cl sl) : 40 * d ≤ (jR0 C).locals := h.2.2.2.2.2.2.2.2.2.2.1
theorem jokN.ce {C : JC} {M : JM} {d cl sl : Nat} (h : jokN C M d cl sl) : cl ≤ (jR0 C).cells := h.2.2.2.2.2.2.2.2.2.2.2.1
theorem jokN.sl {C : JC} {M : JM} {d cl sl : Nat} (h : jokN C M d cl sl) : sl ≤ (jR0 C).slots := h.2.2.2.2.2.2.2.2.2.2.2.2
/-- a frame at pc, over cells -/
def jG (C : JC) (cl sl : Nat) (Q : State → Prop) (pc : Nat) (ls st : List JV) (X : va_W) : Prop :=
  ∀ (H : Heap) (locs : List Loc) (a : Array Slot), va_P (jD C) vwCl X H → va_D (jA C) X → va_S (jA C) (js C).heap H locs → jloc jid ls a →
    W (jp C) (jl C) (je C) (jR0 C) (js C) (jm C) (jar C) (jbe C) (jme C) (jco C) H locs cl sl Q (F0 (jm C) pc a (st.map (jcv jid)))
theorem jg_eq {C : JC} {cl sl : Nat} {Q : State → Prop} {pc : Nat} {ls st : List JV} {X X2 : va_W} (h : X = X2) (k : jG C cl sl Q pc ls st X2) : jG C cl sl Q pc ls st X := h ▸ k
theorem jg_iconst {C : JC} {M : JM} {d mc ms cl sl : Nat} {Q : State → Prop} {pc : Nat} {ls st : List JV} {X : va_W} (hm : jokN C M d mc ms) {n : Int} {v : Int32} (hv : Int32.ofInt n = v) (hd : decode M.1 pc = .ok (.iconst n, 1)) (k : jG C cl sl Q (pc + 1) ls (jI v :: st) X) : jG C cl sl Q pc ls st X := fun H locs a h1 h2 h3 hl => lv_iconst hm.exec hm.code hd hv (k H locs a h1 h2 h3 hl)
theorem jg_bipush {C : JC} {M : JM} {d mc ms cl sl : Nat} {Q : State → Prop} {pc : Nat} {ls st : List JV} {X : va_W} (hm : jokN C M d mc ms) {n : Int} {v : Int32} (hv : (Int8.ofInt n).toInt32 = v) (hd : decode M.1 pc = .ok (.bipush n, 2)) (k : jG C cl sl Q (pc + 2) ls (jI v :: st) X) : jG C cl sl Q pc ls st X := fun H locs a h1 h2 h3 hl => lv_bipush hm.exec hm.code hd hv (k H locs a h1 h2 h3 hl)
theorem jg_sipush {C : JC} {M : JM} {d mc ms cl sl : Nat} {Q : State → Prop} {pc : Nat} {ls st : List JV} {X : va_W} (hm : jokN C M d mc ms) {n : Int} {v : Int32} (hv : (Int16.ofInt n).toInt32 = v) (hd : decode M.1 pc = .ok (.sipush n, 3)) (k : jG C cl sl Q (pc + 3) ls (jI v :: st) X) : jG C cl sl Q pc ls st X := fun H locs a h1 h2 h3 hl => lv_sipush hm.exec hm.code hd hv (k H locs a h1 h2 h3 hl)
theorem jg_aload_n {C : JC} {M : JM} {d mc ms cl sl : Nat} {Q : State → Prop} {pc : Nat} {ls st : List JV} {X : va_W} (hm : jokN C M d mc ms) {i : Nat} {n : Fin 4} {q : Nat} (hi : (n : Nat) = i) (hg : ls[i]? = some (jR q false)) (hd : decode M.1 pc = .ok (.aload_n n, 1)) (k : jG C cl sl Q (pc + 1) ls (jR q false :: st) X) : jG C cl sl Q pc ls st X := fun H locs a h1 h2 h3 hl => lv_aload_n hm.exec hm.code hd hi (hl.2.2 i _ hg (fun h => by cases h)) (k H locs a h1 h2 h3 hl)
theorem jg_dup {C : JC} {M : JM} {d mc ms cl sl : Nat} {Q : State → Prop} {pc : Nat} {ls st : List JV} {X : va_W} (hm : jokN C M d mc ms) {q : Nat} (hd : decode M.1 pc = .ok (.dup, 1)) (k : jG C cl sl Q (pc + 1) ls (jR q false :: jR q false :: st) X) : jG C cl sl Q pc ls (jR q false :: st) X := fun H locs a h1 h2 h3 hl => lv_dup hm.exec hm.code hd rfl (k H locs a h1 h2 h3 hl)
theorem jg_astore_n {C : JC} {M : JM} {d mc ms cl sl : Nat} {Q : State → Prop} {pc : Nat} {ls st : List JV} {X : va_W} (hm : jokN C M d mc ms) {i : Nat} {n : Fin 4} {q : Nat} (hi : (n : Nat) = i) (hlt : i < ls.length) (hn : jnl ls i = true) (hd : decode M.1 pc = .ok (.astore_n n, 1)) (k : jG C cl sl Q (pc + 1) (ls.set i (jR q false)) st X) : jG C cl sl Q pc ls (jR q false :: st) X := fun H locs a h1 h2 h3 hl => lv_astore_n hm.exec hm.code hd hi (jloc_has hl) hlt rfl (fun a2 h4 => k H locs a2 h1 h2 h3 (jloc_st1 (v := jR q false) hl hlt hn h4))
theorem jg_istore {C : JC} {M : JM} {d mc ms cl sl : Nat} {Q : State → Prop} {pc : Nat} {ls st : List JV} {X : va_W} (hm : jokN C M d mc ms) {i : Nat} {x : Int32} (hlt : i < ls.length) (hn : jnl ls i = true) (hd : decode M.1 pc = .ok (.istore i, 2)) (k : jG C cl sl Q (pc + 2) (ls.set i (jI x)) st X) : jG C cl sl Q pc ls (jI x :: st) X := fun H locs a h1 h2 h3 hl => lv_istore hm.exec hm.code hd (jloc_has hl) hlt rfl (fun a2 h4 => k H locs a2 h1 h2 h3 (jloc_st1 (v := jI x) hl hlt hn h4))
theorem jg_objInit {C : JC} {mb : ByteArray} {ml : Nat} {Cn : String} {mr : Option FieldType} {my : MethodName} {d mc ms cl sl : Nat} {Q : State → Prop} {pc : Nat} {ls st : List JV} {X : va_W} (hm : jokN C (mb, ml, Cn, mr, my) d mc ms) {index q : Nat} (hlink : Cond.methodLink Cn index Lib.objectInit ∈ jGL) (hinst : Cond.instanceMethod Lib.objectInit ∈ jGL) (hcode : Cond.code Lib.objectInit ⟨#[0xb1]⟩ 1 none ∈ jGL) (hd1 : 1 ≤ d) (hcat : jcats st ≤ 8) (hln : ls.length = ml) (hd : decode mb pc = .ok (.invokespecial index, 3)) (k : jG C cl sl Q (pc + 3) ls st X) : jG C cl sl Q pc ls (jR q false :: st) X := by
  intro H locs a h1 h2 h3 hl
  have hf := hm.fr
  have ho := hm.lo
  have hc := jcats_le (ad := jid) st
  have hml : (jco C).maxLocals = ml := hm.ml
  refine W.objInit (g := F0 (jm C) pc a ((jR q false :: st).map (jcv jid))) (rest := st.map (jcv jid)) hm.exec hm.code hm.own (hm.hts _ hlink) (hm.hts _ hinst) (hm.hts _ hcode) rfl (by rw [hml]; exact hl.1.trans hln) rfl hd (by omega) ?_ (k H locs a h1 h2 h3 hl)
  have := lv_room (m := jm C) (pc := pc) (ls := a) (rest := (jR q false :: st).map (jcv jid)) (st := st.map (jcv jid)) (Nat.le_trans hc hcat)
  omega
/-- a new array -/
theorem jg_newa {C : JC} {M : JM} {d mc ms cl sl : Nat} {Q : State → Prop} {pc : Nat} {ls st : List JV} {X : va_W} (hm : jokN C M d mc ms) {atype : ArrayType} {t : FieldType} {i : Nat} {cA : ClassId} {n : Int32} {N : Nat} {a0 : vp_A} (hty : newarray.typeOf atype = t) (ht : t ∈ [FieldType.int, FieldType.byte, FieldType.long]) (hi : (jty (jcs C))[i]? = some (cA, t)) (hR : ∀ c, va_RA (js C) c t → (js C).vm.findClass ("[" ++ t.toString) = some c)
    (ha : ∀ cA : ClassId, vp_cell cA a0 = arrV cA N (fun _ => defaultValue t)) (hn : ¬ n < 0) (hN : n.toNatClampNeg = N) (hb : N * componentBytes t ≤ 536870912) (hc : cl + 1 ≤ mc) (hs : sl + N ≤ ms) (hd : decode M.1 pc = .ok (.newarray atype, 2)) (k : ∀ q : Nat, jG C (cl + 1) (sl + N) Q (pc + 2) ls (jR q false :: st) (X ++ [(q, .inl (cA, a0))])) : jG C cl sl Q pc ls (jI n :: st) X := by
  intro H locs a h1 h2 h3 hl
  subst hty
  refine va_newa (ls := a) (rest := st.map (jcv jid)) hm.exec hm.code (jGA_use hm.GA ht) rfl hm.K h1 h2 h3 hm.new ha hn hN hb (Nat.le_trans hc hm.ce) (Nat.le_trans hs hm.sl) hd (fun q cB H1 hK hP hD hS => ?_)
  have e1 := hR _ (hm.K.2 i _ hi).2
  have e2 := hR cB (hK.2 3 (cB, newarray.typeOf atype) rfl).2
  have e : cB = cA := Option.some.inj (e2.symm.trans e1)
  subst e
  exact k q H1 locs a hP hD hS hl
theorem jg_newi {C : JC} {M : JM} {d mc ms cl sl : Nat} {Q : State → Prop} {pc : Nat} {ls st : List JV} {X : va_W} (hm : jokN C M d mc ms) {n : Int32} {N : Nat} (hn : ¬ n < 0) (hN : n.toNatClampNeg = N) (hb : N * 4 ≤ 536870912) (hc : cl + 1 ≤ mc) (hs : sl + N ≤ ms) (hd : decode M.1 pc = .ok (.newarray .int, 2)) (k : ∀ q : Nat, jG C (cl + 1) (sl + N) Q (pc + 2) ls (jR q false :: st) (X ++ [(q, .inl (jcs C 0, N, .inl (fun _ => 0)))])) : jG C cl sl Q pc ls (jI n :: st) X :=
  jg_newa hm (atype := .int) (t := .int) (i := 0) rfl (by decide) rfl (fun _ h => h) (fun _ => rfl) hn hN hb hc hs hd k
theorem jg_newb {C : JC} {M : JM} {d mc ms cl sl : Nat} {Q : State → Prop} {pc : Nat} {ls st : List JV} {X : va_W} (hm : jokN C M d mc ms) {n : Int32} {N : Nat} (hn : ¬ n < 0) (hN : n.toNatClampNeg = N) (hb : N * 1 ≤ 536870912) (hc : cl + 1 ≤ mc) (hs : sl + N ≤ ms) (hd : decode M.1 pc = .ok (.newarray .byte, 2)) (k : ∀ q : Nat, jG C (cl + 1) (sl + N) Q (pc + 2) ls (jR q false :: st) (X ++ [(q, .inl (jcs C 1, N, .inl (fun _ => 0)))])) : jG C cl sl Q pc ls (jI n :: st) X :=
  jg_newa hm (atype := .byte) (t := .byte) (i := 1) rfl (by decide) rfl (fun _ h => h) (fun _ => rfl) hn hN hb hc hs hd k
theorem jg_newl {C : JC} {M : JM} {d mc ms cl sl : Nat} {Q : State → Prop} {pc : Nat} {ls st : List JV} {X : va_W} (hm : jokN C M d mc ms) {n : Int32} {N : Nat} (hn : ¬ n < 0) (hN : n.toNatClampNeg = N) (hb : N * 8 ≤ 536870912) (hc : cl + 1 ≤ mc) (hs : sl + N ≤ ms) (hd : decode M.1 pc = .ok (.newarray .long, 2)) (k : ∀ q : Nat, jG C (cl + 1) (sl + N) Q (pc + 2) ls (jR q false :: st) (X ++ [(q, .inl (jcs C 2, N, .inr (.inl (fun _ => 0))))])) : jG C cl sl Q pc ls (jI n :: st) X :=
  jg_newa hm (atype := .long) (t := .long) (i := 2) rfl (by decide) rfl (fun _ h => h) (fun _ => rfl) hn hN hb hc hs hd k
/-- a new object -/
theorem jg_new {C : JC} {mb : ByteArray} {ml : Nat} {own : String} {mr : Option FieldType} {my : MethodName} {d mc ms cl sl : Nat} {Q : State → Prop} {pc : Nat} {ls st : List JV} {X : va_W} (hm : jokN C (mb, ml, own, mr, my) d mc ms) {Cn : String} {T : u_T} {N ci index : Nat} {ty : Nat → FieldType} {fs : List Value} (hin : ∀ w ∈ u_ws Cn T N, w ∈ jGL) (hty : ∀ k, k < N → parseFieldDescriptor (T k).2.2.1 = some (ty k)) (hcl : Cond.classLink own index Cn ∈ jGL) (hinst : Cond.instantiable Cn N ∈ jGL) (hini : Cond.initialized Cn ∈ jGL) (hci : vwCl[ci]? = some (Cn, T, N)) (hfs : ∀ j, j < N → defaultValue (ty j) = vp_V fs j) (hc : cl + 1 ≤ mc) (hs : sl + N ≤ ms) (hd : decode mb pc = .ok (.new index, 3)) (k : ∀ q : Nat, jG C (cl + 1) (sl + N) Q (pc + 3) ls (jR q false :: st) (X ++ [(q, .inr (ci, fs))])) : jG C cl sl Q pc ls st X := by
  intro H locs a h1 h2 h3 hl
  exact va_new (ls := a) (rest := st.map (jcv jid)) hm.exec hm.code hm.hts hin ty hty hm.own (hm.hts _ hcl) (hm.hts _ hinst) (hm.hts _ hini) hm.K h1 h2 h3 hm.new hci hfs (Nat.le_trans hc hm.ce) (Nat.le_trans hs hm.sl) hd (fun q H1 hP hD hS => k q H1 locs a hP hD hS hl)
theorem jg_putF {C : JC} {mb : ByteArray} {ml : Nat} {own : String} {mr : Option FieldType} {my : MethodName} {d mc ms cl sl : Nat} {Q : State → Prop} {pc : Nat} {ls st : List JV} {X : va_W} (hm : jokN C (mb, ml, own, mr, my) d mc ms) (hin2 : (jme C).name = "<init>") {T : u_T} {N ci index h : Nat} {ty0 : Nat → FieldType} {fs : List Value} {v : JV} (q0 k : Nat) (he : X[q0]? = some (h, .inr (ci, fs))) (hc : vwCl[ci]? = some (own, T, N)) (hin : ∀ w ∈ u_ws own T N, w ∈ jGL) (hty : ∀ k, k < N → parseFieldDescriptor (T k).2.2.1 = some (ty0 k)) (hnm : ∀ a, a < N → ∀ b, b < N → a ≠ b → (T a).2.1 ≠ (T b).2.1) (hk : k < N) (hlink : Cond.fieldLink own index own (T k).2.1 (T k).2.2.1 ∈ jGL) (hown2 : (T k).1 = own) (hfin : (T k).2.2.2 = true) (hn : narrow (ty0 k) (jcv jid v) = jcv jid v) (hfit : fits (ty0 k) (jcv jid v) = true) (hlen : k < fs.length) (hd : decode mb pc = .ok (.putfield index, 3))
    (kk : jG C cl sl Q (pc + 3) ls st (X.set q0 (h, .inr (ci, fs.set k (jcv jid v))))) : jG C cl sl Q pc ls (v :: jR h false :: st) X := by
  intro H locs a h1 h2 h3 hl
  exact va_putF (ls := a) (rest := st.map (jcv jid)) (ref := own) hm.exec hm.code hm.hts hin ty0 hty hnm hm.own hm.K h1 h2 h3 q0 he hc k hk (hm.hts _ hlink) (fun x hx => by rw [hown2] at hx; exact hx) hfin hin2 hown2 (hty k hk) hn hfit hlen hd (fun H1 locs1 g1 g2 g3 => kk H1 locs1 a g1 g2 g3 hl)
theorem jg_put {C : JC} {mb : ByteArray} {ml : Nat} {own : String} {mr : Option FieldType} {my : MethodName} {d mc ms cl sl : Nat} {Q : State → Prop} {pc : Nat} {ls st : List JV} {X : va_W} (hm : jokN C (mb, ml, own, mr, my) d mc ms) {T : u_T} {N ci index h : Nat} {ty0 : Nat → FieldType} {fs : List Value} {v : JV} (q0 k : Nat) (he : X[q0]? = some (h, .inr (ci, fs))) (hc : vwCl[ci]? = some (own, T, N)) (hin : ∀ w ∈ u_ws own T N, w ∈ jGL) (hty : ∀ k, k < N → parseFieldDescriptor (T k).2.2.1 = some (ty0 k)) (hnm : ∀ a, a < N → ∀ b, b < N → a ≠ b → (T a).2.1 ≠ (T b).2.1) (hk : k < N) (hlink : Cond.fieldLink own index own (T k).2.1 (T k).2.2.1 ∈ jGL) (hown2 : (T k).1 = own) (hfin : (T k).2.2.2 = false) (hn : narrow (ty0 k) (jcv jid v) = jcv jid v) (hfit : fits (ty0 k) (jcv jid v) = true) (hlen : k < fs.length) (hd : decode mb pc = .ok (.putfield index, 3))
    (kk : jG C cl sl Q (pc + 3) ls st (X.set q0 (h, .inr (ci, fs.set k (jcv jid v))))) : jG C cl sl Q pc ls (v :: jR h false :: st) X := by
  intro H locs a h1 h2 h3 hl
  exact va_put (ls := a) (rest := st.map (jcv jid)) (ref := own) hm.exec hm.code hm.hts hin ty0 hty hnm hm.own hm.K h1 h2 h3 q0 he hc k hk (hm.hts _ hlink) (fun x hx => by rw [hown2] at hx; exact hx) hfin (hty k hk) hn hfit hlen hd (fun H1 locs1 g1 g2 g3 => kk H1 locs1 a g1 g2 g3 hl)
theorem jg_get {C : JC} {mb : ByteArray} {ml : Nat} {own : String} {mr : Option FieldType} {my : MethodName} {d mc ms cl sl : Nat} {Q : State → Prop} {pc : Nat} {ls st : List JV} {X : va_W} (hm : jokN C (mb, ml, own, mr, my) d mc ms) {T : u_T} {N ci index h : Nat} {fs : List Value} {v : JV} (q0 k : Nat) (he : X[q0]? = some (h, .inr (ci, fs))) (hc : vwCl[ci]? = some (own, T, N)) (hin : ∀ w ∈ u_ws own T N, w ∈ jGL) (hk : k < N) (hlink : Cond.fieldLink own index own (T k).2.1 (T k).2.2.1 ∈ jGL) (hown2 : (T k).1 = own) (hv : fs[k]? = some (jcv jid v)) (hd : decode mb pc = .ok (.getfield index, 3))
    (kk : jG C cl sl Q (pc + 3) ls (v :: st) X) : jG C cl sl Q pc ls (jR h false :: st) X := by
  intro H locs a h1 h2 h3 hl
  exact va_get (ls := a) (rest := st.map (jcv jid)) (ref := own) hm.exec hm.code hm.hts hin hm.own hm.K h1 q0 he hc k hk (hm.hts _ hlink) (fun x hx => by rw [hown2] at hx; exact hx) hv hd (kk H locs a h1 h2 h3 hl)
theorem jg_iast {C : JC} {M : JM} {d mc ms cl sl : Nat} {Q : State → Prop} {pc : Nat} {ls st : List JV} {X : va_W} (hm : jokN C M d mc ms) {q n j : Nat} {f : Nat → Int32} {i x : Int32} (q0 : Nat) (hj : i.toNatClampNeg = j) (ha : X[q0]? = some (q, .inl (jcs C 0, n, .inl f))) (hin : vp_in i n) (hd : decode M.1 pc = .ok (.iastore, 1))
    (kk : jG C cl sl Q (pc + 1) ls st (X.set q0 (q, .inl (jcs C 0, n, .inl (upd f j x))))) : jG C cl sl Q pc ls (jI x :: jI i :: jR q false :: st) X := by
  subst hj
  intro H locs a h1 h2 h3 hl
  exact va_iast (ls := a) (rest := st.map (jcv jid)) hm.exec hm.code hm.K h1 h2 h3 q0 0 ha rfl hin hd (fun H1 locs1 g1 g2 g3 => kk H1 locs1 a g1 g2 g3 hl)
/-! the contract of a constructor -/
def jQN (D : va_G) (A : Nat → Prop) (P : va_W → Prop) : Array Value → State → Outcome → State → Prop := fun _ s0 oc t => (∃ X : va_W, oc = .returned none ∧ P X ∧ va_P D vwCl X t.heap ∧ va_D A X) ∧ va_F A s0 t
def jBN (D : va_G) (cs : Nat → ClassId) (sz : Nat) (X : va_W) : State → Prop := fun U => U.heap.size = sz ∧ va_P D vwCl X U.heap ∧ va_D (fun _ => True) X ∧ va_K D vwCl (jty cs) U ∧ jGW U ∧ jGA U
def jSN (M : JM) (d mc ms h : Nat) (as : List JV) (e : va_E) (P : (Nat → ClassId) → va_W → Prop) : Prop :=
  ∀ (l : Launch) (D : va_G) (cs : Nat → ClassId) (sz : Nat), Met l M.2.2.2.2 (jws M) (jroom d mc ms) (va_Pc ((jR h false :: as).map (jcv jid)) (jBN D cs sz [(h, e)])) (jQN D (va_A [(h, e)] sz) (P cs)) mc ms (va_A [(h, e)] sz)
theorem jBN_blind {D : va_G} {cs : Nat → ClassId} {sz : Nat} {X : va_W} {av : List Value} : FrameBlind (va_Pc av (jBN D cs sz X)) := by
  intro a U g mk q
  obtain ⟨q0, q1, qP, qD, qK, qG, qA⟩ := q
  exact ⟨q0, q1, qP, qD, va_K.moved (u := U) (U := U.calling g mk a) (Vm.Alike.refl U.vm) qK, jGW_warm (s := U) (U := U.calling g mk a) (State.WarmedH.refl U) qG, jGA_warm (s := U) (U := U.calling g mk a) (State.WarmedH.refl U) qA⟩
theorem jSN_of {M : JM} {d mc ms h : Nat} {as : List JV} {e : va_E} {P : (Nat → ClassId) → va_W → Prop} (hy : plainName M.2.2.2.2.cls = true) (hc : M.2.2.2.2.cls = M.2.2.1) (hi : M.2.2.2.2.name = "<init>") (hlen : (jent (jR h false :: as)).length ≤ M.2.1)
    (hh : ∀ C : JC, jokN C M d mc ms → (jme C).name = "<init>" → jG C 0 0 (MQ (jbe C) (jQN (jD C) (jA C) (P (jcs C))) (jar C) (js C) mc ms (jA C)) 0 (jentry (jR h false :: as) M.2.1) [] [(h, e)]) : jSN M d mc ms h as e P := by
  intro l D cs sz
  refine Met.ofW (cc := M.1) (maxL := M.2.1) (ret := M.2.2.2.1) hy rfl ?_
  intro p e1 s m args below meth c s₁ B hml hv
  obtain ⟨rfl, hsz, hP, hD, hK, hG, hA⟩ := hv
  have hown : s.vm.findClass M.2.2.2.2.cls = some m.cls := findClass_of_methodNamed B.named
  have hin : meth.name = M.2.2.2.2.name := (name_of_methodNamed B.named B.method).1
  rw [hc] at hown
  subst hsz
  have hl := lv_entry ((jR h false :: as).map (jcv jid)) (n := M.2.1) (by rw [jent_len]; exact hlen)
  rw [lg_entry_eq]
  have key := hh (p, l, e1, jroom d mc ms, s, m, ((jR h false :: as).map (jcv jid)).toArray, below, meth, c, D, jid, cs, va_A [(h, e)] s.heap.size, ((fun _ => 0, fun _ => 0, .null, (0, 0, fun _ => 0), none) : JT))
    ⟨B.exec, B.bytes, hml, hown, B.returns, B.notSynchronized, hK, ⟨hG, hA⟩, fun q hq => Or.inr hq, Nat.le_refl _, Nat.le_refl _, Nat.le_refl _, Nat.le_refl _⟩ (hin.trans hi)
  refine key s.heap [] _ hP hD.self va_S.rf ⟨?_, hl.2.1, fun i v hi hv => ?_⟩
  · rw [hl.1]
    unfold jentry
    rw [List.length_append, List.length_replicate]
    omega
  · refine hl.2.2 (i, jcv jid v) ?_
    unfold jentry at hi
    by_cases hlt : i < (jent (jR h false :: as)).length
    · rw [List.getElem?_append_left hlt] at hi
      have := jent_args (ad := jid) (jR h false :: as) 0 i v hi hv
      rwa [Nat.zero_add] at this
    · rw [List.getElem?_append_right (by omega)] at hi
      exact absurd (List.eq_of_mem_replicate (List.mem_of_getElem? hi)) hv
theorem jg_return {C : JC} {M : JM} {d mc ms cl sl : Nat} {pc : Nat} {ls : List JV} {X : va_W} (hm : jokN C M d mc ms) {P : va_W → Prop} (hret : M.2.2.2.1 = none) (hc : cl ≤ mc) (hs : sl ≤ ms) (hd : decode M.1 pc = .ok (.return_, 1)) (hp : P X) : jG C cl sl (MQ (jbe C) (jQN (jD C) (jA C) P) (jar C) (js C) mc ms (jA C)) pc ls [] X := fun H locs a h1 h2 h3 hl =>
  W.widen hc hs (W.vret hm.exec hm.code (hm.ret.trans hret) (fun t ht _ => ⟨⟨X, rfl, hp, by rw [ht]; exact h1, h2⟩, h3.F ht⟩) h3.2.2 hd hm.locks)
/-- behind the call of a constructor -/
theorem jg_behind {C : JC} {M : JM} {d mc ms cl sl mc2 ms2 : Nat} {Q : State → Prop} {pc : Nat} {ls st : List JV} (hm : jokN C M d mc ms) {wr : va_W} {h : Nat} {e : va_E} {P : va_W → Prop} {st0 : List Value}
    (hrun : ∀ (H : Heap) (locs : List Loc) (a : Array Slot), va_P (jD C) vwCl (wr ++ [(h, e)]) H → va_D (jA C) (wr ++ [(h, e)]) → va_S (jA C) (js C).heap H locs → jloc jid ls a → va_Run (jp C) (jl C) (je C) (jR0 C) (js C) (jm C) (jar C) (jbe C) (jme C) (jco C) H locs cl sl mc2 ms2 (F0 (jm C) pc a st0) (st.map (jcv jid)) (jQN (jD C) (va_A [(h, e)] H.size) P #[]) (va_A [(h, e)] H.size))
    (kk : ∀ X2 : va_W, P X2 → jG C (cl + mc2) (sl + ms2) Q (pc + 3) ls st (wr ++ X2)) : ∀ (H : Heap) (locs : List Loc) (a : Array Slot), va_P (jD C) vwCl (wr ++ [(h, e)]) H → va_D (jA C) (wr ++ [(h, e)]) → va_S (jA C) (js C).heap H locs → jloc jid ls a →
    W (jp C) (jl C) (je C) (jR0 C) (js C) (jm C) (jar C) (jbe C) (jme C) (jco C) H locs cl sl Q (F0 (jm C) pc a st0) := by
  intro H locs a hP hD hS hl T hT X
  obtain ⟨v, s0, t, T', L, h0, X', hL, e1, e2, ⟨⟨X2, hv, hp, hb, hd2⟩, hz, hk⟩, step⟩ := hrun H locs a hP hD hS hl T hT X
  cases hv
  rw [h0] at hz hk
  have hlast : (wr ++ [(h, e)])[wr.length]? = some (h, e) := by simp
  have hone : ∀ q, va_A [(h, e)] H.size q → q = h ∨ H.size ≤ q := by
    rintro q (⟨k, e', hq⟩ | hq)
    · have := List.mem_of_getElem? hq
      rw [List.mem_singleton] at this
      exact Or.inl (congrArg Prod.fst this)
    · exact Or.inr hq
  have hin : ∀ q, va_A [(h, e)] H.size q → jA C q := by
    intro q hq
    rcases hone q hq with rfl | hq
    · exact hD.2 _ _ hlast
    · exact hm.new q (Nat.le_trans hS.1 hq)
  have hleft : ∀ (k : Nat) (q : Nat × va_E), wr[k]? = some q → (wr ++ [(h, e)])[k]? = some q := by
    intro k q hq
    rw [List.getElem?_append_left (List.getElem?_eq_some_iff.mp hq).1]
    exact hq
  have hwr : ∀ (k : Nat) (q : Nat × va_E), wr[k]? = some q → q.1 < H.size ∧ ¬ va_A [(h, e)] H.size q.1 := by
    intro k q hq
    have hlt := (hP k q (hleft k q hq)).lt
    refine ⟨hlt, fun z => ?_⟩
    rcases hone _ z with z | z
    · have := hD.1 k wr.length q (h, e) (hleft k q hq) hlast z
      have h3 := (List.getElem?_eq_some_iff.mp hq).1
      omega
    · omega
  have hP2 : va_P (jD C) vwCl (wr ++ X2) T'.heap := by
    refine va_P.app (va_P.kept (fun k q hq => hP k q (hleft k q hq)) (fun k q hq => ?_)) (by rw [e1]; exact hb)
    rw [e1]
    exact hk q.1 (hwr k q hq).1 (hwr k q hq).2
  have hD2 : va_D (jA C) (wr ++ X2) := va_D.app (w1 := wr) (w2 := X2) ⟨fun i j p q hi hj z => hD.1 i j p q (hleft i p hi) (hleft j q hj) z, fun k q hq => hD.2 k q (hleft k q hq)⟩ (hd2.weaken (fun k q hq ha => hin _ ha)) (fun i j p q hi hj z => (hwr i p hi).2 (by rw [z]; exact hd2.2 j q hj))
  have hS2 : va_S (jA C) (js C).heap T'.heap (locs ++ L) := by
    refine ⟨Nat.le_trans hS.1 (by rw [e1]; exact hz), fun q h1 h2 => ?_, fun q hq => ?_⟩
    · have hlt : q < H.size := Nat.lt_of_lt_of_le h1 hS.1
      rw [e1, hk q hlt (fun z => h2 (hin q z))]
      exact hS.2.1 q h1 h2
    · rcases List.mem_append.mp hq with z | z
      · exact hS.2.2 q z
      · exact hin _ (hL q z)
  obtain ⟨t2, a1, b1⟩ := kk X2 hp T'.heap (locs ++ L) a hP2 hD2 hS2 hl T' rfl X'
  exact ⟨t2, step t2 a1, b1⟩
theorem jgcode_pay {C : JC} {M : JM} {d mc ms : Nat} (hm : jokN C M d mc ms) {Mc : JM} (hw : Cond.code Mc.2.2.2.2 Mc.1 Mc.2.1 Mc.2.2.2.1 ∈ jGL) : ∀ x ∈ jws Mc, ∀ (a' : Array Value) (U : State), (js C).WarmedH U.vm → x.before a' U = true :=
  pay_in (big := jGL) hm.hts (fun x hx => by
    obtain rfl := List.mem_singleton.mp hx
    exact ⟨hw, Or.inl rfl⟩)
theorem jg_initN {C : JC} {M : JM} {d mc ms cl sl mc2 ms2 : Nat} {Q : State → Prop} {pc : Nat} {ls st st0 : List JV} (hm : jokN C M d mc ms) {mb : ByteArray} {ml d2 n index h : Nat} {Cn host : String} {y : MethodName} {wr : va_W} {e : va_E} {as : List JV} {P : (Nat → ClassId) → va_W → Prop} (hs : jSN (mb, ml, Cn, none, y) d2 mc2 ms2 h as e P) (hd2 : d2 + 1 ≤ d) (hc : cl + mc2 ≤ mc) (hsl : sl + ms2 ≤ ms)
    (hw1 : Cond.methodLinkNest M.2.2.1 index y host ∈ jGL) (hw2 : Cond.instanceMethod y ∈ jGL) (hw4 : Cond.initialized Cn ∈ jGL) (hw5 : Cond.code y mb ml none ∈ jGL) (hy : jnm (mb, ml, Cn, none, y) n) (hi : y.name = "<init>")
    (hn : as.length = n) (hst : st0 = as.reverse ++ jR h false :: st) (hcat : jcats st ≤ 8) (hln : ls.length = M.2.1) (hd : decode M.1 pc = .ok (.invokespecial index, 3)) (kk : ∀ X2 : va_W, P (jcs C) X2 → jG C (cl + mc2) (sl + ms2) Q (pc + 3) ls st (wr ++ X2)) : jG C cl sl Q pc ls st0 (wr ++ [(h, e)]) := by
  subst hst
  have h40 := hm.lo
  have hfr := hm.fr
  have h21 : ml ≤ 21 := hy.2.2.2.2
  have hcls : y.cls = Cn := hy.1
  intro H locs a hP hD hS hl
  have e0 : (as.reverse ++ jR h false :: st).map (jcv jid) = (as.map (jcv jid)).reverse ++ Value.ref h :: st.map (jcv jid) := by simp [List.map_reverse, jcv, jR]
  rw [e0]
  refine jg_behind hm (P := P (jcs C)) (st0 := (as.map (jcv jid)).reverse ++ Value.ref h :: st.map (jcv jid)) (fun H locs a hP hD hS hl => ?_) kk H locs a hP hD hS hl
  have hM := hs (jl C) (jD C) (jcs C) H.size
  exact va_runIN (own := M.2.2.1) (host := host) (n := n) (nL := M.2.1) (Ts := jGL) (As := as.map (jcv jid)) (rest := st.map (jcv jid)) ⟨hm.exec, hm.code, hm.ml, hm.own, hm.hts⟩ hM
    ⟨⟨⟨rfl, rfl, Nat.le_trans hd2 hfr, by show 8 + (ml + 11) + 40 * d2 ≤ _; omega, jgcode_pay hm (Mc := (mb, ml, Cn, none, y)) hw5, List.mem_cons_self⟩, hm.hts _ hw5, by rw [hcls]; exact hm.hts _ hw4, ⟨hy.2.1, hy.2.2.1⟩, jnm_len hy, hm.hts _ hw1⟩, hi, hm.hts _ hw2⟩
    ⟨jBN_blind, fun U hU hW => ⟨rfl, by rw [hU], by rw [hU]; exact fun k q hq => hP (wr.length + k) q (by rw [List.getElem?_append_right (Nat.le_add_right _ _), Nat.add_sub_cancel_left]; exact hq), ⟨fun i j p q hp hq _ => by
      have h1 := (List.getElem?_eq_some_iff.mp hp).1
      have h2 := (List.getElem?_eq_some_iff.mp hq).1
      simp at h1 h2
      omega, fun _ _ _ => trivial⟩, va_K.moved hW.alike hm.K, jGW_warm hW hm.GW, jGA_warm hW hm.GA⟩⟩ rfl (by rw [List.length_map]; exact hn) (by rw [← hln]; exact hl.1) rfl (lv_room (Nat.le_trans (jcats_le st) hcat)) hd ⟨Nat.le_trans hc hm.ce, Nat.le_trans hsl hm.sl⟩
theorem jg_initP {C : JC} {M : JM} {d mc ms cl sl mc2 ms2 : Nat} {Q : State → Prop} {pc : Nat} {ls st st0 : List JV} (hm : jokN C M d mc ms) {mb : ByteArray} {ml d2 n index h : Nat} {Cn : String} {y : MethodName} {wr : va_W} {e : va_E} {as : List JV} {P : (Nat → ClassId) → va_W → Prop} (hs : jSN (mb, ml, Cn, none, y) d2 mc2 ms2 h as e P) (hd2 : d2 + 1 ≤ d) (hc : cl + mc2 ≤ mc) (hsl : sl + ms2 ≤ ms)
    (hw1 : Cond.methodLink M.2.2.1 index y ∈ jGL) (hw2 : Cond.instanceMethod y ∈ jGL) (hw4 : Cond.initialized Cn ∈ jGL) (hw5 : Cond.code y mb ml none ∈ jGL) (hy : jnm (mb, ml, Cn, none, y) n) (hi : y.name = "<init>")
    (hn : as.length = n) (hst : st0 = as.reverse ++ jR h false :: st) (hcat : jcats st ≤ 8) (hln : ls.length = M.2.1) (hd : decode M.1 pc = .ok (.invokespecial index, 3)) (kk : ∀ X2 : va_W, P (jcs C) X2 → jG C (cl + mc2) (sl + ms2) Q (pc + 3) ls st (wr ++ X2)) : jG C cl sl Q pc ls st0 (wr ++ [(h, e)]) := by
  subst hst
  have h40 := hm.lo
  have hfr := hm.fr
  have h21 : ml ≤ 21 := hy.2.2.2.2
  have hcls : y.cls = Cn := hy.1
  intro H locs a hP hD hS hl
  have e0 : (as.reverse ++ jR h false :: st).map (jcv jid) = (as.map (jcv jid)).reverse ++ Value.ref h :: st.map (jcv jid) := by simp [List.map_reverse, jcv, jR]
  rw [e0]
  refine jg_behind hm (P := P (jcs C)) (st0 := (as.map (jcv jid)).reverse ++ Value.ref h :: st.map (jcv jid)) (fun H locs a hP hD hS hl => ?_) kk H locs a hP hD hS hl
  have hM := hs (jl C) (jD C) (jcs C) H.size
  exact va_runI (own := M.2.2.1) (n := n) (nL := M.2.1) (Ts := jGL) (As := as.map (jcv jid)) (rest := st.map (jcv jid)) ⟨hm.exec, hm.code, hm.ml, hm.own, hm.hts⟩ hM
    ⟨⟨rfl, rfl, Nat.le_trans hd2 hfr, by show 8 + (ml + 11) + 40 * d2 ≤ _; omega, jgcode_pay hm (Mc := (mb, ml, Cn, none, y)) hw5, List.mem_cons_self, hm.hts _ hw5, by rw [hcls]; exact hm.hts _ hw4, ⟨hy.2.1, hy.2.2.1⟩, jnm_len hy, hm.hts _ hw1⟩, hi, hm.hts _ hw2⟩
    ⟨jBN_blind, fun U hU hW => ⟨rfl, by rw [hU], by rw [hU]; exact fun k q hq => hP (wr.length + k) q (by rw [List.getElem?_append_right (Nat.le_add_right _ _), Nat.add_sub_cancel_left]; exact hq), ⟨fun i j p q hp hq _ => by
      have h1 := (List.getElem?_eq_some_iff.mp hp).1
      have h2 := (List.getElem?_eq_some_iff.mp hq).1
      simp at h1 h2
      omega, fun _ _ _ => trivial⟩, va_K.moved hW.alike hm.K, jGW_warm hW hm.GW, jGA_warm hW hm.GA⟩⟩ rfl (by rw [List.length_map]; exact hn) (by rw [← hln]; exact hl.1) rfl (lv_room (Nat.le_trans (jcats_le st) hcat)) hd ⟨Nat.le_trans hc hm.ce, Nat.le_trans hsl hm.sl⟩
