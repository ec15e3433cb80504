/-! RULES: fields, calls, returns -/
theorem jmem {w : Cond} (i : Nat) (h : lw_tbl[i]? = some w) (h2 : (w.onTables && w.keepsH) = true) : w ∈ jGL := List.mem_filter.mpr ⟨List.mem_of_getElem? h, h2⟩
theorem jr_get {C : JC} {M : JM} {d cl sl : Nat} {Q : State → Prop} {pc : Nat} {ls st : List JV} {w : JW} (hm : jok C M d cl sl) {k : Nat} {b : Bool} {ci index s N : Nat} {Cn ref : String} {T : u_T} {fs : List Value} {v : JV} (hO : (k, b) ∈ jO) (hE : jEw (jad C) (jcs C) w k b = .inr (ci, fs)) (hv : fs[s]? = some (jcv (jad C) v)) (hc : vwCl[ci]? = some (Cn, T, N)) (hin : ∀ x ∈ u_ws Cn T N, x ∈ jGL) (hs : s < N) (href : (T s).1 = ref) (hlink : Cond.fieldLink M.2.2.1 index ref (T s).2.1 (T s).2.2.1 ∈ jGL) (hd : decode M.1 pc = .ok (.getfield index, 3)) (kk : jW C cl sl Q (pc + 3) ls (v :: st) w) : jW C cl sl Q pc ls (jR k b :: st) w := by
  intro H locs a hr hl
  obtain ⟨q0, -, hq⟩ := jWs_at (ad := jad C) (cs := jcs C) (w := w) hO
  rw [hE] at hq
  exact va_get hm.exec hm.code hm.hts hin hm.own hm.K hr.1 q0 hq hc s hs (hm.hts _ hlink) (fun x hx => by rw [← href]; exact hx) hv hd (kk H locs a hr hl)
theorem jr_getN {C : JC} {M : JM} {d cl sl : Nat} {Q : State → Prop} {pc : Nat} {ls st : List JV} {w : JW} (hm : jok C M d cl sl) {k : Nat} {b : Bool} {ci index s N : Nat} {Cn ref host : String} {T : u_T} {fs : List Value} {v : JV} (hO : (k, b) ∈ jO) (hE : jEw (jad C) (jcs C) w k b = .inr (ci, fs)) (hv : fs[s]? = some (jcv (jad C) v)) (hc : vwCl[ci]? = some (Cn, T, N)) (hin : ∀ x ∈ u_ws Cn T N, x ∈ jGL) (hs : s < N) (href : (T s).1 = ref) (hlink : Cond.fieldLinkNest M.2.2.1 index ref (T s).2.1 (T s).2.2.1 host ∈ jGL) (hd : decode M.1 pc = .ok (.getfield index, 3)) (kk : jW C cl sl Q (pc + 3) ls (v :: st) w) : jW C cl sl Q pc ls (jR k b :: st) w := by
  intro H locs a hr hl
  obtain ⟨q0, -, hq⟩ := jWs_at (ad := jad C) (cs := jcs C) (w := w) hO
  rw [hE] at hq
  exact va_getN hm.exec hm.code hm.hts hin hm.own hm.K hr.1 q0 hq hc s hs (hm.hts _ hlink) (fun x hx => by rw [← href]; exact hx) hv hd (kk H locs a hr hl)
/-- a field is written: w2 is the world behind it -/
theorem jr_put {C : JC} {M : JM} {d cl sl : Nat} {Q : State → Prop} {pc : Nat} {ls st : List JV} {w : JW} (hm : jok C M d cl sl) {w2 : JW} {k : Nat} {b : Bool} {ci index s N : Nat} {Cn ref : String} {T : u_T} {ty0 : Nat → FieldType} {fs : List Value} {v : JV} (hO : (k, b) ∈ jO) (hE : jEw (jad C) (jcs C) w k b = .inr (ci, fs)) (hE2 : jEw (jad C) (jcs C) w2 k b = .inr (ci, fs.set s (jcv (jad C) v))) (ho : ∀ o : Nat × Bool, o ∈ jO → o ≠ (k, b) → jEw (jad C) (jcs C) w2 o.1 o.2 = jEw (jad C) (jcs C) w o.1 o.2) (hc : vwCl[ci]? = some (Cn, T, N)) (hin : ∀ x ∈ u_ws Cn T N, x ∈ jGL) (hty : ∀ k, k < N → parseFieldDescriptor (T k).2.2.1 = some (ty0 k)) (hnm : ∀ a, a < N → ∀ b, b < N → a ≠ b → (T a).2.1 ≠ (T b).2.1) (hs : s < N) (href : (T s).1 = ref) (hlink : Cond.fieldLink M.2.2.1 index ref (T s).2.1 (T s).2.2.1 ∈ jGL) (hfin : (T s).2.2.2 = false) (hn : narrow (ty0 s) (jcv (jad C) v) = jcv (jad C) v) (hfit : fits (ty0 s) (jcv (jad C) v) = true) (hlen : s < fs.length) (hd : decode M.1 pc = .ok (.putfield index, 3)) (kk : jW C cl sl Q (pc + 3) ls st w2) : jW C cl sl Q pc ls (v :: jR k b :: st) w := by
  intro H locs a hr hl
  obtain ⟨q0, hj, hq⟩ := jWs_at (ad := jad C) (cs := jcs C) (w := w) hO
  have hset := jWs_set (ad := jad C) (cs := jcs C) (w := w) (w' := w2) hj ho
  rw [hE] at hq
  rw [hE2] at hset
  refine va_put hm.exec hm.code hm.hts hin ty0 hty hnm hm.own hm.K hr.1 hr.2.1 hr.2.2 q0 hq hc s hs (hm.hts _ hlink) (fun x hx => by rw [← href]; exact hx) hfin (hty s hs) hn hfit hlen hd (fun H1 locs1 h1 h2 h3 => ?_)
  rw [hset] at h1 h2
  exact kk H1 locs1 a ⟨h1, h2, h3⟩ hl
theorem jr_putN {C : JC} {M : JM} {d cl sl : Nat} {Q : State → Prop} {pc : Nat} {ls st : List JV} {w : JW} (hm : jok C M d cl sl) {w2 : JW} {k : Nat} {b : Bool} {ci index s N : Nat} {Cn ref host : String} {T : u_T} {ty0 : Nat → FieldType} {fs : List Value} {v : JV} (hO : (k, b) ∈ jO) (hE : jEw (jad C) (jcs C) w k b = .inr (ci, fs)) (hE2 : jEw (jad C) (jcs C) w2 k b = .inr (ci, fs.set s (jcv (jad C) v))) (ho : ∀ o : Nat × Bool, o ∈ jO → o ≠ (k, b) → jEw (jad C) (jcs C) w2 o.1 o.2 = jEw (jad C) (jcs C) w o.1 o.2) (hc : vwCl[ci]? = some (Cn, T, N)) (hin : ∀ x ∈ u_ws Cn T N, x ∈ jGL) (hty : ∀ k, k < N → parseFieldDescriptor (T k).2.2.1 = some (ty0 k)) (hnm : ∀ a, a < N → ∀ b, b < N → a ≠ b → (T a).2.1 ≠ (T b).2.1) (hs : s < N) (href : (T s).1 = ref) (hlink : Cond.fieldLinkNest M.2.2.1 index ref (T s).2.1 (T s).2.2.1 host ∈ jGL) (hfin : (T s).2.2.2 = false) (hn : narrow (ty0 s) (jcv (jad C) v) = jcv (jad C) v) (hfit : fits (ty0 s) (jcv (jad C) v) = true) (hlen : s < fs.length) (hd : decode M.1 pc = .ok (.putfield index, 3)) (kk : jW C cl sl Q (pc + 3) ls st w2) : jW C cl sl Q pc ls (v :: jR k b :: st) w := by
  intro H locs a hr hl
  obtain ⟨q0, hj, hq⟩ := jWs_at (ad := jad C) (cs := jcs C) (w := w) hO
  have hset := jWs_set (ad := jad C) (cs := jcs C) (w := w) (w' := w2) hj ho
  rw [hE] at hq
  rw [hE2] at hset
  refine va_putN hm.exec hm.code hm.hts hin ty0 hty hnm hm.own hm.K hr.1 hr.2.1 hr.2.2 q0 hq hc s hs (hm.hts _ hlink) (fun x hx => by rw [← href]; exact hx) hfin (hty s hs) hn hfit hlen hd (fun H1 locs1 h1 h2 h3 => ?_)
  rw [hset] at h1 h2
  exact kk H1 locs1 a ⟨h1, h2, h3⟩ hl
theorem jsetR_other {ad : JAd} {cs : Nat → ClassId} {w : JW} {k : Nat} {j : Nat} {x : Bool} (o : Nat × Bool) (h : o.1 ≠ k) : jEw ad cs (jsetR w k j x) o.1 o.2 = jEw ad cs w o.1 o.2 := by
  have e : (jsetR w k j x).2.2 o.1 = w.2.2 o.1 := by
    funext j'
    show (if o.1 = k ∧ j' = j then x else w.2.2 o.1 j') = _
    rw [if_neg (fun q => h q.1)]
  unfold jEw
  rw [e]
  rfl
theorem jO_ref {k : Nat} (hk : k = 0 ∨ k = 7 ∨ k = 41) : ∀ o ∈ jO, o ≠ (k, false) → o.1 ≠ k := by rcases hk with rfl | rfl | rfl <;> decide +kernel
-- contexts of callees
theorem jWs_D {A : Nat → Prop} {ad : JAd} {cs : Nat → ClassId} {w w2 : JW} (h : va_D A (jWs ad cs w)) : va_D A (jWs ad cs w2) := by
  have key : ∀ (k : Nat) (q : Nat × va_E), (jWs ad cs w2)[k]? = some q → ∃ e, (jWs ad cs w)[k]? = some (q.1, e) := by
    intro k q hq
    simp only [jWs, List.getElem?_map, Option.map_eq_some_iff] at hq ⊢
    obtain ⟨o, ho, rfl⟩ := hq
    exact ⟨_, o, ho, rfl⟩
  refine ⟨fun i j p q hp hq e => ?_, fun k q hq => ?_⟩
  · obtain ⟨e1, h1⟩ := key i p hp
    obtain ⟨e2, h2⟩ := key j q hq
    exact h.1 i j _ _ h1 h2 e
  · obtain ⟨e, h1⟩ := key k q hq
    exact h.2 k (q.1, e) h1
theorem jAd_in {C : JC} {w : JW} {H : Heap} {locs : List Loc} (hr : jrep C w H locs) (hnew : ∀ q : Nat, (js C).heap.size ≤ q → jA C q) : ∀ q, jAd (jad C) H.size q → jA C q := by
  intro q h
  rcases h with ⟨o, ho, rfl⟩ | h
  · obtain ⟨i, -, hi⟩ := jWs_at (ad := jad C) (cs := jcs C) (w := w) (k := o.1) (b := o.2) ho
    exact hr.2.1.2 i _ hi
  · exact hnew q (Nat.le_trans hr.2.2.1 h)
theorem jB_of {C : JC} {M : JM} {d cl sl : Nat} (hm : jok C M d cl sl) {w : JW} {H : Heap} {locs : List Loc} (hr : jrep C w H locs) {U : State} (hU : U.heap = H) (hW : (js C).WarmedH U.vm) : jB (jD C) (jad C) (jcs C) (jS C) H.size w U := by
  refine ⟨by rw [hU], by rw [hU]; exact hr.1, hr.2.1.weaken (fun _ _ _ _ => trivial), va_K.moved hW.alike hm.K, ?_, hm.adS⟩
  rw [hU]
  exact ((hm.SF.warm hW).kept hr.2.2.2.1).narrow (jAd_in hr hm.new)
abbrev jpush (v : JV) (st : List JV) : List JV := match v with
  | .inr (.inr (.inr _)) => st
  | v => v :: st
theorem jpush_map {ad : JAd} (v : JV) (st : List JV) : (jout ad v).toList ++ st.map (jcv ad) = (jpush v st).map (jcv ad) := by
  rcases v with x | q | x | x <;> rfl
/-- behind a call -/
theorem jr_behind {C : JC} {M : JM} {d cl sl : Nat} {Q : State → Prop} {pc : Nat} {ls st : List JV} {w : JW} (hm : jok C M d cl sl) {mc ms : Nat} {Qa : State → Outcome → State → Prop} {P : JV → JW → Prop} {st0 : List Value}
    (hrun : ∀ (H : Heap) (locs : List Loc) (a : Array Slot), jrep C w H locs → jloc (jad C) ls a → va_Run (jp C) (jl C) (je C) (jR0 C) (js C) (jm C) (jar C) (jbe C) (jme C) (jco C) H locs cl sl mc ms (F0 (jm C) pc a st0) (st.map (jcv (jad C))) (jQc (jD C) (jad C) (jcs C) (jAd (jad C) H.size) P #[]) (jAd (jad C) H.size))
    (kk : ∀ (v : JV) (w2 : JW), P v w2 → jW C (cl + mc) (sl + ms) Q (pc + 3) ls (jpush v st) w2) : ∀ (H : Heap) (locs : List Loc) (a : Array Slot), jrep C w H locs → jloc (jad C) ls a →
    W (jp C) (jl C) (je C) (jR0 C) (js C) (jm C) (jar C) (jbe C) (jme C) (jco C) H locs cl sl Q (F0 (jm C) pc a st0) := by
  intro H locs a hr hl T hT X
  obtain ⟨v, s0, t, T', L, h0, X', hL, e1, e2, ⟨⟨u, w2, hv, hp, hb⟩, hz, hk⟩, step⟩ := hrun H locs a hr hl T hT X
  cases hv
  rw [h0] at hz hk
  have hin := jAd_in hr hm.new
  have hr2 : jrep C w2 T'.heap (locs ++ L) := by
    refine ⟨by rw [e1]; exact hb, jWs_D hr.2.1, Nat.le_trans hr.2.2.1 (by rw [e1]; exact hz), fun q h1 h2 => ?_, fun q hq => ?_⟩
    · have hlt : q < H.size := Nat.lt_of_lt_of_le h1 hr.2.2.1
      rw [e1, hk q hlt (fun z => h2 (hin q z))]
      exact hr.2.2.2.1 q h1 h2
    · rcases List.mem_append.mp hq with h | h
      · exact hr.2.2.2.2 q h
      · exact hin _ (hL q h)
  obtain ⟨t2, a1, b1⟩ := kk u w2 hp T'.heap (locs ++ L) a hr2 hl T' rfl X'
  refine ⟨t2, step t2 ?_, b1⟩
  have e3 := jpush_map (ad := jad C) u st
  show Steps (jp C).tables (je C) (jbe C) (T'.setTop { method := jm C, pc := pc + 3, locals := a, stack := (jout (jad C) u).toList ++ st.map (jcv (jad C)), locked := none }) t2
  rw [e3]
  exact a1
theorem jQc_args {D : va_G} {ad : JAd} {cs : Nat → ClassId} {A : Nat → Prop} {P : JV → JW → Prop} {a b : Array Value} : jQc D ad cs A P a = jQc D ad cs A P b := rfl
def jcats (st : List JV) : Nat := (st.map (fun v => match v with | .inr (.inr (.inl _)) => 2 | _ => 1)).sum
theorem jcats_le {ad : JAd} (st : List JV) : ((st.map (jcv ad)).map fun v => v.category).sum ≤ jcats st := by
  induction st with
  | nil => exact Nat.le_refl _
  | cons v st ih =>
    unfold jcats at ih ⊢
    rw [List.map_cons, List.map_cons, List.map_cons, List.sum_cons, List.sum_cons]
    refine Nat.add_le_add ?_ ih
    rcases v with x | q | x | x <;> exact Nat.le_refl _
theorem jcode_pay {C : JC} {M : JM} {d cl sl : Nat} (hm : jok C M d cl sl) {Mc : JM} (hw : Cond.code Mc.2.2.2.2 Mc.1 Mc.2.1 Mc.2.2.2.1 ∈ jGL) : ∀ x ∈ jws Mc, ∀ (a' : Array Value) (U : State), (js C).WarmedH U.vm → x.before a' U = true :=
  pay_in (big := jGL) hm.hts (fun x hx => by
    obtain rfl := List.mem_singleton.mp hx
    exact ⟨hw, Or.inl rfl⟩)
/-- what a callee's name must satisfy: its class and how many arguments -/
abbrev jnm (Mc : JM) (n : Nat) : Prop := Mc.2.2.2.2.cls = Mc.2.2.1 ∧ Mc.2.2.2.2.cls ≠ "java/lang/invoke/MethodHandle" ∧ Mc.2.2.2.2.cls ≠ "java/lang/invoke/VarHandle" ∧ (parseMethodDescriptor Mc.2.2.2.2.desc).map (fun d => d.parameters.length) = some n ∧ Mc.2.1 ≤ 21
theorem jnm_len {Mc : JM} {n : Nat} (h : jnm Mc n) : ∀ sig, parseMethodDescriptor Mc.2.2.2.2.desc = some sig → n = sig.parameters.length := by
  intro sig hs
  have h2 := h.2.2.2.1
  rw [hs] at h2
  exact (Option.some.inj h2).symm
theorem jr_callV {C : JC} {M : JM} {d cl sl mc ms : Nat} {Q : State → Prop} {pc : Nat} {ls st st0 : List JV} {w : JW} (hm : jok C M d (cl + mc) (sl + ms)) {Mc : JM} {d2 n index k ci N : Nat} {b : Bool} {T : u_T} {as : List JV} {P : JV → JW → Prop} (hs : jSp Mc d2 mc ms (jR k b :: as) w P) (hd2 : d2 + 1 ≤ d)
    (hw1 : Cond.methodLink M.2.2.1 index Mc.2.2.2.2 ∈ jGL) (hw2 : Cond.instanceMethod Mc.2.2.2.2 ∈ jGL) (hw3 : Cond.selects Mc.2.2.1 Mc.2.2.2.2 Mc.2.2.2.2 ∈ jGL) (hw4 : Cond.initialized Mc.2.2.1 ∈ jGL) (hw5 : Cond.code Mc.2.2.2.2 Mc.1 Mc.2.1 Mc.2.2.2.1 ∈ jGL) (hy : jnm Mc n)
    (hn : as.length = n) (hO : (k, b) ∈ jO) (hE : ∀ ad cs f g q, ∃ fs, jE ad cs f g q k b = .inr (ci, fs)) (hc : vwCl[ci]? = some (Mc.2.2.1, T, N)) (hst : st0 = as.reverse ++ jR k b :: st) (hcat : jcats st ≤ 8) (hln : ls.length = M.2.1) (hd : decode M.1 pc = .ok (.invokevirtual index, 3))
    (kk : ∀ (v : JV) (w2 : JW), P v w2 → jW C (cl + mc) (sl + ms) Q (pc + 3) ls (jpush v st) w2) : jW C cl sl Q pc ls st0 w := by
  subst hst
  have h40 := hm.2.2.2.2.2.2.2.2.2.2.1
  have hfr := hm.2.2.2.2.2.2.2.2.2.1
  have h21 := hy.2.2.2.2
  have hml := hm.2.2.1
  have hm0 : jok C M d cl sl := ⟨hm.1, hm.2.1, hm.2.2.1, hm.2.2.2.1, hm.2.2.2.2.1, hm.2.2.2.2.2.1, hm.K, ⟨hm.SF, hm.adS⟩, hm.new, hfr, h40, Nat.le_trans (Nat.le_add_right _ _) hm.2.2.2.2.2.2.2.2.2.2.2.1, Nat.le_trans (Nat.le_add_right _ _) hm.2.2.2.2.2.2.2.2.2.2.2.2⟩
  intro H locs a hr hl
  have e : (as.reverse ++ jR k b :: st).map (jcv (jad C)) = (as.map (jcv (jad C))).reverse ++ Value.ref (jad C k b) :: st.map (jcv (jad C)) := by simp [List.map_reverse, jcv, jR]
  rw [e]
  refine jr_behind hm0 (P := P) (st0 := (as.map (jcv (jad C))).reverse ++ Value.ref (jad C k b) :: st.map (jcv (jad C))) (Qa := fun _ _ _ => True) (fun H locs a hr hl => ?_) kk H locs a hr hl
  have hM := hs (jl C) (jD C) (jad C) (jcs C) (jS C) H.size
  obtain ⟨q0, -, hq⟩ := jWs_at (ad := jad C) (cs := jcs C) (w := w) hO
  obtain ⟨fs, hf⟩ := hE (jad C) (jcs C) (w.1 k b) (w.2.1 k) (w.2.2 k)
  unfold jEw at hq
  rw [hf] at hq
  exact va_runV (C := Mc.2.2.1) (own := M.2.2.1) (n := n) (nL := M.2.1) (Ts := jGL) (As := as.map (jcv (jad C))) (rest := st.map (jcv (jad C))) ⟨hm.exec, hm.code, hm.2.2.1, hm.own, hm.hts⟩ hM
    ⟨⟨rfl, rfl, Nat.le_trans hd2 hfr, by show 8 + (Mc.2.1 + 11) + 40 * d2 ≤ _; omega, jcode_pay hm hw5, List.mem_cons_self, hm.hts _ hw5, by rw [hy.1]; exact hm.hts _ hw4, ⟨hy.2.1, hy.2.2.1⟩, jnm_len hy, hm.hts _ hw1⟩, hm.hts _ hw2, hm.hts _ hw3⟩
    ⟨jB_blind, va_recv hm.K hr.1 hc hq, fun U hU hW => ⟨by simp [jcv, jR], jB_of hm hr hU hW⟩⟩ rfl (by rw [List.length_map]; exact hn) (by rw [← hln]; exact hl.1) rfl (lv_room (Nat.le_trans (jcats_le st) hcat)) hd ⟨hm.2.2.2.2.2.2.2.2.2.2.2.1, hm.2.2.2.2.2.2.2.2.2.2.2.2⟩
theorem jr_callS {C : JC} {M : JM} {d cl sl mc ms : Nat} {Q : State → Prop} {pc : Nat} {ls st st0 : List JV} {w : JW} (hm : jok C M d (cl + mc) (sl + ms)) {Mc : JM} {d2 n index : Nat} {as : List JV} {P : JV → JW → Prop} (hs : jSp Mc d2 mc ms as w P) (hd2 : d2 + 1 ≤ d)
    (hw1 : Cond.methodLink M.2.2.1 index Mc.2.2.2.2 ∈ jGL) (hw2 : Cond.static Mc.2.2.2.2 ∈ jGL) (hw4 : Cond.initialized Mc.2.2.1 ∈ jGL) (hw5 : Cond.code Mc.2.2.2.2 Mc.1 Mc.2.1 Mc.2.2.2.1 ∈ jGL) (hy : jnm Mc n)
    (hn : as.length = n) (hst : st0 = as.reverse ++ st) (hcat : jcats st ≤ 8) (hln : ls.length = M.2.1) (hd : decode M.1 pc = .ok (.invokestatic index, 3))
    (kk : ∀ (v : JV) (w2 : JW), P v w2 → jW C (cl + mc) (sl + ms) Q (pc + 3) ls (jpush v st) w2) : jW C cl sl Q pc ls st0 w := by
  subst hst
  have h40 := hm.2.2.2.2.2.2.2.2.2.2.1
  have hfr := hm.2.2.2.2.2.2.2.2.2.1
  have h21 := hy.2.2.2.2
  have hm0 : jok C M d cl sl := ⟨hm.1, hm.2.1, hm.2.2.1, hm.2.2.2.1, hm.2.2.2.2.1, hm.2.2.2.2.2.1, hm.K, ⟨hm.SF, hm.adS⟩, hm.new, hfr, h40, Nat.le_trans (Nat.le_add_right _ _) hm.2.2.2.2.2.2.2.2.2.2.2.1, Nat.le_trans (Nat.le_add_right _ _) hm.2.2.2.2.2.2.2.2.2.2.2.2⟩
  intro H locs a hr hl
  have e : (as.reverse ++ st).map (jcv (jad C)) = (as.map (jcv (jad C))).reverse ++ st.map (jcv (jad C)) := by simp [List.map_reverse]
  rw [e]
  refine jr_behind hm0 (P := P) (st0 := (as.map (jcv (jad C))).reverse ++ st.map (jcv (jad C))) (Qa := fun _ _ _ => True) (fun H locs a hr hl => ?_) kk H locs a hr hl
  have hM := hs (jl C) (jD C) (jad C) (jcs C) (jS C) H.size
  exact va_runS (own := M.2.2.1) (n := n) (nL := M.2.1) (Ts := jGL) (As := as.map (jcv (jad C))) (rest := st.map (jcv (jad C))) ⟨hm.exec, hm.code, hm.2.2.1, hm.own, hm.hts⟩ hM
    ⟨⟨rfl, rfl, Nat.le_trans hd2 hfr, by show 8 + (Mc.2.1 + 11) + 40 * d2 ≤ _; omega, jcode_pay hm hw5, List.mem_cons_self, hm.hts _ hw5, by rw [hy.1]; exact hm.hts _ hw4, ⟨hy.2.1, hy.2.2.1⟩, jnm_len hy, hm.hts _ hw1⟩, hm.hts _ hw2⟩
    ⟨jB_blind, fun U hU hW => ⟨rfl, jB_of hm hr hU hW⟩⟩ rfl (by rw [List.length_map]; exact hn) (by rw [← hln]; exact hl.1) rfl (lv_room (Nat.le_trans (jcats_le st) hcat)) hd ⟨hm.2.2.2.2.2.2.2.2.2.2.2.1, hm.2.2.2.2.2.2.2.2.2.2.2.2⟩
theorem jr_callSN {C : JC} {M : JM} {d cl sl mc ms : Nat} {Q : State → Prop} {pc : Nat} {ls st st0 : List JV} {w : JW} (hm : jok C M d (cl + mc) (sl + ms)) {Mc : JM} {d2 n index : Nat} {host : String} {as : List JV} {P : JV → JW → Prop} (hs : jSp Mc d2 mc ms as w P) (hd2 : d2 + 1 ≤ d)
    (hw1 : Cond.methodLinkNest M.2.2.1 index Mc.2.2.2.2 host ∈ jGL) (hw2 : Cond.static Mc.2.2.2.2 ∈ jGL) (hw4 : Cond.initialized Mc.2.2.1 ∈ jGL) (hw5 : Cond.code Mc.2.2.2.2 Mc.1 Mc.2.1 Mc.2.2.2.1 ∈ jGL) (hy : jnm Mc n)
    (hn : as.length = n) (hst : st0 = as.reverse ++ st) (hcat : jcats st ≤ 8) (hln : ls.length = M.2.1) (hd : decode M.1 pc = .ok (.invokestatic index, 3))
    (kk : ∀ (v : JV) (w2 : JW), P v w2 → jW C (cl + mc) (sl + ms) Q (pc + 3) ls (jpush v st) w2) : jW C cl sl Q pc ls st0 w := by
  subst hst
  have h40 := hm.2.2.2.2.2.2.2.2.2.2.1
  have hfr := hm.2.2.2.2.2.2.2.2.2.1
  have h21 := hy.2.2.2.2
  have hm0 : jok C M d cl sl := ⟨hm.1, hm.2.1, hm.2.2.1, hm.2.2.2.1, hm.2.2.2.2.1, hm.2.2.2.2.2.1, hm.K, ⟨hm.SF, hm.adS⟩, hm.new, hfr, h40, Nat.le_trans (Nat.le_add_right _ _) hm.2.2.2.2.2.2.2.2.2.2.2.1, Nat.le_trans (Nat.le_add_right _ _) hm.2.2.2.2.2.2.2.2.2.2.2.2⟩
  intro H locs a hr hl
  have e : (as.reverse ++ st).map (jcv (jad C)) = (as.map (jcv (jad C))).reverse ++ st.map (jcv (jad C)) := by simp [List.map_reverse]
  rw [e]
  refine jr_behind hm0 (P := P) (st0 := (as.map (jcv (jad C))).reverse ++ st.map (jcv (jad C))) (Qa := fun _ _ _ => True) (fun H locs a hr hl => ?_) kk H locs a hr hl
  have hM := hs (jl C) (jD C) (jad C) (jcs C) (jS C) H.size
  exact va_runSN (own := M.2.2.1) (host := host) (n := n) (nL := M.2.1) (Ts := jGL) (As := as.map (jcv (jad C))) (rest := st.map (jcv (jad C))) ⟨hm.exec, hm.code, hm.2.2.1, hm.own, hm.hts⟩ hM
    ⟨⟨⟨rfl, rfl, Nat.le_trans hd2 hfr, by show 8 + (Mc.2.1 + 11) + 40 * d2 ≤ _; omega, jcode_pay hm hw5, List.mem_cons_self⟩, hm.hts _ hw5, by rw [hy.1]; exact hm.hts _ hw4, ⟨hy.2.1, hy.2.2.1⟩, jnm_len hy, hm.hts _ hw1⟩, hm.hts _ hw2, trivial⟩
    ⟨jB_blind, fun U hU hW => ⟨rfl, jB_of hm hr hU hW⟩⟩ rfl (by rw [List.length_map]; exact hn) (by rw [← hln]; exact hl.1) rfl (lv_room (Nat.le_trans (jcats_le st) hcat)) hd ⟨hm.2.2.2.2.2.2.2.2.2.2.2.1, hm.2.2.2.2.2.2.2.2.2.2.2.2⟩
-- returns
theorem jr_ireturn {C : JC} {M : JM} {d cl sl : Nat} {pc : Nat} {ls : List JV} {w : JW} (hm : jok C M d cl sl) {P : JV → JW → Prop} {x : Int32} (hret : M.2.2.2.1 = some .int) (hd : decode M.1 pc = .ok (.ireturn, 1)) (hp : P (jI x) w) : jW C cl sl (jQQ C cl sl P) pc ls [jI x] w := fun H locs a hr hl =>
  W.iret hm.exec hm.code (hm.2.2.2.2.1.trans hret) (fun t ht _ => ⟨⟨jI x, w, rfl, hp, by rw [ht]; exact hr.1⟩, hr.2.2.F ht⟩) hr.2.2.2.2 hd hm.2.2.2.2.2.1
theorem jr_return {C : JC} {M : JM} {d cl sl : Nat} {pc : Nat} {ls : List JV} {w : JW} (hm : jok C M d cl sl) {P : JV → JW → Prop} (hret : M.2.2.2.1 = none) (hd : decode M.1 pc = .ok (.return_, 1)) (hp : P jU w) : jW C cl sl (jQQ C cl sl P) pc ls [] w := fun H locs a hr hl =>
  W.vret hm.exec hm.code (hm.2.2.2.2.1.trans hret) (fun t ht _ => ⟨⟨jU, w, rfl, hp, by rw [ht]; exact hr.1⟩, hr.2.2.F ht⟩) hr.2.2.2.2 hd hm.2.2.2.2.2.1
theorem jr_lreturn {C : JC} {M : JM} {d cl sl : Nat} {pc : Nat} {ls : List JV} {w : JW} (hm : jok C M d cl sl) {P : JV → JW → Prop} {x : Int64} (hret : M.2.2.2.1 = some .long) (hd : decode M.1 pc = .ok (.lreturn, 1)) (hp : P (jL x) w) : jW C cl sl (jQQ C cl sl P) pc ls [jL x] w := fun H locs a hr hl =>
  W.lret hm.exec hm.code (hm.2.2.2.2.1.trans hret) (fun t ht _ => ⟨⟨jL x, w, rfl, hp, by rw [ht]; exact hr.1⟩, hr.2.2.F ht⟩) hr.2.2.2.2 hd hm.2.2.2.2.2.1
-- entries
theorem jent_args {ad : JAd} : ∀ (as : List JV) (o : Nat) (i : Nat) (v : JV), (jent as)[i]? = some v → v ≠ jU → (o + i, jcv ad v) ∈ lv_args o (as.map (jcv ad)) := by
  intro as
  induction as with
  | nil => intro o i v h; simp [jent] at h
  | cons u us ih =>
    intro o i v h hv
    rcases u with x | q | x | x
    · cases i with
      | zero => cases h; exact List.mem_cons_self
      | succ i =>
        have h2 := ih (o + 1) i v h hv
        have e : o + (i + 1) = o + 1 + i := by omega
        rw [e]
        exact List.mem_cons_of_mem _ h2
    · cases i with
      | zero => cases h; exact List.mem_cons_self
      | succ i =>
        have h2 := ih (o + 1) i v h hv
        have e : o + (i + 1) = o + 1 + i := by omega
        rw [e]
        exact List.mem_cons_of_mem _ h2
    · cases i with
      | zero => cases h; exact List.mem_cons_self
      | succ i =>
        cases i with
        | zero => cases h; exact absurd rfl hv
        | succ i =>
          have h2 := ih (o + 2) i v h hv
          have e : o + (i + 1 + 1) = o + 2 + i := by omega
          rw [e]
          exact List.mem_cons_of_mem _ h2
    · cases i with
      | zero => cases h; exact absurd rfl hv
      | succ i =>
        have h2 := ih (o + 1) i v h hv
        have e : o + (i + 1) = o + 1 + i := by omega
        rw [e]
        exact List.mem_cons_of_mem _ h2
theorem jent_len {ad : JAd} (as : List JV) : (lg_sl (as.map (jcv ad))).length = (jent as).length := by
  induction as with
  | nil => rfl
  | cons u us ih =>
    rw [List.map_cons, show lg_sl (jcv ad u :: us.map (jcv ad)) = (if (jcv ad u).category = 2 then [Slot.val (jcv ad u), Slot.second] else [Slot.val (jcv ad u)]) ++ lg_sl (us.map (jcv ad)) from rfl, List.length_append, ih]
    rcases u with x | q | x | x
    · show 1 + _ = _ + 1
      omega
    · show 1 + _ = _ + 1
      omega
    · show 2 + _ = _ + 1 + 1
      omega
    · show 1 + _ = _ + 1
      omega
/-- A CONTRACT out of the walk of the method's body -/
theorem jSp_of {M : JM} {d mc ms : Nat} {as : List JV} {w : JW} {P : JV → JW → Prop} (hy : plainName M.2.2.2.2.cls = true) (hc : M.2.2.2.2.cls = M.2.2.1) (hlen : (jent as).length ≤ M.2.1)
    (h : ∀ C : JC, jok C M d mc ms → jW C 0 0 (jQQ C mc ms P) 0 (jentry as M.2.1) [] w) : jSp M d mc ms as w P := by
  intro l D ad cs S sz
  refine Met.ofW (cc := M.1) (maxL := M.2.1) (ret := M.2.2.2.1) hy rfl ?_
  intro p e s m args below meth c s₁ B hml hv
  obtain ⟨rfl, hsz, hP, hD, hK, hF, hSs⟩ := hv
  have hown : s.vm.findClass M.2.2.2.2.cls = some m.cls := findClass_of_methodNamed B.named
  rw [hc] at hown
  subst hsz
  have hl := lv_entry (as.map (jcv ad)) (n := M.2.1) (by rw [jent_len]; exact hlen)
  rw [lg_entry_eq]
  have key := h (p, l, e, jroom d mc ms, s, m, (as.map (jcv ad)).toArray, below, meth, c, D, ad, cs, jAd ad s.heap.size, S)
    ⟨B.exec, B.bytes, hml, hown, B.returns, B.notSynchronized, hK, ⟨hF, hSs⟩, fun q hq => Or.inr hq, Nat.le_refl _, Nat.le_refl _, Nat.le_refl _, Nat.le_refl _⟩
  refine key s.heap [] _ ⟨hP, ⟨hD.1, fun k q hk => ?_⟩, va_S.rf⟩ ⟨?_, hl.2.1, fun i v hi hv => ?_⟩
  · simp only [jWs, List.getElem?_map, Option.map_eq_some_iff] at hk
    obtain ⟨o, ho, rfl⟩ := hk
    exact Or.inl ⟨o, List.mem_of_getElem? ho, rfl⟩
  · rw [hl.1]
    unfold jentry
    rw [List.length_append, List.length_replicate]
    omega
  · refine hl.2.2 (i, jcv ad v) ?_
    unfold jentry at hi
    by_cases hlt : i < (jent as).length
    · rw [List.getElem?_append_left hlt] at hi
      have := jent_args (ad := ad) as 0 i v hi hv
      rwa [Nat.zero_add] at this
    · rw [List.getElem?_append_right (by omega)] at hi
      exact absurd (List.eq_of_mem_replicate (List.mem_of_getElem? hi)) hv
theorem jr_areturn {C : JC} {M : JM} {d cl sl : Nat} {pc : Nat} {ls : List JV} {w : JW} (hm : jok C M d cl sl) {P : JV → JW → Prop} {k : Nat} {b : Bool} {X : String} (hret : M.2.2.2.1 = some (.object X)) (hd : decode M.1 pc = .ok (.areturn, 1)) (hp : P (jR k b) w) : jW C cl sl (jQQ C cl sl P) pc ls [jR k b] w := fun H locs a hr hl =>
  W.aret (v := .ref (jad C k b)) hm.exec hm.code (hm.2.2.2.2.1.trans hret) (Or.inl ⟨X, rfl⟩) (Or.inr ⟨_, rfl⟩) (fun t ht _ => ⟨⟨jR k b, w, rfl, hp, by rw [ht]; exact hr.1⟩, hr.2.2.F ht⟩) hr.2.2.2.2 hd hm.2.2.2.2.2.1
theorem jr_zreturn {C : JC} {M : JM} {d cl sl : Nat} {pc : Nat} {ls : List JV} {w : JW} (hm : jok C M d cl sl) {P : JV → JW → Prop} {x : Int32} (hret : M.2.2.2.1 = some .boolean) (hz : narrow .boolean (.int x) = .int x) (hd : decode M.1 pc = .ok (.ireturn, 1)) (hp : P (jI x) w) : jW C cl sl (jQQ C cl sl P) pc ls [jI x] w := fun H locs a hr hl =>
  W.zret (ty := .boolean) hm.exec hm.code (hm.2.2.2.2.1.trans hret) hz (fun t ht _ => ⟨⟨jI x, w, rfl, hp, by rw [ht]; exact hr.1⟩, hr.2.2.F ht⟩) hr.2.2.2.2 hd hm.2.2.2.2.2.1
theorem jz_if (c : Prop) [Decidable c] : narrow .boolean (.int (if c then 1 else 0)) = .int (if c then 1 else 0) := by
  by_cases h : c
  · rw [if_pos h]; rfl
  · rw [if_neg h]; rfl
theorem jr_mmax {C : JC} {M : JM} {d cl sl : Nat} {Q : State → Prop} {pc : Nat} {ls st : List JV} {w : JW} (hm : jok C M d cl sl) {x y : Int32} {index : Nat} (h1 : Cond.methodLink M.2.2.1 index Lib.Math.max.name ∈ jGL) (h2 : Cond.static Lib.Math.max.name ∈ jGL) (h3 : Cond.initialized "java/lang/Math" ∈ jGL) (h4 : Cond.code Lib.Math.max.name Lib.Math.max.code 2 (some .int) ∈ jGL) (hd1 : 1 ≤ d) (hcat : jcats st ≤ 8) (hln : ls.length = M.2.1) (hd : decode M.1 pc = .ok (.invokestatic index, 3)) (kk : jW C cl sl Q (pc + 3) ls (jI (if x < y then y else x) :: st) w) : jW C cl sl Q pc ls (jI y :: jI x :: st) w := by
  intro H locs a hr hl
  have h40 := hm.2.2.2.2.2.2.2.2.2.2.1
  have hfr := hm.2.2.2.2.2.2.2.2.2.1
  have hc := jcats_le (ad := jad C) st
  exact va_mmax hm.exec hm.code (by rw [hm.2.2.1, ← hln]; exact hl.1.symm) hm.own (hm.hts _ h1) (hm.hts _ h2) (hm.hts _ h3) (hm.hts _ h4) (Nat.le_trans hd1 hfr) (by omega) hm.2.2.2.2.2.2.2.2.2.2.2.1 hm.2.2.2.2.2.2.2.2.2.2.2.2 hd (kk H locs a hr hl)
theorem jr_mmin {C : JC} {M : JM} {d cl sl : Nat} {Q : State → Prop} {pc : Nat} {ls st : List JV} {w : JW} (hm : jok C M d cl sl) {x y : Int32} {index : Nat} (h1 : Cond.methodLink M.2.2.1 index Lib.Math.min.name ∈ jGL) (h2 : Cond.static Lib.Math.min.name ∈ jGL) (h3 : Cond.initialized "java/lang/Math" ∈ jGL) (h4 : Cond.code Lib.Math.min.name Lib.Math.min.code 2 (some .int) ∈ jGL) (hd1 : 1 ≤ d) (hcat : jcats st ≤ 8) (hln : ls.length = M.2.1) (hd : decode M.1 pc = .ok (.invokestatic index, 3)) (kk : jW C cl sl Q (pc + 3) ls (jI (if y < x then y else x) :: st) w) : jW C cl sl Q pc ls (jI y :: jI x :: st) w := by
  intro H locs a hr hl
  have h40 := hm.2.2.2.2.2.2.2.2.2.2.1
  have hfr := hm.2.2.2.2.2.2.2.2.2.1
  have hc := jcats_le (ad := jad C) st
  exact va_mmin hm.exec hm.code (by rw [hm.2.2.1, ← hln]; exact hl.1.symm) hm.own (hm.hts _ h1) (hm.hts _ h2) (hm.hts _ h3) (hm.hts _ h4) (Nat.le_trans hd1 hfr) (by omega) hm.2.2.2.2.2.2.2.2.2.2.2.1 hm.2.2.2.2.2.2.2.2.2.2.2.2 hd (kk H locs a hr hl)
theorem jr_ldc {C : JC} {M : JM} {d cl sl : Nat} {Q : State → Prop} {pc : Nat} {ls st : List JV} {w : JW} (hm : jok C M d cl sl) {index : Nat} {v : Int32} (h1 : Cond.constant M.2.2.1 index v ∈ jGL) (hd : decode M.1 pc = .ok (.ldc index, 2)) (kk : jW C cl sl Q (pc + 2) ls (jI v :: st) w) : jW C cl sl Q pc ls st w := fun H locs a hr hl =>
  lv_ldc hm.exec hm.code hm.own (hm.hts _ h1) hd (kk H locs a hr hl)
theorem jr_ldc2 {C : JC} {M : JM} {d cl sl : Nat} {Q : State → Prop} {pc : Nat} {ls st : List JV} {w : JW} (hm : jok C M d cl sl) {index : Nat} {v : Int64} (h1 : Cond.constantLong M.2.2.1 index v ∈ jGL) (hd : decode M.1 pc = .ok (.ldc2_w index, 3)) (kk : jW C cl sl Q (pc + 3) ls (jL v :: st) w) : jW C cl sl Q pc ls st w := fun H locs a hr hl =>
  lv_ldc2 hm.exec hm.code hm.own (hm.hts _ h1) hd (kk H locs a hr hl)
theorem jkF {C : JC} {cl sl : Nat} {Q : State → Prop} {pc : Nat} {ls st : List JV} {r : JV} {w2 : JW} (k : jW C cl sl Q pc ls (jpush r st) w2) : ∀ (v : JV) (w' : JW), (v = r ∧ w' = w2) → jW C cl sl Q pc ls (jpush v st) w' := by
  rintro _ _ ⟨rfl, rfl⟩
  exact k
/-- the answer and the world behind it are told -/
def jF (M : JM) (d : Nat) (as : List JV) (w : JW) (r : JV) (w2 : JW) : Prop := jSp M d 0 0 as w (fun v w' => v = r ∧ w' = w2)
theorem jF_of {M : JM} {d : Nat} {as : List JV} {w w2 : JW} {r : JV} (hy : plainName M.2.2.2.2.cls = true) (hc : M.2.2.2.2.cls = M.2.2.1) (hlen : (jent as).length ≤ M.2.1)
    (h : ∀ C : JC, jok C M d 0 0 → jW C 0 0 (jQQ C 0 0 (fun v w' => v = r ∧ w' = w2)) 0 (jentry as M.2.1) [] w) : jF M d as w r w2 := jSp_of hy hc hlen h
