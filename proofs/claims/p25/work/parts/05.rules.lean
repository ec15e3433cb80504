/-! RULES: one instruction each -/
theorem jr_iconst {C : JC} {M : JM} {d cl sl : Nat} {Q : State → Prop} {pc : Nat} {ls st : List JV} {w : JW} (hm : jok C M d cl sl) {n : Int} {v : Int32} (hv : Int32.ofInt n = v) (hd : decode M.1 pc = .ok (.iconst n, 1)) (k : jW C cl sl Q (pc + 1) ls (jI v :: st) w) : jW C cl sl Q pc ls st w := fun H locs a hr hl => lv_iconst hm.exec hm.code hd hv (k H locs a hr hl)
theorem jr_bipush {C : JC} {M : JM} {d cl sl : Nat} {Q : State → Prop} {pc : Nat} {ls st : List JV} {w : JW} (hm : jok C M d cl sl) {n : Int} {v : Int32} (hv : (Int8.ofInt n).toInt32 = v) (hd : decode M.1 pc = .ok (.bipush n, 2)) (k : jW C cl sl Q (pc + 2) ls (jI v :: st) w) : jW C cl sl Q pc ls st w := fun H locs a hr hl => lv_bipush hm.exec hm.code hd hv (k H locs a hr hl)
theorem jr_sipush {C : JC} {M : JM} {d cl sl : Nat} {Q : State → Prop} {pc : Nat} {ls st : List JV} {w : JW} (hm : jok C M d cl sl) {n : Int} {v : Int32} (hv : (Int16.ofInt n).toInt32 = v) (hd : decode M.1 pc = .ok (.sipush n, 3)) (k : jW C cl sl Q (pc + 3) ls (jI v :: st) w) : jW C cl sl Q pc ls st w := fun H locs a hr hl => lv_sipush hm.exec hm.code hd hv (k H locs a hr hl)
theorem jr_lconst {C : JC} {M : JM} {d cl sl : Nat} {Q : State → Prop} {pc : Nat} {ls st : List JV} {w : JW} (hm : jok C M d cl sl) {n : Fin 2} {v : Int64} (hv : Int64.ofNat (n : Nat) = v) (hd : decode M.1 pc = .ok (.lconst n, 1)) (k : jW C cl sl Q (pc + 1) ls (jL v :: st) w) : jW C cl sl Q pc ls st w := fun H locs a hr hl => lv_lconst hm.exec hm.code hd hv (k H locs a hr hl)
theorem jr_iadd {C : JC} {M : JM} {d cl sl : Nat} {Q : State → Prop} {pc : Nat} {ls st : List JV} {w : JW} (hm : jok C M d cl sl) {x y : Int32} (hd : decode M.1 pc = .ok (.iadd, 1)) (k : jW C cl sl Q (pc + 1) ls (jI (x + y) :: st) w) : jW C cl sl Q pc ls (jI y :: jI x :: st) w := fun H locs a hr hl => lv_iadd hm.exec hm.code hd  (k H locs a hr hl)
theorem jr_isub {C : JC} {M : JM} {d cl sl : Nat} {Q : State → Prop} {pc : Nat} {ls st : List JV} {w : JW} (hm : jok C M d cl sl) {x y : Int32} (hd : decode M.1 pc = .ok (.isub, 1)) (k : jW C cl sl Q (pc + 1) ls (jI (x - y) :: st) w) : jW C cl sl Q pc ls (jI y :: jI x :: st) w := fun H locs a hr hl => lv_isub hm.exec hm.code hd  (k H locs a hr hl)
theorem jr_imul {C : JC} {M : JM} {d cl sl : Nat} {Q : State → Prop} {pc : Nat} {ls st : List JV} {w : JW} (hm : jok C M d cl sl) {x y : Int32} (hd : decode M.1 pc = .ok (.imul, 1)) (k : jW C cl sl Q (pc + 1) ls (jI (x * y) :: st) w) : jW C cl sl Q pc ls (jI y :: jI x :: st) w := fun H locs a hr hl => lv_imul hm.exec hm.code hd  (k H locs a hr hl)
theorem jr_iand {C : JC} {M : JM} {d cl sl : Nat} {Q : State → Prop} {pc : Nat} {ls st : List JV} {w : JW} (hm : jok C M d cl sl) {x y : Int32} (hd : decode M.1 pc = .ok (.iand, 1)) (k : jW C cl sl Q (pc + 1) ls (jI (x &&& y) :: st) w) : jW C cl sl Q pc ls (jI y :: jI x :: st) w := fun H locs a hr hl => lv_iand hm.exec hm.code hd  (k H locs a hr hl)
theorem jr_ior {C : JC} {M : JM} {d cl sl : Nat} {Q : State → Prop} {pc : Nat} {ls st : List JV} {w : JW} (hm : jok C M d cl sl) {x y : Int32} (hd : decode M.1 pc = .ok (.ior, 1)) (k : jW C cl sl Q (pc + 1) ls (jI (x ||| y) :: st) w) : jW C cl sl Q pc ls (jI y :: jI x :: st) w := fun H locs a hr hl => lv_ior hm.exec hm.code hd  (k H locs a hr hl)
theorem jr_ishr {C : JC} {M : JM} {d cl sl : Nat} {Q : State → Prop} {pc : Nat} {ls st : List JV} {w : JW} (hm : jok C M d cl sl) {x y : Int32} (hd : decode M.1 pc = .ok (.ishr, 1)) (k : jW C cl sl Q (pc + 1) ls (jI (x >>> (y &&& 31)) :: st) w) : jW C cl sl Q pc ls (jI y :: jI x :: st) w := fun H locs a hr hl => lv_ishr hm.exec hm.code hd  (k H locs a hr hl)
theorem jr_idiv {C : JC} {M : JM} {d cl sl : Nat} {Q : State → Prop} {pc : Nat} {ls st : List JV} {w : JW} (hm : jok C M d cl sl) {x y : Int32} (hne : ¬ y = 0) (hd : decode M.1 pc = .ok (.idiv, 1)) (k : jW C cl sl Q (pc + 1) ls (jI (x / y) :: st) w) : jW C cl sl Q pc ls (jI y :: jI x :: st) w := fun H locs a hr hl => lv_idiv hm.exec hm.code hd hne (k H locs a hr hl)
theorem jr_irem {C : JC} {M : JM} {d cl sl : Nat} {Q : State → Prop} {pc : Nat} {ls st : List JV} {w : JW} (hm : jok C M d cl sl) {x y : Int32} (hne : ¬ y = 0) (hd : decode M.1 pc = .ok (.irem, 1)) (k : jW C cl sl Q (pc + 1) ls (jI (x - x / y * y) :: st) w) : jW C cl sl Q pc ls (jI y :: jI x :: st) w := fun H locs a hr hl => lv_irem hm.exec hm.code hd hne (k H locs a hr hl)
theorem jr_ineg {C : JC} {M : JM} {d cl sl : Nat} {Q : State → Prop} {pc : Nat} {ls st : List JV} {w : JW} (hm : jok C M d cl sl) {x : Int32} (hd : decode M.1 pc = .ok (.ineg, 1)) (k : jW C cl sl Q (pc + 1) ls (jI (-x) :: st) w) : jW C cl sl Q pc ls (jI x :: st) w := fun H locs a hr hl => lv_ineg hm.exec hm.code hd  (k H locs a hr hl)
theorem jr_ladd {C : JC} {M : JM} {d cl sl : Nat} {Q : State → Prop} {pc : Nat} {ls st : List JV} {w : JW} (hm : jok C M d cl sl) {x y : Int64} (hd : decode M.1 pc = .ok (.ladd, 1)) (k : jW C cl sl Q (pc + 1) ls (jL (x + y) :: st) w) : jW C cl sl Q pc ls (jL y :: jL x :: st) w := fun H locs a hr hl => lv_ladd hm.exec hm.code hd  (k H locs a hr hl)
theorem jr_lmul {C : JC} {M : JM} {d cl sl : Nat} {Q : State → Prop} {pc : Nat} {ls st : List JV} {w : JW} (hm : jok C M d cl sl) {x y : Int64} (hd : decode M.1 pc = .ok (.lmul, 1)) (k : jW C cl sl Q (pc + 1) ls (jL (x * y) :: st) w) : jW C cl sl Q pc ls (jL y :: jL x :: st) w := fun H locs a hr hl => lv_lmul hm.exec hm.code hd  (k H locs a hr hl)
theorem jr_lcmp {C : JC} {M : JM} {d cl sl : Nat} {Q : State → Prop} {pc : Nat} {ls st : List JV} {w : JW} (hm : jok C M d cl sl) {x y : Int64} (hd : decode M.1 pc = .ok (.lcmp, 1)) (k : jW C cl sl Q (pc + 1) ls (jI (lg_cmp x y) :: st) w) : jW C cl sl Q pc ls (jL y :: jL x :: st) w := fun H locs a hr hl => W.lcmp hm.exec hm.code hd  (k H locs a hr hl)
theorem jr_i2l {C : JC} {M : JM} {d cl sl : Nat} {Q : State → Prop} {pc : Nat} {ls st : List JV} {w : JW} (hm : jok C M d cl sl) {x : Int32} (hd : decode M.1 pc = .ok (.i2l, 1)) (k : jW C cl sl Q (pc + 1) ls (jL x.toInt64 :: st) w) : jW C cl sl Q pc ls (jI x :: st) w := fun H locs a hr hl => lv_i2l hm.exec hm.code hd rfl (k H locs a hr hl)
theorem jr_l2i {C : JC} {M : JM} {d cl sl : Nat} {Q : State → Prop} {pc : Nat} {ls st : List JV} {w : JW} (hm : jok C M d cl sl) {x : Int64} (hd : decode M.1 pc = .ok (.l2i, 1)) (k : jW C cl sl Q (pc + 1) ls (jI x.toInt32 :: st) w) : jW C cl sl Q pc ls (jL x :: st) w := fun H locs a hr hl => lv_l2i hm.exec hm.code hd rfl (k H locs a hr hl)
theorem jr_i2b {C : JC} {M : JM} {d cl sl : Nat} {Q : State → Prop} {pc : Nat} {ls st : List JV} {w : JW} (hm : jok C M d cl sl) {x : Int32} (hd : decode M.1 pc = .ok (.i2b, 1)) (k : jW C cl sl Q (pc + 1) ls (jI x.toInt8.toInt32 :: st) w) : jW C cl sl Q pc ls (jI x :: st) w := fun H locs a hr hl => lv_i2b hm.exec hm.code hd rfl (k H locs a hr hl)
theorem jr_i2c {C : JC} {M : JM} {d cl sl : Nat} {Q : State → Prop} {pc : Nat} {ls st : List JV} {w : JW} (hm : jok C M d cl sl) {x : Int32} (hd : decode M.1 pc = .ok (.i2c, 1)) (k : jW C cl sl Q (pc + 1) ls (jI (x.toUInt32 % 65536).toInt32 :: st) w) : jW C cl sl Q pc ls (jI x :: st) w := fun H locs a hr hl => lv_i2c hm.exec hm.code hd rfl (k H locs a hr hl)
theorem jr_dupI {C : JC} {M : JM} {d cl sl : Nat} {Q : State → Prop} {pc : Nat} {ls st : List JV} {w : JW} (hm : jok C M d cl sl) {x : Int32} (hd : decode M.1 pc = .ok (.dup, 1)) (k : jW C cl sl Q (pc + 1) ls (jI x :: jI x :: st) w) : jW C cl sl Q pc ls (jI x :: st) w := fun H locs a hr hl => lv_dup hm.exec hm.code hd rfl (k H locs a hr hl)
theorem jr_dupR {C : JC} {M : JM} {d cl sl : Nat} {Q : State → Prop} {pc : Nat} {ls st : List JV} {w : JW} (hm : jok C M d cl sl) {q : Nat} {b : Bool} (hd : decode M.1 pc = .ok (.dup, 1)) (k : jW C cl sl Q (pc + 1) ls (jR q b :: jR q b :: st) w) : jW C cl sl Q pc ls (jR q b :: st) w := fun H locs a hr hl => lv_dup hm.exec hm.code hd rfl (k H locs a hr hl)
theorem jr_dup2 {C : JC} {M : JM} {d cl sl : Nat} {Q : State → Prop} {pc : Nat} {ls st : List JV} {w : JW} (hm : jok C M d cl sl) {x : Int32} {q : Nat} {b : Bool} (hd : decode M.1 pc = .ok (.dup2, 1)) (k : jW C cl sl Q (pc + 1) ls (jI x :: jR q b :: jI x :: jR q b :: st) w) : jW C cl sl Q pc ls (jI x :: jR q b :: st) w := fun H locs a hr hl => lv_dup2_11 hm.exec hm.code hd rfl rfl (k H locs a hr hl)
theorem jr_popI {C : JC} {M : JM} {d cl sl : Nat} {Q : State → Prop} {pc : Nat} {ls st : List JV} {w : JW} (hm : jok C M d cl sl) {x : Int32} (hd : decode M.1 pc = .ok (.pop, 1)) (k : jW C cl sl Q (pc + 1) ls st w) : jW C cl sl Q pc ls (jI x :: st) w := fun H locs a hr hl => lv_pop hm.exec hm.code hd rfl (k H locs a hr hl)
theorem jr_iload_n {C : JC} {M : JM} {d cl sl : Nat} {Q : State → Prop} {pc : Nat} {ls st : List JV} {w : JW} (hm : jok C M d cl sl) {i : Nat} {n : Fin 4} {x : Int32} (hi : (n : Nat) = i) (hg : ls[i]? = some (jI x)) (hd : decode M.1 pc = .ok (.iload_n n, 1)) (k : jW C cl sl Q (pc + 1) ls (jI x :: st) w) : jW C cl sl Q pc ls st w := fun H locs a hr hl => lv_iload_n hm.exec hm.code hd hi (hl.2.2 i _ hg (fun h => by cases h)) (k H locs a hr hl)
theorem jr_iload {C : JC} {M : JM} {d cl sl : Nat} {Q : State → Prop} {pc : Nat} {ls st : List JV} {w : JW} (hm : jok C M d cl sl) {i : Nat} {x : Int32} (hg : ls[i]? = some (jI x)) (hd : decode M.1 pc = .ok (.iload i, 2)) (k : jW C cl sl Q (pc + 2) ls (jI x :: st) w) : jW C cl sl Q pc ls st w := fun H locs a hr hl => lv_iload hm.exec hm.code hd (hl.2.2 i _ hg (fun h => by cases h)) (k H locs a hr hl)
theorem jr_aload_n {C : JC} {M : JM} {d cl sl : Nat} {Q : State → Prop} {pc : Nat} {ls st : List JV} {w : JW} (hm : jok C M d cl sl) {i : Nat} {n : Fin 4} {q : Nat} {b : Bool} (hi : (n : Nat) = i) (hg : ls[i]? = some (jR q b)) (hd : decode M.1 pc = .ok (.aload_n n, 1)) (k : jW C cl sl Q (pc + 1) ls (jR q b :: st) w) : jW C cl sl Q pc ls st w := fun H locs a hr hl => lv_aload_n hm.exec hm.code hd hi (hl.2.2 i _ hg (fun h => by cases h)) (k H locs a hr hl)
theorem jr_aload {C : JC} {M : JM} {d cl sl : Nat} {Q : State → Prop} {pc : Nat} {ls st : List JV} {w : JW} (hm : jok C M d cl sl) {i : Nat} {q : Nat} {b : Bool} (hg : ls[i]? = some (jR q b)) (hd : decode M.1 pc = .ok (.aload i, 2)) (k : jW C cl sl Q (pc + 2) ls (jR q b :: st) w) : jW C cl sl Q pc ls st w := fun H locs a hr hl => lv_aload hm.exec hm.code hd (hl.2.2 i _ hg (fun h => by cases h)) (k H locs a hr hl)
theorem jr_lload_n {C : JC} {M : JM} {d cl sl : Nat} {Q : State → Prop} {pc : Nat} {ls st : List JV} {w : JW} (hm : jok C M d cl sl) {i : Nat} {n : Fin 4} {x : Int64} (hi : (n : Nat) = i) (hg : ls[i]? = some (jL x)) (hd : decode M.1 pc = .ok (.lload_n n, 1)) (k : jW C cl sl Q (pc + 1) ls (jL x :: st) w) : jW C cl sl Q pc ls st w := fun H locs a hr hl => lv_lload_n hm.exec hm.code hd hi (hl.2.2 i _ hg (fun h => by cases h)) (k H locs a hr hl)
theorem jr_lload {C : JC} {M : JM} {d cl sl : Nat} {Q : State → Prop} {pc : Nat} {ls st : List JV} {w : JW} (hm : jok C M d cl sl) {i : Nat} {x : Int64} (hg : ls[i]? = some (jL x)) (hd : decode M.1 pc = .ok (.lload i, 2)) (k : jW C cl sl Q (pc + 2) ls (jL x :: st) w) : jW C cl sl Q pc ls st w := fun H locs a hr hl => lv_lload hm.exec hm.code hd (hl.2.2 i _ hg (fun h => by cases h)) (k H locs a hr hl)
/-- no long stands just before place i -/
def jnl (ls : List JV) (i : Nat) : Bool := match i with
  | 0 => true
  | i + 1 => match ls[i]? with
    | some (.inr (.inr (.inl _))) => false
    | _ => true
theorem jnl_cat {ad : JAd} {ls : List JV} {i j : Nat} {v : JV} (h : jnl ls i = true) (hj : ls[j]? = some v) (e : j + 1 = i) : ¬ (jcv ad v).category = 2 := by
  subst e
  simp only [jnl, hj] at h
  rcases v with x | q | x | x
  · simp [jcv, Value.category]
  · simp [jcv, Value.category]
  · simp at h
  · simp [jcv, Value.category]
theorem jloc_st1 {ad : JAd} {ls : List JV} {a a2 : Array Slot} {i : Nat} {v : JV} (hl : jloc ad ls a) (hi : i < ls.length) (hn : jnl ls i = true) (h : lv_has a2 ls.length ((i, jcv ad v) :: (jfl ad ls).filter (fun q => !(q.1 == i) && !(q.1 + 1 == i && q.2.category == 2)))) : jloc ad (ls.set i v) a2 := by
  refine ⟨by rw [List.length_set]; exact h.1, h.2.1, fun j u hj hu => ?_⟩
  rw [List.getElem?_set] at hj
  by_cases e : i = j
  · subst e
    rw [if_pos rfl, if_pos hi] at hj
    cases hj
    exact h.2.2 (i, jcv ad v) List.mem_cons_self
  · rw [if_neg e] at hj
    refine h.2.2 (j, jcv ad u) (List.mem_cons_of_mem _ (List.mem_filter.mpr ⟨jfl_in hj hu, ?_⟩))
    simp only [Bool.and_eq_true, Bool.not_eq_true', beq_eq_false_iff_ne, ne_eq, Bool.and_eq_false_iff]
    refine ⟨fun h => e h.symm, ?_⟩
    by_cases e2 : j + 1 = i
    · exact Or.inr (jnl_cat hn hj e2)
    · exact Or.inl e2
theorem jloc_st2 {ad : JAd} {ls : List JV} {a a2 : Array Slot} {i : Nat} {v : JV} (hl : jloc ad ls a) (hi : i + 1 < ls.length) (hn : jnl ls i = true) (h : lv_has a2 ls.length ((i, jcv ad v) :: (jfl ad ls).filter (fun q => !(q.1 == i) && (!(q.1 == i + 1) && !(q.1 + 1 == i && q.2.category == 2))))) : jloc ad ((ls.set i v).set (i + 1) jU) a2 := by
  refine ⟨by rw [List.length_set, List.length_set]; exact h.1, h.2.1, fun j u hj hu => ?_⟩
  rw [List.getElem?_set] at hj
  by_cases e1 : i + 1 = j
  · rw [if_pos e1, List.length_set] at hj
    rw [if_pos (by omega)] at hj
    cases hj
    exact absurd rfl hu
  · rw [if_neg e1, List.getElem?_set] at hj
    by_cases e : i = j
    · subst e
      rw [if_pos rfl, if_pos (by omega)] at hj
      cases hj
      exact h.2.2 (i, jcv ad v) List.mem_cons_self
    · rw [if_neg e] at hj
      refine h.2.2 (j, jcv ad u) (List.mem_cons_of_mem _ (List.mem_filter.mpr ⟨jfl_in hj hu, ?_⟩))
      simp only [Bool.and_eq_true, Bool.not_eq_true', beq_eq_false_iff_ne, ne_eq, Bool.and_eq_false_iff]
      refine ⟨fun h => e h.symm, fun h => e1 h.symm, ?_⟩
      by_cases e2 : j + 1 = i
      · exact Or.inr (jnl_cat hn hj e2)
      · exact Or.inl e2
theorem jr_istore_n {C : JC} {M : JM} {d cl sl : Nat} {Q : State → Prop} {pc : Nat} {ls st : List JV} {w : JW} (hm : jok C M d cl sl) {i : Nat} {n : Fin 4} {x : Int32} (hi : (n : Nat) = i) (hlt : i < ls.length) (hn : jnl ls i = true) (hd : decode M.1 pc = .ok (.istore_n n, 1)) (k : jW C cl sl Q (pc + 1) (ls.set i (jI x)) st w) : jW C cl sl Q pc ls (jI x :: st) w := fun H locs a hr hl => lv_istore_n hm.exec hm.code hd hi (jloc_has hl) hlt rfl (fun a2 h2 => k H locs a2 hr (jloc_st1 (v := jI x) hl hlt hn h2))
theorem jr_istore {C : JC} {M : JM} {d cl sl : Nat} {Q : State → Prop} {pc : Nat} {ls st : List JV} {w : JW} (hm : jok C M d cl sl) {i : Nat} {x : Int32} (hlt : i < ls.length) (hn : jnl ls i = true) (hd : decode M.1 pc = .ok (.istore i, 2)) (k : jW C cl sl Q (pc + 2) (ls.set i (jI x)) st w) : jW C cl sl Q pc ls (jI x :: st) w := fun H locs a hr hl => lv_istore hm.exec hm.code hd (jloc_has hl) hlt rfl (fun a2 h2 => k H locs a2 hr (jloc_st1 (v := jI x) hl hlt hn h2))
theorem jr_astore_n {C : JC} {M : JM} {d cl sl : Nat} {Q : State → Prop} {pc : Nat} {ls st : List JV} {w : JW} (hm : jok C M d cl sl) {i : Nat} {n : Fin 4} {q : Nat} {b : Bool} (hi : (n : Nat) = i) (hlt : i < ls.length) (hn : jnl ls i = true) (hd : decode M.1 pc = .ok (.astore_n n, 1)) (k : jW C cl sl Q (pc + 1) (ls.set i (jR q b)) st w) : jW C cl sl Q pc ls (jR q b :: st) w := fun H locs a hr hl => lv_astore_n hm.exec hm.code hd hi (jloc_has hl) hlt rfl (fun a2 h2 => k H locs a2 hr (jloc_st1 (v := jR q b) hl hlt hn h2))
theorem jr_astore {C : JC} {M : JM} {d cl sl : Nat} {Q : State → Prop} {pc : Nat} {ls st : List JV} {w : JW} (hm : jok C M d cl sl) {i : Nat} {q : Nat} {b : Bool} (hlt : i < ls.length) (hn : jnl ls i = true) (hd : decode M.1 pc = .ok (.astore i, 2)) (k : jW C cl sl Q (pc + 2) (ls.set i (jR q b)) st w) : jW C cl sl Q pc ls (jR q b :: st) w := fun H locs a hr hl => lv_astore hm.exec hm.code hd (jloc_has hl) hlt rfl (fun a2 h2 => k H locs a2 hr (jloc_st1 (v := jR q b) hl hlt hn h2))
theorem jr_lstore_n {C : JC} {M : JM} {d cl sl : Nat} {Q : State → Prop} {pc : Nat} {ls st : List JV} {w : JW} (hm : jok C M d cl sl) {i : Nat} {n : Fin 4} {x : Int64} (hi : (n : Nat) = i) (hlt : i + 1 < ls.length) (hn : jnl ls i = true) (hd : decode M.1 pc = .ok (.lstore_n n, 1)) (k : jW C cl sl Q (pc + 1) ((ls.set i (jL x)).set (i + 1) jU) st w) : jW C cl sl Q pc ls (jL x :: st) w := fun H locs a hr hl => lv_lstore_n hm.exec hm.code hd hi (jloc_has hl) hlt rfl (fun a2 h2 => k H locs a2 hr (jloc_st2 (v := jL x) hl hlt hn h2))
theorem jr_lstore {C : JC} {M : JM} {d cl sl : Nat} {Q : State → Prop} {pc : Nat} {ls st : List JV} {w : JW} (hm : jok C M d cl sl) {i : Nat} {x : Int64} (hlt : i + 1 < ls.length) (hn : jnl ls i = true) (hd : decode M.1 pc = .ok (.lstore i, 2)) (k : jW C cl sl Q (pc + 2) ((ls.set i (jL x)).set (i + 1) jU) st w) : jW C cl sl Q pc ls (jL x :: st) w := fun H locs a hr hl => lv_lstore hm.exec hm.code hd (jloc_has hl) hlt rfl (fun a2 h2 => k H locs a2 hr (jloc_st2 (v := jL x) hl hlt hn h2))
theorem jr_iinc {C : JC} {M : JM} {d cl sl : Nat} {Q : State → Prop} {pc : Nat} {ls st : List JV} {w : JW} (hm : jok C M d cl sl) {i : Nat} {n : Int} {x v : Int32} (hg : ls[i]? = some (jI x)) (hv : x + Int32.ofInt n = v) (hn : jnl ls i = true) (hd : decode M.1 pc = .ok (.iinc i n, 3)) (k : jW C cl sl Q (pc + 3) (ls.set i (jI v)) st w) : jW C cl sl Q pc ls st w := by
  intro H locs a hr hl
  have hlt : i < ls.length := (List.getElem?_eq_some_iff.mp hg).1
  obtain ⟨j, hj⟩ := List.getElem?_of_mem (jfl_in (ad := jad C) hg (fun h => by cases h))
  exact lv_iinc hm.exec hm.code hd (jloc_has hl) hj hv hlt rfl (fun a2 h2 => k H locs a2 hr (jloc_st1 (v := jI v) hl hlt hn h2))
theorem jr_if_eq {C : JC} {M : JM} {d cl sl : Nat} {Q : State → Prop} {pc : Nat} {ls st : List JV} {w : JW} (hm : jok C M d cl sl) {x : Int32} {off : Int} {tgt : Nat} (hd : decode M.1 pc = .ok (.ifCond .eq off, 3)) (ht : (pc : Int) + off = (tgt : Int)) (kt : x = 0 → jW C cl sl Q tgt ls st w) (kf : ¬ x = 0 → jW C cl sl Q (pc + 3) ls st w) : jW C cl sl Q pc ls (jI x :: st) w := fun H locs a hr hl => lv_if_eq hm.exec hm.code hd ht (fun h => kt h H locs a hr hl) (fun h => kf h H locs a hr hl)
theorem jr_if_ne {C : JC} {M : JM} {d cl sl : Nat} {Q : State → Prop} {pc : Nat} {ls st : List JV} {w : JW} (hm : jok C M d cl sl) {x : Int32} {off : Int} {tgt : Nat} (hd : decode M.1 pc = .ok (.ifCond .ne off, 3)) (ht : (pc : Int) + off = (tgt : Int)) (kt : ¬ x = 0 → jW C cl sl Q tgt ls st w) (kf : x = 0 → jW C cl sl Q (pc + 3) ls st w) : jW C cl sl Q pc ls (jI x :: st) w := fun H locs a hr hl => lv_if_ne hm.exec hm.code hd ht (fun h => kt h H locs a hr hl) (fun h => kf h H locs a hr hl)
theorem jr_if_lt {C : JC} {M : JM} {d cl sl : Nat} {Q : State → Prop} {pc : Nat} {ls st : List JV} {w : JW} (hm : jok C M d cl sl) {x : Int32} {off : Int} {tgt : Nat} (hd : decode M.1 pc = .ok (.ifCond .lt off, 3)) (ht : (pc : Int) + off = (tgt : Int)) (kt : x < 0 → jW C cl sl Q tgt ls st w) (kf : ¬ x < 0 → jW C cl sl Q (pc + 3) ls st w) : jW C cl sl Q pc ls (jI x :: st) w := fun H locs a hr hl => lv_if_lt hm.exec hm.code hd ht (fun h => kt h H locs a hr hl) (fun h => kf h H locs a hr hl)
theorem jr_if_ge {C : JC} {M : JM} {d cl sl : Nat} {Q : State → Prop} {pc : Nat} {ls st : List JV} {w : JW} (hm : jok C M d cl sl) {x : Int32} {off : Int} {tgt : Nat} (hd : decode M.1 pc = .ok (.ifCond .ge off, 3)) (ht : (pc : Int) + off = (tgt : Int)) (kt : 0 ≤ x → jW C cl sl Q tgt ls st w) (kf : ¬ 0 ≤ x → jW C cl sl Q (pc + 3) ls st w) : jW C cl sl Q pc ls (jI x :: st) w := fun H locs a hr hl => lv_if_ge hm.exec hm.code hd ht (fun h => kt h H locs a hr hl) (fun h => kf h H locs a hr hl)
theorem jr_if_gt {C : JC} {M : JM} {d cl sl : Nat} {Q : State → Prop} {pc : Nat} {ls st : List JV} {w : JW} (hm : jok C M d cl sl) {x : Int32} {off : Int} {tgt : Nat} (hd : decode M.1 pc = .ok (.ifCond .gt off, 3)) (ht : (pc : Int) + off = (tgt : Int)) (kt : 0 < x → jW C cl sl Q tgt ls st w) (kf : ¬ 0 < x → jW C cl sl Q (pc + 3) ls st w) : jW C cl sl Q pc ls (jI x :: st) w := fun H locs a hr hl => lv_if_gt hm.exec hm.code hd ht (fun h => kt h H locs a hr hl) (fun h => kf h H locs a hr hl)
theorem jr_if_le {C : JC} {M : JM} {d cl sl : Nat} {Q : State → Prop} {pc : Nat} {ls st : List JV} {w : JW} (hm : jok C M d cl sl) {x : Int32} {off : Int} {tgt : Nat} (hd : decode M.1 pc = .ok (.ifCond .le off, 3)) (ht : (pc : Int) + off = (tgt : Int)) (kt : x ≤ 0 → jW C cl sl Q tgt ls st w) (kf : ¬ x ≤ 0 → jW C cl sl Q (pc + 3) ls st w) : jW C cl sl Q pc ls (jI x :: st) w := fun H locs a hr hl => lv_if_le hm.exec hm.code hd ht (fun h => kt h H locs a hr hl) (fun h => kf h H locs a hr hl)
theorem jr_icmp_eq {C : JC} {M : JM} {d cl sl : Nat} {Q : State → Prop} {pc : Nat} {ls st : List JV} {w : JW} (hm : jok C M d cl sl) {x y : Int32} {off : Int} {tgt : Nat} (hd : decode M.1 pc = .ok (.if_icmp .eq off, 3)) (ht : (pc : Int) + off = (tgt : Int)) (kt : x = y → jW C cl sl Q tgt ls st w) (kf : ¬ x = y → jW C cl sl Q (pc + 3) ls st w) : jW C cl sl Q pc ls (jI y :: jI x :: st) w := fun H locs a hr hl => lv_icmp_eq hm.exec hm.code hd ht (fun h => kt h H locs a hr hl) (fun h => kf h H locs a hr hl)
theorem jr_icmp_ne {C : JC} {M : JM} {d cl sl : Nat} {Q : State → Prop} {pc : Nat} {ls st : List JV} {w : JW} (hm : jok C M d cl sl) {x y : Int32} {off : Int} {tgt : Nat} (hd : decode M.1 pc = .ok (.if_icmp .ne off, 3)) (ht : (pc : Int) + off = (tgt : Int)) (kt : ¬ x = y → jW C cl sl Q tgt ls st w) (kf : x = y → jW C cl sl Q (pc + 3) ls st w) : jW C cl sl Q pc ls (jI y :: jI x :: st) w := fun H locs a hr hl => lv_icmp_ne hm.exec hm.code hd ht (fun h => kt h H locs a hr hl) (fun h => kf h H locs a hr hl)
theorem jr_icmp_lt {C : JC} {M : JM} {d cl sl : Nat} {Q : State → Prop} {pc : Nat} {ls st : List JV} {w : JW} (hm : jok C M d cl sl) {x y : Int32} {off : Int} {tgt : Nat} (hd : decode M.1 pc = .ok (.if_icmp .lt off, 3)) (ht : (pc : Int) + off = (tgt : Int)) (kt : x < y → jW C cl sl Q tgt ls st w) (kf : ¬ x < y → jW C cl sl Q (pc + 3) ls st w) : jW C cl sl Q pc ls (jI y :: jI x :: st) w := fun H locs a hr hl => lv_icmp_lt hm.exec hm.code hd ht (fun h => kt h H locs a hr hl) (fun h => kf h H locs a hr hl)
theorem jr_icmp_ge {C : JC} {M : JM} {d cl sl : Nat} {Q : State → Prop} {pc : Nat} {ls st : List JV} {w : JW} (hm : jok C M d cl sl) {x y : Int32} {off : Int} {tgt : Nat} (hd : decode M.1 pc = .ok (.if_icmp .ge off, 3)) (ht : (pc : Int) + off = (tgt : Int)) (kt : y ≤ x → jW C cl sl Q tgt ls st w) (kf : ¬ y ≤ x → jW C cl sl Q (pc + 3) ls st w) : jW C cl sl Q pc ls (jI y :: jI x :: st) w := fun H locs a hr hl => lv_icmp_ge hm.exec hm.code hd ht (fun h => kt h H locs a hr hl) (fun h => kf h H locs a hr hl)
theorem jr_icmp_gt {C : JC} {M : JM} {d cl sl : Nat} {Q : State → Prop} {pc : Nat} {ls st : List JV} {w : JW} (hm : jok C M d cl sl) {x y : Int32} {off : Int} {tgt : Nat} (hd : decode M.1 pc = .ok (.if_icmp .gt off, 3)) (ht : (pc : Int) + off = (tgt : Int)) (kt : y < x → jW C cl sl Q tgt ls st w) (kf : ¬ y < x → jW C cl sl Q (pc + 3) ls st w) : jW C cl sl Q pc ls (jI y :: jI x :: st) w := fun H locs a hr hl => lv_icmp_gt hm.exec hm.code hd ht (fun h => kt h H locs a hr hl) (fun h => kf h H locs a hr hl)
theorem jr_icmp_le {C : JC} {M : JM} {d cl sl : Nat} {Q : State → Prop} {pc : Nat} {ls st : List JV} {w : JW} (hm : jok C M d cl sl) {x y : Int32} {off : Int} {tgt : Nat} (hd : decode M.1 pc = .ok (.if_icmp .le off, 3)) (ht : (pc : Int) + off = (tgt : Int)) (kt : x ≤ y → jW C cl sl Q tgt ls st w) (kf : ¬ x ≤ y → jW C cl sl Q (pc + 3) ls st w) : jW C cl sl Q pc ls (jI y :: jI x :: st) w := fun H locs a hr hl => lv_icmp_le hm.exec hm.code hd ht (fun h => kt h H locs a hr hl) (fun h => kf h H locs a hr hl)
theorem jr_goto {C : JC} {M : JM} {d cl sl : Nat} {Q : State → Prop} {pc : Nat} {ls st : List JV} {w : JW} (hm : jok C M d cl sl) {off : Int} {tgt : Nat} (hd : decode M.1 pc = .ok (.goto off, 3)) (ht : (pc : Int) + off = (tgt : Int)) (k : jW C cl sl Q tgt ls st w) : jW C cl sl Q pc ls st w := fun H locs a hr hl => lv_goto hm.exec hm.code hd ht (k H locs a hr hl)
theorem jr_tab_in {C : JC} {M : JM} {d cl sl : Nat} {Q : State → Prop} {pc : Nat} {ls st : List JV} {w : JW} (hm : jok C M d cl sl) {x : Int32} {dflt lo hi : Int} {offs : Array Int} {len : Nat} {off : Int} {tgt : Nat} (hd : decode M.1 pc = .ok (.tableswitch dflt lo hi offs, len)) (h1 : ¬ x.toInt < lo) (h2 : ¬ hi < x.toInt) (ho : offs[(x.toInt - lo).toNat]? = some off) (ht : (pc : Int) + off = (tgt : Int)) (k : jW C cl sl Q tgt ls st w) : jW C cl sl Q pc ls (jI x :: st) w := fun H locs a hr hl => lv_tableIn hm.exec hm.code hd h1 h2 ho ht (k H locs a hr hl)
theorem jr_tab_out {C : JC} {M : JM} {d cl sl : Nat} {Q : State → Prop} {pc : Nat} {ls st : List JV} {w : JW} (hm : jok C M d cl sl) {x : Int32} {dflt lo hi : Int} {offs : Array Int} {len : Nat} {tgt : Nat} (hd : decode M.1 pc = .ok (.tableswitch dflt lo hi offs, len)) (h : x.toInt < lo ∨ hi < x.toInt) (ht : (pc : Int) + dflt = (tgt : Int)) (k : jW C cl sl Q tgt ls st w) : jW C cl sl Q pc ls (jI x :: st) w := fun H locs a hr hl => lv_tableOut hm.exec hm.code hd h ht (k H locs a hr hl)
theorem jr_lookup {C : JC} {M : JM} {d cl sl : Nat} {Q : State → Prop} {pc : Nat} {ls st : List JV} {w : JW} (hm : jok C M d cl sl) {x : Int32} {dflt : Int} {ps : Array (Int × Int)} {len : Nat} {off : Int} {tgt : Nat} (hd : decode M.1 pc = .ok (.lookupswitch dflt ps, len)) (hp : (ps.toList.zip (ps.toList.drop 1)).all (fun (a, next) => a.1 < next.1) = true) (ho : Op.lookupswitch.offset ps.toList dflt x.toInt = off) (ht : (pc : Int) + off = (tgt : Int)) (k : jW C cl sl Q tgt ls st w) : jW C cl sl Q pc ls (jI x :: st) w := fun H locs a hr hl => lv_lookup hm.exec hm.code hd hp ho ht (k H locs a hr hl)
/-- what is not needed may be forgotten -/
def jle (l2 l1 : List JV) : Prop := l2.length = l1.length ∧ ∀ (i : Nat) (v : JV), l2[i]? = some v → v ≠ jU → l1[i]? = some v
theorem jle_nil : jle [] [] := ⟨rfl, fun i v h => by simp at h⟩
theorem jle_same {v : JV} {l2 l1 : List JV} (h : jle l2 l1) : jle (v :: l2) (v :: l1) := ⟨by simp [h.1], fun i u hu hn => by cases i with | zero => exact hu | succ i => exact h.2 i u hu hn⟩
theorem jle_drop {v : JV} {l2 l1 : List JV} (h : jle l2 l1) : jle (jU :: l2) (v :: l1) := ⟨by simp [h.1], fun i u hu hn => by cases i with | zero => exact absurd (Option.some.inj hu).symm hn | succ i => exact h.2 i u hu hn⟩
theorem jr_drop {C : JC} {cl sl : Nat} {Q : State → Prop} {pc : Nat} {ls l2 st : List JV} {w : JW} (h : jle l2 ls) (k : jW C cl sl Q pc l2 st w) : jW C cl sl Q pc ls st w :=
  fun H locs a hr hl => k H locs a hr ⟨hl.1.trans h.1.symm, hl.2.1, fun i v hv hn => hl.2.2 i v (h.2 i v hv hn) hn⟩

theorem jo_0 : (0, false) ∈ jO := by decide +kernel
theorem jo_1 : (1, false) ∈ jO := by decide +kernel
theorem jo_2 : (2, false) ∈ jO := by decide +kernel
theorem jo_3 : (3, false) ∈ jO := by decide +kernel
theorem jo_4 : (4, false) ∈ jO := by decide +kernel
theorem jo_5 : (5, false) ∈ jO := by decide +kernel
theorem jo_6 : (6, false) ∈ jO := by decide +kernel
theorem jo_7 : (7, false) ∈ jO := by decide +kernel
theorem jo_8 : (8, false) ∈ jO := by decide +kernel
theorem jo_9 : (9, false) ∈ jO := by decide +kernel
theorem jo_10 : (10, false) ∈ jO := by decide +kernel
theorem jo_11 : (11, false) ∈ jO := by decide +kernel
theorem jo_12 : (12, false) ∈ jO := by decide +kernel
theorem jo_13 : (13, false) ∈ jO := by decide +kernel
theorem jo_14 (b : Bool) : (14, b) ∈ jO := by cases b <;> decide +kernel
theorem jo_15 (b : Bool) : (15, b) ∈ jO := by cases b <;> decide +kernel
theorem jo_16 (b : Bool) : (16, b) ∈ jO := by cases b <;> decide +kernel
theorem jo_17 (b : Bool) : (17, b) ∈ jO := by cases b <;> decide +kernel
theorem jo_18 (b : Bool) : (18, b) ∈ jO := by cases b <;> decide +kernel
theorem jo_19 (b : Bool) : (19, b) ∈ jO := by cases b <;> decide +kernel
theorem jo_20 (b : Bool) : (20, b) ∈ jO := by cases b <;> decide +kernel
theorem jo_21 (b : Bool) : (21, b) ∈ jO := by cases b <;> decide +kernel
theorem jo_22 (b : Bool) : (22, b) ∈ jO := by cases b <;> decide +kernel
theorem jo_23 (b : Bool) : (23, b) ∈ jO := by cases b <;> decide +kernel
theorem jo_24 (b : Bool) : (24, b) ∈ jO := by cases b <;> decide +kernel
theorem jo_25 (b : Bool) : (25, b) ∈ jO := by cases b <;> decide +kernel
theorem jo_26 (b : Bool) : (26, b) ∈ jO := by cases b <;> decide +kernel
theorem jo_27 (b : Bool) : (27, b) ∈ jO := by cases b <;> decide +kernel
theorem jo_28 (b : Bool) : (28, b) ∈ jO := by cases b <;> decide +kernel
theorem jo_29 (b : Bool) : (29, b) ∈ jO := by cases b <;> decide +kernel
theorem jo_30 (b : Bool) : (30, b) ∈ jO := by cases b <;> decide +kernel
theorem jo_31 (b : Bool) : (31, b) ∈ jO := by cases b <;> decide +kernel
theorem jo_32 (b : Bool) : (32, b) ∈ jO := by cases b <;> decide +kernel
theorem jo_33 (b : Bool) : (33, b) ∈ jO := by cases b <;> decide +kernel
theorem jo_34 (b : Bool) : (34, b) ∈ jO := by cases b <;> decide +kernel
theorem jo_35 (b : Bool) : (35, b) ∈ jO := by cases b <;> decide +kernel
theorem jo_36 (b : Bool) : (36, b) ∈ jO := by cases b <;> decide +kernel
theorem jo_37 (b : Bool) : (37, b) ∈ jO := by cases b <;> decide +kernel
theorem jo_38 (b : Bool) : (38, b) ∈ jO := by cases b <;> decide +kernel
theorem jo_39 (b : Bool) : (39, b) ∈ jO := by cases b <;> decide +kernel
theorem jo_40 (b : Bool) : (40, b) ∈ jO := by cases b <;> decide +kernel
def jIA (k : Nat) (b : Bool) (n : Nat) : Prop := (k, b) ∈ jO ∧ n < 2 ^ 31 ∧ ∀ ad cs f g q, jE ad cs f g q k b = .inl (cs 0, n, .inl f)
def jBA (k : Nat) (b : Bool) (n : Nat) : Prop := (k, b) ∈ jO ∧ n < 2 ^ 31 ∧ ∀ ad cs f g q, jE ad cs f g q k b = .inl (cs 1, n, .inl f)
def jLA (k : Nat) (b : Bool) (n : Nat) : Prop := (k, b) ∈ jO ∧ n < 2 ^ 31 ∧ ∀ ad cs f g q, jE ad cs f g q k b = .inl (cs 2, n, .inr (.inl g))
theorem ja_2 : jBA 2 false 2000 := ⟨jo_2, Nat.lt_of_sub_eq_succ rfl, fun _ _ _ _ _ => rfl⟩
theorem ja_4 : jIA 4 false 401 := ⟨jo_4, Nat.lt_of_sub_eq_succ rfl, fun _ _ _ _ _ => rfl⟩
theorem ja_5 : jIA 5 false 401 := ⟨jo_5, Nat.lt_of_sub_eq_succ rfl, fun _ _ _ _ _ => rfl⟩
theorem ja_6 : jLA 6 false 401 := ⟨jo_6, Nat.lt_of_sub_eq_succ rfl, fun _ _ _ _ _ => rfl⟩
theorem ja_8 : jIA 8 false 5 := ⟨jo_8, Nat.lt_of_sub_eq_succ rfl, fun _ _ _ _ _ => rfl⟩
theorem ja_9 : jIA 9 false 12 := ⟨jo_9, Nat.lt_of_sub_eq_succ rfl, fun _ _ _ _ _ => rfl⟩
theorem ja_10 : jIA 10 false 6 := ⟨jo_10, Nat.lt_of_sub_eq_succ rfl, fun _ _ _ _ _ => rfl⟩
theorem ja_13 : jIA 13 false 400 := ⟨jo_13, Nat.lt_of_sub_eq_succ rfl, fun _ _ _ _ _ => rfl⟩
theorem ja_15 (b : Bool) : jIA 15 b 5 := ⟨jo_15 b, Nat.lt_of_sub_eq_succ rfl, fun _ _ _ _ _ => rfl⟩
theorem ja_16 (b : Bool) : jIA 16 b 12 := ⟨jo_16 b, Nat.lt_of_sub_eq_succ rfl, fun _ _ _ _ _ => rfl⟩
theorem ja_17 (b : Bool) : jIA 17 b 12 := ⟨jo_17 b, Nat.lt_of_sub_eq_succ rfl, fun _ _ _ _ _ => rfl⟩
theorem ja_18 (b : Bool) : jIA 18 b 12 := ⟨jo_18 b, Nat.lt_of_sub_eq_succ rfl, fun _ _ _ _ _ => rfl⟩
theorem ja_19 (b : Bool) : jIA 19 b 6 := ⟨jo_19 b, Nat.lt_of_sub_eq_succ rfl, fun _ _ _ _ _ => rfl⟩
theorem ja_21 (b : Bool) : jIA 21 b 5 := ⟨jo_21 b, Nat.lt_of_sub_eq_succ rfl, fun _ _ _ _ _ => rfl⟩
theorem ja_22 (b : Bool) : jIA 22 b 5 := ⟨jo_22 b, Nat.lt_of_sub_eq_succ rfl, fun _ _ _ _ _ => rfl⟩
theorem ja_23 (b : Bool) : jIA 23 b 12 := ⟨jo_23 b, Nat.lt_of_sub_eq_succ rfl, fun _ _ _ _ _ => rfl⟩
theorem ja_24 (b : Bool) : jIA 24 b 12 := ⟨jo_24 b, Nat.lt_of_sub_eq_succ rfl, fun _ _ _ _ _ => rfl⟩
theorem ja_25 (b : Bool) : jIA 25 b 12 := ⟨jo_25 b, Nat.lt_of_sub_eq_succ rfl, fun _ _ _ _ _ => rfl⟩
theorem ja_26 (b : Bool) : jIA 26 b 6 := ⟨jo_26 b, Nat.lt_of_sub_eq_succ rfl, fun _ _ _ _ _ => rfl⟩
theorem ja_27 (b : Bool) : jIA 27 b 36 := ⟨jo_27 b, Nat.lt_of_sub_eq_succ rfl, fun _ _ _ _ _ => rfl⟩
theorem ja_29 (b : Bool) : jIA 29 b 5 := ⟨jo_29 b, Nat.lt_of_sub_eq_succ rfl, fun _ _ _ _ _ => rfl⟩
theorem ja_30 (b : Bool) : jIA 30 b 5 := ⟨jo_30 b, Nat.lt_of_sub_eq_succ rfl, fun _ _ _ _ _ => rfl⟩
theorem ja_31 (b : Bool) : jIA 31 b 5 := ⟨jo_31 b, Nat.lt_of_sub_eq_succ rfl, fun _ _ _ _ _ => rfl⟩
theorem ja_32 (b : Bool) : jIA 32 b 3 := ⟨jo_32 b, Nat.lt_of_sub_eq_succ rfl, fun _ _ _ _ _ => rfl⟩
theorem ja_33 (b : Bool) : jIA 33 b 3 := ⟨jo_33 b, Nat.lt_of_sub_eq_succ rfl, fun _ _ _ _ _ => rfl⟩
theorem ja_35 (b : Bool) : jIA 35 b 16 := ⟨jo_35 b, Nat.lt_of_sub_eq_succ rfl, fun _ _ _ _ _ => rfl⟩
theorem ja_36 (b : Bool) : jIA 36 b 16 := ⟨jo_36 b, Nat.lt_of_sub_eq_succ rfl, fun _ _ _ _ _ => rfl⟩
theorem ja_37 (b : Bool) : jIA 37 b 16 := ⟨jo_37 b, Nat.lt_of_sub_eq_succ rfl, fun _ _ _ _ _ => rfl⟩
theorem ja_38 (b : Bool) : jIA 38 b 16 := ⟨jo_38 b, Nat.lt_of_sub_eq_succ rfl, fun _ _ _ _ _ => rfl⟩
theorem ja_39 (b : Bool) : jIA 39 b 400 := ⟨jo_39 b, Nat.lt_of_sub_eq_succ rfl, fun _ _ _ _ _ => rfl⟩
theorem ja_40 (b : Bool) : jIA 40 b 400 := ⟨jo_40 b, Nat.lt_of_sub_eq_succ rfl, fun _ _ _ _ _ => rfl⟩
theorem jr_iaload {C : JC} {M : JM} {d cl sl : Nat} {Q : State → Prop} {pc : Nat} {ls st : List JV} {w : JW} (hm : jok C M d cl sl) {k : Nat} {b : Bool} {n : Nat} {i : Int32} (hA : jIA k b n) (hin : vp_in i n) (hd : decode M.1 pc = .ok (.iaload, 1)) (kk : jW C cl sl Q (pc + 1) ls (jI (w.1 k b i.toNatClampNeg) :: st) w) : jW C cl sl Q pc ls (jI i :: jR k b :: st) w := by
  intro H locs a hr hl
  obtain ⟨q0, -, hq⟩ := jWs_at (ad := jad C) (cs := jcs C) (w := w) hA.1
  unfold jEw at hq
  rw [hA.2.2] at hq
  exact va_iald hm.exec hm.code hm.K hr.1 q0 0 hq rfl hin hd (kk H locs a hr hl)
theorem jr_baload {C : JC} {M : JM} {d cl sl : Nat} {Q : State → Prop} {pc : Nat} {ls st : List JV} {w : JW} (hm : jok C M d cl sl) {k : Nat} {b : Bool} {n : Nat} {i : Int32} (hA : jBA k b n) (hin : vp_in i n) (hd : decode M.1 pc = .ok (.baload, 1)) (kk : jW C cl sl Q (pc + 1) ls (jI (w.1 k b i.toNatClampNeg) :: st) w) : jW C cl sl Q pc ls (jI i :: jR k b :: st) w := by
  intro H locs a hr hl
  obtain ⟨q0, -, hq⟩ := jWs_at (ad := jad C) (cs := jcs C) (w := w) hA.1
  unfold jEw at hq
  rw [hA.2.2] at hq
  exact va_bald hm.exec hm.code hm.K hr.1 q0 1 hq rfl hin hd (kk H locs a hr hl)
theorem jr_laload {C : JC} {M : JM} {d cl sl : Nat} {Q : State → Prop} {pc : Nat} {ls st : List JV} {w : JW} (hm : jok C M d cl sl) {k : Nat} {b : Bool} {n : Nat} {i : Int32} (hA : jLA k b n) (hin : vp_in i n) (hd : decode M.1 pc = .ok (.laload, 1)) (kk : jW C cl sl Q (pc + 1) ls (jL (w.2.1 k i.toNatClampNeg) :: st) w) : jW C cl sl Q pc ls (jI i :: jR k b :: st) w := by
  intro H locs a hr hl
  obtain ⟨q0, -, hq⟩ := jWs_at (ad := jad C) (cs := jcs C) (w := w) hA.1
  unfold jEw at hq
  rw [hA.2.2] at hq
  exact va_lald hm.exec hm.code hm.K hr.1 q0 2 hq rfl hin hd (kk H locs a hr hl)
theorem jr_alen {C : JC} {M : JM} {d cl sl : Nat} {Q : State → Prop} {pc : Nat} {ls st : List JV} {w : JW} (hm : jok C M d cl sl) {k : Nat} {b : Bool} {n : Nat} {v : Int32} (hA : jIA k b n) (hv : Int32.ofNat n = v) (hd : decode M.1 pc = .ok (.arraylength, 1)) (kk : jW C cl sl Q (pc + 1) ls (jI v :: st) w) : jW C cl sl Q pc ls (jR k b :: st) w := by
  intro H locs a hr hl
  obtain ⟨q0, -, hq⟩ := jWs_at (ad := jad C) (cs := jcs C) (w := w) hA.1
  unfold jEw at hq
  rw [hA.2.2] at hq
  exact va_alen hm.exec hm.code hm.K hr.1 q0 0 hq rfl hv hd (kk H locs a hr hl)
theorem jr_alenB {C : JC} {M : JM} {d cl sl : Nat} {Q : State → Prop} {pc : Nat} {ls st : List JV} {w : JW} (hm : jok C M d cl sl) {k : Nat} {b : Bool} {n : Nat} {v : Int32} (hA : jBA k b n) (hv : Int32.ofNat n = v) (hd : decode M.1 pc = .ok (.arraylength, 1)) (kk : jW C cl sl Q (pc + 1) ls (jI v :: st) w) : jW C cl sl Q pc ls (jR k b :: st) w := by
  intro H locs a hr hl
  obtain ⟨q0, -, hq⟩ := jWs_at (ad := jad C) (cs := jcs C) (w := w) hA.1
  unfold jEw at hq
  rw [hA.2.2] at hq
  exact va_alen hm.exec hm.code hm.K hr.1 q0 1 hq rfl hv hd (kk H locs a hr hl)
theorem jr_alenL {C : JC} {M : JM} {d cl sl : Nat} {Q : State → Prop} {pc : Nat} {ls st : List JV} {w : JW} (hm : jok C M d cl sl) {k : Nat} {b : Bool} {n : Nat} {v : Int32} (hA : jLA k b n) (hv : Int32.ofNat n = v) (hd : decode M.1 pc = .ok (.arraylength, 1)) (kk : jW C cl sl Q (pc + 1) ls (jI v :: st) w) : jW C cl sl Q pc ls (jR k b :: st) w := by
  intro H locs a hr hl
  obtain ⟨q0, -, hq⟩ := jWs_at (ad := jad C) (cs := jcs C) (w := w) hA.1
  unfold jEw at hq
  rw [hA.2.2] at hq
  exact va_alen hm.exec hm.code hm.K hr.1 q0 2 hq rfl hv hd (kk H locs a hr hl)
theorem jEw_set {ad : JAd} {cs : Nat → ClassId} {w : JW} {k : Nat} {b : Bool} {n : Nat} {c : ClassId} {j : Nat} {x : Int32} (h : ∀ f g q, jE ad cs f g q k b = .inl (c, n, .inl f)) : jEw ad cs (jset w k b j x) k b = .inl (c, n, .inl (upd (w.1 k b) j x)) := by
  unfold jEw
  rw [h, jset_self]
theorem jr_iastore {C : JC} {M : JM} {d cl sl : Nat} {Q : State → Prop} {pc : Nat} {ls st : List JV} {w : JW} (hm : jok C M d cl sl) {k : Nat} {b : Bool} {n : Nat} {i x : Int32} (hA : jIA k b n) (hin : vp_in i n) (hd : decode M.1 pc = .ok (.iastore, 1)) (kk : jW C cl sl Q (pc + 1) ls st (jset w k b i.toNatClampNeg x)) : jW C cl sl Q pc ls (jI x :: jI i :: jR k b :: st) w := by
  intro H locs a hr hl
  obtain ⟨q0, hj, hq⟩ := jWs_at (ad := jad C) (cs := jcs C) (w := w) hA.1
  have hs := jWs_set (ad := jad C) (cs := jcs C) (w := w) (w' := jset w k b i.toNatClampNeg x) hj (fun o _ h => jset_other o h)
  rw [jEw_set (fun f g q => hA.2.2 _ _ f g q)] at hs
  unfold jEw at hq
  rw [hA.2.2] at hq
  refine va_iast hm.exec hm.code hm.K hr.1 hr.2.1 hr.2.2 q0 0 hq rfl hin hd (fun H1 locs1 h1 h2 h3 => ?_)
  rw [hs] at h1 h2
  exact kk H1 locs1 a ⟨h1, h2, h3⟩ hl
theorem jr_bastore {C : JC} {M : JM} {d cl sl : Nat} {Q : State → Prop} {pc : Nat} {ls st : List JV} {w : JW} (hm : jok C M d cl sl) {k : Nat} {b : Bool} {n : Nat} {i x : Int32} (hA : jBA k b n) (hin : vp_in i n) (hd : decode M.1 pc = .ok (.bastore, 1)) (kk : jW C cl sl Q (pc + 1) ls st (jset w k b i.toNatClampNeg (vp_nar .byte x))) : jW C cl sl Q pc ls (jI x :: jI i :: jR k b :: st) w := by
  intro H locs a hr hl
  obtain ⟨q0, hj, hq⟩ := jWs_at (ad := jad C) (cs := jcs C) (w := w) hA.1
  have hs := jWs_set (ad := jad C) (cs := jcs C) (w := w) (w' := jset w k b i.toNatClampNeg (vp_nar .byte x)) hj (fun o _ h => jset_other o h)
  rw [jEw_set (fun f g q => hA.2.2 _ _ f g q)] at hs
  unfold jEw at hq
  rw [hA.2.2] at hq
  refine va_bast hm.exec hm.code hm.K hr.1 hr.2.1 hr.2.2 q0 1 hq rfl hin hd (fun H1 locs1 h1 h2 h3 => ?_)
  rw [hs] at h1 h2
  exact kk H1 locs1 a ⟨h1, h2, h3⟩ hl
theorem jsetL_other {ad : JAd} {cs : Nat → ClassId} {w : JW} {k : Nat} {j : Nat} {x : Int64} (o : Nat × Bool) (h : o.1 ≠ k) : jEw ad cs (jsetL w k j x) o.1 o.2 = jEw ad cs w o.1 o.2 := by
  have e : (jsetL w k j x).2.1 o.1 = w.2.1 o.1 := by
    funext j'
    show (if o.1 = k ∧ j' = j then x else w.2.1 o.1 j') = _
    rw [if_neg (fun q => h q.1)]
  unfold jEw
  rw [e]
  rfl
theorem jsetL_self {w : JW} {k : Nat} {j : Nat} {x : Int64} : (jsetL w k j x).2.1 k = vp_updL (w.2.1 k) j x := by
  funext j'
  show (if k = k ∧ j' = j then x else w.2.1 k j') = if j' = j then x else w.2.1 k j'
  by_cases h : j' = j
  · rw [if_pos ⟨rfl, h⟩, if_pos h]
  · rw [if_neg (fun q => h q.2), if_neg h]
theorem jO_long {k : Nat} (hk : k = 6 ∨ k = 63) : ∀ o ∈ jO, o ≠ (k, false) → o.1 ≠ k := by rcases hk with rfl | rfl <;> decide +kernel
theorem jr_lastore {C : JC} {M : JM} {d cl sl : Nat} {Q : State → Prop} {pc : Nat} {ls st : List JV} {w : JW} (hm : jok C M d cl sl) {k : Nat} {n : Nat} {i : Int32} {x : Int64} (hk : k = 6 ∨ k = 63) (hA : jLA k false n) (hin : vp_in i n) (hd : decode M.1 pc = .ok (.lastore, 1)) (kk : jW C cl sl Q (pc + 1) ls st (jsetL w k i.toNatClampNeg x)) : jW C cl sl Q pc ls (jL x :: jI i :: jR k false :: st) w := by
  intro H locs a hr hl
  obtain ⟨q0, hj, hq⟩ := jWs_at (ad := jad C) (cs := jcs C) (w := w) hA.1
  have hs := jWs_set (ad := jad C) (cs := jcs C) (w := w) (w' := jsetL w k i.toNatClampNeg x) hj (fun o ho h => jsetL_other o (jO_long hk o ho h))
  have e : jEw (jad C) (jcs C) (jsetL w k i.toNatClampNeg x) k false = .inl (jcs C 2, n, .inr (.inl (vp_updL (w.2.1 k) i.toNatClampNeg x))) := by
    unfold jEw
    rw [hA.2.2, jsetL_self]
  rw [e] at hs
  unfold jEw at hq
  rw [hA.2.2] at hq
  refine va_last hm.exec hm.code hm.K hr.1 hr.2.1 hr.2.2 q0 2 hq rfl hin hd (fun H1 locs1 h1 h2 h3 => ?_)
  rw [hs] at h1 h2
  exact kk H1 locs1 a ⟨h1, h2, h3⟩ hl

