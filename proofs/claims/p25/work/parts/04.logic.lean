/-! THE LOGIC: a frame of a method over a pure world, tied to the machine once and for all -/
def jn_o : List String := ["DriftOrgan$Tokens", "DriftOrgan$Tokens", "DriftOrganLaw", "DriftOrganLaw", "DriftOrganLaw", "DriftOrganLaw", "DriftOrganLaw", "DriftOrganLaw", "DriftOrganLaw", "DriftOrganLaw", "DriftOrganLaw", "DriftOrganLaw", "DriftOrganLaw", "DriftOrganLaw", "DriftOrganLaw", "DriftOrganLaw", "DriftOrganLaw", "DriftOrganLaw", "DriftOrganLaw", "DriftOrganLaw", "DriftOrganLaw", "DriftOrganLaw", "DriftOrganLaw"]
def jn_i : List Nat := [75, 68, 41, 70, 75, 80, 82, 84, 86, 88, 90, 92, 94, 103, 105, 110, 115, 120, 126, 131, 133, 138, 143]
def jn_t : List String := ["cave mouth deep pipe in length reed swell high every from silence to chord of shut clean when hour tide pressure silt loud listeners sounds not and or min max ", "()[];,+-*/<>=", "0123456789", "cave a mouth ", " deep ", "; cave b mouth ", ";", "p in a", "q in a", "r in b", "t in b", " pipe ", " length ", " reed;", " swell high ", " every ", " from ", " silence from ", " to ", "; chord x of p q; chord y of q r t;", " shut a when pressure a >= ", "; shut b when sounds p and loud p > loud r + 3; clean q when silt q >= ", "; clean t when hour = 5;"]
def jn_len : List Nat := [159, 13, 10, 13, 6, 15, 1, 6, 6, 6, 6, 6, 8, 6, 12, 7, 6, 14, 4, 35, 27, 71, 24, 4, 5, 4, 4, 2, 6, 4, 5, 4, 5, 4, 7, 2, 5, 2, 4, 5, 4, 4, 4, 8, 4, 4, 9, 6, 3, 3, 2, 3, 3]
def jn_byt : List (List Int32) := [[99, 97, 118, 101, 32, 109, 111, 117, 116, 104, 32, 100, 101, 101, 112, 32, 112, 105, 112, 101, 32, 105, 110, 32, 108, 101, 110, 103, 116, 104, 32, 114, 101, 101, 100, 32, 115, 119, 101, 108, 108, 32, 104, 105, 103, 104, 32, 101, 118, 101, 114, 121, 32, 102, 114, 111, 109, 32, 115, 105, 108, 101, 110, 99, 101, 32, 116, 111, 32, 99, 104, 111, 114, 100, 32, 111, 102, 32, 115, 104, 117, 116, 32, 99, 108, 101, 97, 110, 32, 119, 104, 101, 110, 32, 104, 111, 117, 114, 32, 116, 105, 100, 101, 32, 112, 114, 101, 115, 115, 117, 114, 101, 32, 115, 105, 108, 116, 32, 108, 111, 117, 100, 32, 108, 105, 115, 116, 101, 110, 101, 114, 115, 32, 115, 111, 117, 110, 100, 115, 32, 110, 111, 116, 32, 97, 110, 100, 32, 111, 114, 32, 109, 105, 110, 32, 109, 97, 120, 32], [40, 41, 91, 93, 59, 44, 43, 45, 42, 47, 60, 62, 61], [48, 49, 50, 51, 52, 53, 54, 55, 56, 57], [99, 97, 118, 101, 32, 97, 32, 109, 111, 117, 116, 104, 32], [32, 100, 101, 101, 112, 32], [59, 32, 99, 97, 118, 101, 32, 98, 32, 109, 111, 117, 116, 104, 32], [59], [112, 32, 105, 110, 32, 97], [113, 32, 105, 110, 32, 97], [114, 32, 105, 110, 32, 98], [116, 32, 105, 110, 32, 98], [32, 112, 105, 112, 101, 32], [32, 108, 101, 110, 103, 116, 104, 32], [32, 114, 101, 101, 100, 59], [32, 115, 119, 101, 108, 108, 32, 104, 105, 103, 104, 32], [32, 101, 118, 101, 114, 121, 32], [32, 102, 114, 111, 109, 32], [32, 115, 105, 108, 101, 110, 99, 101, 32, 102, 114, 111, 109, 32], [32, 116, 111, 32], [59, 32, 99, 104, 111, 114, 100, 32, 120, 32, 111, 102, 32, 112, 32, 113, 59, 32, 99, 104, 111, 114, 100, 32, 121, 32, 111, 102, 32, 113, 32, 114, 32, 116, 59], [32, 115, 104, 117, 116, 32, 97, 32, 119, 104, 101, 110, 32, 112, 114, 101, 115, 115, 117, 114, 101, 32, 97, 32, 62, 61, 32], [59, 32, 115, 104, 117, 116, 32, 98, 32, 119, 104, 101, 110, 32, 115, 111, 117, 110, 100, 115, 32, 112, 32, 97, 110, 100, 32, 108, 111, 117, 100, 32, 112, 32, 62, 32, 108, 111, 117, 100, 32, 114, 32, 43, 32, 51, 59, 32, 99, 108, 101, 97, 110, 32, 113, 32, 119, 104, 101, 110, 32, 115, 105, 108, 116, 32, 113, 32, 62, 61, 32], [59, 32, 99, 108, 101, 97, 110, 32, 116, 32, 119, 104, 101, 110, 32, 104, 111, 117, 114, 32, 61, 32, 53, 59], [99, 97, 118, 101], [109, 111, 117, 116, 104], [100, 101, 101, 112], [112, 105, 112, 101], [105, 110], [108, 101, 110, 103, 116, 104], [114, 101, 101, 100], [115, 119, 101, 108, 108], [104, 105, 103, 104], [101, 118, 101, 114, 121], [102, 114, 111, 109], [115, 105, 108, 101, 110, 99, 101], [116, 111], [99, 104, 111, 114, 100], [111, 102], [115, 104, 117, 116], [99, 108, 101, 97, 110], [119, 104, 101, 110], [104, 111, 117, 114], [116, 105, 100, 101], [112, 114, 101, 115, 115, 117, 114, 101], [115, 105, 108, 116], [108, 111, 117, 100], [108, 105, 115, 116, 101, 110, 101, 114, 115], [115, 111, 117, 110, 100, 115], [110, 111, 116], [97, 110, 100], [111, 114], [109, 105, 110], [109, 97, 120]]
/-- the tables' words that stay true wherever the run comes -/
def jGL : List Cond := lw_tbl.filter (fun w => w.onTables && w.keepsH)
def jGW (U : State) : Prop := ∀ w ∈ jGL, va_Nw w U
theorem jGW_warm {s U : State} (hW : s.WarmedH U.vm) (h : jGW s) : jGW U := by
  intro w hw
  have h2 := (List.mem_filter.mp hw).2
  simp only [Bool.and_eq_true] at h2
  have h3 := Cond.onTables_warmH (args' := #[]) (T := U) hW h2.1 h2.2 (h w hw)
  exact va_tabs h2.1 (rfl : (U.setVm U.vm).vm = U.vm) h3
theorem jGW_use {s : State} {args : Array Value} (h : jGW s) : ∀ w ∈ jGL, w.before args s = true := by
  intro w hw
  have h2 := (List.mem_filter.mp hw).2
  simp only [Bool.and_eq_true] at h2
  exact va_Nw.use h2.1 (h w hw)
/-- a text in the heap: its cell, its bytes' cell, its bytes; nobody in A writes it -/
def jTx (h v : Nat) (t : List Nat) (A : Nat → Prop) (U : State) (H : Heap) : Prop :=
  va_O "java/lang/String" h A U H ∧ va_OF "java/lang/String" "coder" "B" (.int 0) h A U H ∧ va_OF "java/lang/String" "value" "[B" (.ref v) h A U H ∧ va_T .byte v t.length (fun j => .int (nI (t.getD j 0))) A U H
/-- the law's script: its cell, its length, what it holds; a text that is at hand: its cell, its bytes' cell, its bytes -/
abbrev JX : Type := (Nat × (Nat × (Nat → Int32))) × Option (Nat × (Nat × List Nat))
def jTq (o : Option (Nat × (Nat × List Nat))) (A : Nat → Prop) (U : State) (H : Heap) : Prop := ∀ x, o = some x → jTx x.1 x.2.1 x.2.2 A U H
/-- words that growing frames want beside the tables': the arrays' classes, String[], the clone of a byte row -/
def jGA (U : State) : Prop := ∀ t ∈ [FieldType.int, FieldType.byte, FieldType.long], (Cond.arrayClass t).before #[] U = true
theorem jGA_warm {s U : State} (hW : s.WarmedH U.vm) (h : jGA s) : jGA U := fun t ht => word_at hW (Or.inr ⟨t, rfl⟩) (h t ht)
theorem jGA_use {s : State} {args : Array Value} (h : jGA s) {t : FieldType} (ht : t ∈ [FieldType.int, FieldType.byte, FieldType.long]) : (Cond.arrayClass t).before args s = true := word_at (State.WarmedH.refl s) (Or.inr ⟨t, rfl⟩) (h t ht)
/-- the private methods of a builder: what a StringBuilder chooses -/
def jGP : List Cond := [.selects RJ4 yJ5_newCapacity_0f7a4 yJ5_newCapacity_0f7a4, .selects RJ4 yJ5_ensureCapacityInternal_d00df yJ5_ensureCapacityInternal_d00df, .selects RJ4 yJ5_inflateIfNeededFor_a7421 yJ5_inflateIfNeededFor_a7421, .selects RJ4 yJ5_putStringAt_47b60 yJ5_putStringAt_47b60]
theorem jGP_on : ∀ w ∈ jGP, (w.onTables && w.keepsH) = true := by decide
def jGX (U : State) : Prop := jGA U ∧ va_AO "java/lang/String" U ∧ va_Nw (.castable "[B" "java/lang/Cloneable") U ∧ ∀ w ∈ jGP, va_Nw w U
theorem jGX_warm {s U : State} (hW : s.WarmedH U.vm) (h : jGX s) : jGX U := ⟨jGA_warm hW h.1, va_AO.moved hW.alike h.2.1, va_Nw.warmC hW h.2.2.1, fun w hw => by
  have h2 := jGP_on w hw
  simp only [Bool.and_eq_true] at h2
  have h3 := Cond.onTables_warmH (args' := #[]) (T := U) hW h2.1 h2.2 (h.2.2.2 w hw)
  exact va_tabs h2.1 (rfl : (U.setVm U.vm).vm = U.vm) h3⟩
/-- where the constants lie: the texts' cells, their bytes', what SIOOBE_FORMATTER holds, the script and a text -/
abbrev JT : Type := (Nat → Nat) × ((Nat → Nat) × (Value × JX))
/-- what nobody writes: the words, the texts, the statics that are read, the script -/
def jSF (S : JT) (A : Nat → Prop) (U : State) (H : Heap) : Prop :=
  jGW U ∧ vk_S 23 jn_len jn_byt S.1 S.2.1 A U H ∧ (∀ j : Nat, j < 23 → vk_R (jn_o.getD j "") (jn_i.getD j 0) (jn_t.getD j "") (S.1 j) U) ∧
  va_Z "java/lang/String" "COMPACT_STRINGS" "Z" (.int 1) A U H ∧ va_Z "jdk/internal/util/Preconditions" "SIOOBE_FORMATTER" "Ljava/util/function/BiFunction;" S.2.2.1 A U H ∧
  va_T .int S.2.2.2.1.1 S.2.2.2.1.2.1 (fun j => .int (S.2.2.2.1.2.2 j)) A U H ∧ jTq S.2.2.2.2 A U H ∧ jGX U
theorem jTx.moved {h v : Nat} {t : List Nat} {A : Nat → Prop} {u U : State} {H : Heap} (hvm : u.vm.Alike U.vm) (q : jTx h v t A u H) : jTx h v t A U H := ⟨va_O.moved hvm q.1, va_OF.moved hvm q.2.1, va_OF.moved hvm q.2.2.1, va_T.moved hvm q.2.2.2⟩
theorem jTx.kept {h v : Nat} {t : List Nat} {A : Nat → Prop} {U : State} {H H1 : Heap} (q : jTx h v t A U H) (hq : ∀ a : Nat, a < H.size → ¬ A a → H1[a]? = H[a]?) : jTx h v t A U H1 := ⟨q.1.kept hq, q.2.1.kept hq, q.2.2.1.kept hq, q.2.2.2.kept hq⟩
theorem jTx.narrow {h v : Nat} {t : List Nat} {A B : Nat → Prop} {U : State} {H : Heap} (q : jTx h v t A U H) (hAB : ∀ q, B q → A q) : jTx h v t B U H := ⟨q.1.narrow hAB, q.2.1.narrow hAB, q.2.2.1.narrow hAB, q.2.2.2.narrow hAB⟩
theorem jSF.warm {S : JT} {A : Nat → Prop} {s U : State} {H : Heap} (hW : s.WarmedH U.vm) (h : jSF S A s H) : jSF S A U H :=
  ⟨jGW_warm hW h.1, h.2.1.moved hW.alike, fun j hj => (h.2.2.1 j hj).warm hW, h.2.2.2.1.moved hW.alike, h.2.2.2.2.1.moved hW.alike, h.2.2.2.2.2.1.moved hW.alike, fun x hx => (h.2.2.2.2.2.2.1 x hx).moved hW.alike, jGX_warm hW h.2.2.2.2.2.2.2⟩
theorem jSF.kept {S : JT} {A : Nat → Prop} {U : State} {H H1 : Heap} (h : jSF S A U H) (hq : ∀ a : Nat, a < H.size → ¬ A a → H1[a]? = H[a]?) : jSF S A U H1 :=
  ⟨h.1, h.2.1.kept hq, h.2.2.1, h.2.2.2.1.kept hq, h.2.2.2.2.1.kept hq, h.2.2.2.2.2.1.kept hq, fun x hx => (h.2.2.2.2.2.2.1 x hx).kept hq, h.2.2.2.2.2.2.2⟩
theorem jSF.narrow {S : JT} {A B : Nat → Prop} {U : State} {H : Heap} (h : jSF S A U H) (hAB : ∀ q, B q → A q) : jSF S B U H :=
  ⟨h.1, h.2.1.narrow hAB, h.2.2.1, h.2.2.2.1.narrow hAB, h.2.2.2.2.1.narrow hAB, h.2.2.2.2.2.1.narrow hAB, fun x hx => (h.2.2.2.2.2.2.1 x hx).narrow hAB, h.2.2.2.2.2.2.2⟩
/-- a context: program, launch, environment, room, start, method, arguments, frames below, the method, its code; classes and slots, addresses, array classes, what may change, the constants -/
abbrev JC : Type := Program × Launch × Env × Room × State × MethodId × Array Value × List Frame × Method × Code × va_G × JAd × (Nat → ClassId) × (Nat → Prop) × JT
abbrev jp (C : JC) : Program := C.1
abbrev jl (C : JC) : Launch := C.2.1
abbrev je (C : JC) : Env := C.2.2.1
abbrev jR0 (C : JC) : Room := C.2.2.2.1
abbrev js (C : JC) : State := C.2.2.2.2.1
abbrev jm (C : JC) : MethodId := C.2.2.2.2.2.1
abbrev jar (C : JC) : Array Value := C.2.2.2.2.2.2.1
abbrev jbe (C : JC) : List Frame := C.2.2.2.2.2.2.2.1
abbrev jme (C : JC) : Method := C.2.2.2.2.2.2.2.2.1
abbrev jco (C : JC) : Code := C.2.2.2.2.2.2.2.2.2.1
abbrev jD (C : JC) : va_G := C.2.2.2.2.2.2.2.2.2.2.1
abbrev jad (C : JC) : JAd := C.2.2.2.2.2.2.2.2.2.2.2.1
abbrev jcs (C : JC) : Nat → ClassId := C.2.2.2.2.2.2.2.2.2.2.2.2.1
abbrev jA (C : JC) : Nat → Prop := C.2.2.2.2.2.2.2.2.2.2.2.2.2.1
abbrev jS (C : JC) : JT := C.2.2.2.2.2.2.2.2.2.2.2.2.2.2
/-- a method: its bytes, how many locals, its class, what it returns, its name -/
abbrev JM : Type := ByteArray × Nat × String × Option FieldType × MethodName
abbrev jty (cs : Nat → ClassId) : List (ClassId × FieldType) := [(cs 0, .int), (cs 1, .byte), (cs 2, .long)]
/-- the constants' addresses among the others: kind 98 what SIOOBE_FORMATTER holds (or null), 100 and on the texts, 200 and on their bytes, 97 the script, 96 and 95 the text at hand and its bytes -/
def jadS (ad : JAd) (S : JT) : Prop := (∀ j : Nat, j < 23 → ad (100 + j) false = S.1 j ∧ ad (200 + j) false = S.2.1 j) ∧ ad 97 false = S.2.2.2.1.1 ∧ (S.2.2.1 = .null ∨ S.2.2.1 = .ref (ad 98 false)) ∧ ∀ x, S.2.2.2.2 = some x → ad 96 false = x.1 ∧ ad 95 false = x.2.1
/-- the context is a run of the method M, with room for d frames more -/
def jok (C : JC) (M : JM) (d cl sl : Nat) : Prop :=
  (jp C).tables.exec = Jvm.exec ∧ (jco C).code = M.1 ∧ (jco C).maxLocals = M.2.1 ∧ (js C).vm.findClass M.2.2.1 = some (jm C).cls ∧ (jme C).sig.returnType = M.2.2.2.1 ∧ (jme C).locks = false ∧
  va_K (jD C) vwCl (jty (jcs C)) (js C) ∧ (jSF (jS C) (jA C) (js C) (js C).heap ∧ jadS (jad C) (jS C)) ∧ (∀ q : Nat, (js C).heap.size ≤ q → jA C q) ∧ d ≤ (jR0 C).frames ∧ 40 * d ≤ (jR0 C).locals ∧ cl ≤ (jR0 C).cells ∧ sl ≤ (jR0 C).slots
theorem jok.exec {C : JC} {M : JM} {d cl sl : Nat} (h : jok C M d cl sl) : (jp C).tables.exec = Jvm.exec := h.1
theorem jok.code {C : JC} {M : JM} {d cl sl : Nat} (h : jok C M d cl sl) : (jco C).code = M.1 := h.2.1
theorem jok.own {C : JC} {M : JM} {d cl sl : Nat} (h : jok C M d cl sl) : (js C).vm.findClass M.2.2.1 = some (jm C).cls := h.2.2.2.1
theorem jok.K {C : JC} {M : JM} {d cl sl : Nat} (h : jok C M d cl sl) : va_K (jD C) vwCl (jty (jcs C)) (js C) := h.2.2.2.2.2.2.1
theorem jok.SF {C : JC} {M : JM} {d cl sl : Nat} (h : jok C M d cl sl) : jSF (jS C) (jA C) (js C) (js C).heap := h.2.2.2.2.2.2.2.1.1
theorem jok.adS {C : JC} {M : JM} {d cl sl : Nat} (h : jok C M d cl sl) : jadS (jad C) (jS C) := h.2.2.2.2.2.2.2.1.2
theorem jok.new {C : JC} {M : JM} {d cl sl : Nat} (h : jok C M d cl sl) : ∀ q : Nat, (js C).heap.size ≤ q → jA C q := h.2.2.2.2.2.2.2.2.1
theorem jok.hts {C : JC} {M : JM} {d cl sl : Nat} (h : jok C M d cl sl) : ∀ w ∈ jGL, w.before (jar C) (js C) = true := jGW_use h.SF.1
/-- the heap holds the world -/
def jrep (C : JC) (w : JW) (H : Heap) (locs : List Loc) : Prop := va_P (jD C) vwCl (jWs (jad C) (jcs C) w) H ∧ va_D (jA C) (jWs (jad C) (jcs C) w) ∧ va_S (jA C) (js C).heap H locs
/-- the locals hold the values (what is jU is not said) -/
def jloc (ad : JAd) (ls : List JV) (a : Array Slot) : Prop := a.size = ls.length ∧ lv_wf a ∧ ∀ (i : Nat) (v : JV), ls[i]? = some v → v ≠ jU → a[i]? = some (.val (jcv ad v))
def jfl (ad : JAd) (ls : List JV) : List (Nat × Value) := (List.range ls.length).filterMap (fun i => (ls[i]?).bind (fun v => if v = jU then none else some (i, jcv ad v)))
theorem jfl_in {ad : JAd} {ls : List JV} {i : Nat} {v : JV} (h : ls[i]? = some v) (hv : v ≠ jU) : (i, jcv ad v) ∈ jfl ad ls := by
  refine List.mem_filterMap.mpr ⟨i, List.mem_range.mpr (List.getElem?_eq_some_iff.mp h).1, ?_⟩
  rw [h]
  simp [hv]
theorem jloc_has {ad : JAd} {ls : List JV} {a : Array Slot} (h : jloc ad ls a) : lv_has a ls.length (jfl ad ls) := by
  refine ⟨h.1, h.2.1, fun q hq => ?_⟩
  obtain ⟨i, hi, e⟩ := List.mem_filterMap.mp hq
  cases hv : ls[i]? with
  | none => rw [hv] at e; cases e
  | some v =>
    rw [hv] at e
    by_cases hu : v = jU
    · simp [hu] at e
    · simp only [Option.bind_some, if_neg hu, Option.some.injEq] at e
      subst e
      exact h.2.2 i v hv hu
/-- a frame at pc, over a world: from any heap that holds it the machine comes to Q -/
def jW (C : JC) (cl sl : Nat) (Q : State → Prop) (pc : Nat) (ls st : List JV) (w : JW) : Prop :=
  ∀ (H : Heap) (locs : List Loc) (a : Array Slot), jrep C w H locs → jloc (jad C) ls a →
    W (jp C) (jl C) (je C) (jR0 C) (js C) (jm C) (jar C) (jbe C) (jme C) (jco C) H locs cl sl Q (F0 (jm C) pc a (st.map (jcv (jad C))))
/-- how a method ends: its answer and the world -/
def jout (ad : JAd) (v : JV) : Option Value := match v with
  | .inr (.inr (.inr _)) => none
  | v => some (jcv ad v)
def jQc (D : va_G) (ad : JAd) (cs : Nat → ClassId) (A : Nat → Prop) (P : JV → JW → Prop) : Array Value → State → Outcome → State → Prop := fun _ s0 oc t =>
  (∃ (v : JV) (w : JW), oc = .returned (jout ad v) ∧ P v w ∧ va_P D vwCl (jWs ad cs w) t.heap) ∧ va_F A s0 t
def jQQ (C : JC) (cl sl : Nat) (P : JV → JW → Prop) : State → Prop := MQ (jbe C) (jQc (jD C) (jad C) (jcs C) (jA C) P) (jar C) (js C) cl sl (jA C)
/-- what a method may change -/
def jAd (ad : JAd) (sz : Nat) : Nat → Prop := fun q => (∃ o : Nat × Bool, o ∈ jO ∧ ad o.1 o.2 = q) ∨ sz ≤ q
def jB (D : va_G) (ad : JAd) (cs : Nat → ClassId) (S : JT) (sz : Nat) (w : JW) : State → Prop := fun U =>
  U.heap.size = sz ∧ va_P D vwCl (jWs ad cs w) U.heap ∧ va_D (fun _ => True) (jWs ad cs w) ∧ va_K D vwCl (jty cs) U ∧ jSF S (jAd ad sz) U U.heap ∧ jadS ad S
abbrev jroom (d mc ms : Nat) : Room := { frames := d, cells := mc, slots := ms, locals := 40 * d }
abbrev jws (M : JM) : List Cond := [Cond.code M.2.2.2.2 M.1 M.2.1 M.2.2.2.1]
/-- THE CONTRACT: the method M, called with the arguments over the world w, at depth at most d, returns so that P -/
def jSp (M : JM) (d mc ms : Nat) (as : List JV) (w : JW) (P : JV → JW → Prop) : Prop :=
  ∀ (l : Launch) (D : va_G) (ad : JAd) (cs : Nat → ClassId) (S : JT) (sz : Nat), Met l M.2.2.2.2 (jws M) (jroom d mc ms) (va_Pc (as.map (jcv ad)) (jB D ad cs S sz w)) (jQc D ad cs (jAd ad sz) P) mc ms (jAd ad sz)
theorem jB_blind {D : va_G} {ad : JAd} {cs : Nat → ClassId} {S : JT} {sz : Nat} {w : JW} {av : List Value} : FrameBlind (va_Pc av (jB D ad cs S sz w)) := by
  intro a U g mk q
  obtain ⟨q0, q1, qP, qD, qK, qF, qS⟩ := q
  refine ⟨q0, q1, qP, qD, va_K.moved (u := U) (U := U.calling g mk a) (Vm.Alike.refl U.vm) qK, ?_, qS⟩
  exact jSF.warm (s := U) (U := U.calling g mk a) (State.WarmedH.refl U) qF
def jent : List JV → List JV
  | [] => []
  | v :: vs => match v with
    | .inr (.inr (.inl x)) => jL x :: jU :: jent vs
    | v => v :: jent vs
def jentry (as : List JV) (n : Nat) : List JV := jent as ++ List.replicate (n - (jent as).length) jU

