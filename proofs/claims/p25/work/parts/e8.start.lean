
/-! what the Statement gives at the law's start -/
def jfl0 : List Cond := flatC (Jvm.Cond.and given_1 narrow_1)
def jps : List Nat := [722, 885, 309, 292, 332, 342, 361, 366, 376, 386, 396, 406, 416, 428, 438, 454, 465, 475, 493, 501, 540, 571, 646]
def jsr : List Nat := [1127, 1130, 887, 764, 976, 980, 981, 984, 985, 986, 987, 988, 989, 996, 997, 1001, 1005, 1009, 1013, 1017, 1018, 1022, 1026]
abbrev jtm (i : Nat) : Term := .string (jn_o.getD i "") (jn_i.getD i 0)
abbrev jtv (i : Nat) : Term := .field (jtm i) "java/lang/String" "value" "[B"
set_option maxRecDepth 100000 in
theorem jfl_ex : ∀ i : Nat, i < 23 → jfl0[jps.getD i 0]? = some (Cond.exactly (jtm i) "java/lang/String") := by decide +kernel
set_option maxRecDepth 100000 in
theorem jfl_co : ∀ i : Nat, i < 23 → jfl0[jps.getD i 0 + 1]? = some (Cond.eq (.field (jtm i) "java/lang/String" "coder" "B") (.int 0)) := by decide +kernel
set_option maxRecDepth 100000 in
theorem jfl_ar : ∀ i : Nat, i < 23 → jfl0[jps.getD i 0 + 2]? = some (Cond.arrayOf (jtv i) .byte) := by decide +kernel
set_option maxRecDepth 100000 in
theorem jfl_le : ∀ i : Nat, i < 23 → jfl0[jps.getD i 0 + 3]? = some (Cond.eq (.length (jtv i)) (.int (Int32.ofNat (jn_len.getD i 0)))) := by decide +kernel
set_option maxRecDepth 100000 in
theorem jfl_el : ∀ i : Nat, i < 23 → ∀ j : Nat, j < jn_len.getD i 0 → jfl0[jps.getD i 0 + 4 + j]? = some (Cond.eq (.elem (jtv i) (.int (Int32.ofNat j))) (.int ((jn_byt.getD i []).getD j 0))) := by decide +kernel
set_option maxRecDepth 100000 in
theorem jlen_31 : ∀ i : Nat, i < 23 → jn_len.getD i 0 < 2 ^ 31 := by decide +kernel
set_option maxRecDepth 100000 in
theorem jtx_ne : ∀ i : Nat, i < 23 → ∀ j : Nat, j < 23 → i ≠ j → jn_len.getD i 0 ≠ jn_len.getD j 0 ∨ ∃ k, k < jn_len.getD i 0 ∧ (jn_byt.getD i []).getD k 0 ≠ (jn_byt.getD j []).getD k 0 := by decide +kernel
set_option maxRecDepth 100000 in
theorem jsr_at : ∀ i : Nat, i < 23 → lw_tbl[jsr.getD i 0]? = some (Cond.stringRef (jn_o.getD i "") (jn_i.getD i 0) (jn_t.getD i "")) := by decide +kernel
theorem va_OF.same {o n d : String} {v v2 : Value} {t : Nat} {A : Nat → Prop} {U : State} {H : Heap} (h : va_OF o n d v t A U H) (h2 : va_OF o n d v2 t A U H) : v = v2 := by
  obtain ⟨cf, k, i, f, cell, a1, a2, a3, a4, a5, a6⟩ := h
  obtain ⟨cf2, k2, i2, f2, cell2, b1, b2, b3, b4, b5, b6⟩ := h2
  cases a1.symm.trans b1
  cases a3.symm.trans b3
  exact Option.some.inj (a5.symm.trans b5)
/-- the texts stand, each in a cell of its own -/
theorem js_texts {args : Array Value} {s : State} {A : Nat → Prop} (hf : ∀ c ∈ jfl0, c.before args s = true) (hA : ∀ a : Nat, a < s.heap.size → ¬ A a) : ∃ adK adV : Nat → Nat, vk_S 23 jn_len jn_byt adK adV A s s.heap ∧ ∀ i : Nat, i < 23 → (jtm i).eval args s none [] s = some (.ref (adK i)) := by
  have at_ : ∀ {k : Nat} {w : Cond}, jfl0[k]? = some w → w.before args s = true := fun h => hf _ (List.mem_of_getElem? h)
  have h0 : ∀ i : Nat, ∃ q : Nat × Nat, i < 23 → (jtm i).eval args s none [] s = some (.ref q.1) ∧ va_O "java/lang/String" q.1 A s s.heap ∧ va_OF "java/lang/String" "coder" "B" (.int 0) q.1 A s s.heap ∧ va_OF "java/lang/String" "value" "[B" (.ref q.2) q.1 A s s.heap ∧ va_T .byte q.2 (jn_len.getD i 0) (fun j => .int ((jn_byt.getD i []).getD j 0)) A s s.heap := by
    intro i
    by_cases hi : i < 23
    · obtain ⟨a, c, cA, kA, q1, q2, q3, q4, q5, q6, -⟩ := Cond.exactly_spec (args := args) (first := s) (o := none) (s := s) (idx := []) (t := jtm i) (cls := "java/lang/String") (at_ (jfl_ex i hi))
      obtain ⟨t, ht, hT⟩ := va_Tof (f := fun j => .int ((jn_byt.getD i []).getD j 0)) (A := A) (jlen_31 i hi) (at_ (jfl_ar i hi)) (va_eqt (at_ (jfl_le i hi))) (fun j hj => va_eqt (at_ (jfl_el i hi j hj))) hA
      exact ⟨(a, t), fun _ => ⟨q1, ⟨cA, q3, q5, by rw [q6]; exact q2, hA a (Array.getElem?_eq_some_iff.mp q3).1⟩, vk_OFof q1 (va_eqt (at_ (jfl_co i hi))) hA, vk_OFof q1 ht hA, hT⟩⟩
    · exact ⟨(0, 0), fun h => absurd h hi⟩
  obtain ⟨ad, had⟩ := Classical.axiomOfChoice h0
  refine ⟨fun i => (ad i).1, fun i => (ad i).2, ⟨fun i hi => (had i hi).2, fun i j hi hj e => ?_⟩, fun i hi => (had i hi).1⟩
  refine Classical.byContradiction (fun hij => ?_)
  obtain ⟨-, -, -, v1, cell1, a1, a2, a3, a4, a5, a6, a7⟩ := had i hi
  obtain ⟨-, -, -, v2, cell2, b1, b2, b3, b4, b5, b6, b7⟩ := had j hj
  have e1 : (ad i).1 = (ad j).1 := e
  rw [e1] at v1
  have e2 : (ad i).2 = (ad j).2 := Value.ref.inj (v1.same v2)
  rw [e2] at a1
  cases a1.symm.trans b1
  have e3 : jn_len.getD i 0 = jn_len.getD j 0 := by
    have h := a5.symm.trans b5
    have h2 := congrArg Int32.toNatClampNeg h
    rwa [Int32.toNatClampNeg_ofNat_of_lt (jlen_31 i hi), Int32.toNatClampNeg_ofNat_of_lt (jlen_31 j hj)] at h2
  rcases jtx_ne i hi j hj hij with h | ⟨k, hk, h⟩
  · exact h e3
  · have g1 := a6 k hk
    have g2 := b6 k (by rw [← e3]; exact hk)
    exact h (Value.int.inj (Option.some.inj (g1.symm.trans g2)))
theorem js_arr {args : Array Value} {s : State} {t : FieldType} (h : (Cond.arrayClass t).before args s = true) : ∃ cA : ClassId, ArrOfT s cA t ∧ s.vm.findClass ("[" ++ t.toString) = some cA := by
  obtain ⟨c, k, comp, h1, h2, h3⟩ := Cond.arrayClass_spec h
  exact ⟨c, fun n z => ⟨fun k h => (by cases h), k, h2, comp, h3⟩, h1⟩
theorem js_K {args : Array Value} {s : State} (hts : ∀ w ∈ jGL, w.before args s = true) (hA : ∀ t ∈ [FieldType.int, FieldType.byte, FieldType.long], (Cond.arrayClass t).before args s = true) : ∃ (D : va_G) (cs : Nat → ClassId), va_K D vwCl (jty cs) s := by
  obtain ⟨a0, x0, y0⟩ := js_arr (hA .int (by decide))
  obtain ⟨a1, x1, y1⟩ := js_arr (hA .byte (by decide))
  obtain ⟨a2, x2, y2⟩ := js_arr (hA .long (by decide))
  obtain ⟨c0, i0, k0⟩ := u_known (C := RJ0) (T := TJ0) (N := 4) hts jin_J0 (hts _ jw_903)
  obtain ⟨c1, i1, k1⟩ := u_known (C := RJ4) (T := TJ4) (N := 4) hts jin_J4 (hts _ jw_734)
  obtain ⟨c2, i2, k2⟩ := u_known (C := RX0) (T := TX0) (N := 2) hts jin_X0 (hts _ jw_218)
  obtain ⟨c3, i3, k3⟩ := u_known (C := RX1) (T := TX1) (N := 9) hts jin_X1 (hts _ jw_647)
  obtain ⟨c4, i4, k4⟩ := u_known (C := RX2) (T := TX2) (N := 8) hts jin_X2 (hts _ jw_499)
  obtain ⟨c5, i5, k5⟩ := u_known (C := RX3) (T := TX3) (N := 12) hts jin_X3 (hts _ jw_461)
  obtain ⟨c6, i6, k6⟩ := u_known (C := RX4) (T := TX4) (N := 1) hts jin_X4 (hts _ jw_335)
  obtain ⟨c7, i7, k7⟩ := u_known (C := RX5) (T := TX5) (N := 8) hts jin_X5 (hts _ jw_455)
  obtain ⟨c8, i8, k8⟩ := u_known (C := RX6) (T := TX6) (N := 2) hts jin_X6 (hts _ jw_423)
  obtain ⟨c9, i9, k9⟩ := u_known (C := RX7) (T := TX7) (N := 3) hts jin_X7 (hts _ jw_437)
  obtain ⟨c10, i10, k10⟩ := u_known (C := RX8) (T := TX8) (N := 7) hts jin_X8 (hts _ jw_467)
  obtain ⟨c11, i11, k11⟩ := u_known (C := RX9) (T := TX9) (N := 8) hts jin_X9 (hts _ jw_151)
  refine ⟨(fun k => [c0, c1, c2, c3, c4, c5, c6, c7, c8, c9, c10, c11].getD k c0, fun k => [i0, i1, i2, i3, i4, i5, i6, i7, i8, i9, i10, i11].getD k i0), fun k => [a0, a1, a2].getD k a0, fun c q hq => ?_, fun k q hk => ?_⟩
  · have hc : c < 12 := (List.getElem?_eq_some_iff.mp hq).1
    rcases (show c = 0 ∨ c = 1 ∨ c = 2 ∨ c = 3 ∨ c = 4 ∨ c = 5 ∨ c = 6 ∨ c = 7 ∨ c = 8 ∨ c = 9 ∨ c = 10 ∨ c = 11 by omega) with rfl | rfl | rfl | rfl | rfl | rfl | rfl | rfl | rfl | rfl | rfl | rfl
    · cases hq
      exact k0
    · cases hq
      exact k1
    · cases hq
      exact k2
    · cases hq
      exact k3
    · cases hq
      exact k4
    · cases hq
      exact k5
    · cases hq
      exact k6
    · cases hq
      exact k7
    · cases hq
      exact k8
    · cases hq
      exact k9
    · cases hq
      exact k10
    · cases hq
      exact k11
  · have hc : k < 3 := (List.getElem?_eq_some_iff.mp hk).1
    rcases (show k = 0 ∨ k = 1 ∨ k = 2 by omega) with rfl | rfl | rfl
    · cases hk
      exact ⟨x0, y0⟩
    · cases hk
      exact ⟨x1, y1⟩
    · cases hk
      exact ⟨x2, y2⟩
/-- THE START -/
theorem js_start {p : Program} {s : State} {m : MethodId} {meth : Method} {c : Code} {b L : Nat} {xs : Nat → Int32} (C0 : lw_At p s m meth c b L xs) (hL : L ≤ 260) : ∃ (S : JT) (D : va_G) (cs : Nat → ClassId), va_K D vwCl (jty cs) s ∧ jSF S (fun q => s.heap.size ≤ q) s s.heap ∧ jFq S ∧ S.2.2.2.1 = (b, L, xs) ∧ S.2.2.2.2 = none := by
  obtain ⟨hx, hb, hr, hml, hown, hts, hX, hbl, hlocks, hgv⟩ := C0
  have hf : ∀ c ∈ jfl0, c.before #[Value.ref b] s = true := flat_of_before _ hgv
  have at_ : ∀ (k : Nat) {w : Cond}, jfl0[k]? = some w → w.before #[Value.ref b] s = true := fun k w h => hf _ (List.mem_of_getElem? h)
  have tb : ∀ (k : Nat) {w : Cond}, lw_tbl[k]? = some w → w.before #[Value.ref b] s = true := fun k w h => hts _ (List.mem_of_getElem? h)
  have hA : ∀ a : Nat, a < s.heap.size → ¬ (fun q : Nat => s.heap.size ≤ q) a := fun a h => Nat.not_le.mpr h
  have hG : jGW s := fun w hw => va_Nw.of (by
    have h2 := (List.mem_filter.mp hw).2
    rw [Bool.and_eq_true] at h2
    exact h2.1) (hts w (List.mem_filter.mp hw).1)
  have hGA : jGA s := by
    intro t ht
    refine word_at (State.WarmedH.refl s) (Or.inr ⟨t, rfl⟩) (args := #[Value.ref b]) ?_
    simp only [List.mem_cons, List.not_mem_nil, or_false] at ht
    rcases ht with rfl | rfl | rfl
    · exact tb 452 (by decide +kernel)
    · exact tb 147 (by decide +kernel)
    · exact tb 453 (by decide +kernel)
  obtain ⟨D, cs, hK⟩ := js_K (args := #[Value.ref b]) (jGW_use hG) (fun t ht => jGA_use hGA ht)
  obtain ⟨adK, adV, hS, hev⟩ := js_texts (args := #[Value.ref b]) (A := fun q => s.heap.size ≤ q) hf hA
  have hCZ : va_Z "java/lang/String" "COMPACT_STRINGS" "Z" (.int 1) (fun q => s.heap.size ≤ q) s s.heap := va_Zof (tb 743 (by decide +kernel)) (tb 59 (by decide +kernel)) (va_eqt (at_ 6 (by decide +kernel))) hA
  have hFZ : va_Zq "jdk/internal/util/Preconditions" "SIOOBE_FORMATTER" "Ljava/util/function/BiFunction;" (fun q => s.heap.size ≤ q) s s.heap := va_Zqof (tb 825 (by decide +kernel)) (tb 65 (by decide +kernel)) (at_ 7 (by decide +kernel)) hA
  have hR : ∀ j : Nat, j < 23 → vk_R (jn_o.getD j "") (jn_i.getD j 0) (jn_t.getD j "") (adK j) s := fun j hj => vk_R.of (A := #[Value.ref b]) (tb _ (jsr_at j hj)) (hev j hj)
  have hGX : jGX s := ⟨hGA, va_AO.of (tb 983 (by decide +kernel)), va_Nw.of rfl (tb 801 (by decide +kernel)), fun w hw => by
    simp only [jGP, List.mem_cons, List.not_mem_nil, or_false] at hw
    rcases hw with rfl | rfl | rfl | rfl
    · exact va_Nw.of rfl (jsel_priv (z := yJ5_isLatin1_aae02) rfl (by decide) (tb 810 (by decide +kernel)) (tb 781 (by decide +kernel)) (tb 782 (by decide +kernel)))
    · exact va_Nw.of rfl (jsel_priv (z := yJ5_isLatin1_aae02) rfl (by decide) (tb 810 (by decide +kernel)) (tb 777 (by decide +kernel)) (tb 778 (by decide +kernel)))
    · exact va_Nw.of rfl (jsel_priv (z := yJ5_isLatin1_aae02) rfl (by decide) (tb 810 (by decide +kernel)) (tb 852 (by decide +kernel)) (tb 853 (by decide +kernel)))
    · exact va_Nw.of rfl (jsel_priv (z := yJ5_isLatin1_aae02) rfl (by decide) (tb 810 (by decide +kernel)) (tb 848 (by decide +kernel)) (tb 849 (by decide +kernel)))⟩
  have hSc : va_T .int b L (fun j => .int (xs j)) (fun q => s.heap.size ≤ q) s s.heap := by
    obtain ⟨scr, g1, g2, g3, g4, g5⟩ := hX
    exact ⟨scr, g1, g2, g3, Nat.le_of_eq g4.symm, congrArg Nat.toInt32 g4, g5, Nat.not_le.mpr hbl⟩
  rcases hFZ with hF | ⟨q, hF⟩
  · exact ⟨(adK, adV, .null, (b, L, xs), none), D, cs, hK, ⟨hG, hS, hR, hCZ, hF, hSc, fun x hx => (by cases hx), hGX⟩, Or.inl rfl, rfl, rfl⟩
  · exact ⟨(adK, adV, .ref q, (b, L, xs), none), D, cs, hK, ⟨hG, hS, hR, hCZ, hF, hSc, fun x hx => (by cases hx), hGX⟩, Or.inr ⟨q, rfl⟩, rfl, rfl⟩
