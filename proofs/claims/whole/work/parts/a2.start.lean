theorem jw_140 : Cond.classLink RL 8 RX9 ∈ jGL := jmem 140 (by decide +kernel) rfl
theorem jw_142 : Cond.methodLink RL 73 yX9_init ∈ jGL := jmem 142 (by decide +kernel) rfl
theorem jw_143 : Cond.instanceMethod yX9_init ∈ jGL := jmem 143 (by decide +kernel) rfl
theorem jw_144 : Cond.code yX9_init cX9_init 1 none ∈ jGL := jmem 144 (by decide +kernel) rfl
theorem jw_1277 : Cond.classLink RL 74 RX11 ∈ jGL := jmem 1277 (by decide +kernel) rfl
theorem jw_1278 : Cond.methodLink RL 76 yX11_init ∈ jGL := jmem 1278 (by decide +kernel) rfl
theorem jw_1279 : Cond.instanceMethod yX11_init ∈ jGL := jmem 1279 (by decide +kernel) rfl
theorem jw_1280 : Cond.code yX11_init cX11_init 1 none ∈ jGL := jmem 1280 (by decide +kernel) rfl
theorem jrm1 : 500 ≤ room_1.frames := by decide
theorem jrm2 : 40 * 500 ≤ room_1.locals := by decide
theorem jrm3 : 600000 ≤ room_1.cells := Nat.le_of_ble_eq_true rfl
theorem jrm4 : 7200000 ≤ room_1.slots := Nat.le_of_ble_eq_true rfl
set_option maxRecDepth 20000 in
/-- THE WALK of the law's body -/
theorem whole_start {p : Program} {e : Env} {s : State} {m : MethodId} {below : List Frame} {meth : Method} {c : Code} (l : Launch) (hflags : l.flags = flags0) {b L : Nat} {xs : Nat → Int32} (hL : L ≤ 3072) (C0 : lw_At p s m meth c b L xs) : W p l e room_1 s m #[Value.ref b] below meth c s.heap [] 0 0 (lw_Z below #[Value.ref b] s) (entryFrame m ([Value.ref b] : List Value).toArray 9) := by
  obtain ⟨S, D, cs, hK, ⟨hSF, hS4⟩, hGX, hZZ, hGA⟩ := js_start C0
  obtain ⟨hx, hb, hr, hml, hown, hts0, hX, hbl, hlocks, hgv⟩ := id C0
  have hst : l.stackTraces = false := by
    unfold Launch.stackTraces
    rw [hflags]
    decide +kernel
  obtain ⟨q98, hq98⟩ : ∃ q, S.2.2.2 = .null ∨ S.2.2.2 = .ref q := by
    rcases hS4 with h | ⟨q, h⟩
    · exact ⟨0, Or.inl h⟩
    · exact ⟨q, Or.inr h⟩
  have hm : jokN (p, l, e, room_1, s, m, #[Value.ref b], below, meth, c, D, jid, cs, (fun q : Nat => s.heap.size ≤ q), S) ML_law 500 600000 7200000 := ⟨hx, hb, hml, hown, hr, hlocks, hK, ⟨hSF.1, hGA⟩, fun q hq => hq, jrm1, jrm2, jrm3, jrm4⟩
  have K : jG (p, l, e, room_1, s, m, #[Value.ref b], below, meth, c, D, jid, cs, (fun q : Nat => s.heap.size ≤ q), S) 0 0 (lw_Z below #[Value.ref b] s) 0 [jR b false, jU, jU, jU, jU, jU, jU, jU, jU] [] [] := by
    refine jg_new hm (ty := tyX9) (fs := [.null, .null, .null, .null, .null, .null, .null, .int 0]) (ci := 9) jin_X9 tyX9_ok jw_140 jw_141 jw_115 rfl df_X9 (Nat.le_of_ble_eq_true rfl) (Nat.le_of_ble_eq_true rfl) dL_law_0 (fun x => ?_)
    refine jg_dup hm dL_law_3 ?_
    refine jg_initP hm (as := []) (st := [jR x false]) (k_X9 x) (by decide) (Nat.le_of_ble_eq_true rfl) (Nat.le_of_ble_eq_true rfl) jw_142 jw_143 jw_115 jw_144 jn_X9_init rfl rfl rfl (Nat.le_of_ble_eq_true rfl) rfl dL_law_4 (fun Y hY => ?_)
    refine jg_astore_n hm (i := 1) rfl (Nat.le_of_ble_eq_true rfl) rfl dL_law_7 ?_
    refine jg_new hm (ty := tyX11) (fs := [.int 0, .null, .int 0, .int 0, .null, .null, .null, .null, .null, .null, .null, .null, .null, .int 0, .int 0, .int 0, .int 0, .int 0, .null, .null, .null]) (ci := 11) jin_X11 tyX11_ok jw_1277 jw_1264 jw_125 rfl df_X11 (Nat.le_of_ble_eq_true rfl) (Nat.le_of_ble_eq_true rfl) dL_law_8 (fun y => ?_)
    refine jg_dup hm dL_law_11 ?_
    refine jg_initP hm (as := []) (st := [jR y false]) (k_X11 y) (by decide) (Nat.le_of_ble_eq_true rfl) (Nat.le_of_ble_eq_true rfl) jw_1278 jw_1279 jw_125 jw_1280 jn_X11_init rfl rfl rfl (Nat.le_of_ble_eq_true rfl) rfl dL_law_12 (fun Z hZ => ?_)
    refine jg_astore_n hm (i := 2) rfl (Nat.le_of_ble_eq_true rfl) rfl dL_law_15 ?_
    refine jg_iconst hm (v := 1) (by decide) dL_law_16 ?_
    refine jg_newl hm (N := 1) (by decide) (by decide +kernel) (Nat.le_of_ble_eq_true rfl) (Nat.le_of_ble_eq_true rfl) (Nat.le_of_ble_eq_true rfl) dL_law_17 (fun o => ?_)
    refine jg_astore_n hm (i := 3) rfl (Nat.le_of_ble_eq_true rfl) rfl dL_law_19 ?_
    refine jg_iconst hm (v := 0) (by decide) dL_law_20 ?_
    refine jg_istore hm (i := 4) (Nat.le_of_ble_eq_true rfl) rfl dL_law_21 ?_
    intro H locs a hP hD hS hl
    obtain ⟨t, ⟨e0, e1, e2⟩, hP2, hD2⟩ := jw0_rep (b := b) (q98 := q98) (S := S) (x := x) (y := y) (o := o) (Y := Y) (Z := Z) hY hZ hP hD
    have hmC : jok (p, l, e, room_1, s, m, #[Value.ref b], below, meth, c, D, (jad0 t b q98 S), cs, (fun q : Nat => s.heap.size ≤ q), S) ML_law 500 600000 7200000 := ⟨hx, hb, hml, hown, hr, hlocks, hK, ⟨hSF, jad0_S hq98⟩, fun q hq => hq, jrm1, jrm2, jrm3, jrm4⟩
    have hE : jLE (p, l, e, room_1, s, m, #[Value.ref b], below, meth, c, D, (jad0 t b q98 S), cs, (fun q : Nat => s.heap.size ≤ q), S) := ⟨hst, hGX, hZZ⟩
    have hSc : jScr (p, l, e, room_1, s, m, #[Value.ref b], below, meth, c, D, (jad0 t b q98 S), cs, (fun q : Nat => s.heap.size ≤ q), S) b L xs := ⟨hX, hbl, Nat.not_le.mpr hbl, rfl⟩
    have k := jl_loop hmC hE hSc hL (Q := lw_Z below #[Value.ref b] s) (c0 := 101) (s0 := 12276) (by decide) (by decide) (fun q hq cl sl w hcl hsl H locs a hr2 hl2 => by
      refine lv_iconst (v := 1) hx hb dL_law_1378 (by decide) ?_
      refine va_forget (fun z hz => hr2.2.2.2.2 z hz) ?_
      refine W.widen (k := 601024) (n := 7293034) (by omega) (by omega) ?_
      exact lw_ret hq hx hb hr hlocks dL_law_1379) L 0 (by omega) (by omega) s.drawn (Drawn.sameBut.refl _ _) jw0 jw0_inv
    refine W.widen (k := 101 + 0) (n := 12276 + 6 * 0) (by decide) (by decide) ?_
    refine k H locs a ⟨hP2, hD2, hS⟩ ⟨hl.1, hl.2.1, fun i v hi hv => ?_⟩
    have hi9 : i < 9 := (List.getElem?_eq_some_iff.mp hi).1
    rcases (show i = 0 ∨ i = 1 ∨ i = 2 ∨ i = 3 ∨ i = 4 ∨ i = 5 ∨ i = 6 ∨ i = 7 ∨ i = 8 by omega) with rfl | rfl | rfl | rfl | rfl | rfl | rfl | rfl | rfl
    · cases hi
      exact hl.2.2 0 (jR b false) rfl (fun h => by cases h)
    · cases hi
      have h2 := hl.2.2 1 (jR x false) rfl (fun h => by cases h)
      show a[1]? = some (.val (.ref (jad0 t b q98 S 0 false)))
      rw [e0]
      exact h2
    · cases hi
      have h2 := hl.2.2 2 (jR y false) rfl (fun h => by cases h)
      show a[2]? = some (.val (.ref (jad0 t b q98 S 41 false)))
      rw [e1]
      exact h2
    · cases hi
      have h2 := hl.2.2 3 (jR o false) rfl (fun h => by cases h)
      show a[3]? = some (.val (.ref (jad0 t b q98 S 63 false)))
      rw [e2]
      exact h2
    · cases hi
      exact hl.2.2 4 (jI 0) rfl (fun h => by cases h)
    · cases hi
      exact absurd rfl hv
    · cases hi
      exact absurd rfl hv
    · cases hi
      exact absurd rfl hv
    · cases hi
      exact absurd rfl hv
  have hl := lv_entry (([jR b false] : List JV).map (jcv jid)) (n := 9) (Nat.le_of_ble_eq_true rfl)
  rw [lg_entry_eq]
  refine K s.heap [] _ (fun k q hk => by cases hk) ⟨fun i j p q hp _ _ => (by cases hp), fun k q hk => by cases hk⟩ va_S.rf ⟨hl.1, hl.2.1, fun i v hi hv => ?_⟩
  have hi9 : i < 9 := (List.getElem?_eq_some_iff.mp hi).1
  rcases (show i = 0 ∨ 1 ≤ i by omega) with rfl | h1
  · cases hi
    exact hl.2.2 (0, .ref b) List.mem_cons_self
  · rcases (show i = 1 ∨ i = 2 ∨ i = 3 ∨ i = 4 ∨ i = 5 ∨ i = 6 ∨ i = 7 ∨ i = 8 by omega) with rfl | rfl | rfl | rfl | rfl | rfl | rfl | rfl <;> (cases hi; exact absurd rfl hv)
