theorem jw_414 : Cond.methodLink RL 160 yL_organ ∈ jGL := jmem 414 (by decide +kernel) rfl
theorem jw_415 : Cond.static yL_organ ∈ jGL := jmem 415 (by decide +kernel) rfl
theorem jw_416 : Cond.code yL_organ cL_organ 2 (some (.object "DriftOrgan")) ∈ jGL := jmem 416 (by decide +kernel) rfl
/-! THE WALK of the law's body -/
theorem jrm1 : 53 ≤ room_1.frames := by decide
theorem jrm2 : 40 * 53 ≤ room_1.locals := by decide
theorem jrm3 : 500 ≤ room_1.cells := Nat.le_of_ble_eq_true rfl
theorem jrm4 : 720000 ≤ room_1.slots := Nat.le_of_ble_eq_true rfl
set_option maxRecDepth 20000 in
theorem whole_start {p : Program} {e : Env} {s : State} {m : MethodId} {below : List Frame} {meth : Method} {c : Code} (l : Launch) (hflags : l.flags = flags0) {b L : Nat} {xs : Nat → Int32} (hL : L ≤ 260) (C0 : lw_At p s m meth c b L xs) : W p l e room_1 s m #[Value.ref b] below meth c s.heap [] 0 0 (lw_Z below #[Value.ref b] s) (entryFrame m ([Value.ref b] : List Value).toArray 21) := by
  obtain ⟨S, D, cs, hK, hSF, hq, eX, eN⟩ := js_start C0 hL
  obtain ⟨hx, hb, hr, hml, hown, hts0, hX, hbl, hlocks, hgv⟩ := id C0
  obtain ⟨q98, hq98⟩ := hq.q
  have hm : jokT (p, l, e, room_1, s, m, #[Value.ref b], below, meth, c, D, jid, cs, (fun q : Nat => s.heap.size ≤ q), S) ML_law 53 500 720000 := ⟨⟨hx, hb, hml, hown, hr, hlocks, hK, ⟨hSF.1, hSF.2.2.2.2.2.2.2.1⟩, fun q hq => hq, jrm1, jrm2, jrm3, jrm4⟩, hSF⟩
  have K : jG (p, l, e, room_1, s, m, #[Value.ref b], below, meth, c, D, jid, cs, (fun q : Nat => s.heap.size ≤ q), S) 0 0 (lw_Z below #[Value.ref b] s) 0 [jR b false, jU, jU, jU, jU, jU, jU, jU, jU, jU, jU, jU, jU, jU, jU, jU, jU, jU, jU, jU, jU] [] [] := by
    refine jg_aload_n hm.1 (i := 0) rfl rfl dL_law_0 ?_
    refine jt_callS (wr := []) (as := [jR b false]) (st := []) hm (t_organ (xs := (b, L, xs)) (o := none) hL) rfl ⟨eX.symm, hq⟩ jTa_none (by omega) (Nat.le_of_ble_eq_true rfl) (Nat.le_of_ble_eq_true rfl) jw_414 jw_415 jw_46 jw_416 jn_L_organ rfl rfl (Nat.le_of_ble_eq_true rfl) rfl dL_law_1 ?_
    rintro _ _ ⟨t, w, D1, R1, len, rfl, rfl, hO⟩
    refine jg_astore_n hm.1 (i := 1) rfl (Nat.le_of_ble_eq_true rfl) rfl dL_law_4 ?_
    have hmW : jok (p, l, e, room_1, s, m, #[Value.ref b], below, meth, c, D, (kad t 0 0 q98 S), cs, (fun q : Nat => s.heap.size ≤ q), S) ML_law 9 400 710000 := ⟨hx, hb, hml, hown, hr, hlocks, hK, ⟨hSF, kad_S hq98 (fun x hx => by rw [eN] at hx; cases hx)⟩, fun q hq => hq, Nat.le_trans (by decide) jrm1, Nat.le_trans (by decide) jrm2, Nat.le_trans (by decide) jrm3, Nat.le_trans (by decide) jrm4⟩
    refine jg_toW (ad := kad t 0 0 q98 S) (S := S) (w := w) (ls := [jR 97 false, jR 0 false, jU, jU, jU, jU, jU, jU, jU, jU, jU, jU, jU, jU, jU, jU, jU, jU, jU, jU, jU]) (kad_Ws t 0 0 0 0 0 q98 kS0 S cs w) (jlw_same (jlw_same (jlw_drop (jlw_drop (jlw_drop (jlw_drop (jlw_drop (jlw_drop (jlw_drop (jlw_drop (jlw_drop (jlw_drop (jlw_drop (jlw_drop (jlw_drop (jlw_drop (jlw_drop (jlw_drop (jlw_drop (jlw_drop (jlw_drop jlw_nil))))))))))))))))))) (fun z => by cases z) rfl) (fun z => by cases z) (congrArg Value.ref (show b = S.2.2.2.1.1 by rw [eX]))) ?_
    refine l_law (len := len) (Q := lw_Z below #[Value.ref b] s) hmW (show S.2.2.2.1.2.1 ≤ 260 by rw [eX]; exact hL) (fun w2 H locs a hr2 hl2 => ?_) hO
    refine lv_iconst (v := 1) hx hb dL_law_681 (by decide) ?_
    refine va_forget (fun z hz => hr2.2.2.2.2 z hz) ?_
    refine W.widen (k := 600086) (n := 7301442) (Nat.le_of_ble_eq_true rfl) (Nat.le_of_ble_eq_true rfl) ?_
    exact lw_ret hx hb hr hlocks dL_law_682
  have hl := lv_entry (([jR b false] : List JV).map (jcv jid)) (n := 21) (Nat.le_of_ble_eq_true rfl)
  rw [lg_entry_eq]
  refine K s.heap [] _ (fun k q hk => by cases hk) ⟨fun i j p q hp _ _ => (by cases hp), fun k q hk => by cases hk⟩ va_S.rf ⟨hl.1, hl.2.1, fun i v hi hv => ?_⟩
  have hi9 : i < 21 := (List.getElem?_eq_some_iff.mp hi).1
  rcases (show i = 0 ∨ 1 ≤ i by omega) with rfl | h1
  · cases hi
    exact hl.2.2 (0, .ref b) List.mem_cons_self
  · rcases (show i = 1 ∨ i = 2 ∨ i = 3 ∨ i = 4 ∨ i = 5 ∨ i = 6 ∨ i = 7 ∨ i = 8 ∨ i = 9 ∨ i = 10 ∨ i = 11 ∨ i = 12 ∨ i = 13 ∨ i = 14 ∨ i = 15 ∨ i = 16 ∨ i = 17 ∨ i = 18 ∨ i = 19 ∨ i = 20 by omega) with rfl | rfl | rfl | rfl | rfl | rfl | rfl | rfl | rfl | rfl | rfl | rfl | rfl | rfl | rfl | rfl | rfl | rfl | rfl | rfl <;> (cases hi; exact absurd rfl hv)

