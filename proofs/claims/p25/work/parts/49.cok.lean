/-! the class's small questions and changes, behind their tests of the arguments -/
theorem c_isNoPipe {w : JW} {D : JD} (hO : jOrg w (w.2.2 0 6) D) (hW : jWF D) (x : Int32) : jF MX9_isNoPipe 0 [jR 0 false, jI x] w (jI (if 0 ≤ x ∧ x < nI (D.1 1) then 0 else 1)) w := by
  refine jF_of jp_X9_isNoPipe rfl (Nat.le_of_ble_eq_true rfl) (fun C hm => ?_)
  have e : w.1 20 (w.2.2 0 6) 10 = nI (D.1 1) := hO.1.2.1
  refine bk_X9_isNoPipe_0 hm (fun z => bk_X9_isNoPipe_15 hm (bk_X9_isNoPipe_20 hm rfl ⟨?_, rfl⟩)) (fun z => bk_X9_isNoPipe_4 hm (fun z2 => bk_X9_isNoPipe_19 hm (bk_X9_isNoPipe_20 hm rfl ⟨?_, rfl⟩)) (fun z2 => bk_X9_isNoPipe_15 hm (bk_X9_isNoPipe_20 hm rfl ⟨?_, rfl⟩)))
  · rw [if_neg (fun q => i32_not_lt.mpr q.1 z)]
  · rw [if_pos ⟨i32_not_lt.mp z, by rw [← e]; exact z2⟩]
  · rw [if_neg (fun q => z2 (by rw [e]; exact q.2))]
theorem c_setTide_ok {w : JW} {y : Int32} {C : JC} {d : Nat} (hm : jok C MX9_setTide d 0 0) : jW C 0 0 (jQQ C 0 0 (fun v w2 => v = jI (w.1 14 false 6) ∧ w2 = jset w 14 false 6 y)) 20 [jR 0 false, jI y, jU] [] w := bk_X9_setTide_20 hm ⟨rfl, rfl⟩
theorem c_clean_ok {w : JW} {C : JC} (hm : jok C MX9_clean 1 0 0) {p : Nat} (hp : p < 12) : jW C 0 0 (jQQ C 0 0 (fun v w2 => v = jI (w.1 16 false p) ∧ w2 = jset w 16 false p 0)) 18 [jR 0 false, jI (nI p), jU] [] w := by
  exact bk_X9_clean_18 hm (c_atN (ja_16 false) w hp) (by decide) (bk_X9_clean_29 hm (c_putN (ja_16 false) w (j := p) 0 hp) (by decide) (bk_X9_clean_42 hm ⟨rfl, rfl⟩))
theorem c_cut_ok {w : JW} {C : JC} (hm : jok C MX9_cut 1 0 0) {p : Nat} (hp : p < 12) (c l : Int32) : jW C 0 0 (jQQ C 0 0 (fun v w2 => v = jI (l - c) ∧ w2 = jset w 24 (w.2.2 0 6) p (l - c))) 50 [jR 0 false, jI (nI p), jI c, jI l] [] w := by
  exact bk_X9_cut_50 hm (c_putN (ja_24 _) w (j := p) (l - c) hp) (by decide) (bk_X9_cut_64 hm ⟨rfl, rfl⟩)
theorem c_note_ok {w : JW} {D : JD} {C : JC} (hm : jok C MX9_note 2 0 0) (hO : jOrg w (w.2.2 0 6) D) (hW : jWF D) {c q : Nat} (hc : c < D.1 2) (hq : q < D.1 (10 + c)) : jW C 0 0 (jQQ C 0 0 (fun v w2 => v = jI (nI (D.1 (20 + (6 * c + q)))) ∧ w2 = w)) 41 [jR 0 false, jI (nI c), jI (nI q)] [] w := by
  have h6 := hW.1.2.2.1
  have s6 := (hW.2.2.2.1 c hc).2.1
  refine bk_X9_note_41 hm (c_noteAt w _ (c := c) (p := q) (by omega) (by omega)) (by decide) (bk_X9_note_50 hm ⟨congrArg jI ?_, rfl⟩)
  exact (hO.2.2.2.1 c hc).2 q hq
theorem c_apart_ok {w : JW} {D : JD} {C : JC} (hm : jok C MX9_apart 1 0 0) (hO : jOrg w (w.2.2 0 6) D) (hW : jWF D) {p q : Nat} (hp : p < D.1 1) (hq : q < D.1 1) : jW C 0 0 (jQQ C 0 0 (fun v w2 => v = jI (nI (jEu 40 (D.1 (140 + p)) (D.1 (140 + q)))) ∧ w2 = w)) 26 [jR 0 false, jI (nI p), jI (nI q)] [] w := by
  have h12 := hW.1.2.1
  obtain ⟨-, a1, a4⟩ := hW.2.2.1 p hp
  obtain ⟨-, b1, b4⟩ := hW.2.2.1 q hq
  refine bk_X9_apart_26 hm (c_atN (ja_24 _) w (by omega)) (by decide) (bk_X9_apart_37 hm (c_atN (ja_24 _) w (by omega)) (by decide) ?_)
  rw [(hO.2.2.1 p hp).2.1, (hO.2.2.1 q hq).2.1]
  exact bk_X9_apart_48 hm (c_steps w a1 b1 a4 b4) (by decide) (bk_X9_apart_51 hm ⟨rfl, rfl⟩)
theorem c_pipe_ok {w : JW} {D : JD} {R f : Nat → Int32} {x : Int32} {C : JC} (hm : jok C MX9_pipe 3 0 0) (hO : jOrg w (w.2.2 0 6) D) (hW : jWF D) {p : Nat} (hp : p < D.1 1) (y : Int32) : jW C 0 0 (jQQ C 0 0 (fun v w2 => v = jI (jPipe D R p y) ∧ w2 = jgm w false R f x)) 28 [jR 0 false, jI (nI p), jI y] [] (jgm w false R f x) := by
  exact bk_X9_pipe_28 hm (c_pipeFact hO hW hp y) (by decide) (bk_X9_pipe_34 hm ⟨rfl, rfl⟩)
theorem c_chord_ok {w : JW} {D : JD} {R f : Nat → Int32} {x : Int32} {C : JC} (hm : jok C MX9_chord 4 0 0) (hO : jOrg w (w.2.2 0 6) D) (hW : jWF D) {c : Nat} (hc : c < D.1 2) (y : Int32) : jW C 0 0 (jQQ C 0 0 (fun v w2 => v = jI (jChd D R c y) ∧ w2 = jgm w false R f x)) 34 [jR 0 false, jI (nI c), jI y] [] (jgm w false R f x) := by
  exact bk_X9_chord_34 hm (c_chordFact hO hW hc y) (by decide) (bk_X9_chord_40 hm ⟨rfl, rfl⟩)
theorem c_cave_ok {w : JW} {D : JD} {R f : Nat → Int32} {x : Int32} {C : JC} (hm : jok C MX9_cave 6 0 0) (hO : jOrg w (w.2.2 0 6) D) (hW : jWF D) {c : Nat} (hc : c < D.1 0) (y : Int32) : jW C 0 0 (jQQ C 0 0 (fun v w2 => ∃ r, v = jI r ∧ (r = jCave D R c y ∧ ∃ f x, w2 = jgm w false R f x))) 34 [jR 0 false, jI (nI c), jI y] [] (jgm w false R f x) := by
  refine bq_X9_cave_34 hm (c_caveFact hO hW hc y) (by decide) (fun r w2 hp => ?_)
  exact bk_X9_cave_40 hm ⟨_, rfl, hp⟩
theorem c_count_ok {w : JW} {D : JD} {R f : Nat → Int32} {x : Int32} {C : JC} (hm : jok C MX9_count 5 0 0) (hO : jOrg w (w.2.2 0 6) D) (hW : jWF D) (y : Int32) : jW C 0 0 (jQQ C 0 0 (fun v w2 => v = jI (jCnt D R (w.1 1 false 1) y) ∧ w2 = jgm w false R f x)) 20 [jR 0 false, jI y] [] (jgm w false R f x) := by
  exact bk_X9_count_20 hm (c_countFact hO hW y) (by decide) (bk_X9_count_25 hm ⟨rfl, rfl⟩)
