/-! the reference reads a line, and teaches behind the splitting -/
def jlSemi (T : JTk) (res : JLR) : JLR := match res with
  | .inl f => .inl f
  | .inr q => if T.1 q.1 = 36 then .inr (q.1 + 1, q.2) else .inl q.1
theorem r_line {T : JTk} {L : JLn} {Rc Rp Rh : JNm} {w : JW} {n : Nat} {er : JEr} {m : Nat} (h : jMJ T L Rc Rp Rh w n er m) : jSV MX11_line 47 [jR 41 false] w (jMLP T w (n + 1) (jlSemi T (jlLine T L n er))) := by
  refine jSV_of jp_X11_line rfl (Nat.le_of_ble_eq_true rfl) (fun C hm => ?_)
  have back : ∀ (w1 : JW) (res : JLR), jMLP T w n res w1 → jW C 0 0 (jQQ C 0 0 (fun v w' => v = jU ∧ jMLP T w (n + 1) (jlSemi T res) w')) 123 [jR 41 false] [] w1 := by
    intro w1 res q
    cases res with
    | inl f => exact bk_X11_line_123 hm (m_take0 (jMX.no q) _ _) (by decide) (bk_X11_line_130 hm ⟨rfl, q⟩)
    | inr p =>
      obtain ⟨hn, F1, Rc1, Rp1, Rh1, m1, h1⟩ := q
      refine bq_X11_line_123 hm (m_take h1.1 (m_isS h1.1 36 (by decide) rfl) (by decide) (by decide)) (by decide) (fun w2 q => bk_X11_line_130 hm ⟨rfl, ?_⟩)
      unfold jlSemi
      rcases q with ⟨a, hi, hf⟩ | ⟨a, hF⟩
      · simp only [if_pos a]
        exact ⟨Nat.succ_le_succ hn, F1.trans hf.LF, Rc1, Rp1, Rh1, m1, h1.mf hf hi (fun z => z)⟩
      · simp only [if_neg a]
        exact (hF.X h1.k).pre F1
  unfold jlLine
  refine bk_X11_line_0 hm (m_isK h.1 0 (by decide)) (by decide) ?_
  by_cases a0 : T.1 n = 0
  · rw [if_pos a0, if_pos a0]
    exact bk_X11_line_6 hm (fun z => absurd z (by decide)) (fun _ => bq_X11_line_9 hm (r_readCave h a0) (by decide) (fun w1 q => bk_X11_line_13 hm (back w1 _ q)))
  rw [if_neg a0, if_neg a0]
  refine bk_X11_line_6 hm (fun _ => bk_X11_line_16 hm (m_isK h.1 3 (by decide)) (by decide) ?_) (fun z => absurd rfl z)
  by_cases a1 : T.1 n = 3
  · rw [if_pos a1, if_pos a1]
    exact bk_X11_line_22 hm (fun z => absurd z (by decide)) (fun _ => bq_X11_line_25 hm (r_readPipe h a1) (by decide) (fun w1 q => bk_X11_line_29 hm (back w1 _ q)))
  rw [if_neg a1, if_neg a1]
  refine bk_X11_line_22 hm (fun _ => bk_X11_line_32 hm (m_isK h.1 7 (by decide)) (by decide) ?_) (fun z => absurd rfl z)
  by_cases a2 : T.1 n = 7
  · rw [if_pos a2, if_pos a2]
    exact bk_X11_line_39 hm (fun z => absurd z (by decide)) (fun _ => bq_X11_line_42 hm (r_readSwell h a2) (by decide) (fun w1 q => bk_X11_line_46 hm (back w1 _ q)))
  rw [if_neg a2, if_neg a2]
  refine bk_X11_line_39 hm (fun _ => bk_X11_line_49 hm (m_isK h.1 11 (by decide)) (by decide) ?_) (fun z => absurd rfl z)
  by_cases a3 : T.1 n = 11
  · rw [if_pos a3, if_pos a3]
    exact bk_X11_line_56 hm (fun z => absurd z (by decide)) (fun _ => bq_X11_line_59 hm (r_readSilence h a3) (by decide) (fun w1 q => bk_X11_line_63 hm (back w1 _ q)))
  rw [if_neg a3, if_neg a3]
  refine bk_X11_line_56 hm (fun _ => bk_X11_line_66 hm (m_isK h.1 13 (by decide)) (by decide) ?_) (fun z => absurd rfl z)
  by_cases a4 : T.1 n = 13
  · rw [if_pos a4, if_pos a4]
    exact bk_X11_line_73 hm (fun z => absurd z (by decide)) (fun _ => bq_X11_line_76 hm (r_readChord h a4) (by decide) (fun w1 q => bk_X11_line_80 hm (back w1 _ q)))
  rw [if_neg a4, if_neg a4]
  obtain ⟨ea, va⟩ := h.1.at
  have ord : (T.1 n = 15 ∨ T.1 n = 16) → jW C 0 0 (jQQ C 0 0 (fun v w' => v = jU ∧ jMLP T w (n + 1) (jlSemi T (if T.1 n = 15 then jlShut T L n er else jlClean T L n er)) w')) 103 [jR 41 false] [] w := by
    intro a
    have ev : w.1 44 false n = T.1 n := ((jkv_key h.1.tok (k := T.1 n) (by rcases a with z | z <;> rw [z] <;> decide)).mpr rfl).2
    exact bq_X11_line_103 hm va (by rw [ea, ev]; exact r_order h a) (by decide) (fun w1 q => bk_X11_line_116 hm (back w1 _ q))
  refine bk_X11_line_73 hm (fun _ => bk_X11_line_83 hm (m_isK h.1 15 (by decide)) (by decide) ?_) (fun z => absurd rfl z)
  by_cases a5 : T.1 n = 15
  · have o := ord (Or.inl a5)
    rw [if_pos a5] at o
    rw [if_pos a5, if_pos a5]
    exact bk_X11_line_90 hm (fun _ => o) (fun z => absurd z (by decide))
  have ord2 := fun a6 => ord (Or.inr a6)
  rw [if_neg a5] at ord2
  rw [if_neg a5, if_neg a5]
  refine bk_X11_line_90 hm (fun z => absurd rfl z) (fun _ => bk_X11_line_93 hm (m_isK h.1 16 (by decide)) (by decide) ?_)
  by_cases a6 : T.1 n = 16
  · rw [if_pos a6, if_pos a6]
    exact bk_X11_line_100 hm (fun z => absurd z (by decide)) (fun _ => ord2 a6)
  rw [if_neg a6, if_neg a6]
  exact bk_X11_line_100 hm (fun _ => bk_X11_line_119 hm (m_fail h.1).1 (by decide) (back _ _ ((m_fail h.1).2.X h.k))) (fun z => absurd rfl z)
theorem jlAll_semi {T : JTk} {k n : Nat} {er : JEr} {L : JLn} : jlAll T (k + 1) n er L = if T.1 n = 47 then .inr (er, L) else match jlSemi T (jlLine T L n er) with
    | .inl f => .inl f
    | .inr q => jlAll T k q.1 q.2.1 q.2.2 := by
  rw [jlAll]
  by_cases z : T.1 n = 47
  · rw [if_pos z, if_pos z]
  · rw [if_neg z, if_neg z]
    unfold jlSemi
    cases jlLine T L n er with
    | inl f => rfl
    | inr q =>
      show (if T.1 q.1 = 36 then jlAll T k (q.1 + 1) q.2.1 q.2.2 else Sum.inl q.1) = match (if T.1 q.1 = 36 then (Sum.inr (q.1 + 1, q.2) : JLR) else Sum.inl q.1) with
        | .inl f => .inl f
        | .inr q => jlAll T k q.1 q.2.1 q.2.2
      by_cases y : T.1 q.1 = 36
      · rw [if_pos y, if_pos y]
      · rw [if_neg y, if_neg y]
theorem jlLine_48 {T : JTk} {n : Nat} {er : JEr} {L : JLn} (h : T.1 n = 48) : jlLine T L n er = .inl n := by
  unfold jlLine
  rw [h]
  rfl
