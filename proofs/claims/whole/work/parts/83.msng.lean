/-! the reference reads single tests, whole tests -/
theorem m_single0 : jY0 MX11_single 4 := by
  intro w h
  refine jF_of jp_X11_single rfl (Nat.le_of_ble_eq_true rfl) (fun C hm => ?_)
  refine bk_X11_single_0 hm (m_is0 h _ _) (by decide) (bk_X11_single_7 hm (fun _ => bk_X11_single_51 hm (m_is0 h _ _) (by decide) (bk_X11_single_58 hm (fun _ => bk_X11_single_99 hm (m_is0 h _ _) (by decide) (bk_X11_single_106 hm (fun _ => ?_) (fun z => absurd rfl z))) (fun z => absurd rfl z))) (fun z => absurd rfl z))
  refine bk_X11_single_134 hm (m_sum0' _ h) (by decide) (bk_X11_single_138 hm (m_is0 h _ _) (by decide) (bk_X11_single_146 hm (fun z => absurd rfl z) (fun _ => bk_X11_single_149 hm (m_is0 h _ _) (by decide) (bk_X11_single_156 hm (fun z => absurd rfl z) (fun _ => bk_X11_single_159 hm (m_is0 h _ _) (by decide) (bk_X11_single_166 hm (fun z => absurd rfl z) (fun _ => bk_X11_single_169 hm (m_is0 h _ _) (by decide) (bk_X11_single_176 hm (fun z => absurd rfl z) (fun _ => bk_X11_single_179 hm (m_is0 h _ _) (by decide) (bk_X11_single_186 hm (fun z => absurd rfl z) (fun _ => ?_)))))))))))
  exact bk_X11_single_189 hm (m_fail0 h) (by decide) (bk_X11_single_193 hm ⟨rfl, rfl⟩)
theorem m_pair0' : jY0 MX11_pair 5 := m_pair0 m_single0 (by decide)
theorem m_test0' : jY0 MX11_test 6 := m_test0 m_pair0' (by decide)
/-- two pieces and a comparison -/
theorem m_sngB {T : JTk} {Rc Rp : JNm} {fc fp : Nat → Int32} {d x : Nat} {sum : JEx} {deep : Option JEx} (hd : 6 ≤ d) (hx : x ≤ 8) (hsum : jYC MX11_sum d x false T Rc Rp fc fp sum) (hdeep : (deep = none ∧ x = 8) ∨ ∃ p, deep = some p ∧ x < 8 ∧ ∃ d2, d2 ≤ d ∧ 2 ≤ d2 ∧ jYC MX11_single d2 (x + 1) true T Rc Rp fc fp p) : jYC MX11_single (d + 3) x true T Rc Rp fc fp (jxSngB T fp sum deep) := by
  intro w n er m h
  refine jSI_of jp_X11_single rfl (Nat.le_of_ble_eq_true rfl) (fun C hm => ?_)
  have hl := h.le
  have nx := fun (a : n < T.2.2.2) => h.next a
  have f1 : jMF w (jset w 41 false 13 (w.1 41 false 13 + 1)) := jMF_13.1
  unfold jxSngB
  refine bk_X11_single_0 hm (m_isK h 25 (by decide)) (by omega) ?_
  by_cases a2 : T.1 n = 25
  · rw [if_pos a2, if_neg (by rw [a2]; decide), if_pos a2]
    have hlt := h.lt (by rw [a2]; decide) (by rw [a2]; decide)
    refine bk_X11_single_7 hm (fun z => absurd z (by decide)) (fun _ => bq_X11_single_10 hm (m_deeper h hx) (by omega) (fun w1 q2 => ?_))
    rcases q2 with ⟨hx8, h1, g1⟩ | ⟨hx8, hF⟩
    · rcases hdeep with ⟨-, z⟩ | ⟨p, rfl, -, d2, hd2, hd22, hp⟩
      · omega
      have h2 := h1.next hlt
      have g2 : jMF w (jset w1 41 false 13 (w1.1 41 false 13 + 1)) := g1.trans jMF_13.1
      refine bq_X11_single_14 hm (hp _ (n + 1) er m h2) (by omega) (fun r w3 q3 => ?_)
      unfold jxMap
      revert q3
      simp only
      cases hr : p (n + 1) er with
      | inl f =>
        intro hF
        have hF2 := jFl.pre g2 hF (Nat.le_refl _)
        obtain ⟨m2, e2, l2, hF6⟩ := hF2.node (n := n) (by omega) (by omega)
        rw [show (jset w1 41 false 13 (w1.1 41 false 13 + 1)).2.2 41 9 = w.2.2 41 9 from g2.o]
        exact bk_X11_single_34 hm (m_node e2 l2 _ _ _) (by omega) (bk_X11_single_38 hm ⟨_, rfl, (hF6 _ _ _).mf jMF_14.1 jMF_14.2⟩)
      | inr q3 =>
        rintro ⟨m2, y3⟩
        obtain ⟨e2, l2, y⟩ := y3.un (n := n) (Nat.lt_succ_self n) (by omega) (o := 25) (g := fun x => 1 - x) (fun v h401 hv => jNd_not h401 hv)
        rw [show (jset w1 41 false 13 (w1.1 41 false 13 + 1)).2.2 41 9 = w3.2.2 41 9 from y3.o.symm]
        refine bk_X11_single_34 hm (m_node e2 l2 _ _ _) (by omega) (bk_X11_single_38 hm ⟨_, rfl, ?_⟩)
        exact jYP.up g2 (Nat.le_refl n) (res := .inr (q3.1, q3.2.1, fun R => 1 - (q3.2.2 R))) ⟨_, y⟩
    · rcases hdeep with ⟨rfl, z⟩ | ⟨p, rfl, z, hp⟩
      · have hF1 := hF.mf jMF_13.1 (jMF_13 (x := w1.1 41 false 13 + 1)).2
        refine bk_X11_single_14 hm (m_single0 _ hF1.no) (by omega) ?_
        obtain ⟨m2, e2, l2, hF6⟩ := hF1.node (n := n) (by omega) (by omega)
        rw [show (jset w1 41 false 13 (w1.1 41 false 13 + 1)).2.2 41 9 = w.2.2 41 9 from hF1.o]
        exact bk_X11_single_34 hm (m_node e2 l2 _ _ _) (by omega) (bk_X11_single_38 hm ⟨_, rfl, (hF6 _ _ _).mf jMF_14.1 jMF_14.2⟩)
      · omega
  rw [if_neg a2, if_neg a2]
  refine bk_X11_single_7 hm (fun _ => bk_X11_single_51 hm (m_isS h 34 (by decide) rfl) (by omega) ?_) (fun z => absurd rfl z)
  by_cases a3 : T.1 n = 34
  · rw [if_pos a3, if_neg (by rw [a3]; decide), if_pos a3]
    have hlt := h.lt (by rw [a3]; decide) (by rw [a3]; decide)
    refine bk_X11_single_58 hm (fun z => absurd z (by decide)) (fun _ => bq_X11_single_61 hm (m_deeper h hx) (by omega) (fun w1 q2 => ?_))
    rcases q2 with ⟨hx8, h1, g1⟩ | ⟨hx8, hF⟩
    · rcases hdeep with ⟨-, z⟩ | ⟨p, rfl, -, d2, hd2, hd22, hp⟩
      · omega
      have h2 := h1.next hlt
      refine bq_X11_single_65 hm (m_test (m_pair hp hd22) (by omega) _ (n + 1) er m h2) (by omega) (fun r w3 q3 => ?_)
      refine bq_X11_single_79 hm (m_shut q3 (k := 35) rfl (by decide) (by decide) (by decide)) (by omega) (fun w4 q4 => bk_X11_single_87 hm ⟨r, rfl, ?_⟩)
      exact jYP.up (g1.trans jMF_13.1) (Nat.le_succ n) q4
    · rcases hdeep with ⟨rfl, z⟩ | ⟨p, rfl, z, hp⟩
      · have hF1 := hF.mf jMF_13.1 (jMF_13 (x := w1.1 41 false 13 + 1)).2
        refine bk_X11_single_65 hm (m_test0' _ hF1.no) (by omega) (bk_X11_single_79 hm (m_take0 hF1.no _ _) (by omega) (bk_X11_single_87 hm ⟨0, rfl, ?_⟩))
        exact (hF1.mf jMF_14.1 jMF_14.2).le (Nat.le_succ n)
      · omega
  rw [if_neg a3, if_neg a3]
  refine bk_X11_single_58 hm (fun _ => bk_X11_single_99 hm (m_isK h 24 (by decide)) (by omega) ?_) (fun z => absurd rfl z)
  by_cases a1 : T.1 n = 24
  · rw [if_pos a1, if_pos a1]
    have hlt := h.lt (by rw [a1]; decide) (by rw [a1]; decide)
    refine bk_X11_single_106 hm (fun z => absurd z (by decide)) (fun _ => bq_X11_single_109 hm (m_knownPipe (nx hlt)) (by omega) (fun r w2 q2 => ?_))
    unfold jxNamed
    rcases q2 with ⟨z, h2, f2, hr⟩ | ⟨z, hF⟩
    · rw [if_pos z]
      obtain ⟨e2, l2, y⟩ := m_leaf (t := true) (np := Rp.2) 24 h f1 h2 f2 hr ⟨Rp, fun z => (h.2.2.2.2.2.2 z).2, h.2.2.2.2.2.1.1, rfl⟩ (fun k hk => Or.inr ⟨rfl, rfl, k, hk, rfl⟩)
      exact bk_X11_single_129 hm (m_node e2 l2 _ _ _) (by omega) (bk_X11_single_133 hm ⟨_, rfl, _, y⟩)
    · rw [if_neg z]
      have hF2 := jFl.pre f1 hF (Nat.le_refl _)
      obtain ⟨m2, e2, l2, hF6⟩ := hF2.node (n := n) (by omega) (by omega)
      exact bk_X11_single_129 hm (m_node e2 l2 _ _ _) (by omega) (bk_X11_single_133 hm ⟨_, rfl, hF6 _ _ _⟩)
  rw [if_neg a1, if_neg a1]
  refine bk_X11_single_106 hm (fun _ => bq_X11_single_134 hm (hsum w n er m h) (by omega) (fun r w1 q1 => ?_)) (fun z => absurd rfl z)
  unfold jxCmp
  revert q1
  cases hr : sum n er with
  | inl f =>
    intro hF
    have h0 := hF.no
    refine bk_X11_single_138 hm (m_is0 h0 _ _) (by omega) (bk_X11_single_146 hm (fun z => absurd rfl z) (fun _ => bk_X11_single_149 hm (m_is0 h0 _ _) (by omega) (bk_X11_single_156 hm (fun z => absurd rfl z) (fun _ => bk_X11_single_159 hm (m_is0 h0 _ _) (by omega) (bk_X11_single_166 hm (fun z => absurd rfl z) (fun _ => bk_X11_single_169 hm (m_is0 h0 _ _) (by omega) (bk_X11_single_176 hm (fun z => absurd rfl z) (fun _ => bk_X11_single_179 hm (m_is0 h0 _ _) (by omega) (bk_X11_single_186 hm (fun z => absurd rfl z) (fun _ => ?_))))))))))
    exact bk_X11_single_189 hm (m_fail0 h0) (by omega) (bk_X11_single_193 hm ⟨0, rfl, hF⟩)
  | inr q =>
    rintro ⟨m1, q1⟩
    have h1 := q1.st
    have hl1 := h1.le
    obtain ⟨ea, va⟩ := h1.at
    have inn : ∀ k : Int32, T.1 q.1 = k → (32 ≤ k ∧ k ≤ 46) → k ≠ 47 → k ≠ 48 → jmap (jsy k) = k → jsgn false true (jsy k) → jW C 0 0 (jQQ C 0 0 (fun v w' => ∃ r, v = jI r ∧ jYP T Rc Rp fc fp w n x er m true (match sum (q.1 + 1) q.2.1 with
    | .inl f => .inl f
    | .inr b => .inr (b.1, b.2.1, fun R => jjn (T.1 q.1) (q.2.2 R) (b.2.2 R))) r w')) 195 [jR 41 false, jI r, jU] [] w1 := by
      intro k z hk k1 k2 em hs
      have hlt := h1.lt (by rw [z]; exact k1) (by rw [z]; exact k2)
      have h2 := h1.next hlt
      have hf2 : jMF w1 (jset w1 41 false 13 (w1.1 41 false 13 + 1)) := jMF_13.1
      have ev : w1.1 44 false q.1 = jsy k := ((jkv_sym h1.tok hk).mpr z).2
      refine bq_X11_single_195 hm va (hsum _ (q.1 + 1) q.2.1 m1 h2) (by omega) (fun r3 w3 q3 => ?_)
      rw [ea, ev]
      revert q3
      cases hr3 : sum (q.1 + 1) q.2.1 with
      | inl f =>
        intro hF
        have hF2 := jFl.two q1 hf2 (Nat.le_succ _) hF
        obtain ⟨m2, e2, l2, hF3⟩ := hF2.node (n := n) (by omega) (by omega)
        rw [show (jset w1 41 false 13 (w1.1 41 false 13 + 1)).2.2 41 9 = w.2.2 41 9 from q1.o]
        exact bk_X11_single_225 hm (m_node e2 l2 _ _ _) (by omega) (bk_X11_single_228 hm ⟨_, rfl, hF3 _ _ _⟩)
      | inr p3 =>
        rintro ⟨m2, q3⟩
        have eb : w3.2.2 41 9 = w1.2.2 41 9 := q3.o
        obtain ⟨e2, l2, y⟩ := q1.two hf2 q3 (n := n) (by omega) (Nat.le_refl _) (Nat.le_succ _) (by omega) hs
        rw [show jmap (jsy k) = T.1 q.1 from em.trans z.symm] at y
        rw [eb] at e2 y
        exact bk_X11_single_225 hm (m_node e2 l2 _ _ _) (by omega) (bk_X11_single_228 hm ⟨_, rfl, _, y⟩)
    show jW C 0 0 (jQQ C 0 0 (fun v w' => ∃ r, v = jI r ∧ jYP T Rc Rp fc fp w n x er m true (if T.1 q.1 = 42 ∨ T.1 q.1 = 43 ∨ T.1 q.1 = 44 ∨ T.1 q.1 = 45 ∨ T.1 q.1 = 46 then _ else _) r w')) _ _ _ _
    refine bk_X11_single_138 hm (m_isS h1 42 (by decide) rfl) (by omega) ?_
    by_cases b1 : T.1 q.1 = 42
    · rw [if_pos b1, if_pos (Or.inl b1)]
      exact bk_X11_single_146 hm (fun _ => inn 42 b1 (by decide) (by decide) (by decide) (by decide) (Or.inr (Or.inr ⟨rfl, rfl, by decide⟩))) (fun z => absurd z (by decide))
    rw [if_neg b1]
    refine bk_X11_single_146 hm (fun z => absurd rfl z) (fun _ => bk_X11_single_149 hm (m_isS h1 43 (by decide) rfl) (by omega) ?_)
    by_cases b2 : T.1 q.1 = 43
    · rw [if_pos b2, if_pos (Or.inr (Or.inl b2))]
      exact bk_X11_single_156 hm (fun _ => inn 43 b2 (by decide) (by decide) (by decide) (by decide) (Or.inr (Or.inr ⟨rfl, rfl, by decide⟩))) (fun z => absurd z (by decide))
    rw [if_neg b2]
    refine bk_X11_single_156 hm (fun z => absurd rfl z) (fun _ => bk_X11_single_159 hm (m_isS h1 44 (by decide) rfl) (by omega) ?_)
    by_cases b3 : T.1 q.1 = 44
    · rw [if_pos b3, if_pos (Or.inr (Or.inr (Or.inl b3)))]
      exact bk_X11_single_166 hm (fun _ => inn 44 b3 (by decide) (by decide) (by decide) (by decide) (Or.inr (Or.inr ⟨rfl, rfl, by decide⟩))) (fun z => absurd z (by decide))
    rw [if_neg b3]
    refine bk_X11_single_166 hm (fun z => absurd rfl z) (fun _ => bk_X11_single_169 hm (m_isS h1 45 (by decide) rfl) (by omega) ?_)
    by_cases b4 : T.1 q.1 = 45
    · rw [if_pos b4, if_pos (Or.inr (Or.inr (Or.inr (Or.inl b4))))]
      exact bk_X11_single_176 hm (fun _ => inn 45 b4 (by decide) (by decide) (by decide) (by decide) (Or.inr (Or.inr ⟨rfl, rfl, by decide⟩))) (fun z => absurd z (by decide))
    rw [if_neg b4]
    refine bk_X11_single_176 hm (fun z => absurd rfl z) (fun _ => bk_X11_single_179 hm (m_isS h1 46 (by decide) rfl) (by omega) ?_)
    by_cases b5 : T.1 q.1 = 46
    · rw [if_pos b5, if_pos (Or.inr (Or.inr (Or.inr (Or.inr b5))))]
      exact bk_X11_single_186 hm (fun _ => inn 46 b5 (by decide) (by decide) (by decide) (by decide) (Or.inr (Or.inr ⟨rfl, rfl, by decide⟩))) (fun z => absurd z (by decide))
    rw [if_neg b5, if_neg]
    · refine bk_X11_single_186 hm (fun z => absurd rfl z) (fun _ => bk_X11_single_189 hm (m_fail h1).1 (by omega) (bk_X11_single_193 hm ⟨0, rfl, ?_⟩))
      exact (jFl.two q1 (jMF.refl _) (Nat.le_refl _) (m_fail h1).2).le (by omega)
    · rintro (z | z | z | z | z)
      · exact b1 z
      · exact b2 z
      · exact b3 z
      · exact b4 z
      · exact b5 z
theorem m_sng {T : JTk} {Rc Rp : JNm} {fc fp : Nat → Int32} : ∀ (r x : Nat), x + r = 8 → jYC MX11_single (11 + 4 * r) x true T Rc Rp fc fp (jxSng T fc fp r) := by
  intro r
  induction r with
  | zero =>
    intro x hx
    have := m_sngB (T := T) (Rc := Rc) (Rp := Rp) (fc := fc) (fp := fp) (d := 8) (x := x) (deep := none) (by omega) (by omega) (m_sumV (r := 0) hx) (Or.inl ⟨rfl, by omega⟩)
    exact this
  | succ r ih =>
    intro x hx
    have := m_sngB (d := 8 + 4 * (r + 1)) (x := x) (by omega) (by omega) (m_sumV hx) (Or.inr ⟨_, rfl, by omega, 11 + 4 * r, by omega, by omega, ih (x + 1) (by omega)⟩)
    rwa [show 8 + 4 * (r + 1) + 3 = 11 + 4 * (r + 1) by omega] at this
/-- a whole test -/
theorem m_wtest {T : JTk} {Rc Rp : JNm} {fc fp : Nat → Int32} : jYC MX11_test 45 0 true T Rc Rp fc fp (jxTst T (jxSng T fc fp 8)) := m_test (m_pair (m_sng 8 0 rfl) (by decide)) (by decide)
