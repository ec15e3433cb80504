/-! the reference reads a value -/
theorem jYP.up {T : JTk} {Rc Rp : JNm} {fc fp : Nat → Int32} {w w1 w3 : JW} {n n1 x : Nat} {er : JEr} {m : Nat} {t : Bool} {res : JXR} {r : Int32} (hf : jMF w w1) (hn : n ≤ n1) (h : jYP T Rc Rp fc fp w1 n1 (x + 1) er m t res r w3) : jYP T Rc Rp fc fp w n x er m t res r (jset w3 41 false 14 (w3.1 41 false 14 - 1)) := by
  cases res with
  | inl f => exact (jFl.pre hf h hn).mf jMF_14.1 jMF_14.2
  | inr q =>
    obtain ⟨m1, q1⟩ := h
    exact ⟨m1, (q1.pre hf hn).post jMF_14.1 (Nat.le_refl _) q1.st.up⟩
theorem m_inner {T : JTk} {Rc Rp : JNm} {fc fp : Nat → Int32} {d x : Nat} {deep : Option JEx} (hd : 2 ≤ d) (hx : x ≤ 8) (hdeep : (deep = none ∧ x = 8) ∨ ∃ p, deep = some p ∧ x < 8 ∧ jYC MX11_one d (x + 1) false T Rc Rp fc fp p) {w : JW} {n : Nat} {er : JEr} {m : Nat} (h : jMI T Rc Rp fc fp w n x er m) (a : T.1 n = 32) {res : JXR} (hres : (deep = none → res = .inl n) ∧ ∀ p, deep = some p → res = jxShut T (jxSum T p) 33 (n + 1) er) :
    jSI MX11_inner (d + 3) [jR 41 false] w (jYP T Rc Rp fc fp w n x er m false res) := by
  refine jSI_of jp_X11_inner rfl (Nat.le_of_ble_eq_true rfl) (fun C hm => ?_)
  have hlt := h.lt (by rw [a]; decide) (by rw [a]; decide)
  refine bq_X11_inner_0 hm (m_deeper h hx) (by omega) (fun w1 q => ?_)
  rcases q with ⟨hx8, h1, f1⟩ | ⟨hx8, hF⟩
  · rcases hdeep with ⟨-, z⟩ | ⟨p, rfl, -, hp⟩
    · omega
    have h2 := h1.next hlt
    refine bq_X11_inner_4 hm (m_sum (m_product hp hd) (by omega) _ (n + 1) er m h2) (by omega) (fun r w3 q3 => ?_)
    refine bq_X11_inner_18 hm (m_shut q3 (k := 33) rfl (by decide) (by decide) (by decide)) (by omega) (fun w4 q4 => bk_X11_inner_26 hm ⟨r, rfl, ?_⟩)
    rw [hres.2 p rfl]
    exact jYP.up (f1.trans jMF_13.1) (Nat.le_succ n) q4
  · rcases hdeep with ⟨rfl, z⟩ | ⟨p, rfl, z, hp⟩
    · rw [hres.1 rfl]
      have hF1 := hF.mf jMF_13.1 (jMF_13 (x := w1.1 41 false 13 + 1)).2
      refine bk_X11_inner_4 hm (m_sum0' _ hF1.no) (by omega) (bk_X11_inner_18 hm (m_take0 hF1.no _ _) (by omega) (bk_X11_inner_26 hm ⟨0, rfl, ?_⟩))
      exact (hF1.mf jMF_14.1 jMF_14.2).le (Nat.le_succ n)
    · omega
theorem m_both {T : JTk} {Rc Rp : JNm} {fc fp : Nat → Int32} {d x : Nat} {deep : Option JEx} (hd : 2 ≤ d) (hx : x ≤ 8) (hdeep : (deep = none ∧ x = 8) ∨ ∃ p, deep = some p ∧ x < 8 ∧ jYC MX11_one d (x + 1) false T Rc Rp fc fp p) {w : JW} {n : Nat} {er : JEr} {m : Nat} (h : jMI T Rc Rp fc fp w n x er m) (a : T.1 n = 28 ∨ T.1 n = 29) :
    jSI MX11_both (d + 3) [jR 41 false, jI (T.1 n)] w (jYP T Rc Rp fc fp w n x er m false (jxExtB T deep n er)) := by
  refine jSI_of jp_X11_both rfl (Nat.le_of_ble_eq_true rfl) (fun C hm => ?_)
  unfold jxExtB
  have hl := h.le
  have hlt := h.lt (by rcases a with z | z <;> rw [z] <;> decide) (by rcases a with z | z <;> rw [z] <;> decide)
  have h1 := h.next hlt
  have f1 : jMF w (jset w 41 false 13 (w.1 41 false 13 + 1)) := jMF_13.1
  revert h1 f1
  refine fun h1 f1 => bk_X11_both_0 hm (m_isS h1 32 (by decide) rfl) (by omega) ?_
  revert h1 f1
  generalize jset w 41 false 13 (w.1 41 false 13 + 1) = w1
  intro h1 f1
  by_cases e : T.1 (n + 1) = 32
  · rw [if_pos e]
    refine bk_X11_both_17 hm (fun _ => ?_) (fun z => absurd z (by decide))
    have hlt1 := h1.lt (by rw [e]; decide) (by rw [e]; decide)
    refine bq_X11_both_26 hm (m_deeper h1 hx) (by omega) (fun w2 q => ?_)
    rcases q with ⟨hx8, h2, f2⟩ | ⟨hx8, hF⟩
    · rcases hdeep with ⟨-, z⟩ | ⟨p, rfl, -, hp⟩
      · omega
      show jW C 0 0 (jQQ C 0 0 (fun v w' => ∃ r, v = jI r ∧ jYP T Rc Rp fc fp w n x er m false (if T.1 (n + 1) = 32 then _ else _) r w')) _ _ _ _
      rw [if_pos e]
      have hsum := m_sum (m_product hp hd) (Nat.le_succ_of_le hd)
      have h3 := h2.next hlt1
      have f3 : jMF w (jset w2 41 false 13 (w2.1 41 false 13 + 1)) := (f1.trans f2).trans jMF_13.1
      refine bq_X11_both_30 hm (hsum _ (n + 1 + 1) er m h3) (by omega) (fun r w3 q3 => ?_)
      refine bq_X11_both_44 hm (m_shut q3 (k := 37) rfl (by decide) (by decide) (by decide)) (by omega) (fun w4 q4 => ?_)
      unfold jxTwo
      revert q4
      show jYP T Rc Rp fc fp (jset w2 41 false 13 (w2.1 41 false 13 + 1)) (n + 1 + 1) (x + 1) er m false (jxShut T (jxSum T p) 37 (n + 2) er) r w4 → _
      cases hr : jxShut T (jxSum T p) 37 (n + 2) er with
      | inl f =>
        intro hF
        have hF2 := jFl.pre f3 hF (Nat.le_refl _)
        refine bk_X11_both_52 hm (m_sum0' _ hF.no) (by omega) (bk_X11_both_56 hm (m_take0 hF.no _ _) (by omega) ?_)
        have hF5 := hF2.mf jMF_14.1 (jMF_14 (x := w4.1 41 false 14 - 1)).2
        obtain ⟨m2, e2, l2, hF6⟩ := hF5.node (n := n) (by omega) (by omega)
        have eb : (jset w4 41 false 14 (w4.1 41 false 14 - 1)).2.2 41 9 = w.2.2 41 9 := hF5.o
        refine bk_X11_both_64 hm (by rw [eb]; exact m_node e2 l2 _ _ _) (by omega) (bk_X11_both_84 hm ⟨_, rfl, hF6 _ _ _⟩)
      | inr q =>
        rintro ⟨m1, q1⟩
        refine bq_X11_both_52 hm (hsum w4 q.1 q.2.1 m1 q1.st) (by omega) (fun r2 w5 q5 => ?_)
        refine bq_X11_both_56 hm (m_shut q5 (k := 33) rfl (by decide) (by decide) (by decide)) (by omega) (fun w6 q6 => ?_)
        revert q6
        show jYP T Rc Rp fc fp w4 q.1 (x + 1) q.2.1 m1 false (jxShut T (jxSum T p) 33 q.1 q.2.1) r2 w6 → _
        simp only
        cases hr2 : jxShut T (jxSum T p) 33 q.1 q.2.1 with
        | inl f =>
          intro hF
          have hF2 := jFl.pre f3 ((jFl.two q1 (jMF.refl w4) (Nat.le_refl _) hF).le (n := n + 1 + 1) (by omega)) (Nat.le_refl _)
          have hF5 := hF2.mf jMF_14.1 (jMF_14 (x := w6.1 41 false 14 - 1)).2
          obtain ⟨m2, e2, l2, hF6⟩ := hF5.node (n := n) (by omega) (by omega)
          have eb : (jset w6 41 false 14 (w6.1 41 false 14 - 1)).2.2 41 9 = w.2.2 41 9 := hF5.o
          refine bk_X11_both_64 hm (by rw [eb]; exact m_node e2 l2 _ _ _) (by omega) (bk_X11_both_84 hm ⟨_, rfl, hF6 _ _ _⟩)
        | inr p2 =>
          rintro ⟨m2, q2⟩
          have q7 := q2.post (jMF_14 (x := w6.1 41 false 14 - 1)).1 (Nat.le_refl _) q2.st.up
          obtain ⟨e2, l2, y⟩ := q1.two (jMF.refl w4) q7 (n := n) (by omega) (by omega) (Nat.le_refl _) (by omega) (o := T.1 n) (t2 := false) (Or.inl ⟨rfl, rfl, by rcases a with z | z <;> rw [z] <;> decide⟩)
          rw [show jmap (T.1 n) = T.1 n by rcases a with z | z <;> rw [z] <;> decide] at y
          exact bk_X11_both_64 hm (m_node e2 l2 _ _ _) (by omega) (bk_X11_both_84 hm ⟨_, rfl, _, y.pre f3 (Nat.le_refl n)⟩)
    · have hF2 := jFl.pre f1 hF (Nat.le_refl _)
      have hF3 := hF2.mf jMF_13.1 (jMF_13 (x := w2.1 41 false 13 + 1)).2
      have res : jW C 0 0 (jQQ C 0 0 (fun v w' => ∃ r, v = jI r ∧ jYP T Rc Rp fc fp w n x er m false (.inl (n + 1)) r w')) 30 [jR 41 false, jI (T.1 n), jU, jU] [] w2 := by
        refine bk_X11_both_30 hm (m_sum0' _ hF3.no) (by omega) (bk_X11_both_44 hm (m_take0 hF3.no _ _) (by omega) (bk_X11_both_52 hm (m_sum0' _ hF3.no) (by omega) (bk_X11_both_56 hm (m_take0 hF3.no _ _) (by omega) ?_)))
        have hF5 := hF3.mf jMF_14.1 (jMF_14 (x := (jset w2 41 false 13 (w2.1 41 false 13 + 1)).1 41 false 14 - 1)).2
        obtain ⟨m2, e2, l2, hF6⟩ := hF5.node (n := n) (by omega) (by omega)
        have eb : (jset (jset w2 41 false 13 (w2.1 41 false 13 + 1)) 41 false 14 ((jset w2 41 false 13 (w2.1 41 false 13 + 1)).1 41 false 14 - 1)).2.2 41 9 = w.2.2 41 9 := hF5.o
        exact bk_X11_both_64 hm (by rw [eb]; exact m_node e2 l2 _ _ _) (by omega) (bk_X11_both_84 hm ⟨_, rfl, hF6 _ _ _⟩)
      rcases hdeep with ⟨rfl, z⟩ | ⟨p, rfl, z, hp⟩
      · exact res
      · omega
  · rw [if_neg e]
    refine bk_X11_both_17 hm (fun z => absurd rfl z) (fun _ => bk_X11_both_20 hm (m_fail h1).1 (by omega) (bk_X11_both_24 hm ⟨0, rfl, ?_⟩))
    have : jFl T w n m (n + 1) (jset w1 41 false 15 (nI (n + 1))) := jFl.pre f1 (m_fail h1).2 (Nat.le_succ n)
    cases deep with
    | none => exact this
    | some p =>
      show jYP T Rc Rp fc fp w n x er m false (if T.1 (n + 1) = 32 then _ else _) 0 _
      rw [if_neg e]
      exact this
