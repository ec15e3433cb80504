/-! the reference reads rows of products, sums, tests (written by gen79.py) -/
theorem m_product0 {d : Nat} (hp : jY0 MX11_one d) (hd : 1 ≤ d) : jY0 MX11_product (d + 1) := by
  intro w h
  refine jF_of jp_X11_product rfl (Nat.le_of_ble_eq_true rfl) (fun C hm => ?_)
  refine bk_X11_product_0 hm (hp w h) (Nat.le_refl _) (bk_X11_product_4 hm (bk_X11_product_5 hm (m_is0 h _ _) (by omega) ?_))
  exact bk_X11_product_12 hm (fun z => absurd rfl z) (fun _ => bk_X11_product_15 hm (m_is0 h _ _) (by omega) (bk_X11_product_22 hm (fun _ => bk_X11_product_62 hm ⟨rfl, rfl⟩) (fun z => absurd rfl z)))
theorem m_product {T : JTk} {Rc Rp : JNm} {fc fp : Nat → Int32} {d x : Nat} {p : JEx} (hp : jYC MX11_one d x false T Rc Rp fc fp p) (hd : 2 ≤ d) : jYC MX11_product (d + 1) x false T Rc Rp fc fp (jxChain T p 40 41) := by
  intro w n er m h
  refine jSI_of jp_X11_product rfl (Nat.le_of_ble_eq_true rfl) (fun C hm => ?_)
  have hl := h.le
  have bad : ∀ (w3 : JW) (f : Nat) (r : Int32), jFl T w n m f w3 → jW C 0 0 (jQQ C 0 0 (fun v w' => ∃ r, v = jI r ∧ jYP T Rc Rp fc fp w n x er m false (.inl f) r w')) 5 [jR 41 false, jI r, jU] [] w3 := by
    intro w3 f r hF
    have h0 := hF.no
    refine bk_X11_product_5 hm (m_is0 h0 _ _) (by omega) ?_
    exact bk_X11_product_12 hm (fun z => absurd rfl z) (fun _ => bk_X11_product_15 hm (m_is0 h0 _ _) (by omega) (bk_X11_product_22 hm (fun _ => bk_X11_product_62 hm ⟨r, rfl, hF⟩) (fun z => absurd rfl z)))
  have key : ∀ (k c : Nat), c + k = 400 → ∀ (w1 : JW) (q : Nat × (JEr × ((Nat → Int32) → Int32))) (r : Int32) (m1 : Nat), c + 1 ≤ q.1 → jYPm T Rc Rp fc fp w n x er m false q r m1 w1 → jW C 0 0 (jQQ C 0 0 (fun v w' => ∃ r, v = jI r ∧ jYP T Rc Rp fc fp w n x er m false (jxLoop T p 40 41 k q.1 q.2.1 q.2.2) r w')) 5 [jR 41 false, jI r, jU] [] w1 := by
    intro k
    induction k with
    | zero =>
      intro c hc w1 q r m1 hcq q1
      have := q1.st.le
      omega
    | succ k ih =>
      intro c hc w1 q r m1 hcq q1
      have h1 := q1.st
      have hl1 := h1.le
      obtain ⟨ea, va⟩ := h1.at
      have inn : ∀ (o : Int32), (T.1 q.1 = 40 ∨ T.1 q.1 = 41) → o = w1.1 44 false q.1 → jmap o = T.1 q.1 → jsgn false false o → jW C 0 0 (jQQ C 0 0 (fun v w' => ∃ r, v = jI r ∧ jYP T Rc Rp fc fp w n x er m false (jxLoop T p 40 41 (k + 1) q.1 q.2.1 q.2.2) r w')) 25 [jR 41 false, jI r, jU] [] w1 := by
        intro o z eo em hs
        rw [jxLoop, if_pos z]
        have hlt := h1.lt (by rcases z with z | z <;> rw [z] <;> decide) (by rcases z with z | z <;> rw [z] <;> decide)
        have h2 := h1.next hlt
        have hf2 : jMF w1 (jset w1 41 false 13 (w1.1 41 false 13 + 1)) := jMF_set (by decide)
        refine bq_X11_product_25 hm va (hp _ (q.1 + 1) q.2.1 m1 h2) (Nat.le_refl _) (fun r3 w3 q3 => ?_)
        rw [ea, ← eo]
        revert q3
        cases hr3 : p (q.1 + 1) q.2.1 with
        | inl f =>
          intro hF
          have hF2 := jFl.two q1 hf2 (Nat.le_succ _) hF
          obtain ⟨m2, e2, l2, hF3⟩ := hF2.node (n := n) (by omega) (by omega)
          have eb : w1.2.2 41 9 = w.2.2 41 9 := q1.o
          rw [show (jset w1 41 false 13 (w1.1 41 false 13 + 1)).2.2 41 9 = w.2.2 41 9 from eb]
          exact bk_X11_product_55 hm (m_node e2 l2 _ _ _) (by omega) (bk_X11_product_58 hm (bad _ f _ (hF3 _ _ _)))
        | inr p3 =>
          rintro ⟨m2, q3⟩
          have eb : w3.2.2 41 9 = w1.2.2 41 9 := q3.o
          obtain ⟨e2, l2, y⟩ := q1.two hf2 q3 (n := n) (by omega) (Nat.le_refl _) (Nat.le_succ _) (by omega) hs
          rw [em] at y
          rw [eb] at e2 y
          exact bk_X11_product_55 hm (m_node e2 l2 _ _ _) (by omega) (bk_X11_product_58 hm (ih (c + 1) (by omega) _ (p3.1, p3.2.1, _) _ _ (by have := q3.2.2.1; show c + 1 + 1 ≤ p3.1; omega) y))
      have out : ¬ (T.1 q.1 = 40 ∨ T.1 q.1 = 41) → jW C 0 0 (jQQ C 0 0 (fun v w' => ∃ r, v = jI r ∧ jYP T Rc Rp fc fp w n x er m false (jxLoop T p 40 41 (k + 1) q.1 q.2.1 q.2.2) r w')) 62 [jU, jI r, jU] [] w1 := by
        intro z
        rw [jxLoop, if_neg z]
        exact bk_X11_product_62 hm ⟨r, rfl, m1, q1⟩
      refine bk_X11_product_5 hm (m_isS h1 40 (by decide) (by decide)) (by omega) ?_
      by_cases a : T.1 q.1 = 40
      · rw [if_pos a]
        have ev := ((jkv_sym h1.tok (k := 40) (by decide)).mpr a).2
        exact bk_X11_product_12 hm (fun _ => inn (jsy 40) (Or.inl a) ev.symm (by rw [a]; decide) (Or.inl ⟨rfl, rfl, by decide⟩)) (fun z => absurd z (by decide))
      · rw [if_neg a]
        refine bk_X11_product_12 hm (fun z => absurd rfl z) (fun _ => bk_X11_product_15 hm (m_isS h1 41 (by decide) (by decide)) (by omega) ?_)
        by_cases b : T.1 q.1 = 41
        · rw [if_pos b]
          have ev := ((jkv_sym h1.tok (k := 41) (by decide)).mpr b).2
          exact bk_X11_product_22 hm (fun z => absurd z (by decide)) (fun _ => inn (jsy 41) (Or.inr b) ev.symm (by rw [b]; decide) (Or.inl ⟨rfl, rfl, by decide⟩))
        · rw [if_neg b]
          exact bk_X11_product_22 hm (fun _ => out (fun z => z.elim a b)) (fun z => absurd rfl z)
  refine bq_X11_product_0 hm (hp w n er m h) (Nat.le_refl _) (fun r w1 q1 => bk_X11_product_4 hm ?_)
  unfold jxChain
  revert q1
  cases hr : p n er with
  | inl f =>
    intro hF
    exact bad w1 f r hF
  | inr q =>
    rintro ⟨m1, q1⟩
    exact key 400 0 rfl w1 q r m1 (by have := q1.2.2.1; omega) q1
theorem m_sum0 {d : Nat} (hp : jY0 MX11_product d) (hd : 1 ≤ d) : jY0 MX11_sum (d + 1) := by
  intro w h
  refine jF_of jp_X11_sum rfl (Nat.le_of_ble_eq_true rfl) (fun C hm => ?_)
  refine bk_X11_sum_0 hm (hp w h) (Nat.le_refl _) (bk_X11_sum_4 hm (bk_X11_sum_5 hm (m_is0 h _ _) (by omega) ?_))
  exact bk_X11_sum_12 hm (fun z => absurd rfl z) (fun _ => bk_X11_sum_15 hm (m_is0 h _ _) (by omega) (bk_X11_sum_22 hm (fun _ => bk_X11_sum_62 hm ⟨rfl, rfl⟩) (fun z => absurd rfl z)))
theorem m_sum {T : JTk} {Rc Rp : JNm} {fc fp : Nat → Int32} {d x : Nat} {p : JEx} (hp : jYC MX11_product d x false T Rc Rp fc fp p) (hd : 2 ≤ d) : jYC MX11_sum (d + 1) x false T Rc Rp fc fp (jxChain T p 38 39) := by
  intro w n er m h
  refine jSI_of jp_X11_sum rfl (Nat.le_of_ble_eq_true rfl) (fun C hm => ?_)
  have hl := h.le
  have bad : ∀ (w3 : JW) (f : Nat) (r : Int32), jFl T w n m f w3 → jW C 0 0 (jQQ C 0 0 (fun v w' => ∃ r, v = jI r ∧ jYP T Rc Rp fc fp w n x er m false (.inl f) r w')) 5 [jR 41 false, jI r, jU] [] w3 := by
    intro w3 f r hF
    have h0 := hF.no
    refine bk_X11_sum_5 hm (m_is0 h0 _ _) (by omega) ?_
    exact bk_X11_sum_12 hm (fun z => absurd rfl z) (fun _ => bk_X11_sum_15 hm (m_is0 h0 _ _) (by omega) (bk_X11_sum_22 hm (fun _ => bk_X11_sum_62 hm ⟨r, rfl, hF⟩) (fun z => absurd rfl z)))
  have key : ∀ (k c : Nat), c + k = 400 → ∀ (w1 : JW) (q : Nat × (JEr × ((Nat → Int32) → Int32))) (r : Int32) (m1 : Nat), c + 1 ≤ q.1 → jYPm T Rc Rp fc fp w n x er m false q r m1 w1 → jW C 0 0 (jQQ C 0 0 (fun v w' => ∃ r, v = jI r ∧ jYP T Rc Rp fc fp w n x er m false (jxLoop T p 38 39 k q.1 q.2.1 q.2.2) r w')) 5 [jR 41 false, jI r, jU] [] w1 := by
    intro k
    induction k with
    | zero =>
      intro c hc w1 q r m1 hcq q1
      have := q1.st.le
      omega
    | succ k ih =>
      intro c hc w1 q r m1 hcq q1
      have h1 := q1.st
      have hl1 := h1.le
      obtain ⟨ea, va⟩ := h1.at
      have inn : ∀ (o : Int32), (T.1 q.1 = 38 ∨ T.1 q.1 = 39) → o = w1.1 44 false q.1 → jmap o = T.1 q.1 → jsgn false false o → jW C 0 0 (jQQ C 0 0 (fun v w' => ∃ r, v = jI r ∧ jYP T Rc Rp fc fp w n x er m false (jxLoop T p 38 39 (k + 1) q.1 q.2.1 q.2.2) r w')) 25 [jR 41 false, jI r, jU] [] w1 := by
        intro o z eo em hs
        rw [jxLoop, if_pos z]
        have hlt := h1.lt (by rcases z with z | z <;> rw [z] <;> decide) (by rcases z with z | z <;> rw [z] <;> decide)
        have h2 := h1.next hlt
        have hf2 : jMF w1 (jset w1 41 false 13 (w1.1 41 false 13 + 1)) := jMF_set (by decide)
        refine bq_X11_sum_25 hm va (hp _ (q.1 + 1) q.2.1 m1 h2) (Nat.le_refl _) (fun r3 w3 q3 => ?_)
        rw [ea, ← eo]
        revert q3
        cases hr3 : p (q.1 + 1) q.2.1 with
        | inl f =>
          intro hF
          have hF2 := jFl.two q1 hf2 (Nat.le_succ _) hF
          obtain ⟨m2, e2, l2, hF3⟩ := hF2.node (n := n) (by omega) (by omega)
          have eb : w1.2.2 41 9 = w.2.2 41 9 := q1.o
          rw [show (jset w1 41 false 13 (w1.1 41 false 13 + 1)).2.2 41 9 = w.2.2 41 9 from eb]
          exact bk_X11_sum_55 hm (m_node e2 l2 _ _ _) (by omega) (bk_X11_sum_58 hm (bad _ f _ (hF3 _ _ _)))
        | inr p3 =>
          rintro ⟨m2, q3⟩
          have eb : w3.2.2 41 9 = w1.2.2 41 9 := q3.o
          obtain ⟨e2, l2, y⟩ := q1.two hf2 q3 (n := n) (by omega) (Nat.le_refl _) (Nat.le_succ _) (by omega) hs
          rw [em] at y
          rw [eb] at e2 y
          exact bk_X11_sum_55 hm (m_node e2 l2 _ _ _) (by omega) (bk_X11_sum_58 hm (ih (c + 1) (by omega) _ (p3.1, p3.2.1, _) _ _ (by have := q3.2.2.1; show c + 1 + 1 ≤ p3.1; omega) y))
      have out : ¬ (T.1 q.1 = 38 ∨ T.1 q.1 = 39) → jW C 0 0 (jQQ C 0 0 (fun v w' => ∃ r, v = jI r ∧ jYP T Rc Rp fc fp w n x er m false (jxLoop T p 38 39 (k + 1) q.1 q.2.1 q.2.2) r w')) 62 [jU, jI r, jU] [] w1 := by
        intro z
        rw [jxLoop, if_neg z]
        exact bk_X11_sum_62 hm ⟨r, rfl, m1, q1⟩
      refine bk_X11_sum_5 hm (m_isS h1 38 (by decide) (by decide)) (by omega) ?_
      by_cases a : T.1 q.1 = 38
      · rw [if_pos a]
        have ev := ((jkv_sym h1.tok (k := 38) (by decide)).mpr a).2
        exact bk_X11_sum_12 hm (fun _ => inn (jsy 38) (Or.inl a) ev.symm (by rw [a]; decide) (Or.inl ⟨rfl, rfl, by decide⟩)) (fun z => absurd z (by decide))
      · rw [if_neg a]
        refine bk_X11_sum_12 hm (fun z => absurd rfl z) (fun _ => bk_X11_sum_15 hm (m_isS h1 39 (by decide) (by decide)) (by omega) ?_)
        by_cases b : T.1 q.1 = 39
        · rw [if_pos b]
          have ev := ((jkv_sym h1.tok (k := 39) (by decide)).mpr b).2
          exact bk_X11_sum_22 hm (fun z => absurd z (by decide)) (fun _ => inn (jsy 39) (Or.inr b) ev.symm (by rw [b]; decide) (Or.inl ⟨rfl, rfl, by decide⟩))
        · rw [if_neg b]
          exact bk_X11_sum_22 hm (fun _ => out (fun z => z.elim a b)) (fun z => absurd rfl z)
  refine bq_X11_sum_0 hm (hp w n er m h) (Nat.le_refl _) (fun r w1 q1 => bk_X11_sum_4 hm ?_)
  unfold jxChain
  revert q1
  cases hr : p n er with
  | inl f =>
    intro hF
    exact bad w1 f r hF
  | inr q =>
    rintro ⟨m1, q1⟩
    exact key 400 0 rfl w1 q r m1 (by have := q1.2.2.1; omega) q1
theorem m_pair0 {d : Nat} (hp : jY0 MX11_single d) (hd : 1 ≤ d) : jY0 MX11_pair (d + 1) := by
  intro w h
  refine jF_of jp_X11_pair rfl (Nat.le_of_ble_eq_true rfl) (fun C hm => ?_)
  refine bk_X11_pair_0 hm (hp w h) (Nat.le_refl _) (bk_X11_pair_4 hm (bk_X11_pair_5 hm (m_is0 h _ _) (by omega) ?_))
  exact bk_X11_pair_12 hm (fun _ => bk_X11_pair_43 hm ⟨rfl, rfl⟩) (fun z => absurd rfl z)
theorem m_pair {T : JTk} {Rc Rp : JNm} {fc fp : Nat → Int32} {d x : Nat} {p : JEx} (hp : jYC MX11_single d x true T Rc Rp fc fp p) (hd : 2 ≤ d) : jYC MX11_pair (d + 1) x true T Rc Rp fc fp (jxChain T p 26 26) := by
  intro w n er m h
  refine jSI_of jp_X11_pair rfl (Nat.le_of_ble_eq_true rfl) (fun C hm => ?_)
  have hl := h.le
  have bad : ∀ (w3 : JW) (f : Nat) (r : Int32), jFl T w n m f w3 → jW C 0 0 (jQQ C 0 0 (fun v w' => ∃ r, v = jI r ∧ jYP T Rc Rp fc fp w n x er m true (.inl f) r w')) 5 [jR 41 false, jI r] [] w3 := by
    intro w3 f r hF
    have h0 := hF.no
    refine bk_X11_pair_5 hm (m_is0 h0 _ _) (by omega) ?_
    exact bk_X11_pair_12 hm (fun _ => bk_X11_pair_43 hm ⟨r, rfl, hF⟩) (fun z => absurd rfl z)
  have key : ∀ (k c : Nat), c + k = 400 → ∀ (w1 : JW) (q : Nat × (JEr × ((Nat → Int32) → Int32))) (r : Int32) (m1 : Nat), c + 1 ≤ q.1 → jYPm T Rc Rp fc fp w n x er m true q r m1 w1 → jW C 0 0 (jQQ C 0 0 (fun v w' => ∃ r, v = jI r ∧ jYP T Rc Rp fc fp w n x er m true (jxLoop T p 26 26 k q.1 q.2.1 q.2.2) r w')) 5 [jR 41 false, jI r] [] w1 := by
    intro k
    induction k with
    | zero =>
      intro c hc w1 q r m1 hcq q1
      have := q1.st.le
      omega
    | succ k ih =>
      intro c hc w1 q r m1 hcq q1
      have h1 := q1.st
      have hl1 := h1.le
      obtain ⟨ea, va⟩ := h1.at
      have inn : ∀ (o : Int32), (T.1 q.1 = 26 ∨ T.1 q.1 = 26) → o = 26 → jmap o = T.1 q.1 → jsgn true true o → jW C 0 0 (jQQ C 0 0 (fun v w' => ∃ r, v = jI r ∧ jYP T Rc Rp fc fp w n x er m true (jxLoop T p 26 26 (k + 1) q.1 q.2.1 q.2.2) r w')) 15 [jR 41 false, jI r] [] w1 := by
        intro o z eo em hs
        rw [jxLoop, if_pos z]
        have hlt := h1.lt (by rcases z with z | z <;> rw [z] <;> decide) (by rcases z with z | z <;> rw [z] <;> decide)
        have h2 := h1.next hlt
        have hf2 : jMF w1 (jset w1 41 false 13 (w1.1 41 false 13 + 1)) := jMF_set (by decide)
        refine bq_X11_pair_15 hm (hp _ (q.1 + 1) q.2.1 m1 h2) (Nat.le_refl _) (fun r3 w3 q3 => ?_)
        subst eo
        revert q3
        cases hr3 : p (q.1 + 1) q.2.1 with
        | inl f =>
          intro hF
          have hF2 := jFl.two q1 hf2 (Nat.le_succ _) hF
          obtain ⟨m2, e2, l2, hF3⟩ := hF2.node (n := n) (by omega) (by omega)
          have eb : w1.2.2 41 9 = w.2.2 41 9 := q1.o
          rw [show (jset w1 41 false 13 (w1.1 41 false 13 + 1)).2.2 41 9 = w.2.2 41 9 from eb]
          exact bk_X11_pair_36 hm (m_node e2 l2 _ _ _) (by omega) (bk_X11_pair_39 hm (bad _ f _ (hF3 _ _ _)))
        | inr p3 =>
          rintro ⟨m2, q3⟩
          have eb : w3.2.2 41 9 = w1.2.2 41 9 := q3.o
          obtain ⟨e2, l2, y⟩ := q1.two hf2 q3 (n := n) (by omega) (Nat.le_refl _) (Nat.le_succ _) (by omega) hs
          rw [em] at y
          rw [eb] at e2 y
          exact bk_X11_pair_36 hm (m_node e2 l2 _ _ _) (by omega) (bk_X11_pair_39 hm (ih (c + 1) (by omega) _ (p3.1, p3.2.1, _) _ _ (by have := q3.2.2.1; show c + 1 + 1 ≤ p3.1; omega) y))
      have out : ¬ (T.1 q.1 = 26 ∨ T.1 q.1 = 26) → jW C 0 0 (jQQ C 0 0 (fun v w' => ∃ r, v = jI r ∧ jYP T Rc Rp fc fp w n x er m true (jxLoop T p 26 26 (k + 1) q.1 q.2.1 q.2.2) r w')) 43 [jU, jI r] [] w1 := by
        intro z
        rw [jxLoop, if_neg z]
        exact bk_X11_pair_43 hm ⟨r, rfl, m1, q1⟩
      refine bk_X11_pair_5 hm (m_isK h1 26 (by decide)) (by omega) ?_
      by_cases a : T.1 q.1 = 26
      · rw [if_pos a]
        exact bk_X11_pair_12 hm (fun z => absurd z (by decide)) (fun _ => inn 26 (Or.inl a) rfl (by rw [a]; decide) (Or.inr (Or.inl ⟨rfl, rfl, by decide⟩)))
      · rw [if_neg a]
        exact bk_X11_pair_12 hm (fun _ => out (fun z => z.elim a a)) (fun z => absurd rfl z)
  refine bq_X11_pair_0 hm (hp w n er m h) (Nat.le_refl _) (fun r w1 q1 => bk_X11_pair_4 hm ?_)
  unfold jxChain
  revert q1
  cases hr : p n er with
  | inl f =>
    intro hF
    exact bad w1 f r hF
  | inr q =>
    rintro ⟨m1, q1⟩
    exact key 400 0 rfl w1 q r m1 (by have := q1.2.2.1; omega) q1
theorem m_test0 {d : Nat} (hp : jY0 MX11_pair d) (hd : 1 ≤ d) : jY0 MX11_test (d + 1) := by
  intro w h
  refine jF_of jp_X11_test rfl (Nat.le_of_ble_eq_true rfl) (fun C hm => ?_)
  refine bk_X11_test_0 hm (hp w h) (Nat.le_refl _) (bk_X11_test_4 hm (bk_X11_test_5 hm (m_is0 h _ _) (by omega) ?_))
  exact bk_X11_test_12 hm (fun _ => bk_X11_test_43 hm ⟨rfl, rfl⟩) (fun z => absurd rfl z)
theorem m_test {T : JTk} {Rc Rp : JNm} {fc fp : Nat → Int32} {d x : Nat} {p : JEx} (hp : jYC MX11_pair d x true T Rc Rp fc fp p) (hd : 2 ≤ d) : jYC MX11_test (d + 1) x true T Rc Rp fc fp (jxChain T p 27 27) := by
  intro w n er m h
  refine jSI_of jp_X11_test rfl (Nat.le_of_ble_eq_true rfl) (fun C hm => ?_)
  have hl := h.le
  have bad : ∀ (w3 : JW) (f : Nat) (r : Int32), jFl T w n m f w3 → jW C 0 0 (jQQ C 0 0 (fun v w' => ∃ r, v = jI r ∧ jYP T Rc Rp fc fp w n x er m true (.inl f) r w')) 5 [jR 41 false, jI r] [] w3 := by
    intro w3 f r hF
    have h0 := hF.no
    refine bk_X11_test_5 hm (m_is0 h0 _ _) (by omega) ?_
    exact bk_X11_test_12 hm (fun _ => bk_X11_test_43 hm ⟨r, rfl, hF⟩) (fun z => absurd rfl z)
  have key : ∀ (k c : Nat), c + k = 400 → ∀ (w1 : JW) (q : Nat × (JEr × ((Nat → Int32) → Int32))) (r : Int32) (m1 : Nat), c + 1 ≤ q.1 → jYPm T Rc Rp fc fp w n x er m true q r m1 w1 → jW C 0 0 (jQQ C 0 0 (fun v w' => ∃ r, v = jI r ∧ jYP T Rc Rp fc fp w n x er m true (jxLoop T p 27 27 k q.1 q.2.1 q.2.2) r w')) 5 [jR 41 false, jI r] [] w1 := by
    intro k
    induction k with
    | zero =>
      intro c hc w1 q r m1 hcq q1
      have := q1.st.le
      omega
    | succ k ih =>
      intro c hc w1 q r m1 hcq q1
      have h1 := q1.st
      have hl1 := h1.le
      obtain ⟨ea, va⟩ := h1.at
      have inn : ∀ (o : Int32), (T.1 q.1 = 27 ∨ T.1 q.1 = 27) → o = 27 → jmap o = T.1 q.1 → jsgn true true o → jW C 0 0 (jQQ C 0 0 (fun v w' => ∃ r, v = jI r ∧ jYP T Rc Rp fc fp w n x er m true (jxLoop T p 27 27 (k + 1) q.1 q.2.1 q.2.2) r w')) 15 [jR 41 false, jI r] [] w1 := by
        intro o z eo em hs
        rw [jxLoop, if_pos z]
        have hlt := h1.lt (by rcases z with z | z <;> rw [z] <;> decide) (by rcases z with z | z <;> rw [z] <;> decide)
        have h2 := h1.next hlt
        have hf2 : jMF w1 (jset w1 41 false 13 (w1.1 41 false 13 + 1)) := jMF_set (by decide)
        refine bq_X11_test_15 hm (hp _ (q.1 + 1) q.2.1 m1 h2) (Nat.le_refl _) (fun r3 w3 q3 => ?_)
        subst eo
        revert q3
        cases hr3 : p (q.1 + 1) q.2.1 with
        | inl f =>
          intro hF
          have hF2 := jFl.two q1 hf2 (Nat.le_succ _) hF
          obtain ⟨m2, e2, l2, hF3⟩ := hF2.node (n := n) (by omega) (by omega)
          have eb : w1.2.2 41 9 = w.2.2 41 9 := q1.o
          rw [show (jset w1 41 false 13 (w1.1 41 false 13 + 1)).2.2 41 9 = w.2.2 41 9 from eb]
          exact bk_X11_test_36 hm (m_node e2 l2 _ _ _) (by omega) (bk_X11_test_39 hm (bad _ f _ (hF3 _ _ _)))
        | inr p3 =>
          rintro ⟨m2, q3⟩
          have eb : w3.2.2 41 9 = w1.2.2 41 9 := q3.o
          obtain ⟨e2, l2, y⟩ := q1.two hf2 q3 (n := n) (by omega) (Nat.le_refl _) (Nat.le_succ _) (by omega) hs
          rw [em] at y
          rw [eb] at e2 y
          exact bk_X11_test_36 hm (m_node e2 l2 _ _ _) (by omega) (bk_X11_test_39 hm (ih (c + 1) (by omega) _ (p3.1, p3.2.1, _) _ _ (by have := q3.2.2.1; show c + 1 + 1 ≤ p3.1; omega) y))
      have out : ¬ (T.1 q.1 = 27 ∨ T.1 q.1 = 27) → jW C 0 0 (jQQ C 0 0 (fun v w' => ∃ r, v = jI r ∧ jYP T Rc Rp fc fp w n x er m true (jxLoop T p 27 27 (k + 1) q.1 q.2.1 q.2.2) r w')) 43 [jU, jI r] [] w1 := by
        intro z
        rw [jxLoop, if_neg z]
        exact bk_X11_test_43 hm ⟨r, rfl, m1, q1⟩
      refine bk_X11_test_5 hm (m_isK h1 27 (by decide)) (by omega) ?_
      by_cases a : T.1 q.1 = 27
      · rw [if_pos a]
        exact bk_X11_test_12 hm (fun z => absurd z (by decide)) (fun _ => inn 27 (Or.inl a) rfl (by rw [a]; decide) (Or.inr (Or.inl ⟨rfl, rfl, by decide⟩)))
      · rw [if_neg a]
        exact bk_X11_test_12 hm (fun _ => out (fun z => z.elim a a)) (fun z => absurd rfl z)
  refine bq_X11_test_0 hm (hp w n er m h) (Nat.le_refl _) (fun r w1 q1 => bk_X11_test_4 hm ?_)
  unfold jxChain
  revert q1
  cases hr : p n er with
  | inl f =>
    intro hF
    exact bad w1 f r hF
  | inr q =>
    rintro ⟨m1, q1⟩
    exact key 400 0 rfl w1 q r m1 (by have := q1.2.2.1; omega) q1
