/-! the class reads rows of products, sums, tests (written by 64.cchain.gen.py) -/
theorem c_product {T : JTk} {Nc Np : JNm} {d x : Nat} {p : JEx} (hp : jXC MX5_value d x T Nc Np p) (hd : 2 ≤ d) : jXC MX5_product (d + 1) x T Nc Np (jxChain T p 40 41) := by
  intro w n er s h hs hsn
  refine jSI_of jp_X5_product rfl (Nat.le_of_ble_eq_true rfl) (fun C hm => ?_)
  have h40 := h.2.2.1.1
  refine bq_X5_product_0 hm (hp w n er s h hs hsn) (Nat.le_refl _) (fun r w1 q1 => ?_)
  unfold jxChain
  revert q1
  cases hr : p n er with
  | inl f =>
    rintro ⟨rfl, e5, hf⟩
    exact bk_X5_product_5 hm (fun z => absurd rfl z) (fun _ => bk_X5_product_8 hm ⟨0, rfl, rfl, e5, hf⟩)
  | inr q =>
    rintro ⟨rfl, q1⟩
    refine bk_X5_product_5 hm (fun _ => ?_) (fun z => absurd z (by decide))
    have key : ∀ (k c : Nat), c + k = 400 → ∀ (w1 : JW) (q : Nat × (JEr × ((Nat → Int32) → Int32))), jEPs T Nc Np w n er s q w1 → jW C 0 0 (jQQ C 0 0 (fun v w' => ∃ r, v = jI r ∧ jEP T Nc Np w n er s (jxLoop T p 40 41 k q.1 q.2.1 q.2.2) r w')) 17 [jR 7 false, jI (nI x), jI (T.1 q.1), jI (nI c)] [] w1 := by
      intro k
      induction k with
      | zero =>
        intro c hc w1 q q1
        exact bk_X5_product_17 hm (fun _ => bk_X5_product_69 hm ⟨1, rfl, rfl, q1⟩) (fun z => absurd ((nI_leI (a := 400) (by omega) (by omega)).mpr (by omega)) z)
      | succ k ih =>
        intro c hc w1 q q1
        refine bk_X5_product_17 hm (fun z => absurd ((nI_leI (a := 400) (by omega) (by omega)).mp z) (by omega)) (fun _ => ?_)
        obtain ⟨s1, hs1, hs1q, hq4, hsb⟩ := q1.st hsn
        have out : ¬ (T.1 q.1 = 40 ∨ T.1 q.1 = 41) → jW C 0 0 (jQQ C 0 0 (fun v w' => ∃ r, v = jI r ∧ jEP T Nc Np w n er s (jxLoop T p 40 41 (k + 1) q.1 q.2.1 q.2.2) r w')) 69 [jU, jU, jU, jU] [] w1 := by
          intro z
          rw [jxLoop, if_neg z]
          exact bk_X5_product_69 hm ⟨1, rfl, rfl, q1⟩
        have inn : (T.1 q.1 = 40 ∨ T.1 q.1 = 41) → ∀ w2, jCI T Nc Np w2 (q.1 + 1) q.2.1 → jNF w1 w2 → jW C 0 0 (jQQ C 0 0 (fun v w' => ∃ r, v = jI r ∧ jEP T Nc Np w n er s (jxLoop T p 40 41 (k + 1) q.1 q.2.1 q.2.2) r w')) 42 [jR 7 false, jI (nI x), jI (T.1 q.1), jI (nI c)] [] w2 := by
          intro z w2 hc2 hf2
          rw [jxLoop, if_pos z]
          refine bq_X5_product_42 hm (hp w2 (q.1 + 1) q.2.1 s1 hc2 (hf2.St hs1) (by omega)) (Nat.le_refl _) (fun r w3 q3 => ?_)
          revert q3
          cases hr3 : p (q.1 + 1) q.2.1 with
          | inl f =>
            rintro ⟨rfl, e5, hf⟩
            exact bk_X5_product_47 hm (fun z => absurd rfl z) (fun _ => bk_X5_product_50 hm ⟨0, rfl, rfl, e5, q1.2.1.trans (hf2.EF.trans hf)⟩)
          | inr p3 =>
            rintro ⟨rfl, q3⟩
            refine bk_X5_product_47 hm (fun _ => ?_) (fun z => absurd z (by decide))
            obtain ⟨s3, hs3, hs3q, hp4, hsb3⟩ := q3.st (by omega)
            refine bq_X5_product_52 hm (c_emit q3.1 hs3 (by omega) (T.1 q.1) 0) (by omega) (fun w4 hem => ?_)
            have q4 := q1.two hsn hs1 (by omega) (Nat.le_refl _) (Nat.le_succ _) (by omega) (q3.pre hf2 (Nat.le_refl _) (fun z => z)) (a := (T.1 q.1)) (b := 0) (by rcases z with z | z <;> rw [z] <;> decide) hs3 (by omega) hem
            refine bq_X5_product_58 hm (jSI_F (c_kind q4.1)) (by omega) (fun r5 w5 h5 => ?_)
            obtain ⟨rfl, rfl⟩ := h5
            refine bk_X5_product_62 hm ?_
            rw [nI_1]
            exact ih (c + 1) (by omega) w5 (p3.1, p3.2.1, _) q4
        refine bq_X5_product_24 hm (c_take q1.1 40 (by decide) (by decide)) (by omega) (fun r w2 h2 => ?_)
        rcases h2 with ⟨a, rfl, hc2, hf2⟩ | ⟨a, rfl, rfl⟩
        · exact bk_X5_product_30 hm (fun _ => inn (Or.inl a) w2 hc2 hf2) (fun z => absurd z (by decide))
        · refine bk_X5_product_30 hm (fun z => absurd rfl z) (fun _ => ?_)
          refine bq_X5_product_33 hm (c_take q1.1 41 (by decide) (by decide)) (by omega) (fun r w3 h3 => ?_)
          rcases h3 with ⟨b, rfl, hc3, hf3⟩ | ⟨b, rfl, rfl⟩
          · exact bk_X5_product_39 hm (fun z => absurd z (by decide)) (fun _ => inn (Or.inr b) w3 hc3 hf3)
          · exact bk_X5_product_39 hm (fun _ => out (fun z => z.elim a b)) (fun z => absurd rfl z)
    exact bq_X5_product_10 hm (jSI_F (c_kind q1.1)) (by omega) (fun r5 w5 h5 => by
      obtain ⟨rfl, rfl⟩ := h5
      exact bk_X5_product_14 hm (key 400 0 rfl w5 q q1))
theorem c_sum {T : JTk} {Nc Np : JNm} {d x : Nat} {p : JEx} (hp : jXC MX5_product d x T Nc Np p) (hd : 2 ≤ d) : jXC MX5_sum (d + 1) x T Nc Np (jxChain T p 38 39) := by
  intro w n er s h hs hsn
  refine jSI_of jp_X5_sum rfl (Nat.le_of_ble_eq_true rfl) (fun C hm => ?_)
  have h40 := h.2.2.1.1
  refine bq_X5_sum_0 hm (hp w n er s h hs hsn) (Nat.le_refl _) (fun r w1 q1 => ?_)
  unfold jxChain
  revert q1
  cases hr : p n er with
  | inl f =>
    rintro ⟨rfl, e5, hf⟩
    exact bk_X5_sum_5 hm (fun z => absurd rfl z) (fun _ => bk_X5_sum_8 hm ⟨0, rfl, rfl, e5, hf⟩)
  | inr q =>
    rintro ⟨rfl, q1⟩
    refine bk_X5_sum_5 hm (fun _ => ?_) (fun z => absurd z (by decide))
    have key : ∀ (k c : Nat), c + k = 400 → ∀ (w1 : JW) (q : Nat × (JEr × ((Nat → Int32) → Int32))), jEPs T Nc Np w n er s q w1 → jW C 0 0 (jQQ C 0 0 (fun v w' => ∃ r, v = jI r ∧ jEP T Nc Np w n er s (jxLoop T p 38 39 k q.1 q.2.1 q.2.2) r w')) 17 [jR 7 false, jI (nI x), jI (T.1 q.1), jI (nI c)] [] w1 := by
      intro k
      induction k with
      | zero =>
        intro c hc w1 q q1
        exact bk_X5_sum_17 hm (fun _ => bk_X5_sum_69 hm ⟨1, rfl, rfl, q1⟩) (fun z => absurd ((nI_leI (a := 400) (by omega) (by omega)).mpr (by omega)) z)
      | succ k ih =>
        intro c hc w1 q q1
        refine bk_X5_sum_17 hm (fun z => absurd ((nI_leI (a := 400) (by omega) (by omega)).mp z) (by omega)) (fun _ => ?_)
        obtain ⟨s1, hs1, hs1q, hq4, hsb⟩ := q1.st hsn
        have out : ¬ (T.1 q.1 = 38 ∨ T.1 q.1 = 39) → jW C 0 0 (jQQ C 0 0 (fun v w' => ∃ r, v = jI r ∧ jEP T Nc Np w n er s (jxLoop T p 38 39 (k + 1) q.1 q.2.1 q.2.2) r w')) 69 [jU, jU, jU, jU] [] w1 := by
          intro z
          rw [jxLoop, if_neg z]
          exact bk_X5_sum_69 hm ⟨1, rfl, rfl, q1⟩
        have inn : (T.1 q.1 = 38 ∨ T.1 q.1 = 39) → ∀ w2, jCI T Nc Np w2 (q.1 + 1) q.2.1 → jNF w1 w2 → jW C 0 0 (jQQ C 0 0 (fun v w' => ∃ r, v = jI r ∧ jEP T Nc Np w n er s (jxLoop T p 38 39 (k + 1) q.1 q.2.1 q.2.2) r w')) 42 [jR 7 false, jI (nI x), jI (T.1 q.1), jI (nI c)] [] w2 := by
          intro z w2 hc2 hf2
          rw [jxLoop, if_pos z]
          refine bq_X5_sum_42 hm (hp w2 (q.1 + 1) q.2.1 s1 hc2 (hf2.St hs1) (by omega)) (Nat.le_refl _) (fun r w3 q3 => ?_)
          revert q3
          cases hr3 : p (q.1 + 1) q.2.1 with
          | inl f =>
            rintro ⟨rfl, e5, hf⟩
            exact bk_X5_sum_47 hm (fun z => absurd rfl z) (fun _ => bk_X5_sum_50 hm ⟨0, rfl, rfl, e5, q1.2.1.trans (hf2.EF.trans hf)⟩)
          | inr p3 =>
            rintro ⟨rfl, q3⟩
            refine bk_X5_sum_47 hm (fun _ => ?_) (fun z => absurd z (by decide))
            obtain ⟨s3, hs3, hs3q, hp4, hsb3⟩ := q3.st (by omega)
            refine bq_X5_sum_52 hm (c_emit q3.1 hs3 (by omega) (T.1 q.1) 0) (by omega) (fun w4 hem => ?_)
            have q4 := q1.two hsn hs1 (by omega) (Nat.le_refl _) (Nat.le_succ _) (by omega) (q3.pre hf2 (Nat.le_refl _) (fun z => z)) (a := (T.1 q.1)) (b := 0) (by rcases z with z | z <;> rw [z] <;> decide) hs3 (by omega) hem
            refine bq_X5_sum_58 hm (jSI_F (c_kind q4.1)) (by omega) (fun r5 w5 h5 => ?_)
            obtain ⟨rfl, rfl⟩ := h5
            refine bk_X5_sum_62 hm ?_
            rw [nI_1]
            exact ih (c + 1) (by omega) w5 (p3.1, p3.2.1, _) q4
        refine bq_X5_sum_24 hm (c_take q1.1 38 (by decide) (by decide)) (by omega) (fun r w2 h2 => ?_)
        rcases h2 with ⟨a, rfl, hc2, hf2⟩ | ⟨a, rfl, rfl⟩
        · exact bk_X5_sum_30 hm (fun _ => inn (Or.inl a) w2 hc2 hf2) (fun z => absurd z (by decide))
        · refine bk_X5_sum_30 hm (fun z => absurd rfl z) (fun _ => ?_)
          refine bq_X5_sum_33 hm (c_take q1.1 39 (by decide) (by decide)) (by omega) (fun r w3 h3 => ?_)
          rcases h3 with ⟨b, rfl, hc3, hf3⟩ | ⟨b, rfl, rfl⟩
          · exact bk_X5_sum_39 hm (fun z => absurd z (by decide)) (fun _ => inn (Or.inr b) w3 hc3 hf3)
          · exact bk_X5_sum_39 hm (fun _ => out (fun z => z.elim a b)) (fun z => absurd rfl z)
    exact bq_X5_sum_10 hm (jSI_F (c_kind q1.1)) (by omega) (fun r5 w5 h5 => by
      obtain ⟨rfl, rfl⟩ := h5
      exact bk_X5_sum_14 hm (key 400 0 rfl w5 q q1))
theorem c_both {T : JTk} {Nc Np : JNm} {d x : Nat} {p : JEx} (hp : jXC MX5_single d x T Nc Np p) (hd : 2 ≤ d) : jXC MX5_both (d + 1) x T Nc Np (jxChain T p 26 26) := by
  intro w n er s h hs hsn
  refine jSI_of jp_X5_both rfl (Nat.le_of_ble_eq_true rfl) (fun C hm => ?_)
  have h40 := h.2.2.1.1
  refine bq_X5_both_0 hm (hp w n er s h hs hsn) (Nat.le_refl _) (fun r w1 q1 => ?_)
  unfold jxChain
  revert q1
  cases hr : p n er with
  | inl f =>
    rintro ⟨rfl, e5, hf⟩
    exact bk_X5_both_5 hm (fun z => absurd rfl z) (fun _ => bk_X5_both_8 hm ⟨0, rfl, rfl, e5, hf⟩)
  | inr q =>
    rintro ⟨rfl, q1⟩
    refine bk_X5_both_5 hm (fun _ => ?_) (fun z => absurd z (by decide))
    have key : ∀ (k c : Nat), c + k = 400 → ∀ (w1 : JW) (q : Nat × (JEr × ((Nat → Int32) → Int32))), jEPs T Nc Np w n er s q w1 → jW C 0 0 (jQQ C 0 0 (fun v w' => ∃ r, v = jI r ∧ jEP T Nc Np w n er s (jxLoop T p 26 26 k q.1 q.2.1 q.2.2) r w')) 12 [jR 7 false, jI (nI x), jI (nI c)] [] w1 := by
      intro k
      induction k with
      | zero =>
        intro c hc w1 q q1
        exact bk_X5_both_12 hm (fun _ => bk_X5_both_51 hm ⟨1, rfl, rfl, q1⟩) (fun z => absurd ((nI_leI (a := 400) (by omega) (by omega)).mpr (by omega)) z)
      | succ k ih =>
        intro c hc w1 q q1
        refine bk_X5_both_12 hm (fun z => absurd ((nI_leI (a := 400) (by omega) (by omega)).mp z) (by omega)) (fun _ => ?_)
        obtain ⟨s1, hs1, hs1q, hq4, hsb⟩ := q1.st hsn
        have out : ¬ (T.1 q.1 = 26 ∨ T.1 q.1 = 26) → jW C 0 0 (jQQ C 0 0 (fun v w' => ∃ r, v = jI r ∧ jEP T Nc Np w n er s (jxLoop T p 26 26 (k + 1) q.1 q.2.1 q.2.2) r w')) 51 [jU, jU, jU] [] w1 := by
          intro z
          rw [jxLoop, if_neg z]
          exact bk_X5_both_51 hm ⟨1, rfl, rfl, q1⟩
        have inn : (T.1 q.1 = 26 ∨ T.1 q.1 = 26) → ∀ w2, jCI T Nc Np w2 (q.1 + 1) q.2.1 → jNF w1 w2 → jW C 0 0 (jQQ C 0 0 (fun v w' => ∃ r, v = jI r ∧ jEP T Nc Np w n er s (jxLoop T p 26 26 (k + 1) q.1 q.2.1 q.2.2) r w')) 28 [jR 7 false, jI (nI x), jI (nI c)] [] w2 := by
          intro z w2 hc2 hf2
          rw [jxLoop, if_pos z]
          refine bq_X5_both_28 hm (hp w2 (q.1 + 1) q.2.1 s1 hc2 (hf2.St hs1) (by omega)) (Nat.le_refl _) (fun r w3 q3 => ?_)
          revert q3
          cases hr3 : p (q.1 + 1) q.2.1 with
          | inl f =>
            rintro ⟨rfl, e5, hf⟩
            exact bk_X5_both_33 hm (fun z => absurd rfl z) (fun _ => bk_X5_both_36 hm ⟨0, rfl, rfl, e5, q1.2.1.trans (hf2.EF.trans hf)⟩)
          | inr p3 =>
            rintro ⟨rfl, q3⟩
            refine bk_X5_both_33 hm (fun _ => ?_) (fun z => absurd z (by decide))
            obtain ⟨s3, hs3, hs3q, hp4, hsb3⟩ := q3.st (by omega)
            refine bq_X5_both_38 hm (c_emit q3.1 hs3 (by omega) 26 0) (by omega) (fun w4 hem => ?_)
            have q4 := q1.two hsn hs1 (by omega) (Nat.le_refl _) (Nat.le_succ _) (by omega) (q3.pre hf2 (Nat.le_refl _) (fun z => z)) (a := 26) (b := 0) (by decide) hs3 (by omega) hem
            have ez : T.1 q.1 = 26 := z.elim id id
            rw [ez]
            refine bk_X5_both_45 hm ?_
            rw [nI_1]
            exact ih (c + 1) (by omega) w4 (p3.1, p3.2.1, _) q4
        refine bq_X5_both_19 hm (c_take q1.1 26 (by decide) (by decide)) (by omega) (fun r w2 h2 => ?_)
        rcases h2 with ⟨a, rfl, hc2, hf2⟩ | ⟨a, rfl, rfl⟩
        · exact bk_X5_both_25 hm (fun z => absurd z (by decide)) (fun _ => inn (Or.inl a) w2 hc2 hf2)
        · exact bk_X5_both_25 hm (fun _ => out (fun z => z.elim a a)) (fun z => absurd rfl z)
    exact bk_X5_both_10 hm (key 400 0 rfl w1 q q1)
theorem c_test {T : JTk} {Nc Np : JNm} {d x : Nat} {p : JEx} (hp : jXC MX5_both d x T Nc Np p) (hd : 2 ≤ d) : jXC MX5_test (d + 1) x T Nc Np (jxChain T p 27 27) := by
  intro w n er s h hs hsn
  refine jSI_of jp_X5_test rfl (Nat.le_of_ble_eq_true rfl) (fun C hm => ?_)
  have h40 := h.2.2.1.1
  refine bq_X5_test_0 hm (hp w n er s h hs hsn) (Nat.le_refl _) (fun r w1 q1 => ?_)
  unfold jxChain
  revert q1
  cases hr : p n er with
  | inl f =>
    rintro ⟨rfl, e5, hf⟩
    exact bk_X5_test_5 hm (fun z => absurd rfl z) (fun _ => bk_X5_test_8 hm ⟨0, rfl, rfl, e5, hf⟩)
  | inr q =>
    rintro ⟨rfl, q1⟩
    refine bk_X5_test_5 hm (fun _ => ?_) (fun z => absurd z (by decide))
    have key : ∀ (k c : Nat), c + k = 400 → ∀ (w1 : JW) (q : Nat × (JEr × ((Nat → Int32) → Int32))), jEPs T Nc Np w n er s q w1 → jW C 0 0 (jQQ C 0 0 (fun v w' => ∃ r, v = jI r ∧ jEP T Nc Np w n er s (jxLoop T p 27 27 k q.1 q.2.1 q.2.2) r w')) 12 [jR 7 false, jI (nI x), jI (nI c)] [] w1 := by
      intro k
      induction k with
      | zero =>
        intro c hc w1 q q1
        exact bk_X5_test_12 hm (fun _ => bk_X5_test_51 hm ⟨1, rfl, rfl, q1⟩) (fun z => absurd ((nI_leI (a := 400) (by omega) (by omega)).mpr (by omega)) z)
      | succ k ih =>
        intro c hc w1 q q1
        refine bk_X5_test_12 hm (fun z => absurd ((nI_leI (a := 400) (by omega) (by omega)).mp z) (by omega)) (fun _ => ?_)
        obtain ⟨s1, hs1, hs1q, hq4, hsb⟩ := q1.st hsn
        have out : ¬ (T.1 q.1 = 27 ∨ T.1 q.1 = 27) → jW C 0 0 (jQQ C 0 0 (fun v w' => ∃ r, v = jI r ∧ jEP T Nc Np w n er s (jxLoop T p 27 27 (k + 1) q.1 q.2.1 q.2.2) r w')) 51 [jU, jU, jU] [] w1 := by
          intro z
          rw [jxLoop, if_neg z]
          exact bk_X5_test_51 hm ⟨1, rfl, rfl, q1⟩
        have inn : (T.1 q.1 = 27 ∨ T.1 q.1 = 27) → ∀ w2, jCI T Nc Np w2 (q.1 + 1) q.2.1 → jNF w1 w2 → jW C 0 0 (jQQ C 0 0 (fun v w' => ∃ r, v = jI r ∧ jEP T Nc Np w n er s (jxLoop T p 27 27 (k + 1) q.1 q.2.1 q.2.2) r w')) 28 [jR 7 false, jI (nI x), jI (nI c)] [] w2 := by
          intro z w2 hc2 hf2
          rw [jxLoop, if_pos z]
          refine bq_X5_test_28 hm (hp w2 (q.1 + 1) q.2.1 s1 hc2 (hf2.St hs1) (by omega)) (Nat.le_refl _) (fun r w3 q3 => ?_)
          revert q3
          cases hr3 : p (q.1 + 1) q.2.1 with
          | inl f =>
            rintro ⟨rfl, e5, hf⟩
            exact bk_X5_test_33 hm (fun z => absurd rfl z) (fun _ => bk_X5_test_36 hm ⟨0, rfl, rfl, e5, q1.2.1.trans (hf2.EF.trans hf)⟩)
          | inr p3 =>
            rintro ⟨rfl, q3⟩
            refine bk_X5_test_33 hm (fun _ => ?_) (fun z => absurd z (by decide))
            obtain ⟨s3, hs3, hs3q, hp4, hsb3⟩ := q3.st (by omega)
            refine bq_X5_test_38 hm (c_emit q3.1 hs3 (by omega) 27 0) (by omega) (fun w4 hem => ?_)
            have q4 := q1.two hsn hs1 (by omega) (Nat.le_refl _) (Nat.le_succ _) (by omega) (q3.pre hf2 (Nat.le_refl _) (fun z => z)) (a := 27) (b := 0) (by decide) hs3 (by omega) hem
            have ez : T.1 q.1 = 27 := z.elim id id
            rw [ez]
            refine bk_X5_test_45 hm ?_
            rw [nI_1]
            exact ih (c + 1) (by omega) w4 (p3.1, p3.2.1, _) q4
        refine bq_X5_test_19 hm (c_take q1.1 27 (by decide) (by decide)) (by omega) (fun r w2 h2 => ?_)
        rcases h2 with ⟨a, rfl, hc2, hf2⟩ | ⟨a, rfl, rfl⟩
        · exact bk_X5_test_25 hm (fun z => absurd z (by decide)) (fun _ => inn (Or.inl a) w2 hc2 hf2)
        · exact bk_X5_test_25 hm (fun _ => out (fun z => z.elim a a)) (fun z => absurd rfl z)
    exact bk_X5_test_10 hm (key 400 0 rfl w1 q q1)
