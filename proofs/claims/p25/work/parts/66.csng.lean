/-! the class reads a comparison, a single test; whole tests -/
theorem c_comparison {T : JTk} {Nc Np : JNm} {d x : Nat} {p : JEx} (hd : 2 ≤ d) (hp : jXC MX5_sum d x T Nc Np p) : jXC MX5_comparison (d + 1) x T Nc Np (jxCmp T p) := by
  intro w n er s h hs hsn
  refine jSI_of jp_X5_comparison rfl (Nat.le_of_ble_eq_true rfl) (fun C hm => ?_)
  refine bq_X5_comparison_0 hm (hp w n er s h hs hsn) (Nat.le_refl _) (fun r w1 q1 => ?_)
  unfold jxCmp
  revert q1
  cases hr : p n er with
  | inl f =>
    rintro ⟨rfl, e5, hf⟩
    exact bk_X5_comparison_5 hm (fun z => absurd rfl z) (fun _ => bk_X5_comparison_8 hm ⟨0, rfl, rfl, e5, hf⟩)
  | inr q =>
    rintro ⟨rfl, q1⟩
    obtain ⟨s1, hs1, hs1q, hq4, hsb⟩ := q1.st hsn
    refine bk_X5_comparison_5 hm (fun _ => bq_X5_comparison_10 hm (jSI_F (c_kind q1.1)) (by omega) (fun r5 w5 h5 => ?_)) (fun z => absurd z (by decide))
    obtain ⟨rfl, rfl⟩ := h5
    have inn : (T.1 q.1 = 42 ∨ T.1 q.1 = 43 ∨ T.1 q.1 = 44 ∨ T.1 q.1 = 45 ∨ T.1 q.1 = 46) → ∀ w2, jCI T Nc Np w2 (q.1 + 1) q.2.1 → jNF w5 w2 → jW C 0 0 (jQQ C 0 0 (fun v w' => ∃ r, v = jI r ∧ jEP T Nc Np w n er s (if T.1 q.1 = 42 ∨ T.1 q.1 = 43 ∨ T.1 q.1 = 44 ∨ T.1 q.1 = 45 ∨ T.1 q.1 = 46 then (match p (q.1 + 1) q.2.1 with
    | .inl f => .inl f
    | .inr b => .inr (b.1, b.2.1, fun R => jjn (T.1 q.1) (q.2.2 R) (b.2.2 R))) else .inl q.1) r w')) 62 [jR 7 false, jI (nI x), jI (T.1 q.1)] [] w2 := by
      intro z w2 hc2 hf2
      rw [if_pos z]
      refine bq_X5_comparison_62 hm (hp w2 (q.1 + 1) q.2.1 s1 hc2 (hf2.St hs1) (by omega)) (Nat.le_refl _) (fun r w3 q3 => ?_)
      revert q3
      cases hr3 : p (q.1 + 1) q.2.1 with
      | inl f =>
        rintro ⟨rfl, e5, hf⟩
        exact bk_X5_comparison_67 hm (fun z => absurd rfl z) (fun _ => bk_X5_comparison_70 hm ⟨0, rfl, rfl, e5, q1.2.1.trans (hf2.EF.trans hf)⟩)
      | inr p3 =>
        rintro ⟨rfl, q3⟩
        refine bk_X5_comparison_67 hm (fun _ => ?_) (fun z => absurd z (by decide))
        obtain ⟨s3, hs3, hs3q, hp4, hsb3⟩ := q3.st (by omega)
        refine bq_X5_comparison_72 hm (c_emit q3.1 hs3 (by omega) (T.1 q.1) 0) (by omega) (fun w4 hem => bk_X5_comparison_78 hm ⟨1, rfl, rfl, ?_⟩)
        exact q1.two hsn hs1 (by omega) (Nat.le_refl _) (Nat.le_succ _) (by omega) (q3.pre hf2 (Nat.le_refl _) (fun z => z)) (by rcases z with z | z | z | z | z <;> rw [z] <;> decide) hs3 (by omega) hem
    refine bq_X5_comparison_14 hm (c_take q1.1 42 (by decide) (by decide)) (by omega) (fun r w2 h2 => ?_)
    rcases h2 with ⟨a, rfl, hc2, hf2⟩ | ⟨a1, rfl, rfl⟩
    · exact bk_X5_comparison_21 hm (fun _ => inn (Or.inl a) w2 hc2 hf2) (fun z => absurd z (by decide))
    refine bk_X5_comparison_21 hm (fun z => absurd rfl z) (fun _ => bq_X5_comparison_24 hm (c_take q1.1 43 (by decide) (by decide)) (by omega) (fun r w2 h2 => ?_))
    rcases h2 with ⟨a, rfl, hc2, hf2⟩ | ⟨a2, rfl, rfl⟩
    · exact bk_X5_comparison_30 hm (fun _ => inn (Or.inr (Or.inl a)) w2 hc2 hf2) (fun z => absurd z (by decide))
    refine bk_X5_comparison_30 hm (fun z => absurd rfl z) (fun _ => bq_X5_comparison_33 hm (c_take q1.1 44 (by decide) (by decide)) (by omega) (fun r w2 h2 => ?_))
    rcases h2 with ⟨a, rfl, hc2, hf2⟩ | ⟨a3, rfl, rfl⟩
    · exact bk_X5_comparison_39 hm (fun _ => inn (Or.inr (Or.inr (Or.inl a))) w2 hc2 hf2) (fun z => absurd z (by decide))
    refine bk_X5_comparison_39 hm (fun z => absurd rfl z) (fun _ => bq_X5_comparison_42 hm (c_take q1.1 45 (by decide) (by decide)) (by omega) (fun r w2 h2 => ?_))
    rcases h2 with ⟨a, rfl, hc2, hf2⟩ | ⟨a4, rfl, rfl⟩
    · exact bk_X5_comparison_48 hm (fun _ => inn (Or.inr (Or.inr (Or.inr (Or.inl a)))) w2 hc2 hf2) (fun z => absurd z (by decide))
    refine bk_X5_comparison_48 hm (fun z => absurd rfl z) (fun _ => bq_X5_comparison_51 hm (c_take q1.1 46 (by decide) (by decide)) (by omega) (fun r w2 h2 => ?_))
    rcases h2 with ⟨a, rfl, hc2, hf2⟩ | ⟨a5, rfl, rfl⟩
    · exact bk_X5_comparison_57 hm (fun _ => inn (Or.inr (Or.inr (Or.inr (Or.inr a)))) w2 hc2 hf2) (fun z => absurd z (by decide))
    refine bk_X5_comparison_57 hm (fun z => absurd rfl z) (fun _ => bk_X5_comparison_60 hm ⟨0, rfl, ?_⟩)
    show jEP T Nc Np w n er s (if _ then _ else _) 0 _
    rw [if_neg]
    · exact ⟨rfl, q1.1.1.1, q1.2.1⟩
    · rintro (z | z | z | z | z)
      · exact a1 z
      · exact a2 z
      · exact a3 z
      · exact a4 z
      · exact a5 z
theorem c_sngB {T : JTk} {Nc Np : JNm} {d x : Nat} {sum : JEx} {deep : Option JEx} (hd : 2 ≤ d) (hx : x ≤ 8) (hsum : jXC MX5_sum d x T Nc Np sum) (hdeep : (deep = none ∧ x = 8) ∨ ∃ p, deep = some p ∧ x < 8 ∧ ∃ d2, d2 ≤ d ∧ 2 ≤ d2 ∧ jXC MX5_single d2 (x + 1) T Nc Np p) : jXC MX5_single (d + 3) x T Nc Np (jxSngB T (jnum T Np) sum deep) := by
  intro w n er s h hs hsn
  refine jSI_of jp_X5_single rfl (Nat.le_of_ble_eq_true rfl) (fun C hm => ?_)
  have h400 := h.2.2.1.1
  refine bk_X5_single_0 hm (c_kind h) (by omega) ?_
  refine bk_X5_single_4 hm (fun a => ?_) (fun a => ?_) (fun a => ?_) (fun a1 a2 a3 => ?_)
  · refine bq_X5_single_102 hm (by rw [h.2.2.2.2.2.1]; exact c_namedStep h hs hsn h.pN (by rw [a]; decide) (by rw [a]; decide)) (by omega) (fun r w2 q => bk_X5_single_117 hm (i32_01 r (jEP_01 q)) ⟨r, rfl, ?_⟩)
    unfold jxSngB
    rw [if_pos a]
    rw [a] at q
    exact q
  · have hlt := (h.lt (by rw [a]; decide) (by rw [a]; decide)).1
    unfold jxSngB
    rw [if_neg (by rw [a]; decide), if_pos a]
    refine bq_X5_single_40 hm (c_goDeeper h hlt hx) (by omega) (fun r w1 hg => ?_)
    rcases hg with ⟨hx8, rfl, h1, hf1⟩ | ⟨hx8, rfl, rfl⟩
    · rcases hdeep with ⟨-, z⟩ | ⟨p, rfl, -, d2, hd2, hd22, hp⟩
      · omega
      refine bk_X5_single_45 hm (fun z => absurd z (by decide)) (fun _ => ?_)
      refine bq_X5_single_48 hm (by rw [nI_1]; exact hp w1 (n + 1) er s h1 (hf1.St hs) (by omega)) (by omega) (fun r w3 q3 => ?_)
      unfold jxMap
      revert q3
      simp only
      cases hr : p (n + 1) er with
      | inl f =>
        rintro ⟨rfl, e5, hf⟩
        exact bk_X5_single_55 hm (fun z => absurd rfl z) (fun _ => bk_X5_single_58 hm ⟨0, rfl, rfl, e5, hf1.EF.trans hf⟩)
      | inr q =>
        rintro ⟨rfl, q3⟩
        obtain ⟨s3, hs3, hs3q, hq4, hsb⟩ := q3.st (by omega)
        refine bk_X5_single_55 hm (fun _ => ?_) (fun z => absurd z (by decide))
        refine bq_X5_single_60 hm (c_emit q3.1 hs3 (by omega) 25 0) (by omega) (fun w4 hem => bk_X5_single_67 hm ⟨1, rfl, rfl, ?_⟩)
        exact (q3.pre hf1 (Nat.le_refl _) (fun z => z)).un (by omega) (Nat.lt_succ_self n) (g := fun x => 1 - x) (fun R x y S => rfl) hs3 (by omega) hem
    · rcases hdeep with ⟨rfl, z⟩ | ⟨p, rfl, z, hp⟩
      · exact bk_X5_single_45 hm (fun _ => bk_X5_single_58 hm ⟨0, rfl, rfl, h.1.1, jEF.refl _⟩) (fun z => absurd rfl z)
      · omega
  · have hlt := (h.lt (by rw [a]; decide) (by rw [a]; decide)).1
    unfold jxSngB
    rw [if_neg (by rw [a]; decide), if_neg (by rw [a]; decide), if_pos a]
    refine bq_X5_single_69 hm (c_goDeeper h hlt hx) (by omega) (fun r w1 hg => ?_)
    rcases hg with ⟨hx8, rfl, h1, hf1⟩ | ⟨hx8, rfl, rfl⟩
    · rcases hdeep with ⟨-, z⟩ | ⟨p, rfl, -, d2, hd2, hd22, hp⟩
      · omega
      refine bk_X5_single_74 hm (fun z => absurd z (by decide)) (fun _ => ?_)
      refine bq_X5_single_77 hm (by rw [nI_1]; exact c_test (c_both hp hd22) (by omega) w1 (n + 1) er s h1 (hf1.St hs) (by omega)) (by omega) (fun r w3 q3 => ?_)
      unfold jxShut
      revert q3
      show jEP T Nc Np w1 (n + 1) er s (jxTst T p (n + 1) er) r w3 → _
      simp only
      cases hr : jxTst T p (n + 1) er with
      | inl f =>
        rintro ⟨rfl, e5, hf⟩
        exact bk_X5_single_84 hm (fun _ => bk_X5_single_100 hm (bk_X5_single_101 hm rfl ⟨0, rfl, rfl, e5, hf1.EF.trans hf⟩)) (fun z => absurd rfl z)
      | inr q =>
        rintro ⟨rfl, q3⟩
        refine bk_X5_single_84 hm (fun z => absurd z (by decide)) (fun _ => bq_X5_single_87 hm (c_take q3.1 35 (by decide) (by decide)) (by omega) (fun r w4 h4 => ?_))
        rcases h4 with ⟨a4, rfl, hc4, hf4⟩ | ⟨a4, rfl, rfl⟩
        · simp only [if_pos a4]
          exact bk_X5_single_93 hm (fun z => absurd z (by decide)) (fun _ => bk_X5_single_96 hm (bk_X5_single_101 hm rfl ⟨1, rfl, rfl, (q3.pre hf1 (by omega) (fun z => z)).post hf4 (Nat.le_succ q.1) hc4⟩))
        · simp only [if_neg a4]
          exact bk_X5_single_93 hm (fun _ => bk_X5_single_100 hm (bk_X5_single_101 hm rfl ⟨0, rfl, rfl, q3.1.1.1, hf1.EF.trans q3.2.1⟩)) (fun z => absurd rfl z)
    · rcases hdeep with ⟨rfl, z⟩ | ⟨p, rfl, z, hp⟩
      · exact bk_X5_single_74 hm (fun _ => bk_X5_single_100 hm (bk_X5_single_101 hm rfl ⟨0, rfl, rfl, h.1.1, jEF.refl _⟩)) (fun z => absurd rfl z)
      · omega
  · unfold jxSngB
    rw [if_neg a1, if_neg a2, if_neg a3]
    refine bq_X5_single_118 hm (c_comparison hd hsum w n er s h hs hsn) (by omega) (fun r w2 q => bk_X5_single_123 hm (i32_01 r (jEP_01 q)) ⟨r, rfl, q⟩)
theorem c_sumV {T : JTk} {Nc Np : JNm} {r x : Nat} (hx : x + r = 8) : jXC MX5_sum (8 + 4 * r) x T Nc Np (jxSum T (jxVal T (jnum T Nc) (jnum T Np) r)) := by
  have := c_sum (c_product (c_val (T := T) (Nc := Nc) (Np := Np) r x hx) (by omega)) (by omega)
  rwa [show 6 + 4 * r + 1 + 1 = 8 + 4 * r by omega] at this
theorem c_sng {T : JTk} {Nc Np : JNm} : ∀ (r x : Nat), x + r = 8 → jXC MX5_single (11 + 4 * r) x T Nc Np (jxSng T (jnum T Nc) (jnum T Np) r) := by
  intro r
  induction r with
  | zero =>
    intro x hx
    have := c_sngB (T := T) (Nc := Nc) (Np := Np) (d := 8) (x := x) (deep := none) (by omega) (by omega) (c_sumV (r := 0) hx) (Or.inl ⟨rfl, by omega⟩)
    exact this
  | succ r ih =>
    intro x hx
    have := c_sngB (d := 8 + 4 * (r + 1)) (x := x) (by omega) (by omega) (c_sumV hx) (Or.inr ⟨_, rfl, by omega, 11 + 4 * r, by omega, by omega, ih (x + 1) (by omega)⟩)
    rwa [show 8 + 4 * (r + 1) + 3 = 11 + 4 * (r + 1) by omega] at this
/-- a whole test -/
theorem c_wtest {T : JTk} {Nc Np : JNm} : jXC MX5_test 45 0 T Nc Np (jxTst T (jxSng T (jnum T Nc) (jnum T Np) 8)) := c_test (c_both (c_sng 8 0 rfl) (by decide)) (by decide)
