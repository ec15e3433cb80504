/-! the class reads a value -/
theorem jbl0 {er : JEr} {c t : Nat} (hc : ¬ c = 0) : (jbl er c t).1 = 0 → er.1 = 0 := by
  unfold jbl
  intro h
  by_cases z : er.1 = 0
  · exact z
  · rwa [if_neg z] at h
theorem jblif0 {er : JEr} {c t : Nat} (hc : ¬ c = 0) {q : Prop} [Decidable q] : (if q then jbl er c t else er).1 = 0 → er.1 = 0 := by
  intro h
  by_cases z : q
  · rw [if_pos z] at h
    exact jbl0 hc h
  · rwa [if_neg z] at h
theorem jCN.kept {k : Nat} {N : JNm} {T : JTk} {w w2 : JW} (h : jCN k N T w) (hf : jNF w w2) : jCN k N T w2 := by
  refine ⟨h.1, fun j hj => ?_, h.2.2.1, h.2.2.2⟩
  rw [hf.2 k _ (by rcases h.1 with q | q | q <;> rw [q] <;> decide)]
  exact h.2.1 j hj
theorem jEP_01 {T : JTk} {Nc Np : JNm} {w w2 : JW} {n : Nat} {er : JEr} {s : Nat} {res : JXR} {r : Int32} (h : jEP T Nc Np w n er s res r w2) : r = 0 ∨ r = 1 := by
  cases res with
  | inl f => exact Or.inl h.1
  | inr q => exact Or.inr h.1
theorem jNF.o {w w2 : JW} (h : jNF w w2) : w2.2.2 7 4 = w.2.2 7 4 := by rw [h.1]
theorem c_namedStep {T : JTk} {Nc Np : JNm} {w : JW} {n : Nat} {er : JEr} {s : Nat} (h : jCI T Nc Np w n er) (hs : jSt w s) (hsn : s ≤ n) {k : Nat} {N : JNm} (hN : jCN k N T w) (ha : 18 ≤ T.1 n ∧ T.1 n ≤ 24) (ha2 : ¬ T.1 n = 47 ∧ ¬ T.1 n = 48 ∧ ¬ T.1 n = 49 ∧ ¬ T.1 n = 25) :
    jSI MX5_namedStep 3 [jR 7 false, jR k false, jI (nI N.2)] w (jEP T Nc Np w n er s (jxNamed T (T.1 n) (jnum T N) n er)) := by
  refine jSI_of jp_X5_namedStep rfl (Nat.le_of_ble_eq_true rfl) (fun C hm => ?_)
  have hlt := (h.lt ha2.1 ha2.2.1).1
  have h400 := h.2.2.1.1
  have h1 := h.next hlt
  have hf1 : jNF w (jset w 7 false 5 (w.1 7 false 5 + 1)) := jNF_set
  refine bk_X5_namedStep_0 hm (c_kind h) (by decide) (bk_X5_namedStep_4 hm (c_kind h1) (by decide) ?_)
  revert h1 hf1
  generalize jset w 7 false 5 (w.1 7 false 5 + 1) = w1
  intro h1 hf1
  unfold jxNamed
  refine bk_X5_namedStep_19 hm (fun e => ?_) (fun e => bk_X5_namedStep_24 hm ⟨0, rfl, ?_⟩)
  · have hlt1 := (h1.lt (by rw [e]; decide) (by rw [e]; decide)).1
    have hN1 := hN.kept hf1
    refine bk_X5_namedStep_26 hm (r := jnum T N (n + 1)) (w2 := w1) (by rw [h1.1.1]; exact c_num h1 hN1 hlt1 e) (by decide) ?_
    rw [if_pos e]
    have fin : ∀ (w2 : JW) (er2 : JEr), (er2.1 = 0 → er.1 = 0) → jCI T Nc Np w2 (n + 1) er2 → jNF w w2 → jW C 0 0 (jQQ C 0 0 (fun v w' => ∃ r, v = jI r ∧ jEP T Nc Np w n er s (.inr (n + 2, er2, fun R => jrd R (T.1 n) (jnum T N (n + 1)))) r w')) 48 [jR 7 false, jU, jU, jI (T.1 n), jI (jnum T N (n + 1))] [] w2 := by
      intro w2 er2 he h2 hf2
      refine bq_X5_namedStep_48 hm (c_emit h2 (hf2.St hs) (by omega) (T.1 n) (jnum T N (n + 1))) (by decide) (fun w3 hem => ?_)
      obtain ⟨k1, k2, k3, k4, k5⟩ := hem
      refine bk_X5_namedStep_55 hm ⟨1, rfl, rfl, ?_⟩
      have e3 : w3.2.2 7 4 = w2.2.2 7 4 := by rw [k2.1]
      have hf4 : jNF w3 (jset w3 7 false 5 (w3.1 7 false 5 + 1)) := jNF_set
      refine jEPs.start (a := T.1 n) (b := jnum T N (n + 1)) (by omega) he rfl (Or.inr ha) ha2.2.2.1 ha2.2.2.2 (k1.next hlt1) ((hf2.EF.trans k2).trans hf4.EF) (((hf2.KpF s).trans k3 hf2.1 (Nat.le_refl _)).trans (hf4.KpF s) (hf2.EF.trans k2).1 (Nat.le_refl _)) (fun z => hf4.St (k4 z)) (fun z => ?_)
      obtain ⟨m1, m2, m3⟩ := k5 z
      refine ⟨hf4.St m1, ?_, ?_⟩
      · rw [hf4.o, e3, hf4.2 39 _ (by decide)]
        exact m2
      · rw [hf4.o, e3, hf4.2 40 _ (by decide)]
        exact m3
    refine bk_X5_namedStep_36 hm (fun q => ?_) (fun q => ?_)
    · rw [if_neg (fun z => (jnum_lt0 hN.2.2.2.1).mpr z q)]
      exact fin w1 er (fun z => z) h1 hf1
    · rw [if_pos ((jnum_lt0 hN.2.2.2.1).mp q)]
      refine bq_X5_namedStep_43 hm (c_blame h1 (c := 3) (by decide)) (by decide) (fun w2 hp => ?_)
      exact fin w2 _ (jbl0 (by decide)) hp.1 (hf1.trans hp.2)
  · rw [if_neg e]
    exact ⟨rfl, h1.1.1, hf1.EF⟩
theorem c_extreme {T : JTk} {Nc Np : JNm} {d x : Nat} {deep : Option JEx} (hd : 2 ≤ d) (hx : x ≤ 8) (hdeep : (deep = none ∧ x = 8) ∨ ∃ p, deep = some p ∧ x < 8 ∧ jXC MX5_value d (x + 1) T Nc Np p) {w : JW} {n : Nat} {er : JEr} {s : Nat} (h : jCI T Nc Np w n er) (hs : jSt w s) (hsn : s ≤ n) (ha : T.1 n = 28 ∨ T.1 n = 29) :
    jSI MX5_extreme (d + 3) [jR 7 false, jI (nI x)] w (jEP T Nc Np w n er s (jxExtB T deep n er)) := by
  refine jSI_of jp_X5_extreme rfl (Nat.le_of_ble_eq_true rfl) (fun C hm => ?_)
  unfold jxExtB
  have hlt := (h.lt (by rcases ha with z | z <;> rw [z] <;> decide) (by rcases ha with z | z <;> rw [z] <;> decide)).1
  have h400 := h.2.2.1.1
  have h1 := h.next hlt
  have hf1 : jNF w (jset w 7 false 5 (w.1 7 false 5 + 1)) := jNF_set
  refine bk_X5_extreme_0 hm (c_kind h) (by omega) (bk_X5_extreme_4 hm (c_kind h1) (by omega) ?_)
  revert h1 hf1
  generalize jset w 7 false 5 (w.1 7 false 5 + 1) = w1
  intro h1 hf1
  refine bk_X5_extreme_19 hm (fun e => bk_X5_extreme_70 hm ⟨0, rfl, ?_⟩) (fun e => ?_)
  · have : jEP T Nc Np w n er s (.inl (n + 1)) 0 w1 := ⟨rfl, h1.1.1, hf1.EF⟩
    cases deep with
    | none => exact this
    | some p =>
      show jEP T Nc Np w n er s (if T.1 (n + 1) = 32 then _ else _) 0 w1
      rw [if_neg e]
      exact this
  have hlt1 := (h1.lt (by rw [e]; decide) (by rw [e]; decide)).1
  refine bq_X5_extreme_24 hm (c_goDeeper h1 hlt1 hx) (by omega) (fun r w2 hg => ?_)
  rcases hg with ⟨hx8, rfl, h2, hf2⟩ | ⟨hx8, rfl, rfl⟩
  · rcases hdeep with ⟨-, z⟩ | ⟨p, rfl, -, hp⟩
    · omega
    have hsum := c_sum (c_product hp hd) (Nat.le_succ_of_le hd)
    show jW C 0 0 (jQQ C 0 0 (fun v w' => ∃ r, v = jI r ∧ jEP T Nc Np w n er s (if T.1 (n + 1) = 32 then _ else _) r w')) _ _ _ _
    rw [if_pos e]
    have hf12 := hf1.trans hf2
    refine bk_X5_extreme_29 hm (fun z => absurd z (by decide)) (fun _ => ?_)
    refine bq_X5_extreme_32 hm (by rw [nI_1]; exact hsum w2 (n + 2) er s h2 (hf12.St hs) (by omega)) (by omega) (fun r w3 q3 => ?_)
    unfold jxTwo jxShut
    revert q3
    show jEP T Nc Np w2 (n + 2) er s (jxSum T p (n + 2) er) r w3 → _
    cases hr : jxSum T p (n + 2) er with
    | inl f =>
      rintro ⟨rfl, e5, hf⟩
      exact bk_X5_extreme_39 hm (fun _ => bk_X5_extreme_70 hm ⟨0, rfl, rfl, e5, hf12.EF.trans hf⟩) (fun z => absurd rfl z)
    | inr q =>
      rintro ⟨rfl, q3⟩
      refine bk_X5_extreme_39 hm (fun z => absurd z (by decide)) (fun _ => ?_)
      refine bq_X5_extreme_42 hm (c_take q3.1 37 (by decide) (by decide)) (by omega) (fun r w4 h4 => ?_)
      rcases h4 with ⟨a, rfl, hc4, hf4⟩ | ⟨a, rfl, rfl⟩
      · refine bk_X5_extreme_48 hm (fun z => absurd z (by decide)) (fun _ => ?_)
        have q4 := (q3.pre hf12 (Nat.le_refl _) (fun z => z)).post hf4 (Nat.le_succ q.1) hc4
        obtain ⟨s4, hs4, hs4q, hq4, hsb4⟩ := q4.st (by omega)
        have hq41 : q.1 + 1 ≤ 400 := hq4
        have hsb41 : s4 + (n + 2) ≤ s + (q.1 + 1) := hsb4
        refine bq_X5_extreme_51 hm (by rw [nI_1]; exact hsum w4 (q.1 + 1) q.2.1 s4 hc4 hs4 hs4q) (by omega) (fun r w5 q5 => ?_)
        revert q5
        show jEP T Nc Np w4 (q.1 + 1) q.2.1 s4 (jxSum T p (q.1 + 1) q.2.1) r w5 → _
        simp only [if_pos a]
        cases hr2 : jxSum T p (q.1 + 1) q.2.1 with
        | inl f =>
          rintro ⟨rfl, e5, hf⟩
          exact bk_X5_extreme_58 hm (fun _ => bk_X5_extreme_70 hm ⟨0, rfl, rfl, e5, q4.2.1.trans hf⟩) (fun z => absurd rfl z)
        | inr q2 =>
          rintro ⟨rfl, q5⟩
          refine bk_X5_extreme_58 hm (fun z => absurd z (by decide)) (fun _ => ?_)
          refine bq_X5_extreme_61 hm (c_take q5.1 33 (by decide) (by decide)) (by omega) (fun r w6 h6 => ?_)
          rcases h6 with ⟨a6, rfl, hc6, hf6⟩ | ⟨a6, rfl, rfl⟩
          · refine bk_X5_extreme_67 hm (fun _ => ?_) (fun z => absurd z (by decide))
            simp only [if_pos a6]
            have q6 := q5.post hf6 (Nat.le_succ q2.1) hc6
            obtain ⟨s6, hs6, hs6q, hq6, hsb6⟩ := q6.st hs4q
            have hq61 : q2.1 + 1 ≤ 400 := hq6
            have hsb61 : s6 + (q.1 + 1) ≤ s4 + (q2.1 + 1) := hsb6
            refine bq_X5_extreme_72 hm (c_emit hc6 hs6 (by omega) (T.1 n) 0) (by omega) (fun w7 hem => bk_X5_extreme_78 hm ⟨1, rfl, rfl, ?_⟩)
            exact q4.two (by omega) hs4 (by omega) (by omega) (Nat.le_refl _) (by show n + (q.1 + 1) < n + 2 + (q.1 + 1); omega) q6 (by rcases ha with z | z <;> rw [z] <;> decide) hs6 (by omega) hem
          · refine bk_X5_extreme_67 hm (fun z => absurd rfl z) (fun _ => bk_X5_extreme_70 hm ⟨0, rfl, ?_⟩)
            simp only [if_neg a6]
            exact ⟨rfl, q5.1.1.1, q4.2.1.trans q5.2.1⟩
      · refine bk_X5_extreme_48 hm (fun _ => bk_X5_extreme_70 hm ⟨0, rfl, ?_⟩) (fun z => absurd rfl z)
        simp only [if_neg a]
        exact ⟨rfl, q3.1.1.1, hf12.EF.trans q3.2.1⟩
  · rcases hdeep with ⟨rfl, z⟩ | ⟨p, rfl, z, hp⟩
    · exact bk_X5_extreme_29 hm (fun _ => bk_X5_extreme_70 hm ⟨0, rfl, rfl, h1.1.1, hf1.EF⟩) (fun z => absurd rfl z)
    · omega
theorem c_valB {T : JTk} {Nc Np : JNm} {d x : Nat} {deep : Option JEx} (hd : 2 ≤ d) (hx : x ≤ 8) (hdeep : (deep = none ∧ x = 8) ∨ ∃ p, deep = some p ∧ x < 8 ∧ jXC MX5_value d (x + 1) T Nc Np p) : jXC MX5_value (d + 4) x T Nc Np (jxValB T (jnum T Nc) (jnum T Np) deep) := by
  intro w n er s h hs hsn
  refine jSI_of jp_X5_value rfl (Nat.le_of_ble_eq_true rfl) (fun C hm => ?_)
  have h400 := h.2.2.1.1
  refine bk_X5_value_0 hm (c_kind h) (by omega) ?_
  have named : ∀ (k : Nat) (N : JNm), jCN k N T w → (18 ≤ T.1 n ∧ T.1 n ≤ 24) → (¬ T.1 n = 47 ∧ ¬ T.1 n = 48 ∧ ¬ T.1 n = 49 ∧ ¬ T.1 n = 25) → jSI MX5_namedStep 3 [jR 7 false, jR k false, jI (nI N.2)] w (jEP T Nc Np w n er s (jxNamed T (T.1 n) (jnum T N) n er)) := fun k N hN a b => c_namedStep h hs hsn hN a b
  have plain : (T.1 n = 18 ∨ T.1 n = 19 ∨ T.1 n = 23) → jW C 0 0 (jQQ C 0 0 (fun v w' => ∃ r, v = jI r ∧ jEP T Nc Np w n er s (jxValB T (jnum T Nc) (jnum T Np) deep n er) r w')) 137 [jR 7 false, jU] [] w := by
    intro a
    have a31 : ¬ T.1 n = 31 := by rcases a with z | z | z <;> rw [z] <;> decide
    have hlt := (h.lt (by rcases a with z | z | z <;> rw [z] <;> decide) (by rcases a with z | z | z <;> rw [z] <;> decide)).1
    unfold jxValB
    rw [if_neg a31, if_pos a]
    refine bk_X5_value_137 hm (c_kind h) (by omega) (bq_X5_value_142 hm (c_emit h hs (by omega) (T.1 n) 0) (by omega) (fun w2 hem => ?_))
    obtain ⟨k1, k2, k3, k4, k5⟩ := hem
    have hf4 : jNF w2 (jset w2 7 false 5 (w2.1 7 false 5 + 1)) := jNF_set
    have e3 : w2.2.2 7 4 = w.2.2 7 4 := by rw [k2.1]
    refine bk_X5_value_146 hm ⟨1, rfl, rfl, jEPs.start (a := T.1 n) (b := 0) (Nat.lt_succ_self n) (fun z => z) rfl (Or.inr (by rcases a with z | z | z <;> rw [z] <;> decide)) (by rcases a with z | z | z <;> rw [z] <;> decide) (by rcases a with z | z | z <;> rw [z] <;> decide) (k1.next hlt) (k2.trans hf4.EF) (k3.trans (hf4.KpF s) k2.1 (Nat.le_refl _)) (fun z => hf4.St (k4 z)) (fun z => ?_)⟩
    obtain ⟨m1, m2, m3⟩ := k5 z
    refine ⟨hf4.St m1, ?_, ?_⟩
    · rw [hf4.o, e3, hf4.2 39 _ (by decide)]
      exact m2
    · rw [hf4.o, e3, hf4.2 40 _ (by decide)]
      exact m3
  have ext : (T.1 n = 28 ∨ T.1 n = 29) → jW C 0 0 (jQQ C 0 0 (fun v w' => ∃ r, v = jI r ∧ jEP T Nc Np w n er s (jxValB T (jnum T Nc) (jnum T Np) deep n er) r w')) 252 [jR 7 false, jI (nI x)] [] w := by
    intro a
    refine bq_X5_value_252 hm (c_extreme hd hx hdeep h hs hsn a) (by omega) (fun r w2 q => bk_X5_value_257 hm (i32_01 r (jEP_01 q)) ⟨r, rfl, ?_⟩)
    unfold jxValB
    rw [if_neg (by rcases a with z | z <;> rw [z] <;> decide), if_neg (by rcases a with z | z <;> rw [z] <;> decide), if_neg (by rcases a with z | z <;> rw [z] <;> decide), if_neg (by rcases a with z | z <;> rw [z] <;> decide), if_neg (by rcases a with z | z <;> rw [z] <;> decide), if_neg (by rcases a with z | z <;> rw [z] <;> decide), if_pos a]
    exact q
  have two : (T.1 n = 21 ∨ T.1 n = 22) → jW C 0 0 (jQQ C 0 0 (fun v w' => ∃ r, v = jI r ∧ jEP T Nc Np w n er s (jxValB T (jnum T Nc) (jnum T Np) deep n er) r w')) 174 [jR 7 false, jU] [] w := by
    intro a
    refine bq_X5_value_174 hm (by rw [h.2.2.2.2.2.1]; exact named 9 Np h.pN (by rcases a with z | z <;> rw [z] <;> decide) (by rcases a with z | z <;> rw [z] <;> decide)) (by omega) (fun r w2 q => bk_X5_value_189 hm (i32_01 r (jEP_01 q)) ⟨r, rfl, ?_⟩)
    unfold jxValB
    rw [if_neg (by rcases a with z | z <;> rw [z] <;> decide), if_neg (by rcases a with z | z <;> rw [z] <;> decide), if_neg (by rcases a with z | z <;> rw [z] <;> decide), if_pos a]
    exact q
  refine bk_X5_value_4 hm (fun a => plain (Or.inl a)) (fun a => plain (Or.inr (Or.inl a))) (fun a => ?_) (fun a => two (Or.inl a)) (fun a => two (Or.inr a)) (fun a => plain (Or.inr (Or.inr a))) (fun a => ext (Or.inl a)) (fun a => ext (Or.inr a)) (fun a => ?_) (fun a => ?_) (fun a => ?_) (fun a1 a2 a3 a4 a5 a6 a7 a8 a9 a10 a11 => ?_)
  · refine bq_X5_value_158 hm (by rw [h.2.2.2.1.2.1]; exact named 8 Nc h.cN (by rw [a]; decide) (by rw [a]; decide)) (by omega) (fun r w2 q => bk_X5_value_173 hm (i32_01 r (jEP_01 q)) ⟨r, rfl, ?_⟩)
    unfold jxValB
    rw [if_neg (by rw [a]; decide), if_neg (by rw [a]; decide), if_pos a]
    rw [a] at q
    exact q
  · have hlt := (h.lt (by rw [a]; decide) (by rw [a]; decide)).1
    unfold jxValB
    rw [if_pos a]
    refine bk_X5_value_108 hm (r := T.2.1 n) (w2 := w) (by rw [h.1.1, ← h.2.2.1.2.2.2.1 n hlt a]; exact c_numberAt w h.le) (by omega) (bq_X5_value_122 hm (c_emit h hs (by omega) 31 (T.2.1 n)) (by omega) (fun w2 hem => ?_))
    obtain ⟨k1, k2, k3, k4, k5⟩ := hem
    have hf4 : jNF w2 (jset w2 7 false 5 (w2.1 7 false 5 + 1)) := jNF_set
    have e3 : w2.2.2 7 4 = w.2.2 7 4 := by rw [k2.1]
    refine bk_X5_value_125 hm ⟨1, rfl, rfl, jEPs.start (a := 31) (b := T.2.1 n) (Nat.lt_succ_self n) (fun z => z) rfl (Or.inl rfl) (by decide) (by decide) (k1.next hlt) (k2.trans hf4.EF) (k3.trans (hf4.KpF s) k2.1 (Nat.le_refl _)) (fun z => hf4.St (k4 z)) (fun z => ?_)⟩
    obtain ⟨m1, m2, m3⟩ := k5 z
    refine ⟨hf4.St m1, ?_, ?_⟩
    · rw [hf4.o, e3, hf4.2 39 _ (by decide)]
      exact m2
    · rw [hf4.o, e3, hf4.2 40 _ (by decide)]
      exact m3
  · have hlt := (h.lt (by rw [a]; decide) (by rw [a]; decide)).1
    unfold jxValB
    rw [if_neg (by rw [a]; decide), if_neg (by rw [a]; decide), if_neg (by rw [a]; decide), if_neg (by rw [a]; decide), if_neg (by rw [a]; decide), if_pos a]
    refine bq_X5_value_219 hm (c_goDeeper h hlt hx) (by omega) (fun r w1 hg => ?_)
    rcases hg with ⟨hx8, rfl, h1, hf1⟩ | ⟨hx8, rfl, rfl⟩
    · rcases hdeep with ⟨-, z⟩ | ⟨p, rfl, -, hp⟩
      · omega
      refine bk_X5_value_224 hm (fun z => absurd z (by decide)) (fun _ => ?_)
      refine bq_X5_value_227 hm (by rw [nI_1]; exact c_sum (c_product hp hd) (Nat.le_succ_of_le hd) w1 (n + 1) er s h1 (hf1.St hs) (by omega)) (by omega) (fun r w3 q3 => ?_)
      unfold jxShut
      revert q3
      show jEP T Nc Np w1 (n + 1) er s (jxSum T p (n + 1) er) r w3 → _
      simp only
      cases hr : jxSum T p (n + 1) er with
      | inl f =>
        rintro ⟨rfl, e5, hf⟩
        exact bk_X5_value_234 hm (fun _ => bk_X5_value_250 hm (bk_X5_value_251 hm rfl ⟨0, rfl, rfl, e5, hf1.EF.trans hf⟩)) (fun z => absurd rfl z)
      | inr q =>
        rintro ⟨rfl, q3⟩
        refine bk_X5_value_234 hm (fun z => absurd z (by decide)) (fun _ => bq_X5_value_237 hm (c_take q3.1 33 (by decide) (by decide)) (by omega) (fun r w4 h4 => ?_))
        rcases h4 with ⟨a4, rfl, hc4, hf4⟩ | ⟨a4, rfl, rfl⟩
        · simp only [if_pos a4]
          exact bk_X5_value_243 hm (fun z => absurd z (by decide)) (fun _ => bk_X5_value_246 hm (bk_X5_value_251 hm rfl ⟨1, rfl, rfl, (q3.pre hf1 (by omega) (fun z => z)).post hf4 (Nat.le_succ q.1) hc4⟩))
        · simp only [if_neg a4]
          exact bk_X5_value_243 hm (fun _ => bk_X5_value_250 hm (bk_X5_value_251 hm rfl ⟨0, rfl, rfl, q3.1.1.1, hf1.EF.trans q3.2.1⟩)) (fun z => absurd rfl z)
    · rcases hdeep with ⟨rfl, z⟩ | ⟨p, rfl, z, hp⟩
      · exact bk_X5_value_224 hm (fun _ => bk_X5_value_250 hm (bk_X5_value_251 hm rfl ⟨0, rfl, rfl, h.1.1, jEF.refl _⟩)) (fun z => absurd rfl z)
      · omega
  · have hlt := (h.lt (by rw [a]; decide) (by rw [a]; decide)).1
    unfold jxValB
    rw [if_neg (by rw [a]; decide), if_neg (by rw [a]; decide), if_neg (by rw [a]; decide), if_neg (by rw [a]; decide), if_pos a]
    refine bq_X5_value_190 hm (c_goDeeper h hlt hx) (by omega) (fun r w1 hg => ?_)
    rcases hg with ⟨hx8, rfl, h1, hf1⟩ | ⟨hx8, rfl, rfl⟩
    · rcases hdeep with ⟨-, z⟩ | ⟨p, rfl, -, hp⟩
      · omega
      refine bk_X5_value_195 hm (fun z => absurd z (by decide)) (fun _ => ?_)
      refine bq_X5_value_198 hm (by rw [nI_1]; exact hp w1 (n + 1) er s h1 (hf1.St hs) (by omega)) (by omega) (fun r w3 q3 => ?_)
      unfold jxMap
      revert q3
      simp only
      cases hr : p (n + 1) er with
      | inl f =>
        rintro ⟨rfl, e5, hf⟩
        exact bk_X5_value_205 hm (fun z => absurd rfl z) (fun _ => bk_X5_value_208 hm ⟨0, rfl, rfl, e5, hf1.EF.trans hf⟩)
      | inr q =>
        rintro ⟨rfl, q3⟩
        obtain ⟨s3, hs3, hs3q, hq4, hsb⟩ := q3.st (by omega)
        refine bk_X5_value_205 hm (fun _ => ?_) (fun z => absurd z (by decide))
        refine bq_X5_value_210 hm (c_emit q3.1 hs3 (by omega) 49 0) (by omega) (fun w4 hem => bk_X5_value_217 hm ⟨1, rfl, rfl, ?_⟩)
        exact (q3.pre hf1 (Nat.le_refl _) (fun z => z)).un (by omega) (Nat.lt_succ_self n) (g := fun x => -x) (fun R x y S => rfl) hs3 (by omega) hem
    · rcases hdeep with ⟨rfl, z⟩ | ⟨p, rfl, z, hp⟩
      · exact bk_X5_value_195 hm (fun _ => bk_X5_value_208 hm ⟨0, rfl, rfl, h.1.1, jEF.refl _⟩) (fun z => absurd rfl z)
      · omega
  · unfold jxValB
    rw [if_neg a9, if_neg (fun z => z.elim a1 (fun z => z.elim a2 a6)), if_neg a3, if_neg (fun z => z.elim a4 a5), if_neg a11, if_neg a10, if_neg (fun z => z.elim a7 a8)]
    exact bk_X5_value_258 hm ⟨0, rfl, rfl, h.1.1, jEF.refl _⟩
theorem c_val {T : JTk} {Nc Np : JNm} : ∀ (r x : Nat), x + r = 8 → jXC MX5_value (6 + 4 * r) x T Nc Np (jxVal T (jnum T Nc) (jnum T Np) r) := by
  intro r
  induction r with
  | zero =>
    intro x hx
    exact c_valB (d := 2) (Nat.le_refl _) (by omega) (Or.inl ⟨rfl, by omega⟩)
  | succ r ih =>
    intro x hx
    have := c_valB (d := 6 + 4 * r) (x := x) (by omega) (by omega) (Or.inr ⟨_, rfl, by omega, ih (x + 1) (by omega)⟩)
    rwa [show 6 + 4 * r + 4 = 6 + 4 * (r + 1) by omega] at this
