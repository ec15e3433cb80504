/-! the reference reads a value: every way -/
/-- a leaf that names something -/
theorem m_leaf {T : JTk} {Rc Rp : JNm} {fc fp : Nat → Int32} {w w1 w2 : JW} {n x : Nat} {er : JEr} {m : Nat} {t : Bool} {f : Nat → Int32} {np : Nat} (o : Int32) (h : jMI T Rc Rp fc fp w n x er m) (f1 : jMF w w1) (h2 : jMI T Rc Rp fc fp w2 (n + 1 + 1) x (if f (n + 1) < 0 then jbl er 3 (n + 1) else er) m) (f2 : jMF w1 w2) {r : Int32} (hr : er.1 = 0 → r = f (n + 1)) (hN : ∃ N : JNm, (er.1 = 0 → ∀ t, f t = jnum T N t) ∧ N.2 ≤ 12 ∧ N.2 = np) (ho : ∀ k : Nat, k < np → (t = false ∧ (o = 18 ∨ o = 19 ∨ o = 23 ∨ (o = 20 ∧ ∃ j : Nat, j < Rc.2 ∧ nI k = nI j) ∨ ((o = 21 ∨ o = 22) ∧ ∃ j : Nat, j < Rp.2 ∧ nI k = nI j))) ∨ (t = true ∧ o = 24 ∧ ∃ j : Nat, j < Rp.2 ∧ nI k = nI j)) :
    w2.1 53 (w.2.2 41 9) 12 = nI m ∧ m < 401 ∧ jYPm T Rc Rp fc fp w n x er m t (n + 2, (if f (n + 1) < 0 then jbl er 3 (n + 1) else er), fun R => jrd R o (f (n + 1))) (nI m) (m + 1) (jnode w2 (w.2.2 41 9) m o r 0) := by
  have hl := h2.le
  have hl1 := h.le
  have f12 := f1.trans f2
  have eb : w2.2.2 41 9 = w.2.2 41 9 := f12.o
  have e12 := h2.2.2.2.1.1
  have y := jnode_MI h2 (by omega) o r 0
  have yf := jnode_YF (w := w2) (m := m) (x := o) (y := r) (z := 0)
  have yk := jnode_Kn (w := w2) (m := m) (x := o) (y := r) (z := 0)
  have yn := fun q => jNd_leaf (w := w2) (nc := Rc.2) (np := Rp.2) (m := m) (t := t) (o := o) (a := r) (z := 0) (by omega) q
  rw [eb] at e12 y yf yn yk
  refine ⟨e12, by omega, y, f12.YF.trans yf, by show n < n + 2; omega, by omega, by show m + 1 + n ≤ m + (n + 2); omega, (f12.Kn m).trans yk f12.1 (Nat.le_refl m), fun z => ?_⟩
  have z0 : er.1 = 0 := jblif0 (by decide) z
  obtain ⟨N, hf, h12, hnp⟩ := hN
  have hneg : ¬ f (n + 1) < 0 := fun q => by
    simp only [if_pos q] at z
    exact jbl_n0 (by decide) z
  rw [hf z0] at hneg
  obtain ⟨j1, j2⟩ := jnum_ok h12 hneg
  refine ⟨z0, m, rfl, ?_⟩
  have er1 : r = nI (jfi T N (n + 1)) := by rw [hr z0, hf z0, j1]
  show jNd _ _ _ _ _ _ (fun R => jrd R o (f (n + 1)))
  rw [hf z0, j1, ← er1]
  refine yn ?_
  rw [er1]
  exact ho _ (by omega)
theorem m_oneB {T : JTk} {Rc Rp : JNm} {fc fp : Nat → Int32} {d x : Nat} {deep : Option JEx} (hd : 2 ≤ d) (hx : x ≤ 8) (hdeep : (deep = none ∧ x = 8) ∨ ∃ p, deep = some p ∧ x < 8 ∧ jYC MX11_one d (x + 1) false T Rc Rp fc fp p) : jYC MX11_one (d + 4) x false T Rc Rp fc fp (jxValB T fc fp deep) := by
  intro w n er m h
  refine jSI_of jp_X11_one rfl (Nat.le_of_ble_eq_true rfl) (fun C hm => ?_)
  have hl := h.le
  obtain ⟨ea, va⟩ := h.at
  have nx := fun (a : n < T.2.2.2) => h.next a
  have f1 : jMF w (jset w 41 false 13 (w.1 41 false 13 + 1)) := jMF_13.1
  refine bk_X11_one_0 hm (m_ok h) (by omega) (bk_X11_one_4 hm (fun _ => bk_X11_one_9 hm va (fun q => ?_) (fun q => ?_)) (fun z => absurd z (by decide)))
  rotate_left
  · rw [ea] at q
    have k := (jkv_num h.tok).1.mp q
    unfold jxValB
    rw [if_pos k]
    refine bq_X11_one_22 hm (m_number h 0 999999) (by omega) (fun r w2 q2 => ?_)
    rcases q2 with ⟨-, rfl, h2, f2⟩ | ⟨z, -, -⟩
    · have hin := (h.2.2.1.2.2.1 n h.1.1.2).2 k
      rw [if_pos hin] at h2
      have hl2 := h2.le
      have eb : w2.2.2 41 9 = w.2.2 41 9 := f2.o
      rw [← eb]
      exact bk_X11_one_35 hm (m_node h2.2.2.2.1.1 (by omega) _ _ _) (by omega) (bk_X11_one_39 hm ⟨_, rfl, m + 1, jnode_MI h2 (by omega) _ _ _, f2.YF.trans jnode_YF, Nat.lt_succ_self n, by omega, by show m + 1 + n ≤ m + (n + 1); omega, (f2.Kn m).trans jnode_Kn f2.1 (Nat.le_refl m), fun z => ⟨z, m, rfl, jNd_val (by omega)⟩⟩)
    · exact absurd k z
  rw [ea] at q
  have n31 : ¬ T.1 n = 31 := fun z => q ((jkv_num h.tok).1.mpr z)
  unfold jxValB
  rw [if_neg n31]
  have plain : (T.1 n = 18 ∨ T.1 n = 19 ∨ T.1 n = 23) → jW C 0 0 (jQQ C 0 0 (fun v w' => ∃ r, v = jI r ∧ jYP T Rc Rp fc fp w n x er m false (.inr (n + 1, er, fun R => jrd R (T.1 n) 0)) r w')) 70 [jR 41 false, jU] [] w := by
    intro a
    have hlt := h.lt (by rcases a with z | z | z <;> rw [z] <;> decide) (by rcases a with z | z | z <;> rw [z] <;> decide)
    have h1 := nx hlt
    have e1 : (jset w 41 false 13 (w.1 41 false 13 + 1)).1 41 false 13 - 1 = nI n := by rw [jset_at, h.1.1.1, nI_1, nI_pred]
    have ev : w.1 44 false n = T.1 n := ((jkv_key h.tok (k := T.1 n) (by rcases a with z | z | z <;> rw [z] <;> decide)).mpr rfl).2
    have hh1 := h1.le
    refine bk_X11_one_70 hm (by rw [e1]; exact vp_in_nI (by omega) (by omega)) (by rw [e1, nI_clamp (by omega), jset_bk (by decide), ev]; exact m_node h1.2.2.2.1.1 (by omega) _ _ _) (by omega) (bk_X11_one_100 hm ⟨_, rfl, m + 1, jnode_MI h1 (by omega) _ _ _, f1.YF.trans jnode_YF, Nat.lt_succ_self n, by omega, by show m + 1 + n ≤ m + (n + 1); omega, (f1.Kn m).trans jnode_Kn f1.1 (Nat.le_refl m), fun z => ⟨z, m, rfl, ?_⟩⟩)
    refine jNd_leaf (w := jset w 41 false 13 (w.1 41 false 13 + 1)) (by omega) (Or.inl ⟨rfl, ?_⟩)
    rcases a with z | z | z
    · exact Or.inl z
    · exact Or.inr (Or.inl z)
    · exact Or.inr (Or.inr (Or.inl z))
  refine bk_X11_one_40 hm (m_isK h 18 (by decide)) (by omega) ?_
  by_cases a1 : T.1 n = 18
  · rw [if_pos a1, if_pos (Or.inl a1)]
    exact bk_X11_one_47 hm (fun _ => plain (Or.inl a1)) (fun z => absurd z (by decide))
  rw [if_neg a1]
  refine bk_X11_one_47 hm (fun z => absurd rfl z) (fun _ => bk_X11_one_50 hm (m_isK h 19 (by decide)) (by omega) ?_)
  by_cases a2 : T.1 n = 19
  · rw [if_pos a2, if_pos (Or.inr (Or.inl a2))]
    exact bk_X11_one_57 hm (fun _ => plain (Or.inr (Or.inl a2))) (fun z => absurd z (by decide))
  rw [if_neg a2]
  refine bk_X11_one_57 hm (fun z => absurd rfl z) (fun _ => bk_X11_one_60 hm (m_isK h 23 (by decide)) (by omega) ?_)
  by_cases a3 : T.1 n = 23
  · rw [if_pos a3, if_pos (Or.inr (Or.inr a3))]
    exact bk_X11_one_67 hm (fun z => absurd z (by decide)) (fun _ => plain (Or.inr (Or.inr a3)))
  rw [if_neg a3, if_neg (fun z => z.elim a1 (fun z => z.elim a2 a3))]
  refine bk_X11_one_67 hm (fun _ => bk_X11_one_101 hm (m_isK h 20 (by decide)) (by omega) ?_) (fun z => absurd rfl z)
  by_cases a4 : T.1 n = 20
  · rw [if_pos a4, if_pos a4]
    have hlt := h.lt (by rw [a4]; decide) (by rw [a4]; decide)
    refine bk_X11_one_108 hm (fun z => absurd z (by decide)) (fun _ => bq_X11_one_111 hm (m_knownCave (nx hlt)) (by omega) (fun r w2 q2 => ?_))
    unfold jxNamed
    rcases q2 with ⟨z, h2, f2, hr⟩ | ⟨z, hF⟩
    · rw [if_pos z]
      obtain ⟨e2, l2, y⟩ := m_leaf (t := false) (np := Rc.2) 20 h f1 h2 f2 hr ⟨Rc, fun z => (h.2.2.2.2.2.2 z).1, by have := h.2.2.2.2.1.1; omega, rfl⟩ (fun k hk => Or.inl ⟨rfl, Or.inr (Or.inr (Or.inr (Or.inl ⟨rfl, k, hk, rfl⟩)))⟩)
      exact bk_X11_one_131 hm (m_node e2 l2 _ _ _) (by omega) (bk_X11_one_135 hm ⟨_, rfl, _, y⟩)
    · rw [if_neg z]
      have hF2 := jFl.pre f1 hF (Nat.le_refl _)
      obtain ⟨m2, e2, l2, hF6⟩ := hF2.node (n := n) (by omega) (by omega)
      exact bk_X11_one_131 hm (m_node e2 l2 _ _ _) (by omega) (bk_X11_one_135 hm ⟨_, rfl, hF6 _ _ _⟩)
  rw [if_neg a4, if_neg a4]
  have named : (T.1 n = 21 ∨ T.1 n = 22) → jW C 0 0 (jQQ C 0 0 (fun v w' => ∃ r, v = jI r ∧ jYP T Rc Rp fc fp w n x er m false (jxNamed T (T.1 n) fp n er) r w')) 156 [jR 41 false, jU] [] w := by
    intro a
    have hlt := h.lt (by rcases a with z | z <;> rw [z] <;> decide) (by rcases a with z | z <;> rw [z] <;> decide)
    have ev : w.1 44 false n = T.1 n := ((jkv_key h.tok (k := T.1 n) (by rcases a with z | z <;> rw [z] <;> decide)).mpr rfl).2
    refine bq_X11_one_156 hm va (m_knownPipe (nx hlt)) (by omega) (fun r w2 q2 => ?_)
    rw [ea, ev]
    unfold jxNamed
    rcases q2 with ⟨z, h2, f2, hr⟩ | ⟨z, hF⟩
    · rw [if_pos z]
      obtain ⟨e2, l2, y⟩ := m_leaf (t := false) (np := Rp.2) (T.1 n) h f1 h2 f2 hr ⟨Rp, fun z => (h.2.2.2.2.2.2 z).2, h.2.2.2.2.2.1.1, rfl⟩ (fun k hk => Or.inl ⟨rfl, Or.inr (Or.inr (Or.inr (Or.inr ⟨a, k, hk, rfl⟩)))⟩)
      exact bk_X11_one_185 hm (m_node e2 l2 _ _ _) (by omega) (bk_X11_one_189 hm ⟨_, rfl, _, y⟩)
    · rw [if_neg z]
      have hF2 := jFl.pre f1 hF (Nat.le_refl _)
      obtain ⟨m2, e2, l2, hF6⟩ := hF2.node (n := n) (by omega) (by omega)
      exact bk_X11_one_185 hm (m_node e2 l2 _ _ _) (by omega) (bk_X11_one_189 hm ⟨_, rfl, hF6 _ _ _⟩)
  refine bk_X11_one_108 hm (fun _ => bk_X11_one_136 hm (m_isK h 21 (by decide)) (by omega) ?_) (fun z => absurd rfl z)
  by_cases a5 : T.1 n = 21
  · rw [if_pos a5, if_pos (Or.inl a5)]
    exact bk_X11_one_143 hm (fun _ => named (Or.inl a5)) (fun z => absurd z (by decide))
  rw [if_neg a5]
  refine bk_X11_one_143 hm (fun z => absurd rfl z) (fun _ => bk_X11_one_146 hm (m_isK h 22 (by decide)) (by omega) ?_)
  by_cases a6 : T.1 n = 22
  · rw [if_pos a6, if_pos (Or.inr a6)]
    exact bk_X11_one_153 hm (fun z => absurd z (by decide)) (fun _ => named (Or.inr a6))
  rw [if_neg a6, if_neg (fun z => z.elim a5 a6)]
  refine bk_X11_one_153 hm (fun _ => bk_X11_one_190 hm (m_isS h 39 (by decide) rfl) (by omega) ?_) (fun z => absurd rfl z)
  by_cases a7 : T.1 n = 39
  · rw [if_pos a7, if_pos a7]
    have hlt := h.lt (by rw [a7]; decide) (by rw [a7]; decide)
    refine bk_X11_one_197 hm (fun z => absurd z (by decide)) (fun _ => bq_X11_one_200 hm (m_deeper h hx) (by omega) (fun w1 q2 => ?_))
    rcases q2 with ⟨hx8, h1, g1⟩ | ⟨hx8, hF⟩
    · rcases hdeep with ⟨-, z⟩ | ⟨p, rfl, -, hp⟩
      · omega
      have h2 := h1.next hlt
      have g2 : jMF w (jset w1 41 false 13 (w1.1 41 false 13 + 1)) := g1.trans jMF_13.1
      refine bq_X11_one_204 hm (hp _ (n + 1) er m h2) (by omega) (fun r w3 q3 => ?_)
      unfold jxMap
      revert q3
      simp only
      cases hr : p (n + 1) er with
      | inl f =>
        intro hF
        have hF2 := jFl.pre g2 hF (Nat.le_refl _)
        obtain ⟨m2, e2, l2, hF6⟩ := hF2.node (n := n) (by omega) (by omega)
        rw [show (jset w1 41 false 13 (w1.1 41 false 13 + 1)).2.2 41 9 = w.2.2 41 9 from g2.o]
        exact bk_X11_one_224 hm (m_node e2 l2 _ _ _) (by omega) (bk_X11_one_228 hm ⟨_, rfl, (hF6 _ _ _).mf jMF_14.1 jMF_14.2⟩)
      | inr q3 =>
        rintro ⟨m2, y3⟩
        obtain ⟨e2, l2, y⟩ := y3.un (n := n) (Nat.lt_succ_self n) (by omega) (o := 110) (g := fun x => -x) (fun v h401 hv => jNd_neg h401 hv)
        rw [show (jset w1 41 false 13 (w1.1 41 false 13 + 1)).2.2 41 9 = w3.2.2 41 9 from y3.o.symm]
        refine bk_X11_one_224 hm (m_node e2 l2 _ _ _) (by omega) (bk_X11_one_228 hm ⟨_, rfl, ?_⟩)
        exact jYP.up g2 (Nat.le_refl n) (res := .inr (q3.1, q3.2.1, fun R => -(q3.2.2 R))) ⟨_, y⟩
    · rcases hdeep with ⟨rfl, z⟩ | ⟨p, rfl, z, hp⟩
      · have hF1 := hF.mf jMF_13.1 (jMF_13 (x := w1.1 41 false 13 + 1)).2
        refine bk_X11_one_204 hm (m_one0 _ hF1.no) (by omega) ?_
        obtain ⟨m2, e2, l2, hF6⟩ := hF1.node (n := n) (by omega) (by omega)
        rw [show (jset w1 41 false 13 (w1.1 41 false 13 + 1)).2.2 41 9 = w.2.2 41 9 from hF1.o]
        exact bk_X11_one_224 hm (m_node e2 l2 _ _ _) (by omega) (bk_X11_one_228 hm ⟨_, rfl, (hF6 _ _ _).mf jMF_14.1 jMF_14.2⟩)
      · omega
  rw [if_neg a7, if_neg a7]
  refine bk_X11_one_197 hm (fun _ => bk_X11_one_241 hm (m_isS h 32 (by decide) rfl) (by omega) ?_) (fun z => absurd rfl z)
  by_cases a8 : T.1 n = 32
  · rw [if_pos a8, if_pos a8]
    refine bk_X11_one_248 hm (fun z => absurd z (by decide)) (fun _ => bq_X11_one_251 hm (m_inner hd hx hdeep h a8 ⟨fun e => by rw [e], fun p e => by rw [e]⟩) (by omega) (fun r w2 q2 => bk_X11_one_255 hm ⟨r, rfl, q2⟩))
  rw [if_neg a8, if_neg a8]
  have ext : (T.1 n = 28 ∨ T.1 n = 29) → jW C 0 0 (jQQ C 0 0 (fun v w' => ∃ r, v = jI r ∧ jYP T Rc Rp fc fp w n x er m false (jxExtB T deep n er) r w')) 276 [jR 41 false, jU] [] w := by
    intro a
    have ev : w.1 44 false n = T.1 n := ((jkv_key h.tok (k := T.1 n) (by rcases a with z | z <;> rw [z] <;> decide)).mpr rfl).2
    exact bq_X11_one_276 hm va (by rw [ea, ev]; exact m_both hd hx hdeep h a) (by omega) (fun r w2 q2 => bk_X11_one_289 hm ⟨r, rfl, q2⟩)
  refine bk_X11_one_248 hm (fun _ => bk_X11_one_256 hm (m_isK h 28 (by decide)) (by omega) ?_) (fun z => absurd rfl z)
  by_cases a9 : T.1 n = 28
  · rw [if_pos a9, if_pos (Or.inl a9)]
    exact bk_X11_one_263 hm (fun _ => ext (Or.inl a9)) (fun z => absurd z (by decide))
  rw [if_neg a9]
  refine bk_X11_one_263 hm (fun z => absurd rfl z) (fun _ => bk_X11_one_266 hm (m_isK h 29 (by decide)) (by omega) ?_)
  by_cases a10 : T.1 n = 29
  · rw [if_pos a10, if_pos (Or.inr a10)]
    exact bk_X11_one_273 hm (fun z => absurd z (by decide)) (fun _ => ext (Or.inr a10))
  rw [if_neg a10, if_neg (fun z => z.elim a9 a10)]
  exact bk_X11_one_273 hm (fun _ => bk_X11_one_290 hm (m_fail h).1 (by omega) (bk_X11_one_294 hm ⟨0, rfl, (m_fail h).2⟩)) (fun z => absurd rfl z)
theorem m_val {T : JTk} {Rc Rp : JNm} {fc fp : Nat → Int32} : ∀ (r x : Nat), x + r = 8 → jYC MX11_one (6 + 4 * r) x false T Rc Rp fc fp (jxVal T fc fp r) := by
  intro r
  induction r with
  | zero =>
    intro x hx
    have := m_oneB (T := T) (Rc := Rc) (Rp := Rp) (fc := fc) (fp := fp) (d := 2) (x := x) (deep := none) (Nat.le_refl _) (by omega) (Or.inl ⟨rfl, by omega⟩)
    exact this
  | succ r ih =>
    intro x hx
    have := m_oneB (d := 6 + 4 * r) (x := x) (by omega) (by omega) (Or.inr ⟨_, rfl, by omega, ih (x + 1) (by omega)⟩)
    rwa [show 6 + 4 * r + 4 = 6 + 4 * (r + 1) by omega] at this
theorem m_sumV {T : JTk} {Rc Rp : JNm} {fc fp : Nat → Int32} {r x : Nat} (hx : x + r = 8) : jYC MX11_sum (8 + 4 * r) x false T Rc Rp fc fp (jxSum T (jxVal T fc fp r)) := by
  have := m_sum (m_product (m_val (T := T) (Rc := Rc) (Rp := Rp) (fc := fc) (fp := fp) r x hx) (by omega)) (by omega)
  rwa [show 6 + 4 * r + 1 + 1 = 8 + 4 * r by omega] at this
