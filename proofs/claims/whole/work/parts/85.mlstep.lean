/-! the reference reads lines: what stands between them, and its steps -/
def jWk (w : JW) : Prop := ∃ a0 a1 a2 a3 a4 a5 : Nat, (w.1 53 (w.2.2 41 9) 0 = nI a0 ∧ a0 ≤ 5) ∧ (w.1 53 (w.2.2 41 9) 1 = nI a1 ∧ a1 ≤ 12) ∧ (w.1 53 (w.2.2 41 9) 2 = nI a2 ∧ a2 ≤ 5) ∧ (w.1 53 (w.2.2 41 9) 3 = nI a3 ∧ a3 ≤ 3) ∧ (w.1 53 (w.2.2 41 9) 4 = nI a4 ∧ a4 ≤ 6) ∧ (w.1 53 (w.2.2 41 9) 5 = nI a5 ∧ a5 ≤ 16)
def jMJ (T : JTk) (L : JLn) (Rc Rp Rh : JNm) (w : JW) (n : Nat) (er : JEr) (m : Nat) : Prop := jMI T Rc Rp (jnum T (jNc L)) (jnum T (jNp L)) w n 0 er m ∧ (Rh.2 ≤ 6 ∧ w.1 53 (w.2.2 41 9) 4 = nI Rh.2 ∧ jNM Rh w 49 ∧ jNMt T Rh) ∧ jWk w ∧ (er.1 = 0 → Rc = jNc L ∧ Rp = jNp L ∧ Rh = jNh L ∧ jBq w (w.2.2 41 9) L.1 m ∧ jWF L.1)
/-- what reading a line may change -/
def jmLF (w w2 : JW) : Prop := w2.2 = w.2 ∧ (∀ k c, k ≠ 41 → ¬ (47 ≤ k ∧ k ≤ 50) → ¬ (c = w.2.2 41 9 ∧ 53 ≤ k ∧ k ≤ 62) → w2.1 k c = w.1 k c) ∧ ∀ j, j < 13 → w2.1 41 false j = w.1 41 false j
theorem jmLF.refl (w : JW) : jmLF w w := ⟨rfl, fun _ _ _ _ _ => rfl, fun _ _ => rfl⟩
theorem jmLF.trans {w w2 w3 : JW} (h : jmLF w w2) (h2 : jmLF w2 w3) : jmLF w w3 := ⟨h2.1.trans h.1, fun k c a b d => (h2.2.1 k c a b (by rw [h.1]; exact d)).trans (h.2.1 k c a b d), fun j hj => (h2.2.2 j hj).trans (h.2.2 j hj)⟩
theorem jYF.LF {w w2 : JW} (h : jYF w w2) : jmLF w w2 := ⟨h.1, fun k c a _ d => h.2.1 k c a (fun q => d ⟨q.1, by omega, by omega⟩), h.2.2.1⟩
theorem jMF.LF {w w2 : JW} (h : jMF w w2) : jmLF w w2 := h.YF.LF
theorem jmLF_set {w : JW} {k : Nat} {c : Bool} {j : Nat} {x : Int32} (h : (47 ≤ k ∧ k ≤ 50) ∨ (c = w.2.2 41 9 ∧ 53 ≤ k ∧ k ≤ 62)) : jmLF w (jset w k c j x) := by
  refine ⟨rfl, fun k2 c2 a b d => ?_, fun i hi => jset_bk (by omega)⟩
  funext i
  rcases h with q | ⟨rfl, q1, q2⟩
  · exact jset_bk (by omega)
  · by_cases z : c2 = w.2.2 41 9
    · exact jset_bk (fun e => d ⟨z, by omega, by omega⟩)
    · exact jset_b (Or.inr (Or.inl z))
theorem jmLF.o {w w2 : JW} (h : jmLF w w2) : w2.2.2 41 9 = w.2.2 41 9 := by rw [h.1]
theorem jWk.yf {w w2 : JW} (h : jWk w) (hf : jYF w w2) : jWk w2 := by
  obtain ⟨a0, a1, a2, a3, a4, a5, q⟩ := h
  refine ⟨a0, a1, a2, a3, a4, a5, ?_⟩
  rw [show w2.2.2 41 9 = w.2.2 41 9 by rw [hf.1], hf.2.2.2 0 (by decide), hf.2.2.2 1 (by decide), hf.2.2.2 2 (by decide), hf.2.2.2 3 (by decide), hf.2.2.2 4 (by decide), hf.2.2.2 5 (by decide)]
  exact q
/-- failed at token f -/
def jMX (T : JTk) (w : JW) (f : Nat) (w2 : JW) : Prop := (w2.1 41 false 15 = nI f ∧ f ≤ T.2.2.2 ∧ T.2.2.2 ≤ 400) ∧ jmLF w w2 ∧ jWk w2
theorem jMX.no {T : JTk} {w w2 : JW} {f : Nat} (h : jMX T w f w2) : ¬ w2.1 41 false 15 = -1 := by
  rw [h.1.1]
  intro q
  have a := nI_pos' (n := f) (by have := h.1.2; omega)
  rw [q] at a
  exact absurd a (by decide)
theorem jMX.pre {T : JTk} {w w1 w2 : JW} {f : Nat} (hf : jmLF w w1) (h : jMX T w1 f w2) : jMX T w f w2 := ⟨h.1, hf.trans h.2.1, h.2.2⟩
theorem jFl.X {T : JTk} {w w2 : JW} {n m f : Nat} (h : jFl T w n m f w2) (hw : jWk w) : jMX T w f w2 := ⟨h.1, h.2.1.LF, hw.yf h.2.1⟩
theorem jMJ.k {T : JTk} {L : JLn} {Rc Rp Rh : JNm} {w : JW} {n : Nat} {er : JEr} {m : Nat} (h : jMJ T L Rc Rp Rh w n er m) : jWk w := h.2.2.1
/-- behind a piece that makes nodes at most -/
theorem jMJ.yf {T : JTk} {L : JLn} {Rc Rp Rh : JNm} {w w2 : JW} {n n2 : Nat} {er er2 : JEr} {m m2 : Nat} (h : jMJ T L Rc Rp Rh w n er m) (hf : jYF w w2) (hk : jKn w w2 m) (hmm : m ≤ m2) (hi : jMI T Rc Rp (jnum T (jNc L)) (jnum T (jNp L)) w2 n2 0 er2 m2) (h0 : er2.1 = 0 → er.1 = 0) : jMJ T L Rc Rp Rh w2 n2 er2 m2 := by
  obtain ⟨h1, ⟨a, b, c, d⟩, h3, h4⟩ := h
  have eo : w2.2.2 41 9 = w.2.2 41 9 := by rw [hf.1]
  have hl := hi.le
  refine ⟨hi, ⟨a, ?_, c.kept (hf.2.1 49 false (by decide) (by simp)), d⟩, h3.yf hf, fun z => ?_⟩
  · rw [eo, hf.2.2.2 4 (by decide)]
    exact b
  · obtain ⟨q1, q2, q3, q4, q5⟩ := h4 (h0 z)
    rw [eo]
    exact ⟨q1, q2, q3, q4.kept (by omega) (fun k k1 k2 => hf.2.1 k _ (by omega) (fun e => by omega)) hf.2.2.2 hk hmm, q5⟩
theorem jMJ.mf {T : JTk} {L : JLn} {Rc Rp Rh : JNm} {w w2 : JW} {n n2 : Nat} {er er2 : JEr} {m : Nat} (h : jMJ T L Rc Rp Rh w n er m) (hf : jMF w w2) (hi : jMI T Rc Rp (jnum T (jNc L)) (jnum T (jNp L)) w2 n2 0 er2 m) (h0 : er2.1 = 0 → er.1 = 0) : jMJ T L Rc Rp Rh w2 n2 er2 m := h.yf hf.YF (hf.Kn m) (Nat.le_refl m) hi h0
theorem jMJ.next {T : JTk} {L : JLn} {Rc Rp Rh : JNm} {w : JW} {n : Nat} {er : JEr} {m : Nat} (h : jMJ T L Rc Rp Rh w n er m) (hn : n < T.2.2.2) : jMJ T L Rc Rp Rh (jset w 41 false 13 (w.1 41 false 13 + 1)) (n + 1) er m := h.mf jMF_13.1 (h.1.next hn) (fun z => z)
theorem s_take {T : JTk} {L : JLn} {Rc Rp Rh : JNm} {w : JW} {n : Nat} {er : JEr} {m : Nat} (h : jMJ T L Rc Rp Rh w n er m) (k : Int32) (hk : 0 ≤ k ∧ k ≤ 29) (h1 : k ≠ 47) (h2 : k ≠ 48) : jSV MX11_take 2 [jR 41 false, jI 2, jI k] w (fun w2 => (∃ er2, jpK T k n er = .inr (n + 1, er2) ∧ jMJ T L Rc Rp Rh w2 (n + 1) er2 m ∧ jMF w w2) ∨ (jpK T k n er = .inl n ∧ jMX T w n w2)) := by
  refine (m_take h.1 (m_isK h.1 k hk) h1 h2).mono (fun w2 q => ?_)
  rcases q with ⟨a, hi, hf⟩ | ⟨a, hF⟩
  · exact Or.inl ⟨er, if_pos a, h.mf hf hi (fun z => z), hf⟩
  · exact Or.inr ⟨if_neg a, hF.X h.k⟩
theorem s_num {T : JTk} {L : JLn} {Rc Rp Rh : JNm} {w : JW} {n : Nat} {er : JEr} {m : Nat} (h : jMJ T L Rc Rp Rh w n er m) (a b : Int32) : jSI MX11_number 2 [jR 41 false, jI a, jI b] w (fun r w2 => (∃ er2, jpR T a b n er = .inr (n + 1, er2) ∧ r = T.2.1 n ∧ jMJ T L Rc Rp Rh w2 (n + 1) er2 m ∧ jMF w w2) ∨ (jpR T a b n er = .inl n ∧ jMX T w n w2)) := by
  refine (m_number h.1 a b).mono (fun r w2 q => ?_)
  rcases q with ⟨z, hr, hi, hf⟩ | ⟨z, -, hF⟩
  · refine Or.inl ⟨_, if_pos z, hr, h.mf hf hi (fun q => ?_), hf⟩
    by_cases y : a ≤ T.2.1 n ∧ T.2.1 n ≤ b
    · rwa [if_pos y] at q
    · rw [if_neg y] at q
      exact absurd q (jbl_n0 (by decide))
  · exact Or.inr ⟨if_neg z, hF.X h.k⟩
theorem s_cave {T : JTk} {L : JLn} {Rc Rp Rh : JNm} {w : JW} {n : Nat} {er : JEr} {m : Nat} (h : jMJ T L Rc Rp Rh w n er m) : jSI MX11_knownCave 3 [jR 41 false] w (fun r w2 => (∃ er2, jpO T (jNc L) n er = .inr (n + 1, er2) ∧ (er2.1 = 0 → r = jnum T (jNc L) n) ∧ jMJ T L Rc Rp Rh w2 (n + 1) er2 m ∧ jMF w w2) ∨ (jpO T (jNc L) n er = .inl n ∧ jMX T w n w2)) := by
  refine (m_knownCave h.1).mono (fun r w2 q => ?_)
  rcases q with ⟨z, hi, hf, hr⟩ | ⟨z, hF⟩
  · exact Or.inl ⟨_, if_pos z, fun q => hr (jblif0 (by decide) q), h.mf hf hi (jblif0 (by decide)), hf⟩
  · exact Or.inr ⟨if_neg z, hF.X h.k⟩
theorem s_pipe {T : JTk} {L : JLn} {Rc Rp Rh : JNm} {w : JW} {n : Nat} {er : JEr} {m : Nat} (h : jMJ T L Rc Rp Rh w n er m) : jSI MX11_knownPipe 3 [jR 41 false] w (fun r w2 => (∃ er2, jpO T (jNp L) n er = .inr (n + 1, er2) ∧ (er2.1 = 0 → r = jnum T (jNp L) n) ∧ jMJ T L Rc Rp Rh w2 (n + 1) er2 m ∧ jMF w w2) ∨ (jpO T (jNp L) n er = .inl n ∧ jMX T w n w2)) := by
  refine (m_knownPipe h.1).mono (fun r w2 q => ?_)
  rcases q with ⟨z, hi, hf, hr⟩ | ⟨z, hF⟩
  · exact Or.inl ⟨_, if_pos z, fun q => hr (jblif0 (by decide) q), h.mf hf hi (jblif0 (by decide)), hf⟩
  · exact Or.inr ⟨if_neg z, hF.X h.k⟩
/-- the reference's names: which row, which, the pure ones, how many at most -/
def jRf (L : JLn) (Rc Rp Rh : JNm) (k : Nat) (R N : JNm) (mx : Nat) : Prop := (k = 47 ∧ R = Rc ∧ N = jNc L ∧ mx = 5) ∨ (k = 48 ∧ R = Rp ∧ N = jNp L ∧ mx = 12) ∨ (k = 49 ∧ R = Rh ∧ N = jNh L ∧ mx = 6)
theorem jMJ.Rf {T : JTk} {L : JLn} {Rc Rp Rh : JNm} {w : JW} {n : Nat} {er : JEr} {m : Nat} (h : jMJ T L Rc Rp Rh w n er m) {k : Nat} {R N : JNm} {mx : Nat} (hk : jRf L Rc Rp Rh k R N mx) : jIA k false mx ∧ R.2 ≤ mx ∧ mx ≤ 12 ∧ jNM R w k ∧ jNMt T R ∧ (er.1 = 0 → R = N) := by
  obtain ⟨⟨-, -, -, -, ⟨c1, -, c3, c4⟩, ⟨p1, -, p3, p4⟩, -⟩, ⟨g1, -, g3, g4⟩, -, h4⟩ := h
  rcases hk with ⟨rfl, rfl, rfl, rfl⟩ | ⟨rfl, rfl, rfl, rfl⟩ | ⟨rfl, rfl, rfl, rfl⟩
  · exact ⟨ja_47, c1, by omega, c3, c4, fun z => (h4 z).1⟩
  · exact ⟨ja_48, p1, by omega, p3, p4, fun z => (h4 z).2.1⟩
  · exact ⟨ja_49, g1, by omega, g3, g4, fun z => (h4 z).2.2.1⟩
theorem s_fresh {T : JTk} {L : JLn} {Rc Rp Rh : JNm} {w : JW} {n : Nat} {er : JEr} {m : Nat} (h : jMJ T L Rc Rp Rh w n er m) {k : Nat} {R N : JNm} {mx : Nat} (hk : jRf L Rc Rp Rh k R N mx) {x y : Int32} (hx : x = nI R.2) (hy : y = nI mx) :
    jSI MX11_fresh 2 [jR 41 false, jR k false, jI x, jI y] w (fun r w2 => (∃ er2, jpF T N mx n er = .inr (n + 1, er2) ∧ r = nI n ∧ jMJ T L Rc Rp Rh w2 (n + 1) er2 m ∧ jMF w w2) ∨ (jpF T N mx n er = .inl n ∧ jMX T w n w2)) := by
  subst hx hy
  refine jSI_of jp_X11_fresh rfl (Nat.le_of_ble_eq_true rfl) (fun C hm => ?_)
  refine bq_X11_fresh_0 hm (m_name h.1) (by decide) (fun r w1 q => ?_)
  rcases q with ⟨a, rfl, h1, f1⟩ | ⟨a, rfl, hF⟩
  · have hlt := h.1.lt (by rw [a]; decide) (by rw [a]; decide)
    obtain ⟨hA, hl, h12, hN, hNt, hR⟩ := h.Rf hk
    have hN1 : jNM R w1 k := hN.kept (f1.2.1 k false (by rcases hk with ⟨rfl, -⟩ | ⟨rfl, -⟩ | ⟨rfl, -⟩ <;> decide))
    refine bk_X11_fresh_4 hm (m_ok h1) (by decide) (bk_X11_fresh_10 hm (fun _ => bk_X11_fresh_15 hm (m_find h1.2.2.1 hA hN1 hNt hl hlt a) (by decide) ?_) (fun z => absurd z (by decide)))
    have hR12 : R.2 ≤ 12 := by omega
    -- the error behind the first tell: er1; then whether there are as many as may be
    have last : ∀ (w2 : JW) (er1 : JEr), jMI T Rc Rp (jnum T (jNc L)) (jnum T (jNp L)) w2 (n + 1) 0 er1 m → jMF w w2 → (¬ er1.1 = 0 → er1.2 < n ∨ (er1.2 = n ∧ er1.1 ≤ 4)) → (er1.1 = 0 → er.1 = 0) → jpF T N mx n er = .inr (n + 1, if R.2 < mx then er1 else jbl er1 4 n) → jW C 0 0 (jQQ C 0 0 (fun v w' => ∃ r, v = jI r ∧ ((∃ er2, jpF T N mx n er = .inr (n + 1, er2) ∧ r = nI n ∧ jMJ T L Rc Rp Rh w' (n + 1) er2 m ∧ jMF w w') ∨ (jpF T N mx n er = .inl n ∧ jMX T w n w')))) 34 [jR 41 false, jU, jI (nI R.2), jI (nI mx), jI (nI n)] [] w2 := by
      intro w2 er1 h2 f2 hb h0 hp
      refine bk_X11_fresh_34 hm (fun q => bk_X11_fresh_46 hm ⟨_, rfl, Or.inl ⟨er1, ?_, rfl, h.mf f2 h2 h0, f2⟩⟩) (fun q => ?_)
      · rw [hp, if_pos]
        have : ¬ R.2 = mx := fun z => q (by rw [z])
        omega
      · have e : R.2 = mx := (nI_eq (by omega) (by omega)).mp q
        refine bq_X11_fresh_39 hm (m_tell h2 (c := 4) (t := n) (by decide) (Nat.lt_succ_self n) hb) (by decide) (fun w3 hq => bk_X11_fresh_46 hm ⟨_, rfl, Or.inl ⟨jbl er1 4 n, ?_, rfl, h.mf (f2.trans hq.2) hq.1 (fun z => absurd z (jbl_n0 (by decide))), f2.trans hq.2⟩⟩)
        rw [hp, if_neg (by omega)]
    by_cases z : er.1 = 0
    · have eR := hR z
      subst eR
      refine bk_X11_fresh_23 hm (fun q => ?_) (fun q => ?_)
      · have qn : jnum T R n < 0 := (jnum_neg hR12).1.mpr ((jnum_neg hR12).2.2.mp q)
        refine last w1 er h1 f1 (fun y => absurd z y) (fun y => y) ?_
        unfold jpF
        rw [if_pos a, if_pos qn]
      · have qn : ¬ jnum T R n < 0 := fun y => q ((jnum_neg hR12).2.2.mpr ((jnum_neg hR12).1.mp y))
        refine bq_X11_fresh_27 hm (m_tell h1 (c := 2) (t := n) (by decide) (Nat.lt_succ_self n) (fun y => absurd z y)) (by decide) (fun w2 hq => ?_)
        have e2 : jbl er 2 n = (2, n) := if_pos z
        have h2 := hq.1
        rw [e2] at h2
        refine last w2 (2, n) h2 (f1.trans hq.2) (fun _ => Or.inr ⟨rfl, by show 2 ≤ 4; omega⟩) (fun y => absurd (show 2 = 0 from y) (by decide)) ?_
        unfold jpF
        rw [if_pos a, if_neg qn, e2, jbl_keep (er := (2, n)) (fun y => absurd (show 2 = 0 from y) (by decide))]
        split <;> rfl
    · have keepF : jpF T N mx n er = .inr (n + 1, er) := by
        unfold jpF
        rw [if_pos a, jbl_keep z, jbl_keep z]
        split
        · split <;> rfl
        · rfl
      have lt2 := (h.1.2.1.2.2 z).2
      have lk : jpF T N mx n er = .inr (n + 1, if R.2 < mx then er else jbl er 4 n) := by
        rw [keepF, jbl_keep z]
        split <;> rfl
      refine bk_X11_fresh_23 hm (fun q => ?_) (fun q => ?_)
      · exact last w1 er h1 f1 (fun _ => Or.inl lt2) (fun y => y) lk
      · refine bq_X11_fresh_27 hm (m_tell h1 (c := 2) (t := n) (by decide) (Nat.lt_succ_self n) (fun _ => Or.inl lt2)) (by decide) (fun w2 hq => ?_)
        have h2 := hq.1
        rw [jbl_keep z] at h2
        exact last w2 er h2 (f1.trans hq.2) (fun _ => Or.inl lt2) (fun y => y) lk
  · exact bk_X11_fresh_4 hm (m_no hF.no) (by decide) (bk_X11_fresh_10 hm (fun z => absurd rfl z) (fun _ => bk_X11_fresh_13 hm ⟨_, rfl, Or.inr ⟨if_neg a, hF.X h.k⟩⟩))
theorem s_fresh0 {w : JW} (h : ¬ w.1 41 false 15 = -1) (k : Nat) (x y : Int32) : jF MX11_fresh 2 [jR 41 false, jR k false, jI x, jI y] w (jI 0) w := by
  refine jF_of jp_X11_fresh rfl (Nat.le_of_ble_eq_true rfl) (fun C hm => ?_)
  exact bk_X11_fresh_0 hm (m_name0 h) (by decide) (bk_X11_fresh_4 hm (m_no h) (by decide) (bk_X11_fresh_10 hm (fun z => absurd rfl z) (fun _ => bk_X11_fresh_13 hm ⟨rfl, rfl⟩)))
def jMLP (T : JTk) (w : JW) (n : Nat) (res : JLR) (w2 : JW) : Prop := match res with
  | .inl f => jMX T w f w2
  | .inr q => n ≤ q.1 ∧ jmLF w w2 ∧ ∃ (Rc Rp Rh : JNm) (m2 : Nat), jMJ T q.2.2 Rc Rp Rh w2 q.1 q.2.1 m2
