/-! the reference's book and names have grown by a line -/
theorem N_cave {L : JLn} {t : Nat} {m d : Int32} : jNc (jaCave L t m d) = (updn L.2.1 (L.1.1 0) t, L.1.1 0 + 1) ∧ jNp (jaCave L t m d) = jNp L ∧ jNh (jaCave L t m d) = jNh L := by
  have e0 : (jaCave L t m d).1.1 0 = L.1.1 0 + 1 := jsN_at
  have e1 : (jaCave L t m d).1.1 1 = L.1.1 1 := by unfold jaCave; simp (disch := omega) only [jset_at, jset_bk, jset_bj, jsN_at, jsN_no, jsN_I, jsI_N, jsI_T, jsI_at, jsI_no1, jsI_no2, jsT_N, jsT_I]
  have e2 : (jaCave L t m d).1.1 2 = L.1.1 2 := by unfold jaCave; simp (disch := omega) only [jset_at, jset_bk, jset_bj, jsN_at, jsN_no, jsN_I, jsI_N, jsI_T, jsI_at, jsI_no1, jsI_no2, jsT_N, jsT_I]
  exact ⟨by unfold jNc; rw [e0]; rfl, by unfold jNp; rw [e1]; rfl, by unfold jNh; rw [e2]; rfl⟩
theorem N_pipe {L : JLn} {t c l : Nat} {r : Int32} : jNp (jaPipe L t c l r) = (updn L.2.2.1 (L.1.1 1) t, L.1.1 1 + 1) ∧ jNc (jaPipe L t c l r) = jNc L ∧ jNh (jaPipe L t c l r) = jNh L := by
  have e1 : (jaPipe L t c l r).1.1 1 = L.1.1 1 + 1 := jsN_at
  have e0 : (jaPipe L t c l r).1.1 0 = L.1.1 0 := by unfold jaPipe; simp (disch := omega) only [jset_at, jset_bk, jset_bj, jsN_at, jsN_no, jsN_I, jsI_N, jsI_T, jsI_at, jsI_no1, jsI_no2, jsT_N, jsT_I]
  have e2 : (jaPipe L t c l r).1.1 2 = L.1.1 2 := by unfold jaPipe; simp (disch := omega) only [jset_at, jset_bk, jset_bj, jsN_at, jsN_no, jsN_I, jsI_N, jsI_T, jsI_at, jsI_no1, jsI_no2, jsT_N, jsT_I]
  exact ⟨by unfold jNp; rw [e1]; rfl, by unfold jNc; rw [e0]; rfl, by unfold jNh; rw [e2]; rfl⟩
theorem N_chord {L : JLn} {t m : Nat} {fn : Nat → Nat} (hm : m ≤ 6) (h6 : L.1.1 2 < 6) : jNh (jaChord L t m fn) = (updn L.2.2.2 (L.1.1 2) t, L.1.1 2 + 1) ∧ jNc (jaChord L t m fn) = jNc L ∧ jNp (jaChord L t m fn) = jNp L := by
  have out : ∀ k, (k < 10 ∨ 56 ≤ k) → k ≠ 2 → (jaChord L t m fn).1.1 k = L.1.1 k := by
    intro k h1 h2
    show (jsN (jsN (jaNotes L.1 (L.1.1 2) fn m) (10 + L.1.1 2) m) 2 (L.1.1 2 + 1)).1 k = _
    rw [jsN_no (by omega), jsN_no (by omega), jaNotes_out (by omega)]
  have e2 : (jaChord L t m fn).1.1 2 = L.1.1 2 + 1 := jsN_at
  exact ⟨by unfold jNh; rw [e2]; rfl, by unfold jNc; rw [out 0 (by omega) (by omega)]; rfl, by unfold jNp; rw [out 1 (by omega) (by omega)]; rfl⟩
theorem N_same {L L2 : JLn} (en : L2.2 = L.2) (e0 : L2.1.1 0 = L.1.1 0) (e1 : L2.1.1 1 = L.1.1 1) (e2 : L2.1.1 2 = L.1.1 2) : jNc L2 = jNc L ∧ jNp L2 = jNp L ∧ jNh L2 = jNh L :=
  ⟨by unfold jNc; rw [e0, en], by unfold jNp; rw [e1, en], by unfold jNh; rw [e2, en]⟩
theorem jMJ.cave {T : JTk} {L : JLn} {Rc Rp Rh : JNm} {w : JW} {n : Nat} {er : JEr} {m : Nat} (h : jMJ T L Rc Rp Rh w n er m) {t : Nat} (ht : t < T.2.2.2) (h30 : T.1 t = 30) (x : Int32) {d : Int32} (hd : er.1 = 0 → ¬ d = 0) (hk : Rc.2 < 5) :
    jMJ T (if er.1 = 0 then jaCave L t x d else L) (updn Rc.1 Rc.2 t, Rc.2 + 1) Rp Rh (wCave w Rc.2 (nI t) x d) n er m := by
  obtain ⟨h1, ⟨g1, g2, g3, g4⟩, h3, h4⟩ := h
  have hl := h1.le
  obtain ⟨r1, r2⟩ := jNM_more2 (w2 := wCave w Rc.2 (nI t) x d) h1.2.2.2.2.1.2.2.1 h1.2.2.2.2.1.2.2.2 (fun j hj => by unfold wCave; simp (disch := omega) only [jset_at, jset_bk, jset_bj, jsN_at, jsN_no, jsN_I, jsI_N, jsI_T, jsI_at, jsI_no1, jsI_no2, jsT_N, jsT_I]) (by unfold wCave; simp (disch := omega) only [jset_at, jset_bk, jset_bj, jsN_at, jsN_no, jsN_I, jsI_N, jsI_T, jsI_at, jsI_no1, jsI_no2, jsT_N, jsT_I]) ht h30
  have hp := h1.2.2.2.2.2.1
  have c53 : ∀ j, j ≠ 0 → (wCave w Rc.2 (nI t) x d).1 53 (w.2.2 41 9) j = w.1 53 (w.2.2 41 9) j := fun j hj => by unfold wCave; simp (disch := omega) only [jset_at, jset_bk, jset_bj, jsN_at, jsN_no, jsN_I, jsI_N, jsI_T, jsI_at, jsI_no1, jsI_no2, jsT_N, jsT_I]
  have ek : ∀ k, 41 ≤ k → k ≤ 46 ∨ k = 48 ∨ k = 49 → (wCave w Rc.2 (nI t) x d).1 k false = w.1 k false := fun k _ hk => by
    unfold wCave
    rw [jset_k (by omega), jset_k (by omega), jset_k (by omega), jset_k (by omega)]
  refine ⟨h1.names rfl (ek 41 (by decide) (Or.inl (by decide))) (fun k k1 k2 => ek k (by omega) (Or.inl k2)) (c53 12 (by decide)) ⟨hk, by unfold wCave; simp (disch := omega) only [jset_at, jset_bk, jset_bj, jsN_at, jsN_no, jsN_I, jsI_N, jsI_T, jsI_at, jsI_no1, jsI_no2, jsT_N, jsT_I], r1, r2⟩ ⟨hp.1, (c53 1 (by decide)).trans hp.2.1, hp.2.2.1.kept (ek 48 (by decide) (by decide)), hp.2.2.2⟩ (fun z => ?_), ⟨g1, (c53 4 (by decide)).trans g2, g3.kept (ek 49 (by decide) (by decide)), g4⟩, wk_set (i := 0) (k := Rc.2 + 1) h3 rfl c53 (by unfold wCave; simp (disch := omega) only [jset_at, jset_bk, jset_bj, jsN_at, jsN_no, jsN_I, jsI_N, jsI_T, jsI_at, jsI_no1, jsI_no2, jsT_N, jsT_I]) (Or.inl ⟨rfl, hk⟩), fun z => ?_⟩
  · obtain ⟨q1, q2, -, -, -⟩ := h4 z
    subst q1 q2
    rw [if_pos z, N_cave.1, N_cave.2.1]
    exact ⟨fun _ => rfl, fun _ => rfl⟩
  · obtain ⟨q1, q2, q3, q4, q5⟩ := h4 z
    subst q1 q2 q3
    rw [if_pos z, N_cave.1, N_cave.2.1, N_cave.2.2]
    exact ⟨rfl, rfl, rfl, jBq_cave q4 (by omega) q5 x d (nI t), jWF_cave q5 hk x (hd z)⟩
theorem jMJ.pipe {T : JTk} {L : JLn} {Rc Rp Rh : JNm} {w : JW} {n : Nat} {er : JEr} {m : Nat} (h : jMJ T L Rc Rp Rh w n er m) {t : Nat} (ht : t < T.2.2.2) (h30 : T.1 t = 30) {c l : Nat} {x y r : Int32} (hx : er.1 = 0 → x = nI c ∧ c < L.1.1 0) (hy : er.1 = 0 → y = nI l ∧ 1 ≤ l ∧ l ≤ 40) (hk : Rp.2 < 12) :
    jMJ T (if er.1 = 0 then jaPipe L t c l r else L) Rc (updn Rp.1 Rp.2 t, Rp.2 + 1) Rh (wPipe w Rp.2 (nI t) x y r) n er m := by
  obtain ⟨h1, ⟨g1, g2, g3, g4⟩, h3, h4⟩ := h
  have hl := h1.le
  obtain ⟨r1, r2⟩ := jNM_more2 (w2 := wPipe w Rp.2 (nI t) x y r) h1.2.2.2.2.2.1.2.2.1 h1.2.2.2.2.2.1.2.2.2 (fun j hj => by unfold wPipe; simp (disch := omega) only [jset_at, jset_bk, jset_bj, jsN_at, jsN_no, jsN_I, jsI_N, jsI_T, jsI_at, jsI_no1, jsI_no2, jsT_N, jsT_I]) (by unfold wPipe; simp (disch := omega) only [jset_at, jset_bk, jset_bj, jsN_at, jsN_no, jsN_I, jsI_N, jsI_T, jsI_at, jsI_no1, jsI_no2, jsT_N, jsT_I]) ht h30
  have hp := h1.2.2.2.2.1
  have c53 : ∀ j, j ≠ 1 → (wPipe w Rp.2 (nI t) x y r).1 53 (w.2.2 41 9) j = w.1 53 (w.2.2 41 9) j := fun j hj => by unfold wPipe; simp (disch := omega) only [jset_at, jset_bk, jset_bj, jsN_at, jsN_no, jsN_I, jsI_N, jsI_T, jsI_at, jsI_no1, jsI_no2, jsT_N, jsT_I]
  have ek : ∀ k, 41 ≤ k → k ≤ 46 ∨ k = 47 ∨ k = 49 → (wPipe w Rp.2 (nI t) x y r).1 k false = w.1 k false := fun k _ hk => by
    unfold wPipe
    rw [jset_k (by omega), jset_k (by omega), jset_k (by omega), jset_k (by omega), jset_k (by omega)]
  refine ⟨h1.names rfl (ek 41 (by decide) (Or.inl (by decide))) (fun k k1 k2 => ek k (by omega) (Or.inl k2)) (c53 12 (by decide)) ⟨hp.1, (c53 0 (by decide)).trans hp.2.1, hp.2.2.1.kept (ek 47 (by decide) (by decide)), hp.2.2.2⟩ ⟨hk, by unfold wPipe; simp (disch := omega) only [jset_at, jset_bk, jset_bj, jsN_at, jsN_no, jsN_I, jsI_N, jsI_T, jsI_at, jsI_no1, jsI_no2, jsT_N, jsT_I], r1, r2⟩ (fun z => ?_), ⟨g1, (c53 4 (by decide)).trans g2, g3.kept (ek 49 (by decide) (by decide)), g4⟩, wk_set (i := 1) (k := Rp.2 + 1) h3 rfl c53 (by unfold wPipe; simp (disch := omega) only [jset_at, jset_bk, jset_bj, jsN_at, jsN_no, jsN_I, jsI_N, jsI_T, jsI_at, jsI_no1, jsI_no2, jsT_N, jsT_I]) (Or.inr (Or.inl ⟨rfl, hk⟩)), fun z => ?_⟩
  · obtain ⟨q1, q2, -, -, -⟩ := h4 z
    subst q1 q2
    rw [if_pos z, N_pipe.1, N_pipe.2.1]
    exact ⟨fun _ => rfl, fun _ => rfl⟩
  · obtain ⟨q1, q2, q3, q4, q5⟩ := h4 z
    subst q1 q2 q3
    obtain ⟨rfl, x2⟩ := hx z
    obtain ⟨rfl, y2⟩ := hy z
    rw [if_pos z, N_pipe.1, N_pipe.2.1, N_pipe.2.2]
    exact ⟨rfl, rfl, rfl, jBq_pipe q4 (by omega) q5 hk c l r (nI t), jWF_pipe q5 hk x2 y2⟩
/-- the names stay -/
theorem jMJ.same {T : JTk} {L L2 : JLn} {Rc Rp Rh : JNm} {w w2 : JW} {n : Nat} {er : JEr} {m i k : Nat} (h : jMJ T L Rc Rp Rh w n er m) (e2 : w2.2 = w.2) (ek : ∀ k, 41 ≤ k → k ≤ 49 → w2.1 k false = w.1 k false) (c53 : ∀ j, j ≠ i → w2.1 53 (w.2.2 41 9) j = w.1 53 (w.2.2 41 9) j) (hi : (i = 2 ∧ k ≤ 5) ∨ (i = 3 ∧ k ≤ 3) ∨ (i = 5 ∧ k ≤ 16)) (e : w2.1 53 (w.2.2 41 9) i = nI k) (h0 : er.1 = 0 → (jNc L2 = jNc L ∧ jNp L2 = jNp L ∧ jNh L2 = jNh L) ∧ jBq w2 (w.2.2 41 9) L2.1 m ∧ jWF L2.1) : jMJ T L2 Rc Rp Rh w2 n er m := by
  obtain ⟨h1, ⟨g1, g2, g3, g4⟩, h3, h4⟩ := h
  have hc := h1.2.2.2.2.1
  have hp := h1.2.2.2.2.2.1
  have eo : w2.2.2 41 9 = w.2.2 41 9 := by rw [e2]
  refine ⟨h1.names e2 (ek 41 (by decide) (by decide)) (fun k k1 k2 => ek k (by omega) (by omega)) (c53 12 (by omega)) ⟨hc.1, (c53 0 (by omega)).trans hc.2.1, hc.2.2.1.kept (ek 47 (by decide) (by decide)), hc.2.2.2⟩ ⟨hp.1, (c53 1 (by omega)).trans hp.2.1, hp.2.2.1.kept (ek 48 (by decide) (by decide)), hp.2.2.2⟩ (fun z => ?_), ⟨g1, by rw [eo]; exact (c53 4 (by omega)).trans g2, g3.kept (ek 49 (by decide) (by decide)), g4⟩, wk_set (i := i) (k := k) h3 e2 c53 e (by omega), fun z => ?_⟩
  · obtain ⟨⟨a, b, -⟩, -, -⟩ := h0 z
    rw [a, b]
    exact h1.2.2.2.2.2.2 z
  · obtain ⟨⟨a, b, c⟩, d, f⟩ := h0 z
    obtain ⟨q1, q2, q3, -, -⟩ := h4 z
    rw [a, b, c, eo]
    exact ⟨q1, q2, q3, d, f⟩
theorem jMJ.swell {T : JTk} {L : JLn} {Rc Rp Rh : JNm} {w : JW} {n : Nat} {er : JEr} {m : Nat} (h : jMJ T L Rc Rp Rh w n er m) (x z : Int32) {y : Int32} (hy : er.1 = 0 → ¬ y ≤ 0) {k : Nat} (hk : k < 5) (e : w.1 53 (w.2.2 41 9) 2 = nI k) : jMJ T (if er.1 = 0 then jaSwell L x y z else L) Rc Rp Rh (wSwell w k x y z) n er m := by
  refine h.same (i := 2) (k := k + 1) rfl (fun k1 a b => ?_) (fun j hj => by unfold wSwell; simp (disch := omega) only [jset_at, jset_bk, jset_bj, jsN_at, jsN_no, jsN_I, jsI_N, jsI_T, jsI_at, jsI_no1, jsI_no2, jsT_N, jsT_I]) (Or.inl ⟨rfl, hk⟩) (by unfold wSwell; simp (disch := omega) only [jset_at, jset_bk, jset_bj, jsN_at, jsN_no, jsN_I, jsI_N, jsI_T, jsI_at, jsI_no1, jsI_no2, jsT_N, jsT_I]) (fun q => ?_)
  · unfold wSwell
    rw [jset_k (by omega), jset_k (by omega), jset_k (by omega), jset_k (by omega)]
  · obtain ⟨-, -, -, q4, q5⟩ := h.2.2.2 q
    have hl := h.1.le
    have e3 := q4.1.2.2.2.1
    have hW := q5.1
    have ek : k = L.1.1 3 := (nI_eq (by omega) (by omega)).mp (e.symm.trans e3)
    subst ek
    rw [if_pos q]
    exact ⟨N_same rfl (by unfold jaSwell; simp (disch := omega) only [jset_at, jset_bk, jset_bj, jsN_at, jsN_no, jsN_I, jsI_N, jsI_T, jsI_at, jsI_no1, jsI_no2, jsT_N, jsT_I]) (by unfold jaSwell; simp (disch := omega) only [jset_at, jset_bk, jset_bj, jsN_at, jsN_no, jsN_I, jsI_N, jsI_T, jsI_at, jsI_no1, jsI_no2, jsT_N, jsT_I]) (by unfold jaSwell; simp (disch := omega) only [jset_at, jset_bk, jset_bj, jsN_at, jsN_no, jsN_I, jsI_N, jsI_T, jsI_at, jsI_no1, jsI_no2, jsT_N, jsT_I]), jBq_swell q4 (by omega) q5 x y z, jWF_swell q5 hk x z (hy q)⟩
theorem jMJ.sil {T : JTk} {L : JLn} {Rc Rp Rh : JNm} {w : JW} {n : Nat} {er : JEr} {m : Nat} (h : jMJ T L Rc Rp Rh w n er m) (x y : Int32) {k : Nat} (hk : k < 3) (e : w.1 53 (w.2.2 41 9) 3 = nI k) : jMJ T (if er.1 = 0 then jaSil L x y else L) Rc Rp Rh (wSil w k x y) n er m := by
  refine h.same (i := 3) (k := k + 1) rfl (fun k1 a b => ?_) (fun j hj => by unfold wSil; simp (disch := omega) only [jset_at, jset_bk, jset_bj, jsN_at, jsN_no, jsN_I, jsI_N, jsI_T, jsI_at, jsI_no1, jsI_no2, jsT_N, jsT_I]) (Or.inr (Or.inl ⟨rfl, hk⟩)) (by unfold wSil; simp (disch := omega) only [jset_at, jset_bk, jset_bj, jsN_at, jsN_no, jsN_I, jsI_N, jsI_T, jsI_at, jsI_no1, jsI_no2, jsT_N, jsT_I]) (fun q => ?_)
  · unfold wSil
    rw [jset_k (by omega), jset_k (by omega), jset_k (by omega)]
  · obtain ⟨-, -, -, q4, q5⟩ := h.2.2.2 q
    have hl := h.1.le
    have e3 := q4.1.2.2.2.2.1
    have hW := q5.1
    have ek : k = L.1.1 4 := (nI_eq (by omega) (by omega)).mp (e.symm.trans e3)
    subst ek
    rw [if_pos q]
    exact ⟨N_same rfl (by unfold jaSil; simp (disch := omega) only [jset_at, jset_bk, jset_bj, jsN_at, jsN_no, jsN_I, jsI_N, jsI_T, jsI_at, jsI_no1, jsI_no2, jsT_N, jsT_I]) (by unfold jaSil; simp (disch := omega) only [jset_at, jset_bk, jset_bj, jsN_at, jsN_no, jsN_I, jsI_N, jsI_T, jsI_at, jsI_no1, jsI_no2, jsT_N, jsT_I]) (by unfold jaSil; simp (disch := omega) only [jset_at, jset_bk, jset_bj, jsN_at, jsN_no, jsN_I, jsI_N, jsI_T, jsI_at, jsI_no1, jsI_no2, jsT_N, jsT_I]), jBq_sil q4 (by omega) q5 x y, jWF_sil q5 hk x y⟩
theorem jMJ.ord {T : JTk} {L : JLn} {Rc Rp Rh : JNm} {w : JW} {n : Nat} {er : JEr} {m : Nat} (h : jMJ T L Rc Rp Rh w n er m) {s y z : Int32} {t : Nat} {f : (Nat → Int32) → Bool} (hy : er.1 = 0 → y = nI t ∧ ((s = 15 ∧ t < L.1.1 0) ∨ (s = 16 ∧ t < L.1.1 1))) (hr : er.1 = 0 → (z = -1 ∧ s = 16 ∧ ∀ R, f R = true) ∨ (∃ v : Nat, z = nI v ∧ jTm m (w.1 60 (w.2.2 41 9)) (w.1 61 (w.2.2 41 9)) (w.1 62 (w.2.2 41 9)) (L.1.1 0) (L.1.1 1) (v + 1) true v ∧ ∀ R, jmv (w.1 60 (w.2.2 41 9)) (w.1 61 (w.2.2 41 9)) (w.1 62 (w.2.2 41 9)) R (v + 1) v = if f R then 1 else 0)) {k : Nat} (hk : k < 16) (e : w.1 53 (w.2.2 41 9) 5 = nI k) : jMJ T (if er.1 = 0 then jaOrd L s t f else L) Rc Rp Rh (wOrd w k s y z) n er m := by
  refine h.same (i := 5) (k := k + 1) rfl (fun k1 a b => ?_) (fun j hj => by unfold wOrd; simp (disch := omega) only [jset_at, jset_bk, jset_bj, jsN_at, jsN_no, jsN_I, jsI_N, jsI_T, jsI_at, jsI_no1, jsI_no2, jsT_N, jsT_I]) (Or.inr (Or.inr ⟨rfl, hk⟩)) (by unfold wOrd; simp (disch := omega) only [jset_at, jset_bk, jset_bj, jsN_at, jsN_no, jsN_I, jsI_N, jsI_T, jsI_at, jsI_no1, jsI_no2, jsT_N, jsT_I]) (fun q => ?_)
  · unfold wOrd
    rw [jset_k (by omega), jset_k (by omega), jset_k (by omega), jset_k (by omega)]
  · obtain ⟨-, -, -, q4, q5⟩ := h.2.2.2 q
    have e3 := q4.1.2.2.2.2.2
    have hW := q5.1
    have ek : k = L.1.1 5 := (nI_eq (by omega) (by omega)).mp (e.symm.trans e3)
    subst ek
    obtain ⟨rfl, hx⟩ := hy q
    rw [if_pos q]
    exact ⟨N_same rfl (by unfold jaOrd; simp (disch := omega) only [jset_at, jset_bk, jset_bj, jsN_at, jsN_no, jsN_I, jsI_N, jsI_T, jsI_at, jsI_no1, jsI_no2, jsT_N, jsT_I]) (by unfold jaOrd; simp (disch := omega) only [jset_at, jset_bk, jset_bj, jsN_at, jsN_no, jsN_I, jsI_N, jsI_T, jsI_at, jsI_no1, jsI_no2, jsT_N, jsT_I]) (by unfold jaOrd; simp (disch := omega) only [jset_at, jset_bk, jset_bj, jsN_at, jsN_no, jsN_I, jsI_N, jsI_T, jsI_at, jsI_no1, jsI_no2, jsT_N, jsT_I]), jBq_ord q4 q5 hk (hr q), jWF_ord q5 hk hx⟩
