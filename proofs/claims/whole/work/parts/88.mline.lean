/-! the reference reads lines of caves, pipes, swells, silences (written by gen88.py) -/
theorem X_wk {T : JTk} {w w1 w2 : JW} {f : Nat} (h : jMX T w f w1) (hf : jmLF w1 w2) (e : w2.1 41 false 15 = w1.1 41 false 15) (hk : jWk w2) : jMX T w f w2 := ⟨⟨e.trans h.1.1, h.1.2⟩, h.2.1.trans hf, hk⟩
theorem X_cave {T : JTk} {w w1 : JW} {f k : Nat} (h : jMX T w f w1) (hk : k < 5) (y x z : Int32) : jMX T w f (wCave w1 k y x z) := X_wk h (w_LF (r := 0)).1 (by unfold wCave; simp (disch := omega) only [jset_at, jset_bk, jset_bj, jsN_at, jsN_no, jsN_I, jsI_N, jsI_T, jsI_at, jsI_no1, jsI_no2, jsT_N, jsT_I]) (wk_set (i := 0) (k := k + 1) h.2.2 rfl (fun j hj => by unfold wCave; simp (disch := omega) only [jset_at, jset_bk, jset_bj, jsN_at, jsN_no, jsN_I, jsI_N, jsI_T, jsI_at, jsI_no1, jsI_no2, jsT_N, jsT_I]) (by unfold wCave; simp (disch := omega) only [jset_at, jset_bk, jset_bj, jsN_at, jsN_no, jsN_I, jsI_N, jsI_T, jsI_at, jsI_no1, jsI_no2, jsT_N, jsT_I]) (Or.inl ⟨rfl, hk⟩))
theorem X_pipe {T : JTk} {w w1 : JW} {f k : Nat} (h : jMX T w f w1) (hk : k < 12) (y x z r : Int32) : jMX T w f (wPipe w1 k y x z r) := X_wk h w_LF.2.1 (by unfold wPipe; simp (disch := omega) only [jset_at, jset_bk, jset_bj, jsN_at, jsN_no, jsN_I, jsI_N, jsI_T, jsI_at, jsI_no1, jsI_no2, jsT_N, jsT_I]) (wk_set (i := 1) (k := k + 1) h.2.2 rfl (fun j hj => by unfold wPipe; simp (disch := omega) only [jset_at, jset_bk, jset_bj, jsN_at, jsN_no, jsN_I, jsI_N, jsI_T, jsI_at, jsI_no1, jsI_no2, jsT_N, jsT_I]) (by unfold wPipe; simp (disch := omega) only [jset_at, jset_bk, jset_bj, jsN_at, jsN_no, jsN_I, jsI_N, jsI_T, jsI_at, jsI_no1, jsI_no2, jsT_N, jsT_I]) (Or.inr (Or.inl ⟨rfl, hk⟩)))
theorem X_swell {T : JTk} {w w1 : JW} {f k : Nat} (h : jMX T w f w1) (hk : k < 5) (y x z : Int32) : jMX T w f (wSwell w1 k y x z) := X_wk h (w_LF (r := 0)).2.2.1 (by unfold wSwell; simp (disch := omega) only [jset_at, jset_bk, jset_bj, jsN_at, jsN_no, jsN_I, jsI_N, jsI_T, jsI_at, jsI_no1, jsI_no2, jsT_N, jsT_I]) (wk_set (i := 2) (k := k + 1) h.2.2 rfl (fun j hj => by unfold wSwell; simp (disch := omega) only [jset_at, jset_bk, jset_bj, jsN_at, jsN_no, jsN_I, jsI_N, jsI_T, jsI_at, jsI_no1, jsI_no2, jsT_N, jsT_I]) (by unfold wSwell; simp (disch := omega) only [jset_at, jset_bk, jset_bj, jsN_at, jsN_no, jsN_I, jsI_N, jsI_T, jsI_at, jsI_no1, jsI_no2, jsT_N, jsT_I]) (Or.inr (Or.inr (Or.inl ⟨rfl, hk⟩))))
theorem X_sil {T : JTk} {w w1 : JW} {f k : Nat} (h : jMX T w f w1) (hk : k < 3) (y x : Int32) : jMX T w f (wSil w1 k y x) := X_wk h (w_LF (z := 0) (r := 0)).2.2.2.1 (by unfold wSil; simp (disch := omega) only [jset_at, jset_bk, jset_bj, jsN_at, jsN_no, jsN_I, jsI_N, jsI_T, jsI_at, jsI_no1, jsI_no2, jsT_N, jsT_I]) (wk_set (i := 3) (k := k + 1) h.2.2 rfl (fun j hj => by unfold wSil; simp (disch := omega) only [jset_at, jset_bk, jset_bj, jsN_at, jsN_no, jsN_I, jsI_N, jsI_T, jsI_at, jsI_no1, jsI_no2, jsT_N, jsT_I]) (by unfold wSil; simp (disch := omega) only [jset_at, jset_bk, jset_bj, jsN_at, jsN_no, jsN_I, jsI_N, jsI_T, jsI_at, jsI_no1, jsI_no2, jsT_N, jsT_I]) (Or.inr (Or.inr (Or.inr (Or.inl ⟨rfl, hk⟩)))))
theorem X_ord {T : JTk} {w w1 : JW} {f k : Nat} (h : jMX T w f w1) (hk : k < 16) (y x z : Int32) : jMX T w f (wOrd w1 k y x z) := X_wk h (w_LF (r := 0)).2.2.2.2.2 (by unfold wOrd; simp (disch := omega) only [jset_at, jset_bk, jset_bj, jsN_at, jsN_no, jsN_I, jsI_N, jsI_T, jsI_at, jsI_no1, jsI_no2, jsT_N, jsT_I]) (wk_set (i := 5) (k := k + 1) h.2.2 rfl (fun j hj => by unfold wOrd; simp (disch := omega) only [jset_at, jset_bk, jset_bj, jsN_at, jsN_no, jsN_I, jsI_N, jsI_T, jsI_at, jsI_no1, jsI_no2, jsT_N, jsT_I]) (by unfold wOrd; simp (disch := omega) only [jset_at, jset_bk, jset_bj, jsN_at, jsN_no, jsN_I, jsI_N, jsI_T, jsI_at, jsI_no1, jsI_no2, jsT_N, jsT_I]) (Or.inr (Or.inr (Or.inr (Or.inr (Or.inr ⟨rfl, hk⟩))))))
theorem r_readCave {T : JTk} {L : JLn} {Rc Rp Rh : JNm} {w : JW} {n : Nat} {er : JEr} {m : Nat} (h0 : jMJ T L Rc Rp Rh w n er m) (hk : T.1 n = 0) : jSV MX11_readCave 4 [jR 41 false] w (jMLP T w n (jlCave T L n er)) := by
  refine jSV_of jp_X11_readCave rfl (Nat.le_of_ble_eq_true rfl) (fun C hm => ?_)
  have hlt := h0.1.lt (by rw [hk]; decide) (by rw [hk]; decide)
  have ek : jpK T 0 n er = .inr (n + 1, er) := if_pos hk
  have h1 := h0.next hlt
  have F1 : jmLF w (jset w 41 false 13 (w.1 41 false 13 + 1)) := jMF_13.1.LF
  have bad54 : ∀ (w1 : JW) (f : Nat) (x1 x2 xs0 : Int32), jMX T w f w1 → jW C 0 0 (jQQ C 0 0 (fun v w' => v = jU ∧ jMLP T w n (.inl f) w')) 54 [jR 41 false, jI x1, jI x2, jU] [jI xs0] w1 := by
    intro w1 f x1 x2 xs0 hX
    have h0 := hX.no
    exact t_cave hm hX.2.2 (fun _ => ⟨rfl, hX⟩) (fun k k5 _ => ⟨rfl, X_cave hX k5 _ _ _⟩)
  have bad47 : ∀ (w1 : JW) (f : Nat) (x1 x2 : Int32), jMX T w f w1 → jW C 0 0 (jQQ C 0 0 (fun v w' => v = jU ∧ jMLP T w n (.inl f) w')) 47 [jR 41 false, jI x1, jI x2, jU] [] w1 := by
    intro w1 f x1 x2 hX
    have h0 := hX.no
    exact bk_X11_readCave_47 hm (m_number0 h0 _ _) (by decide) (bad54 w1 f _ _ _ hX)
  have bad40 : ∀ (w1 : JW) (f : Nat) (x1 xs0 : Int32), jMX T w f w1 → jW C 0 0 (jQQ C 0 0 (fun v w' => v = jU ∧ jMLP T w n (.inl f) w')) 40 [jR 41 false, jI x1, jU, jU] [jI xs0] w1 := by
    intro w1 f x1 xs0 hX
    have h0 := hX.no
    exact bk_X11_readCave_40 hm (m_take0 h0 _ _) (by decide) (bad47 w1 f _ _ hX)
  have bad33 : ∀ (w1 : JW) (f : Nat) (x1 : Int32), jMX T w f w1 → jW C 0 0 (jQQ C 0 0 (fun v w' => v = jU ∧ jMLP T w n (.inl f) w')) 33 [jR 41 false, jI x1, jU, jU] [] w1 := by
    intro w1 f x1 hX
    have h0 := hX.no
    exact bk_X11_readCave_33 hm (m_number0 h0 _ _) (by decide) (bad40 w1 f _ _ hX)
  have bad26 : ∀ (w1 : JW) (f : Nat) (xs0 : Int32), jMX T w f w1 → jW C 0 0 (jQQ C 0 0 (fun v w' => v = jU ∧ jMLP T w n (.inl f) w')) 26 [jR 41 false, jU, jU, jU] [jI xs0] w1 := by
    intro w1 f xs0 hX
    have h0 := hX.no
    exact bk_X11_readCave_26 hm (m_take0 h0 _ _) (by decide) (bad33 w1 f _ hX)
  refine bq_X11_readCave_0 hm (s_fresh h1 (Or.inl ⟨rfl, rfl, rfl, rfl⟩) h1.1.2.2.2.2.1.2.1 rfl) (by decide) (fun r2 w2 q => ?_)
  rcases q with ⟨er2, e1, rfl, h2, f2⟩ | ⟨e1, hX⟩
  rotate_left
  · simp only [jlCave, jpSq, ek, e1, jlEnd]
    exact bad26 _ _ _ (hX.pre F1)
  have F2 := F1.trans f2.LF
  refine bq_X11_readCave_26 hm (s_take h2 1 (by decide) (by decide) (by decide)) (by decide) (fun w3 q => ?_)
  rcases q with ⟨er3, e2, h3, f3⟩ | ⟨e2, hX⟩
  rotate_left
  · simp only [jlCave, jpSq, ek, e1, e2, jlEnd]
    exact bad33 _ _ _ (hX.pre F2)
  have F3 := F2.trans f3.LF
  refine bq_X11_readCave_33 hm (s_num h3 1 9) (by decide) (fun r4 w4 q => ?_)
  rcases q with ⟨er4, e3, rfl, h4, f4⟩ | ⟨e3, hX⟩
  rotate_left
  · simp only [jlCave, jpSq, ek, e1, e2, e3, jlEnd]
    exact bad40 _ _ _ _ (hX.pre F3)
  have F4 := F3.trans f4.LF
  refine bq_X11_readCave_40 hm (s_take h4 2 (by decide) (by decide) (by decide)) (by decide) (fun w5 q => ?_)
  rcases q with ⟨er5, e4, h5, f5⟩ | ⟨e4, hX⟩
  rotate_left
  · simp only [jlCave, jpSq, ek, e1, e2, e3, e4, jlEnd]
    exact bad47 _ _ _ _ (hX.pre F4)
  have F5 := F4.trans f5.LF
  refine bq_X11_readCave_47 hm (s_num h5 1 9) (by decide) (fun r6 w6 q => ?_)
  rcases q with ⟨er6, e5, rfl, h6, f6⟩ | ⟨e5, hX⟩
  rotate_left
  · simp only [jlCave, jpSq, ek, e1, e2, e3, e4, e5, jlEnd]
    exact bad54 _ _ _ _ _ (hX.pre F5)
  have F6 := F5.trans f6.LF
  have o3 := jpR_ok e3
  have o5 := jpR_ok e5
  have o1 := jpF_ok e1
  have hl := h6.1.le
  have zc : er6.1 = 0 → (jNc L).2 < 5 ∧ ¬ T.2.1 (n + 5) = 0 := by
    intro z6
    obtain ⟨z5, b1, b2⟩ := o5.2.2 z6
    have z4 : er4.1 = 0 := by rw [← jpK_er e4]; exact z5
    obtain ⟨z3, -, -⟩ := o3.2.2 z4
    have z2 : er2.1 = 0 := by rw [← jpK_er e2]; exact z3
    refine ⟨(o1.2.2 z2).2.2, fun q => ?_⟩
    rw [show n + 5 = n + 1 + 1 + 1 + 1 + 1 from rfl] at q
    rw [q] at b1
    exact absurd b1 (by decide)
  have hRc := h6.1.2.2.2.2.1
  simp only [jlCave, jpSq, ek, e1, e2, e3, e4, e5, jlEnd]
  refine t_cave hm h6.k (fun q => ⟨rfl, Nat.le_add_right n 6, F6, Rc, Rp, Rh, m, ?_⟩) (fun k k5 q => ⟨rfl, Nat.le_add_right n 6, F6.trans (w_LF (r := 0)).1, (updn Rc.1 Rc.2 (n + 1), Rc.2 + 1), Rp, Rh, m, ?_⟩)
  · have e5 : Rc.2 = 5 := (nI_eq (by omega) (by omega)).mp (hRc.2.1.symm.trans q)
    have z : ¬ er6.1 = 0 := fun z => by
      have a := (h6.2.2.2 z).1
      have b := (zc z).1
      rw [← a] at b
      omega
    simp only [if_neg z]
    exact h6
  · have ekk : k = Rc.2 := (nI_eq (by omega) (by omega)).mp (q.symm.trans hRc.2.1)
    subst ekk
    exact h6.cave (t := n + 1) (by omega) o1.1 _ (fun z => (zc z).2) k5
theorem r_readPipe {T : JTk} {L : JLn} {Rc Rp Rh : JNm} {w : JW} {n : Nat} {er : JEr} {m : Nat} (h0 : jMJ T L Rc Rp Rh w n er m) (hk : T.1 n = 3) : jSV MX11_readPipe 4 [jR 41 false] w (jMLP T w n (jlPipe T L n er)) := by
  refine jSV_of jp_X11_readPipe rfl (Nat.le_of_ble_eq_true rfl) (fun C hm => ?_)
  have hlt := h0.1.lt (by rw [hk]; decide) (by rw [hk]; decide)
  have ek : jpK T 3 n er = .inr (n + 1, er) := if_pos hk
  have h1 := h0.next hlt
  have F1 : jmLF w (jset w 41 false 13 (w.1 41 false 13 + 1)) := jMF_13.1.LF
  have bad52 : ∀ (w1 : JW) (f : Nat) (x1 x2 xs0 : Int32), jMX T w f w1 → jW C 0 0 (jQQ C 0 0 (fun v w' => v = jU ∧ jMLP T w n (.inl f) w')) 52 [jR 41 false, jI x1, jI x2, jU, jU] [jI xs0] w1 := by
    intro w1 f x1 x2 xs0 hX
    have h0 := hX.no
    exact bk_X11_readPipe_52 hm (m_is0 h0 _ _) (by decide) (bk_X11_readPipe_60 hm (fun _ => t_pipe hm hX.2.2 (Or.inl rfl) (fun _ => ⟨rfl, hX⟩) (fun k k5 _ => ⟨rfl, X_pipe hX k5 _ _ _ _⟩)) (fun z => absurd rfl z))
  have bad45 : ∀ (w1 : JW) (f : Nat) (x1 x2 : Int32), jMX T w f w1 → jW C 0 0 (jQQ C 0 0 (fun v w' => v = jU ∧ jMLP T w n (.inl f) w')) 45 [jR 41 false, jI x1, jI x2, jU, jU] [] w1 := by
    intro w1 f x1 x2 hX
    have h0 := hX.no
    exact bk_X11_readPipe_45 hm (m_number0 h0 _ _) (by decide) (bad52 w1 f _ _ _ hX)
  have bad38 : ∀ (w1 : JW) (f : Nat) (x1 xs0 : Int32), jMX T w f w1 → jW C 0 0 (jQQ C 0 0 (fun v w' => v = jU ∧ jMLP T w n (.inl f) w')) 38 [jR 41 false, jI x1, jU, jU, jU] [jI xs0] w1 := by
    intro w1 f x1 xs0 hX
    have h0 := hX.no
    exact bk_X11_readPipe_38 hm (m_take0 h0 _ _) (by decide) (bad45 w1 f _ _ hX)
  have bad34 : ∀ (w1 : JW) (f : Nat) (x1 : Int32), jMX T w f w1 → jW C 0 0 (jQQ C 0 0 (fun v w' => v = jU ∧ jMLP T w n (.inl f) w')) 34 [jR 41 false, jI x1, jU, jU, jU] [] w1 := by
    intro w1 f x1 hX
    have h0 := hX.no
    exact bk_X11_readPipe_34 hm (m_knownCave0 h0) (by decide) (bad38 w1 f _ _ hX)
  have bad27 : ∀ (w1 : JW) (f : Nat) (xs0 : Int32), jMX T w f w1 → jW C 0 0 (jQQ C 0 0 (fun v w' => v = jU ∧ jMLP T w n (.inl f) w')) 27 [jR 41 false, jU, jU, jU, jU] [jI xs0] w1 := by
    intro w1 f xs0 hX
    have h0 := hX.no
    exact bk_X11_readPipe_27 hm (m_take0 h0 _ _) (by decide) (bad34 w1 f _ hX)
  refine bq_X11_readPipe_0 hm (s_fresh h1 (Or.inr (Or.inl ⟨rfl, rfl, rfl, rfl⟩)) h1.1.2.2.2.2.2.1.2.1 rfl) (by decide) (fun r2 w2 q => ?_)
  rcases q with ⟨er2, e1, rfl, h2, f2⟩ | ⟨e1, hX⟩
  rotate_left
  · simp only [jlPipe, jpSq, ek, e1, jlEnd]
    exact bad27 _ _ _ (hX.pre F1)
  have F2 := F1.trans f2.LF
  refine bq_X11_readPipe_27 hm (s_take h2 4 (by decide) (by decide) (by decide)) (by decide) (fun w3 q => ?_)
  rcases q with ⟨er3, e2, h3, f3⟩ | ⟨e2, hX⟩
  rotate_left
  · simp only [jlPipe, jpSq, ek, e1, e2, jlEnd]
    exact bad34 _ _ _ (hX.pre F2)
  have F3 := F2.trans f3.LF
  refine bq_X11_readPipe_34 hm (s_cave h3) (by decide) (fun r4 w4 q => ?_)
  rcases q with ⟨er4, e3, hr4, h4, f4⟩ | ⟨e3, hX⟩
  rotate_left
  · simp only [jlPipe, jpSq, ek, e1, e2, e3, jlEnd]
    exact bad38 _ _ _ _ (hX.pre F3)
  have F4 := F3.trans f4.LF
  refine bq_X11_readPipe_38 hm (s_take h4 5 (by decide) (by decide) (by decide)) (by decide) (fun w5 q => ?_)
  rcases q with ⟨er5, e4, h5, f5⟩ | ⟨e4, hX⟩
  rotate_left
  · simp only [jlPipe, jpSq, ek, e1, e2, e3, e4, jlEnd]
    exact bad45 _ _ _ _ (hX.pre F4)
  have F5 := F4.trans f5.LF
  refine bq_X11_readPipe_45 hm (s_num h5 1 40) (by decide) (fun r6 w6 q => ?_)
  rcases q with ⟨er6, e5, rfl, h6, f6⟩ | ⟨e5, hX⟩
  rotate_left
  · simp only [jlPipe, jpSq, ek, e1, e2, e3, e4, e5, jlEnd]
    exact bad52 _ _ _ _ _ (hX.pre F5)
  have F6 := F5.trans f6.LF
  have o3 := jpO_ok e3
  have o5 := jpR_ok e5
  have o1 := jpF_ok e1
  have hl := h6.1.le
  have zc : er6.1 = 0 → (jNp L).2 < 12 ∧ r4 = nI (jfi T (jNc L) (n + 3)) ∧ jfi T (jNc L) (n + 3) < (jNc L).2 ∧ ∃ l : Nat, T.2.1 (n + 5) = nI l ∧ 1 ≤ l ∧ l ≤ 40 := by
    intro z6
    obtain ⟨z5, b1, b2⟩ := o5.2.2 z6
    have z4 : er4.1 = 0 := by rw [← jpK_er e4]; exact z5
    obtain ⟨z3, k3⟩ := o3.2.2 z4
    have z2 : er2.1 = 0 := by rw [← jpK_er e2]; exact z3
    have hW := (h6.2.2.2 z6).2.2.2.2.1
    have h12 : (jNc L).2 ≤ 12 := by
      have : L.1.1 0 ≤ 5 := hW.1
      show L.1.1 0 ≤ 12
      omega
    obtain ⟨j1, j2⟩ := jnum_ok h12 k3
    obtain ⟨l, l1, l2, el⟩ := i32_pos_nI (n := 40) b1 b2 (by decide)
    exact ⟨(o1.2.2 z2).2.2, (hr4 z4).trans j1, j2, l, el, l1, l2⟩
  have hRp := h6.1.2.2.2.2.2.1
  have fin : ∀ (w7 : JW) (n7 : Nat) (r : Int32), (if T.1 (n + 1 + 1 + 1 + 1 + 1 + 1) = 6 then n + 1 + 1 + 1 + 1 + 1 + 1 + 1 else n + 1 + 1 + 1 + 1 + 1 + 1) = n7 → (if T.1 (n + 1 + 1 + 1 + 1 + 1 + 1) = 6 then (1 : Int32) else 0) = r → jMJ T L Rc Rp Rh w7 n7 er6 m → jmLF w w7 → jW C 0 0 (jQQ C 0 0 (fun v w' => v = jU ∧ jMLP T w n (jlPipe T L n er) w')) 77 [jR 41 false, jI (nI (n + 1)), jI r4, jI (T.2.1 (n + 1 + 1 + 1 + 1 + 1)), jI r] [] w7 := by
    intro w7 n7 r c1 c2 h7 F7
    have hl7 := h7.1.le
    have hr01 : r = 0 ∨ r = 1 := by
      rw [← c2]
      split
      · exact Or.inr rfl
      · exact Or.inl rfl
    have hRp7 := h7.1.2.2.2.2.2.1
    have hn7 : n ≤ n7 := by
      rw [← c1]
      split <;> omega
    simp only [jlPipe, jpSq, ek, e1, e2, e3, e4, e5, c1, c2]
    refine t_pipe hm h7.k hr01 (fun q => ⟨rfl, hn7, F7, Rc, Rp, Rh, m, ?_⟩) (fun k k5 q => ⟨rfl, hn7, F7.trans w_LF.2.1, Rc, (updn Rp.1 Rp.2 (n + 1), Rp.2 + 1), Rh, m, ?_⟩)
    · have e12 : Rp.2 = 12 := (nI_eq (by omega) (by omega)).mp (hRp7.2.1.symm.trans q)
      have z : ¬ er6.1 = 0 := fun z => by
        have a := (h6.2.2.2 z).2.1
        have b := (zc z).1
        rw [← a] at b
        omega
      simp only [if_neg z]
      exact h7
    · have ekk : k = Rp.2 := (nI_eq (by omega) (by omega)).mp (q.symm.trans hRp7.2.1)
      subst ekk
      refine h7.pipe (t := n + 1) (by omega) o1.1 (c := jfi T (jNc L) (n + 3)) (l := (T.2.1 (n + 5)).toNatClampNeg) (fun z => ⟨(zc z).2.1, (zc z).2.2.1⟩) (fun z => ?_) k5
      obtain ⟨-, -, -, l, el, l1, l2⟩ := zc z
      rw [el, nI_clamp (by omega)]
      exact ⟨rfl, l1, l2⟩
  refine bk_X11_readPipe_52 hm (m_isK h6.1 6 (by decide)) (by decide) ?_
  by_cases z : T.1 (n + 1 + 1 + 1 + 1 + 1 + 1) = 6
  · have hlt6 := h6.1.lt (by rw [z]; decide) (by rw [z]; decide)
    refine bk_X11_readPipe_60 hm (fun q => ?_) (fun _ => bk_X11_readPipe_67 hm ?_)
    · rw [if_pos z] at q
      exact absurd q (by decide)
    · rw [show (if T.1 (n + 1 + 1 + 1 + 1 + 1 + 1) = 6 then (1 : Int32) else 0) = 1 from if_pos z]
      exact fin _ _ 1 (if_pos z) (if_pos z) (h6.next hlt6) (F6.trans jMF_13.1.LF)
  · refine bk_X11_readPipe_60 hm (fun _ => ?_) (fun q => ?_)
    · rw [show (if T.1 (n + 1 + 1 + 1 + 1 + 1 + 1) = 6 then (1 : Int32) else 0) = 0 from if_neg z]
      exact fin _ _ 0 (if_neg z) (if_neg z) h6 F6
    · rw [if_neg z] at q
      exact absurd rfl q
theorem r_readSwell {T : JTk} {L : JLn} {Rc Rp Rh : JNm} {w : JW} {n : Nat} {er : JEr} {m : Nat} (h0 : jMJ T L Rc Rp Rh w n er m) (hk : T.1 n = 7) : jSV MX11_readSwell 4 [jR 41 false] w (jMLP T w n (jlSwell T L n er)) := by
  refine jSV_of jp_X11_readSwell rfl (Nat.le_of_ble_eq_true rfl) (fun C hm => ?_)
  have hlt := h0.1.lt (by rw [hk]; decide) (by rw [hk]; decide)
  obtain ⟨a0, a1, a2, a3, a4, a5, q0, q1, q2, q3, q4, q5⟩ := h0.k
  have cnt : er.1 = 0 → a2 = L.1.1 3 := fun z => by
    have b := (h0.2.2.2 z).2.2.2.1.1
    have hW := (h0.2.2.2 z).2.2.2.2.1
    exact (nI_eq (by omega) (by omega)).mp (q2.1.symm.trans b.2.2.2.1)
  have main : ∀ (w0 : JW) (er0 : JEr), (if L.1.1 3 < 5 then er else jbl er 4 n) = er0 → jMJ T L Rc Rp Rh (jset w0 41 false 13 (w0.1 41 false 13 + 1)) (n + 1) er0 m → jMF w w0 → jW C 0 0 (jQQ C 0 0 (fun v w' => v = jU ∧ jMLP T w n (jlSwell T L n er) w')) 20 [jR 41 false, jU, jU, jU] [] w0 := by
    intro w0 er0 he h1 f0
    have ek : jpK T 7 n er0 = .inr (n + 1, er0) := if_pos hk
    have F1 : jmLF w (jset w0 41 false 13 (w0.1 41 false 13 + 1)) := (f0.trans jMF_13.1).LF
    have bad74 : ∀ (w1 : JW) (f : Nat) (x1 x2 xs0 : Int32), jMX T w f w1 → jW C 0 0 (jQQ C 0 0 (fun v w' => v = jU ∧ jMLP T w n (.inl f) w')) 74 [jR 41 false, jI x1, jI x2, jU] [jI xs0] w1 := by
      intro w1 f x1 x2 xs0 hX
      have h0 := hX.no
      exact t_swell hm hX.2.2 (fun _ => ⟨rfl, hX⟩) (fun k k5 _ => ⟨rfl, X_swell hX k5 _ _ _⟩)
    have bad67 : ∀ (w1 : JW) (f : Nat) (x1 x2 : Int32), jMX T w f w1 → jW C 0 0 (jQQ C 0 0 (fun v w' => v = jU ∧ jMLP T w n (.inl f) w')) 67 [jR 41 false, jI x1, jI x2, jU] [] w1 := by
      intro w1 f x1 x2 hX
      have h0 := hX.no
      exact bk_X11_readSwell_67 hm (m_number0 h0 _ _) (by decide) (bad74 w1 f _ _ _ hX)
    have bad59 : ∀ (w1 : JW) (f : Nat) (x1 xs0 : Int32), jMX T w f w1 → jW C 0 0 (jQQ C 0 0 (fun v w' => v = jU ∧ jMLP T w n (.inl f) w')) 59 [jR 41 false, jI x1, jU, jU] [jI xs0] w1 := by
      intro w1 f x1 xs0 hX
      have h0 := hX.no
      exact bk_X11_readSwell_59 hm (m_take0 h0 _ _) (by decide) (bad67 w1 f _ _ hX)
    have bad52 : ∀ (w1 : JW) (f : Nat) (x1 : Int32), jMX T w f w1 → jW C 0 0 (jQQ C 0 0 (fun v w' => v = jU ∧ jMLP T w n (.inl f) w')) 52 [jR 41 false, jI x1, jU, jU] [] w1 := by
      intro w1 f x1 hX
      have h0 := hX.no
      exact bk_X11_readSwell_52 hm (m_number0 h0 _ _) (by decide) (bad59 w1 f _ _ hX)
    have bad44 : ∀ (w1 : JW) (f : Nat) (xs0 : Int32), jMX T w f w1 → jW C 0 0 (jQQ C 0 0 (fun v w' => v = jU ∧ jMLP T w n (.inl f) w')) 44 [jR 41 false, jU, jU, jU] [jI xs0] w1 := by
      intro w1 f xs0 hX
      have h0 := hX.no
      exact bk_X11_readSwell_44 hm (m_take0 h0 _ _) (by decide) (bad52 w1 f _ hX)
    have bad37 : ∀ (w1 : JW) (f : Nat), jMX T w f w1 → jW C 0 0 (jQQ C 0 0 (fun v w' => v = jU ∧ jMLP T w n (.inl f) w')) 37 [jR 41 false, jU, jU, jU] [] w1 := by
      intro w1 f  hX
      have h0 := hX.no
      exact bk_X11_readSwell_37 hm (m_number0 h0 _ _) (by decide) (bad44 w1 f _ hX)
    refine bq_X11_readSwell_20 hm (s_take h1 8 (by decide) (by decide) (by decide)) (by decide) (fun w2 q => ?_)
    rcases q with ⟨er2, e1, h2, f2⟩ | ⟨e1, hX⟩
    rotate_left
    · simp only [jlSwell, he, jpSq, ek, e1, jlEnd]
      exact bad37 _ _  (hX.pre F1)
    have F2 := F1.trans f2.LF
    refine bq_X11_readSwell_37 hm (s_num h2 1 30) (by decide) (fun r3 w3 q => ?_)
    rcases q with ⟨er3, e2, rfl, h3, f3⟩ | ⟨e2, hX⟩
    rotate_left
    · simp only [jlSwell, he, jpSq, ek, e1, e2, jlEnd]
      exact bad44 _ _ _ (hX.pre F2)
    have F3 := F2.trans f3.LF
    refine bq_X11_readSwell_44 hm (s_take h3 9 (by decide) (by decide) (by decide)) (by decide) (fun w4 q => ?_)
    rcases q with ⟨er4, e3, h4, f4⟩ | ⟨e3, hX⟩
    rotate_left
    · simp only [jlSwell, he, jpSq, ek, e1, e2, e3, jlEnd]
      exact bad52 _ _ _ (hX.pre F3)
    have F4 := F3.trans f4.LF
    refine bq_X11_readSwell_52 hm (s_num h4 1 24) (by decide) (fun r5 w5 q => ?_)
    rcases q with ⟨er5, e4, rfl, h5, f5⟩ | ⟨e4, hX⟩
    rotate_left
    · simp only [jlSwell, he, jpSq, ek, e1, e2, e3, e4, jlEnd]
      exact bad59 _ _ _ _ (hX.pre F4)
    have F5 := F4.trans f5.LF
    refine bq_X11_readSwell_59 hm (s_take h5 10 (by decide) (by decide) (by decide)) (by decide) (fun w6 q => ?_)
    rcases q with ⟨er6, e5, h6, f6⟩ | ⟨e5, hX⟩
    rotate_left
    · simp only [jlSwell, he, jpSq, ek, e1, e2, e3, e4, e5, jlEnd]
      exact bad67 _ _ _ _ (hX.pre F5)
    have F6 := F5.trans f6.LF
    refine bq_X11_readSwell_67 hm (s_num h6 0 99) (by decide) (fun r7 w7 q => ?_)
    rcases q with ⟨er7, e6, rfl, h7, f7⟩ | ⟨e6, hX⟩
    rotate_left
    · simp only [jlSwell, he, jpSq, ek, e1, e2, e3, e4, e5, e6, jlEnd]
      exact bad74 _ _ _ _ _ (hX.pre F6)
    have F7 := F6.trans f7.LF
    have o2 := jpR_ok e2
    have o4 := jpR_ok e4
    have o6 := jpR_ok e6
    have hl := h7.1.le
    have zc : er7.1 = 0 → L.1.1 3 < 5 ∧ ¬ T.2.1 (n + 4) ≤ 0 := by
      intro z7
      obtain ⟨z6, -, -⟩ := o6.2.2 z7
      have z5 : er5.1 = 0 := by rw [← jpK_er e5]; exact z6
      obtain ⟨z4, b1, b2⟩ := o4.2.2 z5
      have z3 : er3.1 = 0 := by rw [← jpK_er e3]; exact z4
      obtain ⟨z2, -, -⟩ := o2.2.2 z3
      have z1 : er0.1 = 0 := by rw [← jpK_er e1]; exact z2
      refine ⟨?_, fun q => ?_⟩
      · by_cases q : L.1.1 3 < 5
        · exact q
        · rw [if_neg q] at he
          rw [← he] at z1
          exact absurd z1 (jbl_n0 (by decide))
      · obtain ⟨l, l1, l2, el⟩ := i32_pos_nI (n := 24) b1 b2 (by decide)
        rw [show T.2.1 (n + 4) = nI l from el] at q
        exact nI_nle (by omega) (by omega) q
    simp only [jlSwell, he, jpSq, ek, e1, e2, e3, e4, e5, e6, jlEnd]
    refine t_swell hm h7.k (fun q => ⟨rfl, Nat.le_add_right n 7, F7, Rc, Rp, Rh, m, ?_⟩) (fun k k5 q => ⟨rfl, Nat.le_add_right n 7, F7.trans (w_LF (r := 0)).2.2.1, Rc, Rp, Rh, m, ?_⟩)
    · have z : ¬ er7.1 = 0 := fun z => by
        have b := (h7.2.2.2 z).2.2.2.1.1.2.2.2.1
        have c := (zc z).1
        have := (nI_eq (by omega) (by omega)).mp (b.symm.trans q)
        omega
      simp only [if_neg z]
      exact h7
    · exact h7.swell _ _ (fun z => (zc z).2) k5 q
  refine bk_X11_readSwell_0 hm (fun q => ?_) (fun q => ?_)
  · refine main w er ?_ (h0.next hlt) (jMF.refl w)
    by_cases z : er.1 = 0
    · have e := cnt z
      rw [if_pos]
      have : ¬ a2 = 5 := fun y => q (by rw [q2.1, y]; rfl)
      omega
    · rw [jbl_keep z]
      split <;> rfl
  · have e2 : a2 = 5 := (nI_eq (by omega) (by omega)).mp (q2.1.symm.trans q)
    refine bq_X11_readSwell_11 hm (m_tellAt h0.1 hlt (c := 4) (by decide) h0.1.1.1.1) (by decide) (fun w1 hp => ?_)
    refine main w1 _ ?_ (h0.mf (hp.2.1.trans jMF_13.1) hp.1 (fun z => absurd z (jbl_n0 (by decide)))) hp.2.1
    by_cases z : er.1 = 0
    · have e := cnt z
      rw [if_neg (by omega)]
    · rw [jbl_keep z]
      split <;> rfl
theorem r_readSilence {T : JTk} {L : JLn} {Rc Rp Rh : JNm} {w : JW} {n : Nat} {er : JEr} {m : Nat} (h0 : jMJ T L Rc Rp Rh w n er m) (hk : T.1 n = 11) : jSV MX11_readSilence 4 [jR 41 false] w (jMLP T w n (jlSil T L n er)) := by
  refine jSV_of jp_X11_readSilence rfl (Nat.le_of_ble_eq_true rfl) (fun C hm => ?_)
  have hlt := h0.1.lt (by rw [hk]; decide) (by rw [hk]; decide)
  obtain ⟨a0, a1, a2, a3, a4, a5, q0, q1, q2, q3, q4, q5⟩ := h0.k
  have cnt : er.1 = 0 → a3 = L.1.1 4 := fun z => by
    have b := (h0.2.2.2 z).2.2.2.1.1
    have hW := (h0.2.2.2 z).2.2.2.2.1
    exact (nI_eq (by omega) (by omega)).mp (q3.1.symm.trans b.2.2.2.2.1)
  have main : ∀ (w0 : JW) (er0 : JEr), (if L.1.1 4 < 3 then er else jbl er 4 n) = er0 → jMJ T L Rc Rp Rh (jset w0 41 false 13 (w0.1 41 false 13 + 1)) (n + 1) er0 m → jMF w w0 → jW C 0 0 (jQQ C 0 0 (fun v w' => v = jU ∧ jMLP T w n (jlSil T L n er) w')) 20 [jR 41 false, jU, jU] [] w0 := by
    intro w0 er0 he h1 f0
    have ek : jpK T 11 n er0 = .inr (n + 1, er0) := if_pos hk
    have F1 : jmLF w (jset w0 41 false 13 (w0.1 41 false 13 + 1)) := (f0.trans jMF_13.1).LF
    have bad59 : ∀ (w1 : JW) (f : Nat) (x1 xs0 : Int32), jMX T w f w1 → jW C 0 0 (jQQ C 0 0 (fun v w' => v = jU ∧ jMLP T w n (.inl f) w')) 59 [jR 41 false, jI x1, jU] [jI xs0] w1 := by
      intro w1 f x1 xs0 hX
      have h0 := hX.no
      exact t_sil hm hX.2.2 (fun _ => ⟨rfl, hX⟩) (fun k k5 _ => ⟨rfl, X_sil hX k5 _ _⟩)
    have bad52 : ∀ (w1 : JW) (f : Nat) (x1 : Int32), jMX T w f w1 → jW C 0 0 (jQQ C 0 0 (fun v w' => v = jU ∧ jMLP T w n (.inl f) w')) 52 [jR 41 false, jI x1, jU] [] w1 := by
      intro w1 f x1 hX
      have h0 := hX.no
      exact bk_X11_readSilence_52 hm (m_number0 h0 _ _) (by decide) (bad59 w1 f _ _ hX)
    have bad44 : ∀ (w1 : JW) (f : Nat) (xs0 : Int32), jMX T w f w1 → jW C 0 0 (jQQ C 0 0 (fun v w' => v = jU ∧ jMLP T w n (.inl f) w')) 44 [jR 41 false, jU, jU] [jI xs0] w1 := by
      intro w1 f xs0 hX
      have h0 := hX.no
      exact bk_X11_readSilence_44 hm (m_take0 h0 _ _) (by decide) (bad52 w1 f _ hX)
    have bad37 : ∀ (w1 : JW) (f : Nat), jMX T w f w1 → jW C 0 0 (jQQ C 0 0 (fun v w' => v = jU ∧ jMLP T w n (.inl f) w')) 37 [jR 41 false, jU, jU] [] w1 := by
      intro w1 f  hX
      have h0 := hX.no
      exact bk_X11_readSilence_37 hm (m_number0 h0 _ _) (by decide) (bad44 w1 f _ hX)
    refine bq_X11_readSilence_20 hm (s_take h1 10 (by decide) (by decide) (by decide)) (by decide) (fun w2 q => ?_)
    rcases q with ⟨er2, e1, h2, f2⟩ | ⟨e1, hX⟩
    rotate_left
    · simp only [jlSil, he, jpSq, ek, e1, jlEnd]
      exact bad37 _ _  (hX.pre F1)
    have F2 := F1.trans f2.LF
    refine bq_X11_readSilence_37 hm (s_num h2 0 23) (by decide) (fun r3 w3 q => ?_)
    rcases q with ⟨er3, e2, rfl, h3, f3⟩ | ⟨e2, hX⟩
    rotate_left
    · simp only [jlSil, he, jpSq, ek, e1, e2, jlEnd]
      exact bad44 _ _ _ (hX.pre F2)
    have F3 := F2.trans f3.LF
    refine bq_X11_readSilence_44 hm (s_take h3 12 (by decide) (by decide) (by decide)) (by decide) (fun w4 q => ?_)
    rcases q with ⟨er4, e3, h4, f4⟩ | ⟨e3, hX⟩
    rotate_left
    · simp only [jlSil, he, jpSq, ek, e1, e2, e3, jlEnd]
      exact bad52 _ _ _ (hX.pre F3)
    have F4 := F3.trans f4.LF
    refine bq_X11_readSilence_52 hm (s_num h4 0 23) (by decide) (fun r5 w5 q => ?_)
    rcases q with ⟨er5, e4, rfl, h5, f5⟩ | ⟨e4, hX⟩
    rotate_left
    · simp only [jlSil, he, jpSq, ek, e1, e2, e3, e4, jlEnd]
      exact bad59 _ _ _ _ (hX.pre F4)
    have F5 := F4.trans f5.LF
    have o2 := jpR_ok e2
    have o4 := jpR_ok e4
    have hl := h5.1.le
    have zc : er5.1 = 0 → L.1.1 4 < 3 := by
      intro z5
      obtain ⟨z4, -, -⟩ := o4.2.2 z5
      have z3 : er3.1 = 0 := by rw [← jpK_er e3]; exact z4
      obtain ⟨z2, -, -⟩ := o2.2.2 z3
      have z1 : er0.1 = 0 := by rw [← jpK_er e1]; exact z2
      by_cases q : L.1.1 4 < 3
      · exact q
      · rw [if_neg q] at he
        rw [← he] at z1
        exact absurd z1 (jbl_n0 (by decide))
    simp only [jlSil, he, jpSq, ek, e1, e2, e3, e4, jlEnd]
    refine t_sil hm h5.k (fun q => ⟨rfl, Nat.le_add_right n 5, F5, Rc, Rp, Rh, m, ?_⟩) (fun k k5 q => ⟨rfl, Nat.le_add_right n 5, F5.trans (w_LF (z := 0) (r := 0)).2.2.2.1, Rc, Rp, Rh, m, ?_⟩)
    · have z : ¬ er5.1 = 0 := fun z => by
        have b := (h5.2.2.2 z).2.2.2.1.1.2.2.2.2.1
        have c := zc z
        have := (nI_eq (by omega) (by omega)).mp (b.symm.trans q)
        omega
      simp only [if_neg z]
      exact h5
    · exact h5.sil _ _ k5 q
  refine bk_X11_readSilence_0 hm (fun q => ?_) (fun q => ?_)
  · refine main w er ?_ (h0.next hlt) (jMF.refl w)
    by_cases z : er.1 = 0
    · have e := cnt z
      rw [if_pos]
      have : ¬ a3 = 3 := fun y => q (by rw [q3.1, y]; rfl)
      omega
    · rw [jbl_keep z]
      split <;> rfl
  · have e3 : a3 = 3 := (nI_eq (by omega) (by omega)).mp (q3.1.symm.trans q)
    refine bq_X11_readSilence_11 hm (m_tellAt h0.1 hlt (c := 4) (by decide) h0.1.1.1.1) (by decide) (fun w1 hp => ?_)
    refine main w1 _ ?_ (h0.mf (hp.2.1.trans jMF_13.1) hp.1 (fun z => absurd z (jbl_n0 (by decide)))) hp.2.1
    by_cases z : er.1 = 0
    · have e := cnt z
      rw [if_neg (by omega)]
    · rw [jbl_keep z]
      split <;> rfl
