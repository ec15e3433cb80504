/-! the reference reads a chord; an order -/
theorem jMJ.chord {T : JTk} {L : JLn} {Rc Rp Rh : JNm} {w : JW} {n : Nat} {er : JEr} {m : Nat} (h : jMJ T L Rc Rp Rh w n er m) {t : Nat} (ht : t < T.2.2.2) (h30 : T.1 t = 30) {μ : Nat} {fn : Nat → Nat} {x : Int32} (hx : er.1 = 0 → x = nI μ ∧ (1 ≤ μ ∧ μ ≤ 6) ∧ (∀ p, p < μ → w.1 58 (w.2.2 41 9) (7 * Rh.2 + (1 + p)) = nI (fn p)) ∧ ∀ p, p < μ → fn p < L.1.1 1) (hk : Rh.2 < 6) :
    jMJ T (if er.1 = 0 then jaChord L t μ fn else L) Rc Rp (updn Rh.1 Rh.2 t, Rh.2 + 1) (wChord w Rh.2 (nI t) 0 x) n er m := by
  obtain ⟨h1, ⟨g1, g2, g3, g4⟩, h3, h4⟩ := h
  have hl := h1.le
  obtain ⟨r1, r2⟩ := jNM_more2 (w2 := wChord w Rh.2 (nI t) 0 x) g3 g4 (fun j hj => by unfold wChord; simp (disch := omega) only [jset_at, jset_bk, jset_bj, jsN_at, jsN_no, jsN_I, jsI_N, jsI_T, jsI_at, jsI_no1, jsI_no2, jsT_N, jsT_I]) (by unfold wChord; simp (disch := omega) only [jset_at, jset_bk, jset_bj, jsN_at, jsN_no, jsN_I, jsI_N, jsI_T, jsI_at, jsI_no1, jsI_no2, jsT_N, jsT_I]) ht h30
  have hc := h1.2.2.2.2.1
  have hp := h1.2.2.2.2.2.1
  have c53 : ∀ j, j ≠ 4 → (wChord w Rh.2 (nI t) 0 x).1 53 (w.2.2 41 9) j = w.1 53 (w.2.2 41 9) j := fun j hj => by unfold wChord; simp (disch := omega) only [jset_at, jset_bk, jset_bj, jsN_at, jsN_no, jsN_I, jsI_N, jsI_T, jsI_at, jsI_no1, jsI_no2, jsT_N, jsT_I]
  have ek : ∀ k, 41 ≤ k → k ≤ 48 → (wChord w Rh.2 (nI t) 0 x).1 k false = w.1 k false := fun k _ hk => by
    unfold wChord
    rw [jset_k (by omega), jset_k (by omega), jset_k (by omega)]
  refine ⟨h1.names rfl (ek 41 (by decide) (by decide)) (fun k k1 k2 => ek k (by omega) (by omega)) (c53 12 (by decide)) ⟨hc.1, (c53 0 (by decide)).trans hc.2.1, hc.2.2.1.kept (ek 47 (by decide) (by decide)), hc.2.2.2⟩ ⟨hp.1, (c53 1 (by decide)).trans hp.2.1, hp.2.2.1.kept (ek 48 (by decide) (by decide)), hp.2.2.2⟩ (fun z => ?_), ⟨hk, by show (wChord w Rh.2 (nI t) 0 x).1 53 (w.2.2 41 9) 4 = _; unfold wChord; simp (disch := omega) only [jset_at, jset_bk, jset_bj, jsN_at, jsN_no, jsN_I, jsI_N, jsI_T, jsI_at, jsI_no1, jsI_no2, jsT_N, jsT_I], r1, r2⟩, wk_set (i := 4) (k := Rh.2 + 1) h3 rfl c53 (by unfold wChord; simp (disch := omega) only [jset_at, jset_bk, jset_bj, jsN_at, jsN_no, jsN_I, jsI_N, jsI_T, jsI_at, jsI_no1, jsI_no2, jsT_N, jsT_I]) (Or.inr (Or.inr (Or.inr (Or.inr (Or.inl ⟨rfl, hk⟩))))), fun z => ?_⟩
  · obtain ⟨q1, q2, q3, q4, q5⟩ := h4 z
    obtain ⟨-, x2, -⟩ := hx z
    subst q3
    rw [if_pos z, (N_chord x2.2 hk).2.1, (N_chord x2.2 hk).2.2]
    exact h1.2.2.2.2.2.2 z
  · obtain ⟨q1, q2, q3, q4, q5⟩ := h4 z
    obtain ⟨rfl, x2, x3, x4⟩ := hx z
    subst q3
    rw [if_pos z, (N_chord x2.2 hk).1, (N_chord x2.2 hk).2.1, (N_chord x2.2 hk).2.2]
    exact ⟨q1, q2, rfl, jBq_chord q4 (by omega) q5 hk x2.2 x3 (nI t), jWF_chord q5 hk x2 x4⟩
theorem X_chord {T : JTk} {w w1 : JW} {f k : Nat} (h : jMX T w f w1) (hk : k < 6) (y x : Int32) : jMX T w f (wChord w1 k y 0 x) := X_wk h (w_LF (r := 0)).2.2.2.2.1 (by unfold wChord; simp (disch := omega) only [jset_at, jset_bk, jset_bj, jsN_at, jsN_no, jsN_I, jsI_N, jsI_T, jsI_at, jsI_no1, jsI_no2, jsT_N, jsT_I]) (wk_set (i := 4) (k := k + 1) h.2.2 rfl (fun j hj => by unfold wChord; simp (disch := omega) only [jset_at, jset_bk, jset_bj, jsN_at, jsN_no, jsN_I, jsI_N, jsI_T, jsI_at, jsI_no1, jsI_no2, jsT_N, jsT_I]) (by unfold wChord; simp (disch := omega) only [jset_at, jset_bk, jset_bj, jsN_at, jsN_no, jsN_I, jsI_N, jsI_T, jsI_at, jsI_no1, jsI_no2, jsT_N, jsT_I]) (Or.inr (Or.inr (Or.inr (Or.inr (Or.inl ⟨rfl, hk⟩))))))
theorem t_chord {C : JC} {d : Nat} (hm : jok C MX11_readChord d 0 0) {w : JW} {k : Nat} (k6 : k < 6) (e : w.1 53 (w.2.2 41 9) 4 = nI k) {y x : Int32} {P : JV → JW → Prop} (h : P jU (wChord w k y 0 x)) : jW C 0 0 (jQQ C 0 0 P) 127 [jR 41 false, jI y, jI x, jI (nI (7 * k)), jU] [] w := by
  refine bk_X11_readChord_127 hm (vp_in_nI (by omega) (by decide)) ?_ ?_
  · simp (disch := omega) only [jset_L, jset_bk, e]
    exact vp_in_nI (by omega) (by decide)
  · simp (disch := omega) only [jset_L, jset_bk, e, nI_1, nI_clamp]
    exact h
theorem r_readChord {T : JTk} {L : JLn} {Rc Rp Rh : JNm} {w : JW} {n : Nat} {er : JEr} {m : Nat} (h0 : jMJ T L Rc Rp Rh w n er m) (hk : T.1 n = 13) : jSV MX11_readChord 5 [jR 41 false] w (jMLP T w n (jlChord T L n er)) := by
  refine jSV_of jp_X11_readChord rfl (Nat.le_of_ble_eq_true rfl) (fun C hm => ?_)
  have hlt := h0.1.lt (by rw [hk]; decide) (by rw [hk]; decide)
  have ek : jpK T 13 n er = .inr (n + 1, er) := if_pos hk
  have h1 := h0.next hlt
  have F1 : jmLF w (jset w 41 false 13 (w.1 41 false 13 + 1)) := jMF_13.1.LF
  -- where it has failed
  have bad121 : ∀ (w1 : JW) (f k row : Nat) (y x kp : Int32), jMX T w f w1 → w1.1 53 (w1.2.2 41 9) 4 = nI k → ((k < 6 ∧ row = 7 * k) ∨ kp = 0) → jW C 0 0 (jQQ C 0 0 (fun v w' => v = jU ∧ jMLP T w n (.inl f) w')) 121 [jR 41 false, jI y, jI x, jI (nI row), jI kp] [] w1 := by
    intro w1 f k row y x kp hX e hkr
    refine bk_X11_readChord_121 hm (fun z => ?_) (fun _ => bk_X11_readChord_126 hm ⟨rfl, hX⟩)
    rcases hkr with ⟨k6, rfl⟩ | q
    · exact t_chord hm k6 e ⟨rfl, X_chord hX k6 _ _⟩
    · exact absurd q z
  have bad89 : ∀ (w1 : JW) (f k row : Nat) (y x kp : Int32), jMX T w f w1 → w1.1 53 (w1.2.2 41 9) 4 = nI k → ((k < 6 ∧ row = 7 * k) ∨ kp = 0) → jW C 0 0 (jQQ C 0 0 (fun v w' => v = jU ∧ jMLP T w n (.inl f) w')) 89 [jR 41 false, jI y, jI x, jI (nI row), jI kp] [] w1 := by
    intro w1 f k row y x kp hX e hkr
    exact bk_X11_readChord_89 hm (m_no hX.no) (by decide) (bk_X11_readChord_93 hm (fun _ => bad121 w1 f k row y x kp hX e hkr) (fun z => absurd rfl z))
  have bad79 : ∀ (w1 : JW) (f k row : Nat) (y x kp : Int32), jMX T w f w1 → w1.1 53 (w1.2.2 41 9) 4 = nI k → ((k < 6 ∧ row = 7 * k) ∨ kp = 0) → jW C 0 0 (jQQ C 0 0 (fun v w' => v = jU ∧ jMLP T w n (.inl f) w')) 79 [jR 41 false, jI y, jU, jI (nI row), jI kp] [jI x] w1 := by
    intro w1 f k row y x kp hX e hkr
    exact bk_X11_readChord_79 hm (m_readNote0 hX.no _ _ _) (by decide) (bk_X11_readChord_88 hm (bad89 w1 f k row y x kp hX e hkr))
  have row5 : ∀ k : Nat, k ≤ 6 → (7 * (if (5 : Int32) < nI k then 5 else nI k) : Int32) = nI (if k < 6 then 7 * k else 35) := by
    intro k k6
    by_cases z : k < 6
    · rw [if_pos z, if_neg (show ¬ (5 : Int32) < nI k from fun q => absurd ((nI_ltI (a := 5) (by omega) (by omega)).mp q) (by omega)), nI_7m]
    · rw [if_neg z, if_pos (show (5 : Int32) < nI k from (nI_ltI (a := 5) (by omega) (by omega)).mpr (by omega))]
      rfl
  have bad35 : ∀ (w1 : JW) (f : Nat) (y : Int32), jMX T w f w1 → jW C 0 0 (jQQ C 0 0 (fun v w' => v = jU ∧ jMLP T w n (.inl f) w')) 35 [jR 41 false, jI y, jU, jU, jU] [] w1 := by
    intro w1 f y hX
    obtain ⟨a0, a1, a2, a3, a4, a5, -, -, -, -, ⟨e4, l4⟩, -⟩ := hX.2.2
    refine bk_X11_readChord_35 hm (by decide) (fun q => bk_X11_readChord_68 hm ?_) (fun q => bk_X11_readChord_64 hm ?_)
    · rw [e4, row5 a4 l4]
      exact bk_X11_readChord_69 hm (m_readNote0 hX.no _ _ _) (by decide) (bad79 w1 f a4 _ y _ 0 hX e4 (Or.inr rfl))
    · rw [e4] at q
      have k6 : a4 < 6 := by
        have : ¬ 6 ≤ a4 := fun z => q ((nI_leI (a := 6) (by omega) (by omega)).mpr z)
        omega
      rw [e4, row5 a4 l4]
      exact bk_X11_readChord_69 hm (m_readNote0 hX.no _ _ _) (by decide) (bad79 w1 f a4 _ y _ 1 hX e4 (Or.inl ⟨k6, if_pos k6⟩))
  have bad27 : ∀ (w1 : JW) (f : Nat) (y : Int32), jMX T w f w1 → jW C 0 0 (jQQ C 0 0 (fun v w' => v = jU ∧ jMLP T w n (.inl f) w')) 27 [jR 41 false, jU, jU, jU, jU] [jI y] w1 := by
    intro w1 f y hX
    exact bk_X11_readChord_27 hm (m_take0 hX.no _ _) (by decide) (bad35 w1 f y hX)
  refine bq_X11_readChord_0 hm (s_fresh h1 (Or.inr (Or.inr ⟨rfl, rfl, rfl, rfl⟩)) h1.2.1.2.1 rfl) (by decide) (fun r2 w2 q => ?_)
  rcases q with ⟨er2, e1, rfl, h2, f2⟩ | ⟨e1, hX⟩
  rotate_left
  · simp only [jlChord, jpSq, ek, e1]
    exact bad27 _ _ _ (hX.pre F1)
  have F2 := F1.trans f2.LF
  refine bq_X11_readChord_27 hm (s_take h2 14 (by decide) (by decide) (by decide)) (by decide) (fun w3 q => ?_)
  rcases q with ⟨er3, e2, h3, f3⟩ | ⟨e2, hX⟩
  rotate_left
  · simp only [jlChord, jpSq, ek, e1, e2]
    exact bad35 _ _ _ (hX.pre F2)
  have F3 := F2.trans f3.LF
  have o1 := jpF_ok e1
  have hl := h3.1.le
  have e32 : er3 = er2 := jpK_er e2
  subst e32
  have hRh := h3.2.1
  have z6 : er3.1 = 0 → Rh.2 < 6 := fun z => by
    have a := (h3.2.2.2 z).2.2.1
    have b := (o1.2.2 z).2.2
    rw [← a] at b
    exact b
  have main : ∀ (kp : Int32) (row : Nat), ((kp = 1 ∧ Rh.2 < 6 ∧ row = 7 * Rh.2) ∨ (kp = 0 ∧ Rh.2 = 6 ∧ row = 35)) → jW C 0 0 (jQQ C 0 0 (fun v w' => v = jU ∧ jMLP T w n (jlChord T L n er) w')) 69 [jR 41 false, jI (nI (n + 1)), jI 0, jI (nI row), jU] [jI kp] w3 := by
    intro kp row hkp
    have hkr : (Rh.2 < 6 ∧ row = 7 * Rh.2) ∨ kp = 0 := by
      rcases hkp with ⟨-, a, b⟩ | ⟨a, -⟩
      · exact Or.inl ⟨a, b⟩
      · exact Or.inr a
    have c3 : jKC L Rh w3 er3 (0, fun _ => 0) 0 kp row := by
      refine ⟨by omega, hkp, fun z => ⟨?_, rfl, fun p hp => absurd hp (Nat.not_lt_zero p), fun p hp => absurd hp (Nat.not_lt_zero p)⟩⟩
      rcases hkp with ⟨a, -⟩ | ⟨-, a, -⟩
      · exact a
      · have := z6 z
        omega
    simp only [jlChord, jpSq, ek, e1, e2]
    refine bq_X11_readChord_69 hm (r_readNote h3 c3) (by decide) (fun r4 w4 q => ?_)
    rcases q with ⟨k4, μ4, rfl, h4, c4, f4, n4⟩ | ⟨k4, rfl, hX⟩
    rotate_left
    · rw [if_pos k4]
      exact bad79 _ _ Rh.2 row _ _ kp (hX.1.pre F3) (hX.2.trans hRh.2.1) hkr
    refine bq_X11_readChord_79 hm (r_readNote h4 c4) (by decide) (fun r5 w5 q => ?_)
    rcases q with ⟨k5, μ5, rfl, h5, c5, f5, n5⟩ | ⟨k5, rfl, hX⟩
    rotate_left
    · rw [if_neg (fun z => z k4), if_pos k5]
      exact bk_X11_readChord_88 hm (bad89 _ _ Rh.2 row _ _ kp (hX.1.pre (F3.trans f4)) (hX.2.trans h4.2.1.2.1) hkr)
    rw [if_neg (fun z => z k4), if_neg (fun z => z k5)]
    rw [show jcMore T (jNp L) 402 (n + 1 + 1 + 1) er3 (0, fun _ => 0) = jcMore T (jNp L) 400 (n + 1 + 1 + 1 + 1 + 1) (jcEr T (jNp L) (jcTo T (jNp L) (0, fun _ => 0) (n + 1 + 1 + 1) (jcEr T (jNp L) (0, fun _ => 0) (n + 1 + 1 + 1) er3)) (n + 1 + 1 + 1 + 1) (jcEr T (jNp L) (0, fun _ => 0) (n + 1 + 1 + 1) er3)) (jcTo T (jNp L) (jcTo T (jNp L) (0, fun _ => 0) (n + 1 + 1 + 1) (jcEr T (jNp L) (0, fun _ => 0) (n + 1 + 1 + 1) er3)) (n + 1 + 1 + 1 + 1) (jcEr T (jNp L) (jcTo T (jNp L) (0, fun _ => 0) (n + 1 + 1 + 1) (jcEr T (jNp L) (0, fun _ => 0) (n + 1 + 1 + 1) er3)) (n + 1 + 1 + 1 + 1) (jcEr T (jNp L) (0, fun _ => 0) (n + 1 + 1 + 1) er3))) by
      rw [jcMore, if_pos k4, jcMore, if_pos k5]]
    have out : ∀ (w7 : JW) (n7 : Nat) (er7 : JEr) (c7 : JCh) (μ7 : Nat), jMJ T L Rc Rp Rh w7 n7 er7 m → jKC L Rh w7 er7 c7 μ7 kp row → jmLF w w7 → n ≤ n7 → (er7.1 = 0 → er3.1 = 0 ∧ 1 ≤ c7.1) → jW C 0 0 (jQQ C 0 0 (fun v w' => v = jU ∧ jMLP T w n (.inr (n7, er7, if er7.1 = 0 then jaChord L (n + 1) c7.1 c7.2 else L)) w')) 121 [jR 41 false, jI (nI (n + 1)), jI (nI μ7), jI (nI row), jI kp] [] w7 := by
      intro w7 n7 er7 c7 μ7 h7 k7 F7 hnn p7
      obtain ⟨hμ, hkp2, g0⟩ := k7
      refine bk_X11_readChord_121 hm (fun z => ?_) (fun z => bk_X11_readChord_126 hm ⟨rfl, hnn, F7, Rc, Rp, Rh, m, ?_⟩)
      · rcases hkp with ⟨rfl, k6, rfl⟩ | ⟨q, -⟩
        · refine t_chord hm k6 h7.2.1.2.1 ⟨rfl, hnn, F7.trans (w_LF (r := 0)).2.2.2.2.1, Rc, Rp, (updn Rh.1 Rh.2 (n + 1), Rh.2 + 1), m, ?_⟩
          have hl7 := h7.1.le
          refine h7.chord (t := n + 1) (by omega) o1.1 (μ := c7.1) (fn := c7.2) (fun y => ?_) k6
          obtain ⟨-, a2, a3, a4⟩ := g0 y
          rw [← a2]
          exact ⟨rfl, ⟨by rw [a2]; exact (p7 y).2, hμ⟩, a3, a4⟩
        · exact absurd q z
      · have y : ¬ er7.1 = 0 := fun y => by
          have := (g0 y).1
          rw [z] at this
          exact absurd this (by decide)
        simp only [if_neg y]
        exact h7
    have key : ∀ (k c : Nat), c + k = 400 → ∀ (w7 : JW) (n7 : Nat) (er7 : JEr) (c7 : JCh) (μ7 : Nat), jMJ T L Rc Rp Rh w7 n7 er7 m → jKC L Rh w7 er7 c7 μ7 kp row → jmLF w w7 → n ≤ n7 → c + 1 ≤ n7 → (er7.1 = 0 → er3.1 = 0 ∧ 1 ≤ c7.1) → jW C 0 0 (jQQ C 0 0 (fun v w' => v = jU ∧ jMLP T w n (.inr ((jcMore T (jNp L) k n7 er7 c7).1, (jcMore T (jNp L) k n7 er7 c7).2.1, if (jcMore T (jNp L) k n7 er7 c7).2.1.1 = 0 then jaChord L (n + 1) (jcMore T (jNp L) k n7 er7 c7).2.2.1 (jcMore T (jNp L) k n7 er7 c7).2.2.2 else L)) w')) 89 [jR 41 false, jI (nI (n + 1)), jI (nI μ7), jI (nI row), jI kp] [] w7 := by
      intro k
      induction k with
      | zero =>
        intro c hc w7 n7 er7 c7 μ7 h7 k7 F7 hnn hn7 p7
        have := h7.1.le
        omega
      | succ k ih =>
        intro c hc w7 n7 er7 c7 μ7 h7 k7 F7 hnn hn7 p7
        obtain ⟨ea, va⟩ := h7.1.at
        refine bk_X11_readChord_89 hm (m_ok h7.1) (by decide) (bk_X11_readChord_93 hm (fun z => absurd z (by decide)) (fun _ => bk_X11_readChord_96 hm va (fun z => ?_) (fun z => ?_)))
        · rw [ea] at z
          rw [jcMore, if_neg (fun y => z ((jkv_name h7.1.tok).mpr y))]
          exact out w7 n7 er7 c7 μ7 h7 k7 F7 hnn p7
        · rw [ea] at z
          have k30 := (jkv_name h7.1.tok).mp z
          rw [jcMore, if_pos k30]
          refine bq_X11_readChord_109 hm (r_readNote h7 k7) (by decide) (fun r8 w8 q => ?_)
          rcases q with ⟨k8, μ8, rfl, h8, c8, f8, n8⟩ | ⟨k8, -⟩
          · refine bk_X11_readChord_117 hm (ih (c + 1) (by omega) w8 _ _ _ μ8 h8 c8 (F7.trans f8) (by omega) (by omega) (fun z8 => ⟨(p7 (jcEr_0 z8).1).1, jcTo_1 z8⟩))
          · exact absurd k30 k8
    exact bk_X11_readChord_88 hm (key 400 0 rfl w5 _ _ _ μ5 h5 c5 ((F3.trans f4).trans f5) (by omega) (by omega) (fun z5 => ⟨(jcEr_0 (jcEr_0 z5).1).1, jcTo_1 z5⟩))
  have el : w3.1 53 (w3.2.2 41 9) 4 = nI Rh.2 := hRh.2.1
  refine bk_X11_readChord_35 hm (by decide) (fun q => bk_X11_readChord_68 hm ?_) (fun q => bk_X11_readChord_64 hm ?_)
  · rw [el] at q
    have k6 : Rh.2 = 6 := by
      have := (nI_leI (a := 6) (by omega) (by omega)).mp q
      omega
    rw [el, row5 _ hRh.1]
    exact main 0 _ (Or.inr ⟨rfl, k6, if_neg (by omega)⟩)
  · rw [el] at q
    have k6 : Rh.2 < 6 := by
      have : ¬ 6 ≤ Rh.2 := fun z => q ((nI_leI (a := 6) (by omega) (by omega)).mpr z)
      omega
    rw [el, row5 _ hRh.1]
    exact main 1 _ (Or.inl ⟨rfl, k6, if_pos k6⟩)
