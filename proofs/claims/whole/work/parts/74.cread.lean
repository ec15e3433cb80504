/-! the class reads orders; lines; the whole list -/
theorem jLI.ef {T : JTk} {L : JLn} {w w2 : JW} {n n2 : Nat} {er er2 : JEr} {s s2 : Nat} (h : jLI T L w n er s) (hf : jEF w w2) (hc : jCI T (jNc L) (jNp L) w2 n2 er2) (hs2 : jSt w2 s2) (hle : s ≤ s2) (hsn : s2 ≤ n2) (hk : jKp w w2 s) : jLI T L w2 n2 er2 s2 := by
  obtain ⟨h1, ⟨h2, h3⟩, h4, h5, ⟨h6, h7⟩, h8⟩ := h
  have eo : w2.2.2 7 4 = w.2.2 7 4 := by rw [hf.1]
  have same : ∀ k, 20 ≤ k → k ≠ 34 → k ≠ 39 → k ≠ 40 → w2.1 k (w.2.2 7 4) = w.1 k (w.2.2 7 4) := fun k a b c d => hf.2.1 k _ (by omega) (fun q => by omega)
  refine ⟨hc, ⟨h2.kept (hf.2.1 10 false (by decide) (by simp)), h3⟩, ?_, h5, ⟨hs2, hsn⟩, fun j hj => ?_⟩
  · rw [eo]
    obtain ⟨⟨a0, a1, a2, a3, a4, a5⟩, b, c, e, f, g, i⟩ := h4
    have h400 := h1.le
    refine ⟨⟨?_, ?_, ?_, ?_, ?_, ?_⟩, fun j hj => ?_, fun j hj => ?_, fun c2 hc2 => ?_, fun j hj => ?_, fun j hj => ?_, fun j hj => ?_⟩
    · rw [same 20 (by decide) (by decide) (by decide) (by decide)]; exact a0
    · rw [same 20 (by decide) (by decide) (by decide) (by decide)]; exact a1
    · rw [same 20 (by decide) (by decide) (by decide) (by decide)]; exact a2
    · rw [same 28 (by decide) (by decide) (by decide) (by decide)]; exact a3
    · rw [same 28 (by decide) (by decide) (by decide) (by decide)]; exact a4
    · rw [hf.2.2]; exact a5
    · rw [same 21 (by decide) (by decide) (by decide) (by decide), same 22 (by decide) (by decide) (by decide) (by decide)]; exact b j hj
    · rw [same 23 (by decide) (by decide) (by decide) (by decide), same 24 (by decide) (by decide) (by decide) (by decide), same 25 (by decide) (by decide) (by decide) (by decide)]; exact c j hj
    · rw [same 26 (by decide) (by decide) (by decide) (by decide), same 27 (by decide) (by decide) (by decide) (by decide)]; exact e c2 hc2
    · rw [same 29 (by decide) (by decide) (by decide) (by decide), same 30 (by decide) (by decide) (by decide) (by decide), same 31 (by decide) (by decide) (by decide) (by decide)]; exact f j hj
    · rw [same 32 (by decide) (by decide) (by decide) (by decide), same 33 (by decide) (by decide) (by decide) (by decide)]; exact g j hj
    · rw [same 35 (by decide) (by decide) (by decide) (by decide), same 36 (by decide) (by decide) (by decide) (by decide), same 37 (by decide) (by decide) (by decide) (by decide), same 38 (by decide) (by decide) (by decide) (by decide)]
      obtain ⟨i1, i2, a, e9, i3, i4, i5, i6, i7⟩ := i j hj
      obtain ⟨e8, q1, q2⟩ := h8 j hj
      have e89 : e9 = e8 := (nI_eq (by omega) (by omega)).mp (i4.symm.trans q2)
      subst e89
      refine ⟨i1, i2, a, e9, i3, i4, i5, i6, ?_⟩
      rcases i7 with q | ⟨q3, q4⟩
      · exact Or.inl q
      · refine Or.inr ⟨q3, fun R => ?_⟩
        obtain ⟨v, S, q5, q6⟩ := q4 R
        exact ⟨v, S, (jrunS_cong _ _ _ (fun j2 k1 k2 => hk j2 (by omega))).trans q5, q6⟩
  · obtain ⟨e, q1, q2⟩ := h8 j hj
    refine ⟨e, by omega, ?_⟩
    rw [eo, same 38 (by decide) (by decide) (by decide) (by decide)]
    exact q2
theorem jLI.ord {T : JTk} {L : JLn} {w : JW} {n : Nat} {er : JEr} {s2 : Nat} (h : jLI T L w n er s2) (h16 : L.1.1 5 < 16) {x : Int32} {t a : Nat} {f : (Nat → Int32) → Bool} (h35 : w.1 35 (w.2.2 7 4) (L.1.1 5) = x) (h36 : w.1 36 (w.2.2 7 4) (L.1.1 5) = nI t) (h37 : w.1 37 (w.2.2 7 4) (L.1.1 5) = nI a) (hae : a ≤ s2) (hx : (x = 15 ∧ t < L.1.1 0) ∨ (x = 16 ∧ t < L.1.1 1))
    (hr : (a = s2 ∧ ∀ R, f R = true) ∨ (a ≠ s2 ∧ ∀ R, ∃ v S, jrunS (w.1 39 (w.2.2 7 4)) (w.1 40 (w.2.2 7 4)) (jrd R) (s2 - a) a [] = some (v :: S) ∧ f R = decide (v ≠ 0))) :
    jLI T (jaOrd L x t f) (jset (jset w 38 (w.2.2 7 4) (L.1.1 5) (w.1 34 (w.2.2 7 4) 7)) 34 (w.2.2 7 4) 6 (nI (L.1.1 5 + 1))) n er s2 := by
  have h34 : w.1 34 (w.2.2 7 4) 7 = nI s2 := h.2.2.2.2.1.1
  have h400 := h.1.le
  have hsn := h.2.2.2.2.1.2
  rw [h34]
  have e0 : (jaOrd L x t f).1.1 0 = L.1.1 0 := by unfold jaOrd; simp (disch := omega) only [jset_at, jset_bk, jset_bj, jsN_at, jsN_no, jsN_I, jsI_N, jsI_T, jsI_at, jsI_no1, jsI_no2, jsT_N, jsT_I]
  have e1 : (jaOrd L x t f).1.1 1 = L.1.1 1 := by unfold jaOrd; simp (disch := omega) only [jset_at, jset_bk, jset_bj, jsN_at, jsN_no, jsN_I, jsI_N, jsI_T, jsI_at, jsI_no1, jsI_no2, jsT_N, jsT_I]
  have e2 : (jaOrd L x t f).1.1 2 = L.1.1 2 := by unfold jaOrd; simp (disch := omega) only [jset_at, jset_bk, jset_bj, jsN_at, jsN_no, jsN_I, jsI_N, jsI_T, jsI_at, jsI_no1, jsI_no2, jsT_N, jsT_I]
  have e5 : (jaOrd L x t f).1.1 5 = L.1.1 5 + 1 := jsN_at
  refine h.same rfl (fun k hk => by rw [jset_k (by omega), jset_k (by omega)]) (by simp (disch := omega) only [jset_at, jset_bk, jset_bj, jsN_at, jsN_no, jsN_I, jsI_N, jsI_T, jsI_at, jsI_no1, jsI_no2, jsT_N, jsT_I]) (by simp (disch := omega) only [jset_at, jset_bk, jset_bj, jsN_at, jsN_no, jsN_I, jsI_N, jsI_T, jsI_at, jsI_no1, jsI_no2, jsT_N, jsT_I]) rfl e0 e1 e2 (jOrg_ord h.2.2.1 h.2.2.2.1 h16 h35 h36 h37 hae (by omega) hr) (jWF_ord h.2.2.2.1 h16 hx) (by simp (disch := omega) only [jset_at, jset_bk, jset_bj, jsN_at, jsN_no, jsN_I, jsI_N, jsI_T, jsI_at, jsI_no1, jsI_no2, jsT_N, jsT_I]; exact h34) hsn (fun j hj => ?_)
  rw [e5] at hj
  by_cases z : j = L.1.1 5
  · subst z
    exact ⟨s2, Nat.le_refl _, by simp (disch := omega) only [jset_at, jset_bk, jset_bj, jsN_at, jsN_no, jsN_I, jsI_N, jsI_T, jsI_at, jsI_no1, jsI_no2, jsT_N, jsT_I]⟩
  · obtain ⟨e, q1, q2⟩ := h.2.2.2.2.2 j (by omega)
    exact ⟨e, q1, by simp (disch := omega) only [jset_at, jset_bk, jset_bj, jsN_at, jsN_no, jsN_I, jsI_N, jsI_T, jsI_at, jsI_no1, jsI_no2, jsT_N, jsT_I]; exact q2⟩
/-- an order is begun: nothing is told anew yet -/
theorem jLI.beg {T : JTk} {L : JLn} {w : JW} {n : Nat} {er : JEr} {s : Nat} (h : jLI T L w n er s) (x y z : Int32) : jLI T L (jset (jset (jset w 35 (w.2.2 7 4) (L.1.1 5) x) 36 (w.2.2 7 4) (L.1.1 5) y) 37 (w.2.2 7 4) (L.1.1 5) z) n er s ∧ jLF w (jset (jset (jset w 35 (w.2.2 7 4) (L.1.1 5) x) 36 (w.2.2 7 4) (L.1.1 5) y) 37 (w.2.2 7 4) (L.1.1 5) z) := by
  refine ⟨?_, (jLF_set (by decide)).trans ((jLF_set (w := jset w 35 _ _ _) (by decide)).trans (jLF_set (w := jset (jset w 35 _ _ _) 36 _ _ _) (by decide)))⟩
  refine h.same rfl (fun k hk => by rw [jset_k (by omega), jset_k (by omega), jset_k (by omega)]) (by simp (disch := omega) only [jset_at, jset_bk, jset_bj, jsN_at, jsN_no, jsN_I, jsI_N, jsI_T, jsI_at, jsI_no1, jsI_no2, jsT_N, jsT_I]) (by simp (disch := omega) only [jset_at, jset_bk, jset_bj, jsN_at, jsN_no, jsN_I, jsI_N, jsI_T, jsI_at, jsI_no1, jsI_no2, jsT_N, jsT_I]) rfl rfl rfl rfl ?_ h.2.2.2.1 (by simp (disch := omega) only [jset_at, jset_bk, jset_bj, jsN_at, jsN_no, jsN_I, jsI_N, jsI_T, jsI_at, jsI_no1, jsI_no2, jsT_N, jsT_I]; exact h.2.2.2.2.1.1) h.2.2.2.2.1.2 (fun j hj => ?_)
  · obtain ⟨⟨a0, a1, a2, a3, a4, a5⟩, b, c1, e, f, g, i⟩ := h.2.2.1
    refine ⟨⟨by simp (disch := omega) only [jset_at, jset_bk, jset_bj, jsN_at, jsN_no, jsN_I, jsI_N, jsI_T, jsI_at, jsI_no1, jsI_no2, jsT_N, jsT_I]; exact a0, by simp (disch := omega) only [jset_at, jset_bk, jset_bj, jsN_at, jsN_no, jsN_I, jsI_N, jsI_T, jsI_at, jsI_no1, jsI_no2, jsT_N, jsT_I]; exact a1, by simp (disch := omega) only [jset_at, jset_bk, jset_bj, jsN_at, jsN_no, jsN_I, jsI_N, jsI_T, jsI_at, jsI_no1, jsI_no2, jsT_N, jsT_I]; exact a2, by simp (disch := omega) only [jset_at, jset_bk, jset_bj, jsN_at, jsN_no, jsN_I, jsI_N, jsI_T, jsI_at, jsI_no1, jsI_no2, jsT_N, jsT_I]; exact a3, by simp (disch := omega) only [jset_at, jset_bk, jset_bj, jsN_at, jsN_no, jsN_I, jsI_N, jsI_T, jsI_at, jsI_no1, jsI_no2, jsT_N, jsT_I]; exact a4, by simp (disch := omega) only [jset_at, jset_bk, jset_bj, jsN_at, jsN_no, jsN_I, jsI_N, jsI_T, jsI_at, jsI_no1, jsI_no2, jsT_N, jsT_I]; exact a5⟩, fun j hj => by simp (disch := omega) only [jset_at, jset_bk, jset_bj, jsN_at, jsN_no, jsN_I, jsI_N, jsI_T, jsI_at, jsI_no1, jsI_no2, jsT_N, jsT_I]; exact b j hj, fun j hj => by simp (disch := omega) only [jset_at, jset_bk, jset_bj, jsN_at, jsN_no, jsN_I, jsI_N, jsI_T, jsI_at, jsI_no1, jsI_no2, jsT_N, jsT_I]; exact c1 j hj, fun c2 hc2 => ⟨by simp (disch := omega) only [jset_at, jset_bk, jset_bj, jsN_at, jsN_no, jsN_I, jsI_N, jsI_T, jsI_at, jsI_no1, jsI_no2, jsT_N, jsT_I]; exact (e c2 hc2).1, fun p hp => by simp (disch := omega) only [jset_at, jset_bk, jset_bj, jsN_at, jsN_no, jsN_I, jsI_N, jsI_T, jsI_at, jsI_no1, jsI_no2, jsT_N, jsT_I]; exact (e c2 hc2).2 p hp⟩, fun j hj => by simp (disch := omega) only [jset_at, jset_bk, jset_bj, jsN_at, jsN_no, jsN_I, jsI_N, jsI_T, jsI_at, jsI_no1, jsI_no2, jsT_N, jsT_I]; exact f j hj, fun j hj => by simp (disch := omega) only [jset_at, jset_bk, jset_bj, jsN_at, jsN_no, jsN_I, jsI_N, jsI_T, jsI_at, jsI_no1, jsI_no2, jsT_N, jsT_I]; exact g j hj, fun j hj => ?_⟩
    have e39 : (jset (jset (jset w 35 (w.2.2 7 4) (L.1.1 5) x) 36 (w.2.2 7 4) (L.1.1 5) y) 37 (w.2.2 7 4) (L.1.1 5) z).1 39 (w.2.2 7 4) = w.1 39 (w.2.2 7 4) := by rw [jset_k (by decide), jset_k (by decide), jset_k (by decide)]
    have e40 : (jset (jset (jset w 35 (w.2.2 7 4) (L.1.1 5) x) 36 (w.2.2 7 4) (L.1.1 5) y) 37 (w.2.2 7 4) (L.1.1 5) z).1 40 (w.2.2 7 4) = w.1 40 (w.2.2 7 4) := by rw [jset_k (by decide), jset_k (by decide), jset_k (by decide)]
    rw [e39, e40]
    simp (disch := omega) only [jset_at, jset_bk, jset_bj, jsN_at, jsN_no, jsN_I, jsI_N, jsI_T, jsI_at, jsI_no1, jsI_no2, jsT_N, jsT_I]; exact i j hj
  · obtain ⟨e2, q1, q2⟩ := h.2.2.2.2.2 j hj
    exact ⟨e2, q1, by simp (disch := omega) only [jset_at, jset_bk, jset_bj, jsN_at, jsN_no, jsN_I, jsI_N, jsI_T, jsI_at, jsI_no1, jsI_no2, jsT_N, jsT_I]; exact q2⟩
theorem l_orderTest {T : JTk} {L : JLn} {w : JW} {n : Nat} {er : JEr} {s : Nat} (h0 : jLI T L w n er s) {x y : Int32} {t : Nat} (h16 : er.1 = 0 → L.1.1 5 < 16) (hy : er.1 = 0 → y = nI t) (hx : er.1 = 0 → (x = 15 ∧ t < L.1.1 0) ∨ (x = 16 ∧ t < L.1.1 1)) : jSI MX5_orderTest 46 [jR 7 false, jI x, jI y] w (jLP T w (jlOrd T L x t n er)) := by
  refine jSI_of jp_X5_orderTest rfl (Nat.le_of_ble_eq_true rfl) (fun C hm => ?_)
  have main : ∀ w1, jLI T L w1 n er s → jLF w w1 → (er.1 = 0 → w1.1 35 (w1.2.2 7 4) (L.1.1 5) = x ∧ w1.1 36 (w1.2.2 7 4) (L.1.1 5) = nI t ∧ w1.1 37 (w1.2.2 7 4) (L.1.1 5) = nI s) → jW C 0 0 (jQQ C 0 0 (fun v w' => ∃ r, v = jI r ∧ jLP T w (jlOrd T L x t n er) r w')) 19 [jR 7 false, jU, jU] [] w1 := by
    intro w1 h1 F1 c1
    refine bq_X5_orderTest_19 hm (c_wtest w1 n er s h1.1 h1.2.2.2.2.1.1 h1.2.2.2.2.1.2) (by decide) (fun r w2 q1 => ?_)
    unfold jlOrd
    revert q1
    show jEP T _ _ w1 n er s (jxTest T L n er) r w2 → _
    cases hr : jxTest T L n er with
    | inl f =>
      rintro ⟨rfl, e5, hf⟩
      exact bk_X5_orderTest_24 hm (fun z => absurd rfl z) (fun _ => bk_X5_orderTest_27 hm ⟨0, rfl, rfl, e5, F1.trans hf.LF⟩)
    | inr q =>
      rintro ⟨rfl, g1, g2, g3, s2, g4, g5, g6, g7, g8⟩
      have hsn := h1.2.2.2.2.1.2
      have h2 : jLI T L w2 q.1 q.2.1 s2 := h1.ef g2 g1 g4 g5 (by omega) g7
      have F2 := F1.trans g2.LF
      refine bk_X5_orderTest_24 hm (fun _ => bk_X5_orderTest_29 hm (fun z => bk_X5_orderTest_46 hm ⟨1, rfl, ?_⟩) (fun z => ?_)) (fun z => absurd z (by decide))
      · simp only [if_neg (fun q => z (h2.fault.mpr q))]
        exact ⟨rfl, F2, s2, h2⟩
      · have z2 := h2.fault.mp z
        obtain ⟨z0, cd⟩ := g8 z2
        obtain ⟨k1, k2, k3⟩ := c1 z0
        have eo : w2.2.2 7 4 = w1.2.2 7 4 := by rw [g2.1]
        refine bk_X5_orderTest_36 hm (c_endOrder w2 _ h2.ord6 (h16 z0)) (by decide) (bk_X5_orderTest_46 hm ⟨1, rfl, ?_⟩)
        simp only [if_pos z2]
        refine ⟨rfl, F2.trans ((jLF_set (by decide)).trans (jLF_set (w := jset w2 38 _ _ _) (by decide))), s2, h2.ord (h16 z0) (a := s) ?_ ?_ ?_ g5 (hx z0) (Or.inr ⟨fun e => ?_, fun R => ⟨q.2.2 R, [], cd R [], ?_⟩⟩)⟩
        · rw [eo, g2.2.1 35 _ (by decide) (by simp)]; exact k1
        · rw [eo, g2.2.1 36 _ (by decide) (by simp)]; exact k2
        · rw [eo, g2.2.1 37 _ (by decide) (by simp)]; exact k3
        · have c := cd (fun _ => 0) []
          rw [e, Nat.sub_self] at c
          cases c
        · rfl
  refine bk_X5_orderTest_0 hm (fun z => ?_) (fun z => ?_)
  · exact main w h0 (jLF.refl w) (fun q => absurd (h0.fault.mpr q) z)
  · have z0 := h0.fault.mp z
    obtain ⟨b1, b2⟩ := h0.beg x y (w.1 34 (w.2.2 7 4) 7)
    refine bk_X5_orderTest_7 hm (c_beginOrder w _ h0.ord6 (h16 z0) _ _) (by decide) (main _ b1 b2 (fun _ => ⟨?_, ?_, ?_⟩))
    · show (jset _ 37 (w.2.2 7 4) _ _).1 35 (w.2.2 7 4) _ = _
      simp (disch := omega) only [jset_at, jset_bk, jset_bj, jsN_at, jsN_no, jsN_I, jsI_N, jsI_T, jsI_at, jsI_no1, jsI_no2, jsT_N, jsT_I]
    · show (jset _ 37 (w.2.2 7 4) _ _).1 36 (w.2.2 7 4) _ = _
      simp (disch := omega) only [jset_at, jset_bk, jset_bj, jsN_at, jsN_no, jsN_I, jsI_N, jsI_T, jsI_at, jsI_no1, jsI_no2, jsT_N, jsT_I]
      exact hy z0
    · show (jset _ 37 (w.2.2 7 4) _ _).1 37 (w.2.2 7 4) _ = _
      simp (disch := omega) only [jset_at, jset_bk, jset_bj, jsN_at, jsN_no, jsN_I, jsI_N, jsI_T, jsI_at, jsI_no1, jsI_no2, jsT_N, jsT_I]
      exact h0.2.2.2.2.1.1
theorem l_blameOrd {T : JTk} {L : JLn} {w : JW} {n : Nat} {er : JEr} {s : Nat} (h : jLI T L w n er s) : jSV MX5_blameOrderTooMany 1 [jR 7 false] w (fun w2 => jLI T L w2 n (if L.1.1 5 < 16 then er else jbl er 4 n) s ∧ jNF w w2) := by
  refine jSV_of jp_X5_blameOrderTooMany rfl (Nat.le_of_ble_eq_true rfl) (fun C hm => ?_)
  have hW := h.2.2.2.1.1
  refine bk_X5_blameOrderTooMany_0 hm (fun q => bk_X5_blameOrderTooMany_20 hm ⟨rfl, ?_⟩) (fun q => bq_X5_blameOrderTooMany_15 hm (l_blame h (c := 4) (by decide)) (by decide) (fun w2 hp => bk_X5_blameOrderTooMany_20 hm ⟨rfl, ?_⟩))
  · rw [h.ord6] at q
    rw [if_pos ((nI_ltI (b := 16) (by omega) (by omega)).mp q)]
    exact ⟨h, jNF.refl w⟩
  · rw [h.ord6] at q
    rw [if_neg (fun z => q ((nI_ltI (b := 16) (by omega) (by omega)).mpr z))]
    exact hp
theorem jord16 {L : JLn} {er : JEr} {n : Nat} (h : (if L.1.1 5 < 16 then er else jbl er 4 n).1 = 0) : L.1.1 5 < 16 := by
  by_cases z : L.1.1 5 < 16
  · exact z
  · rw [if_neg z] at h
    exact absurd h (jbl_n0 (by decide))
theorem jnum_ok {T : JTk} {N : JNm} {t : Nat} (h12 : N.2 ≤ 12) (h : ¬ jnum T N t < 0) : jnum T N t = nI (jfi T N t) ∧ jfi T N t < N.2 := by
  have k : jfi T N t < N.2 := Classical.not_not.mp (fun q => h ((jnum_neg h12).1.mpr q))
  exact ⟨by rw [jnum_fi, if_pos k], k⟩
theorem jLP_01 {T : JTk} {w w2 : JW} {res : JLR} {r : Int32} (h : jLP T w res r w2) : r = 0 ∨ r = 1 := by
  cases res with
  | inl f => exact Or.inl h.1
  | inr q => exact Or.inr h.1
theorem jLP.pre {T : JTk} {w w1 w2 : JW} {res : JLR} {r : Int32} (hf : jLF w w1) (h : jLP T w1 res r w2) : jLP T w res r w2 := by
  cases res with
  | inl f => exact ⟨h.1, h.2.1, hf.trans h.2.2⟩
  | inr q => exact ⟨h.1, hf.trans h.2.1, h.2.2⟩
theorem l_shutLine {T : JTk} {L : JLn} {w : JW} {n : Nat} {er : JEr} {s : Nat} (hh : jLI T L w n er s) : jSI MX5_shutLine 47 [jR 7 false] w (jLP T w (jlShut T L n er)) := by
  refine jSI_of jp_X5_shutLine rfl (Nat.le_of_ble_eq_true rfl) (fun C hm => ?_)
  refine bq_X5_shutLine_0 hm (l_blameOrd hh) (by decide) (fun w0 hp => ?_)
  obtain ⟨h0, f0⟩ := hp
  have F0 := f0.LF
  have h16 : (if L.1.1 5 < 16 then er else jbl er 4 n).1 = 0 → L.1.1 5 < 16 := jord16
  unfold jlShut
  revert h0 h16
  generalize (if L.1.1 5 < 16 then er else jbl er 4 n) = er0
  intro h0 h16
  rw [hh.1.1.1]
  refine bq_X5_shutLine_9 hm (l_take h0 15 (by decide) (by decide)) (by decide) (fun r w1 q => ?_)
  rcases q with ⟨er1, e0, rfl, h1, f1⟩ | ⟨e0, rfl, rfl⟩
  rotate_left
  · refine bk_X5_shutLine_15 hm (fun _ => bk_X5_shutLine_45 hm ⟨0, rfl, ?_⟩) (fun z => absurd rfl z)
    simp only [jpSq, e0]
    exact ⟨rfl, h0.1.1.1, F0⟩
  refine bk_X5_shutLine_15 hm (fun z => absurd z (by decide)) (fun _ => ?_)
  have F1 := F0.trans f1.LF
  refine bq_X5_shutLine_18 hm (l_known h1 (h1.cN (Or.inl ⟨rfl, rfl, rfl⟩)).1 h1.org9) (by decide) (fun r w2 q => ?_)
  rcases q with ⟨er2, e1, rfl, h2, f2⟩ | ⟨e1, rfl, rfl⟩
  rotate_left
  · refine bk_X5_shutLine_33 hm (fun _ => bk_X5_shutLine_45 hm ⟨0, rfl, ?_⟩) (fun z => absurd rfl z)
    simp only [jpSq, e0, e1]
    exact ⟨rfl, h1.1.1.1, F1⟩
  refine bk_X5_shutLine_33 hm (fun z => absurd z (by decide)) (fun _ => ?_)
  have F2 := F1.trans f2.LF
  refine bq_X5_shutLine_36 hm (l_take h2 17 (by decide) (by decide)) (by decide) (fun r w3 q => ?_)
  rcases q with ⟨er3, e2, rfl, h3, f3⟩ | ⟨e2, rfl, rfl⟩
  rotate_left
  · refine bk_X5_shutLine_42 hm (fun z => absurd rfl z) (fun _ => bk_X5_shutLine_45 hm ⟨0, rfl, ?_⟩)
    simp only [jpSq, e0, e1, e2]
    exact ⟨rfl, h2.1.1.1, F2⟩
  refine bk_X5_shutLine_42 hm (fun _ => ?_) (fun z => absurd z (by decide))
  have F3 := F2.trans f3.LF
  have o1 := jpO_ok e1
  have hl := h3.lt
  have hcN := (h3.cN (Or.inl ⟨rfl, rfl, rfl⟩)).1
  have zz : er3.1 = 0 → er0.1 = 0 ∧ ¬ jnum T (jNc L) (n + 1) < 0 := by
    intro z
    have z2 : er2.1 = 0 := by rw [← jpK_er e2]; exact z
    obtain ⟨z1, k⟩ := o1.2.2 z2
    exact ⟨by rw [← jpK_er e0]; exact z1, k⟩
  refine bk_X5_shutLine_47 hm (by rw [h3.org9, nI_1]; exact c_num (k := 8) h3.1 hcN (t := n + 1) (by omega) o1.1) (by decide) ?_
  refine bq_X5_shutLine_65 hm (l_orderTest h3 (t := jfi T (jNc L) (n + 1)) (fun z => h16 (zz z).1) (fun z => (jnum_ok hcN.2.2.2.1 (zz z).2).1) (fun z => Or.inl ⟨rfl, (jnum_ok hcN.2.2.2.1 (zz z).2).2⟩)) (by decide) (fun r w4 q => bk_X5_shutLine_73 hm (i32_01 r (jLP_01 q)) ⟨r, rfl, ?_⟩)
  simp only [jpSq, e0, e1, e2]
  exact jLP.pre F3 q
theorem l_cleanLine {T : JTk} {L : JLn} {w : JW} {n : Nat} {er : JEr} {s : Nat} (hh : jLI T L w n er s) : jSI MX5_cleanLine 47 [jR 7 false] w (jLP T w (jlClean T L n er)) := by
  refine jSI_of jp_X5_cleanLine rfl (Nat.le_of_ble_eq_true rfl) (fun C hm => ?_)
  refine bq_X5_cleanLine_0 hm (l_blameOrd hh) (by decide) (fun w0 hp => ?_)
  obtain ⟨h0, f0⟩ := hp
  have F0 := f0.LF
  have h16 : (if L.1.1 5 < 16 then er else jbl er 4 n).1 = 0 → L.1.1 5 < 16 := jord16
  unfold jlClean
  revert h0 h16
  generalize (if L.1.1 5 < 16 then er else jbl er 4 n) = er0
  intro h0 h16
  rw [hh.1.1.1]
  refine bq_X5_cleanLine_9 hm (l_take h0 16 (by decide) (by decide)) (by decide) (fun r w1 q => ?_)
  rcases q with ⟨er1, e0, rfl, h1, f1⟩ | ⟨e0, rfl, rfl⟩
  rotate_left
  · refine bk_X5_cleanLine_15 hm (fun _ => bk_X5_cleanLine_36 hm ⟨0, rfl, ?_⟩) (fun z => absurd rfl z)
    simp only [jpSq, e0]
    exact ⟨rfl, h0.1.1.1, F0⟩
  refine bk_X5_cleanLine_15 hm (fun z => absurd z (by decide)) (fun _ => ?_)
  have F1 := F0.trans f1.LF
  refine bq_X5_cleanLine_18 hm (l_known h1 (h1.cN (Or.inr (Or.inl ⟨rfl, rfl, rfl⟩))).1 h1.org10) (by decide) (fun r w2 q => ?_)
  rcases q with ⟨er2, e1, rfl, h2, f2⟩ | ⟨e1, rfl, rfl⟩
  rotate_left
  · refine bk_X5_cleanLine_33 hm (fun z => absurd rfl z) (fun _ => bk_X5_cleanLine_36 hm ⟨0, rfl, ?_⟩)
    simp only [jpSq, e0, e1]
    exact ⟨rfl, h1.1.1.1, F1⟩
  refine bk_X5_cleanLine_33 hm (fun _ => ?_) (fun z => absurd z (by decide))
  have F2 := F1.trans f2.LF
  have o1 := jpO_ok e1
  have hl := h2.lt
  have hcN := (h2.cN (Or.inr (Or.inl ⟨rfl, rfl, rfl⟩))).1
  have zz : er2.1 = 0 → er0.1 = 0 ∧ ¬ jnum T (jNp L) (n + 1) < 0 := by
    intro z
    obtain ⟨z1, k⟩ := o1.2.2 z
    exact ⟨by rw [← jpK_er e0]; exact z1, k⟩
  refine bk_X5_cleanLine_38 hm (by rw [h2.org10, nI_1]; exact c_num (k := 9) h2.1 hcN (t := n + 1) (by omega) o1.1) (by decide) ?_
  refine bq_X5_cleanLine_56 hm (l_take h2 17 (by decide) (by decide)) (by decide) (fun r w3 q => ?_)
  simp only [jpSq, e0, e1]
  rcases q with ⟨er3, e2, rfl, h3, f3⟩ | ⟨e2, rfl, rfl⟩
  · have e32 : er3 = er2 := jpK_er e2
    subst e32
    rw [if_pos (jpK_ok e2).1]
    have F3 := F2.trans f3.LF
    refine bk_X5_cleanLine_63 hm (fun z => absurd z (by decide)) (fun _ => ?_)
    exact bq_X5_cleanLine_66 hm (l_orderTest h3 (t := jfi T (jNp L) (n + 1)) (fun z => h16 (zz z).1) (fun z => (jnum_ok hcN.2.2.2.1 (zz z).2).1) (fun z => Or.inr ⟨rfl, (jnum_ok hcN.2.2.2.1 (zz z).2).2⟩)) (by decide) (fun r w4 q => bk_X5_cleanLine_73 hm (i32_01 r (jLP_01 q)) ⟨r, rfl, jLP.pre F3 q⟩)
  · have k17 : ¬ T.1 (n + 1 + 1) = 17 := fun z => by
      unfold jpK at e2
      rw [if_pos z] at e2
      cases e2
    rw [if_neg k17]
    refine bk_X5_cleanLine_63 hm (fun _ => bk_X5_cleanLine_74 hm (fun z => bk_X5_cleanLine_104 hm ⟨1, rfl, ?_⟩) (fun z => ?_)) (fun z => absurd rfl z)
    · rw [if_neg (fun q => z (h2.fault.mpr q))]
      exact ⟨rfl, F2, s, h2⟩
    · have z2 := h2.fault.mp z
      obtain ⟨z0, k⟩ := zz z2
      obtain ⟨j1, j2⟩ := jnum_ok hcN.2.2.2.1 k
      rw [if_pos z2, j1]
      obtain ⟨b1, b2⟩ := h2.beg 16 (nI (jfi T (jNp L) (n + 1))) (w3.1 34 (w3.2.2 7 4) 7)
      refine bk_X5_cleanLine_81 hm (c_beginOrder w3 _ h2.ord6 (h16 z0) _ _) (by decide) (bk_X5_cleanLine_94 hm (c_endOrder _ (w3.2.2 7 4) b1.ord6 (h16 z0)) (by decide) (bk_X5_cleanLine_104 hm ⟨1, rfl, ?_⟩))
      refine ⟨rfl, (F2.trans b2).trans ((jLF_set (by decide)).trans (jLF_set (w := jset _ 38 _ _ _) (by decide))), s, b1.ord (h16 z0) (a := s) ?_ ?_ ?_ (Nat.le_refl s) (Or.inr ⟨rfl, j2⟩) (Or.inl ⟨rfl, fun R => rfl⟩)⟩
      · show (jset _ 37 (w3.2.2 7 4) _ _).1 35 (w3.2.2 7 4) _ = _
        simp (disch := omega) only [jset_at, jset_bk, jset_bj, jsN_at, jsN_no, jsN_I, jsI_N, jsI_T, jsI_at, jsI_no1, jsI_no2, jsT_N, jsT_I]
      · show (jset _ 37 (w3.2.2 7 4) _ _).1 36 (w3.2.2 7 4) _ = _
        simp (disch := omega) only [jset_at, jset_bk, jset_bj, jsN_at, jsN_no, jsN_I, jsI_N, jsI_T, jsI_at, jsI_no1, jsI_no2, jsT_N, jsT_I]
      · show (jset _ 37 (w3.2.2 7 4) _ _).1 37 (w3.2.2 7 4) _ = _
        simp (disch := omega) only [jset_at, jset_bk, jset_bj, jsN_at, jsN_no, jsN_I, jsI_N, jsI_T, jsI_at, jsI_no1, jsI_no2, jsT_N, jsT_I]
        exact h2.2.2.2.2.1.1
theorem l_line {T : JTk} {L : JLn} {w : JW} {n : Nat} {er : JEr} {s : Nat} (h : jLI T L w n er s) : jSI MX5_line 48 [jR 7 false] w (jLP T w (jlLine T L n er)) := by
  refine jSI_of jp_X5_line rfl (Nat.le_of_ble_eq_true rfl) (fun C hm => ?_)
  refine bk_X5_line_0 hm (c_kind h.1) (by decide) ?_
  unfold jlLine
  refine bk_X5_line_4 hm (fun a => ?_) (fun a => ?_) (fun a => ?_) (fun a => ?_) (fun a => ?_) (fun a => ?_) (fun a => ?_) (fun a0 a1 a2 a3 a4 a5 a6 => ?_)
  · rw [if_pos a]
    exact bq_X5_line_88 hm (l_caveLine h) (by decide) (fun r w2 q => bk_X5_line_92 hm (i32_01 r (jLP_01 q)) ⟨r, rfl, q⟩)
  · rw [if_neg (by rw [a]; decide), if_pos a]
    exact bq_X5_line_93 hm (l_pipeLine h) (by decide) (fun r w2 q => bk_X5_line_97 hm (i32_01 r (jLP_01 q)) ⟨r, rfl, q⟩)
  · rw [if_neg (by rw [a]; decide), if_neg (by rw [a]; decide), if_pos a]
    exact bq_X5_line_98 hm (l_swellLine h) (by decide) (fun r w2 q => bk_X5_line_102 hm (i32_01 r (jLP_01 q)) ⟨r, rfl, q⟩)
  · rw [if_neg (by rw [a]; decide), if_neg (by rw [a]; decide), if_neg (by rw [a]; decide), if_pos a]
    exact bq_X5_line_103 hm (l_silenceLine h) (by decide) (fun r w2 q => bk_X5_line_107 hm (i32_01 r (jLP_01 q)) ⟨r, rfl, q⟩)
  · rw [if_neg (by rw [a]; decide), if_neg (by rw [a]; decide), if_neg (by rw [a]; decide), if_neg (by rw [a]; decide), if_pos a]
    exact bq_X5_line_108 hm (l_chordLine h) (by decide) (fun r w2 q => bk_X5_line_112 hm (i32_01 r (jLP_01 q)) ⟨r, rfl, q⟩)
  · rw [if_neg (by rw [a]; decide), if_neg (by rw [a]; decide), if_neg (by rw [a]; decide), if_neg (by rw [a]; decide), if_neg (by rw [a]; decide), if_pos a]
    exact bq_X5_line_113 hm (l_shutLine h) (by decide) (fun r w2 q => bk_X5_line_117 hm (i32_01 r (jLP_01 q)) ⟨r, rfl, q⟩)
  · rw [if_neg (by rw [a]; decide), if_neg (by rw [a]; decide), if_neg (by rw [a]; decide), if_neg (by rw [a]; decide), if_neg (by rw [a]; decide), if_neg (by rw [a]; decide), if_pos a]
    exact bq_X5_line_118 hm (l_cleanLine h) (by decide) (fun r w2 q => bk_X5_line_122 hm (i32_01 r (jLP_01 q)) ⟨r, rfl, q⟩)
  · rw [if_neg a0, if_neg a1, if_neg a2, if_neg a3, if_neg a4, if_neg a5, if_neg a6]
    exact bk_X5_line_123 hm ⟨0, rfl, rfl, h.1.1.1, jLF.refl w⟩
theorem c_orgBegin (w : JW) (o : Bool) : jF MX3_begin 1 [jR 20 o] w jU (jset (jset (jset (jset (jset (jset (jset w 20 o 9 0) 20 o 10 0) 20 o 11 0) 28 o 5 0) 28 o 6 0) 34 o 6 0) 34 o 7 0) := by
  refine jF_of jp_X3_begin rfl (Nat.le_of_ble_eq_true rfl) (fun C hm => ?_)
  refine bk_X3_begin_0 hm (d2 := 0) (w2 := jset (jset (jset (jset (jset w 20 o 9 0) 20 o 10 0) 20 o 11 0) 28 o 5 0) 28 o 6 0) ?_ (by decide) (bk_X3_begin_22 hm (d2 := 0) (w2 := jset (jset (jset (jset (jset (jset (jset w 20 o 9 0) 20 o 10 0) 20 o 11 0) 28 o 5 0) 28 o 6 0) 34 o 6 0) 34 o 7 0) ?_ (by decide) (bk_X3_begin_29 hm ⟨rfl, rfl⟩))
  · refine jF_of jp_X8_begin rfl (Nat.le_of_ble_eq_true rfl) (fun C hm => ?_)
    exact bk_X8_begin_0 hm ⟨rfl, rfl⟩
  · refine jF_of jp_X2_begin rfl (Nat.le_of_ble_eq_true rfl) (fun C hm => ?_)
    exact bk_X2_begin_0 hm ⟨rfl, rfl⟩
theorem jWF0 : jWF jD0 := ⟨⟨by decide, by decide, by decide, by decide, by decide, by decide⟩, fun j h => absurd h (Nat.not_lt_zero j), fun j h => absurd h (Nat.not_lt_zero j), fun j h => absurd h (Nat.not_lt_zero j), fun j h => absurd h (Nat.not_lt_zero j), fun j h => absurd h (Nat.not_lt_zero j)⟩
theorem jLI_0 {T : JTk} {w : JW} (hT : jTK T w) (h7 : w.1 7 false 5 = 0 ∧ w.1 7 false 6 = 0) (h20 : w.1 20 (w.2.2 7 4) 9 = 0 ∧ w.1 20 (w.2.2 7 4) 10 = 0 ∧ w.1 20 (w.2.2 7 4) 11 = 0) (h28 : w.1 28 (w.2.2 7 4) 5 = 0 ∧ w.1 28 (w.2.2 7 4) 6 = 0) (h34 : w.1 34 (w.2.2 7 4) 6 = 0 ∧ w.1 34 (w.2.2 7 4) 7 = 0) : jLI T jL0 w 0 (0, 0) 0 := by
  exact ⟨⟨⟨h7.1, Nat.zero_le _⟩, ⟨h7.2, by decide, fun q => absurd rfl q⟩, hT, ⟨by decide, h20.1, fun j h => absurd h (Nat.not_lt_zero j), fun j h => absurd h (Nat.not_lt_zero j)⟩, ⟨by decide, h20.2.1, fun j h => absurd h (Nat.not_lt_zero j), fun j h => absurd h (Nat.not_lt_zero j)⟩⟩, ⟨fun j h => absurd h (Nat.not_lt_zero j), fun j h => absurd h (Nat.not_lt_zero j)⟩,
    ⟨⟨h20.1, h20.2.1, h20.2.2, h28.1, h28.2, h34.1⟩, fun j h => absurd h (Nat.not_lt_zero j), fun j h => absurd h (Nat.not_lt_zero j), fun j h => absurd h (Nat.not_lt_zero j), fun j h => absurd h (Nat.not_lt_zero j), fun j h => absurd h (Nat.not_lt_zero j), fun j h => absurd h (Nat.not_lt_zero j)⟩, jWF0, ⟨h34.2, Nat.le_refl 0⟩, fun j h => absurd h (Nat.not_lt_zero j)⟩
/-- how the reading of a list ends -/
def jRP (T : JTk) (w : JW) (res : Nat ⊕ (JEr × JLn)) (r : Int32) (w2 : JW) : Prop := jLF w w2 ∧ match res with
  | .inl f => r = 1 ∧ w2.1 7 false 7 = nI f
  | .inr q => r = nI q.1.1 ∧ q.1.1 ≤ 5 ∧ (¬ q.1.1 = 0 → w2.1 7 false 7 = nI q.1.2) ∧ (q.1.1 = 0 → jOrg w2 (w2.2.2 7 4) q.2.1 ∧ jWF q.2.1)
theorem l_read {T : JTk} {w : JW} (hT : jTK T w) : jSI MX5_read 49 [jR 7 false] w (jRP T w (jlAll T 400 0 (0, 0) jL0)) := by
  refine jSI_of jp_X5_read rfl (Nat.le_of_ble_eq_true rfl) (fun C hm => ?_)
  refine bk_X5_read_0 hm (c_orgBegin w (w.2.2 7 4)) (by decide) (bk_X5_read_7 hm ?_)
  have F0 : jLF w (jset (jset (jset (jset (jset (jset (jset (jset (jset w 20 (w.2.2 7 4) 9 0) 20 (w.2.2 7 4) 10 0) 20 (w.2.2 7 4) 11 0) 28 (w.2.2 7 4) 5 0) 28 (w.2.2 7 4) 6 0) 34 (w.2.2 7 4) 6 0) 34 (w.2.2 7 4) 7 0) 7 false 5 0) 7 false 6 0) := by
    refine ⟨rfl, fun k b hk hb => ?_⟩
    rw [jset_k (by omega), jset_k (by omega)]
    funext j
    by_cases z : b = w.2.2 7 4
    · have hk2 : ¬ (20 ≤ k ∧ k ≤ 40) := fun q => hb ⟨z, q⟩
      rw [jset_bk (by omega), jset_bk (by omega), jset_bk (by omega), jset_bk (by omega), jset_bk (by omega), jset_bk (by omega), jset_bk (by omega)]
    · rw [jset_b (Or.inr (Or.inl z)), jset_b (Or.inr (Or.inl z)), jset_b (Or.inr (Or.inl z)), jset_b (Or.inr (Or.inl z)), jset_b (Or.inr (Or.inl z)), jset_b (Or.inr (Or.inl z)), jset_b (Or.inr (Or.inl z))]
  have h0 : jLI T jL0 (jset (jset (jset (jset (jset (jset (jset (jset (jset w 20 (w.2.2 7 4) 9 0) 20 (w.2.2 7 4) 10 0) 20 (w.2.2 7 4) 11 0) 28 (w.2.2 7 4) 5 0) 28 (w.2.2 7 4) 6 0) 34 (w.2.2 7 4) 6 0) 34 (w.2.2 7 4) 7 0) 7 false 5 0) 7 false 6 0) 0 (0, 0) 0 := by
    refine jLI_0 (hT.kept (by rw [jset_k (by decide), jset_k (by decide), jset_k (by decide), jset_k (by decide), jset_k (by decide), jset_k (by decide), jset_k (by decide), jset_k (by decide), jset_k (by decide)]) rfl) ⟨by simp (disch := omega) only [jset_at, jset_bk, jset_bj, jsN_at, jsN_no, jsN_I, jsI_N, jsI_T, jsI_at, jsI_no1, jsI_no2, jsT_N, jsT_I], by simp (disch := omega) only [jset_at, jset_bk, jset_bj, jsN_at, jsN_no, jsN_I, jsI_N, jsI_T, jsI_at, jsI_no1, jsI_no2, jsT_N, jsT_I]⟩ ⟨?_, ?_, ?_⟩ ⟨?_, ?_⟩ ⟨?_, ?_⟩
    all_goals
      simp only [jset_L]
      simp (disch := omega) only [jset_at, jset_bk, jset_bj, jsN_at, jsN_no, jsN_I, jsI_N, jsI_T, jsI_at, jsI_no1, jsI_no2, jsT_N, jsT_I]
  revert F0 h0
  generalize (jset (jset (jset (jset (jset (jset (jset (jset (jset w 20 (w.2.2 7 4) 9 0) 20 (w.2.2 7 4) 10 0) 20 (w.2.2 7 4) 11 0) 28 (w.2.2 7 4) 5 0) 28 (w.2.2 7 4) 6 0) 34 (w.2.2 7 4) 6 0) 34 (w.2.2 7 4) 7 0) 7 false 5 0) 7 false 6 0) = w0
  intro F0 h0
  -- where the tokens don't fit
  have bad : ∀ (w1 : JW) (f : Nat), jLF w w1 → w1.1 7 false 5 = nI f → jW C 0 0 (jQQ C 0 0 (fun v w' => ∃ r, v = jI r ∧ jRP T w (.inl f) r w')) 82 [jR 7 false, jU, jU] [] w1 := by
    intro w1 f F1 e5
    refine bk_X5_read_82 hm (bk_X5_read_95 hm ⟨_, rfl, F1.trans (jNF_set.trans jNF_set).LF, ?_, ?_⟩)
    · rw [jset_bj (by decide), jset_at]
    · rw [jset_at, jset_bj (by decide)]
      exact e5
  have good : ∀ (w1 : JW) (n : Nat) (er : JEr) (L : JLn) (s : Nat), jLI T L w1 n er s → jLF w w1 → jW C 0 0 (jQQ C 0 0 (fun v w' => ∃ r, v = jI r ∧ jRP T w (.inr (er, L)) r w')) 95 [jR 7 false, jU, jU] [] w1 := by
    intro w1 n er L s h1 F1
    exact bk_X5_read_95 hm ⟨_, rfl, F1, h1.1.2.1.1, h1.1.2.1.2.1, h1.1.2.1.2.2, fun _ => ⟨h1.2.2.1, h1.2.2.2.1⟩⟩
  have key : ∀ (k c : Nat), c + k = 400 → ∀ (w1 : JW) (n : Nat) (er : JEr) (L : JLn) (s : Nat), jLI T L w1 n er s → jLF w w1 → jW C 0 0 (jQQ C 0 0 (fun v w' => ∃ r, v = jI r ∧ jRP T w (jlAll T k n er L) r w')) 21 [jR 7 false, jI 1, jI (nI c)] [] w1 := by
    intro k
    induction k with
    | zero =>
      intro c hc w1 n er L s h1 F1
      refine bk_X5_read_21 hm (fun _ => bk_X5_read_69 hm (fun z => absurd z (by decide)) (fun _ => bq_X5_read_73 hm (jSI_F (c_kind h1.1)) (by decide) (fun r w2 hh => ?_))) (fun z => absurd ((nI_leI (a := 400) (by omega) (by omega)).mpr (by omega)) z)
      obtain ⟨rfl, rfl⟩ := hh
      unfold jlAll
      refine bk_X5_read_77 hm (fun z => ?_) (fun z => ?_)
      · rw [if_pos z]
        exact good _ n er L s h1 F1
      · rw [if_neg z]
        exact bad _ n F1 h1.1.1.1
    | succ k ih =>
      intro c hc w1 n er L s h1 F1
      refine bk_X5_read_21 hm (fun z => absurd ((nI_leI (a := 400) (by omega) (by omega)).mp z) (by omega)) (fun _ => bk_X5_read_28 hm (fun z => absurd z (by decide)) (fun _ => bq_X5_read_32 hm (jSI_F (c_kind h1.1)) (by decide) (fun r w2 hh => ?_)))
      obtain ⟨rfl, rfl⟩ := hh
      rw [jlAll]
      -- behind a line that doesn't fit
      have out : ∀ (w3 : JW) (f : Nat), jLF w w3 → w3.1 7 false 5 = nI f → jW C 0 0 (jQQ C 0 0 (fun v w' => ∃ r, v = jI r ∧ jRP T w (.inl f) r w')) 61 [jR 7 false, jU, jI (nI c)] [] w3 := by
        intro w3 f F3 e5
        refine bk_X5_read_61 hm (bk_X5_read_62 hm (bk_X5_read_21 hm (fun _ => ?_) (fun _ => bk_X5_read_28 hm (fun _ => ?_) (fun z => absurd rfl z))))
        · exact bk_X5_read_69 hm (fun _ => bad w3 f F3 e5) (fun z => absurd rfl z)
        · exact bk_X5_read_69 hm (fun _ => bad w3 f F3 e5) (fun z => absurd rfl z)
      refine bk_X5_read_36 hm (fun z => ?_) (fun z => ?_)
      · rw [if_pos z]
        refine bk_X5_read_69 hm (fun z => absurd z (by decide)) (fun _ => bq_X5_read_73 hm (jSI_F (c_kind h1.1)) (by decide) (fun r w3 hh => ?_))
        obtain ⟨rfl, rfl⟩ := hh
        exact bk_X5_read_77 hm (fun _ => good _ n er L s h1 F1) (fun z2 => absurd z z2)
      · rw [if_neg z]
        refine bq_X5_read_41 hm (l_line h1) (by decide) (fun r w3 q => ?_)
        revert q
        cases hr : jlLine T L n er with
        | inl f =>
          rintro ⟨rfl, e5, hf⟩
          exact bk_X5_read_45 hm (fun _ => out w3 f (F1.trans hf) e5) (fun z => absurd rfl z)
        | inr q =>
          rintro ⟨rfl, hf, s3, h3⟩
          refine bk_X5_read_45 hm (fun z => absurd z (by decide)) (fun _ => bq_X5_read_48 hm (l_take h3 36 (by decide) (by decide)) (by decide) (fun r w4 q4 => ?_))
          rcases q4 with ⟨er4, e4, rfl, h4, f4⟩ | ⟨e4, rfl, rfl⟩
          · have e43 : er4 = q.2.1 := jpK_er e4
            subst e43
            simp only [if_pos (jpK_ok e4).1]
            refine bk_X5_read_54 hm (fun z => absurd z (by decide)) (fun _ => bk_X5_read_57 hm (bk_X5_read_62 hm ?_))
            rw [nI_1]
            exact ih (c + 1) (by omega) w4 _ _ _ s3 h4 ((F1.trans hf).trans f4.LF)
          · have k36 : ¬ T.1 q.1 = 36 := fun z => by
              unfold jpK at e4
              rw [if_pos z] at e4
              cases e4
            simp only [if_neg k36]
            exact bk_X5_read_54 hm (fun _ => out _ q.1 (F1.trans hf) h3.1.1.1) (fun z => absurd rfl z)
  exact key 400 0 rfl w0 0 (0, 0) jL0 0 h0 F0
