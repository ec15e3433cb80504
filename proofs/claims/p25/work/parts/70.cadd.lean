/-! the class's draft: its adders, and what stands behind them -/
theorem c_addCave (w : JW) (o : Bool) {k : Nat} (hk : w.1 20 o 9 = nI k) (h5 : k < 5) (m d : Int32) : jF MX3_addCave 1 [jR 20 o, jI m, jI d] w jU (jset (jset (jset w 21 o k m) 22 o k d) 20 o 9 (nI (k + 1))) := by
  refine jF_of jp_X3_addCave rfl (Nat.le_of_ble_eq_true rfl) (fun C hm => ?_)
  refine bk_X3_addCave_0 hm (d2 := 0) (w2 := jset w 21 o k m) (by rw [hk]; exact c_putN (ja_21 o) w m h5) (by decide) (bk_X3_addCave_12 hm (d2 := 0) (w2 := jset (jset w 21 o k m) 22 o k d) ?_ (by decide) (bk_X3_addCave_24 hm ⟨rfl, ?_⟩))
  · rw [jset_bk (by decide), hk]
    exact c_putN (ja_22 o) _ d h5
  · rw [jset_bk (by decide), jset_bk (by decide), hk, nI_1]
theorem c_addPipe (w : JW) (o : Bool) {k : Nat} (hk : w.1 20 o 10 = nI k) (h5 : k < 12) (x y z : Int32) : jF MX3_addPipe 1 [jR 20 o, jI x, jI y, jI z] w jU (jset (jset (jset (jset w 23 o k x) 24 o k y) 25 o k z) 20 o 10 (nI (k + 1))) := by
  refine jF_of jp_X3_addPipe rfl (Nat.le_of_ble_eq_true rfl) (fun C hm => ?_)
  refine bk_X3_addPipe_0 hm (d2 := 0) (w2 := jset w 23 o k x) (by rw [hk]; exact c_putN (ja_23 o) w x h5) (by decide) (bk_X3_addPipe_12 hm (d2 := 0) (w2 := jset (jset w 23 o k x) 24 o k y) ?_ (by decide) (bk_X3_addPipe_24 hm (d2 := 0) (w2 := jset (jset (jset w 23 o k x) 24 o k y) 25 o k z) ?_ (by decide) (bk_X3_addPipe_36 hm ⟨rfl, ?_⟩)))
  · rw [jset_bk (by decide), hk]
    exact c_putN (ja_24 o) _ y h5
  · rw [jset_bk (by decide), jset_bk (by decide), hk]
    exact c_putN (ja_25 o) _ z h5
  · rw [jset_bk (by decide), jset_bk (by decide), jset_bk (by decide), hk, nI_1]
theorem c_addSwell (w : JW) (o : Bool) {k : Nat} (hk : w.1 28 o 5 = nI k) (h5 : k < 5) (x y z : Int32) : jF MX8_addSwell 1 [jR 28 o, jI x, jI y, jI z] w jU (jset (jset (jset (jset w 29 o k x) 30 o k y) 31 o k z) 28 o 5 (nI (k + 1))) := by
  refine jF_of jp_X8_addSwell rfl (Nat.le_of_ble_eq_true rfl) (fun C hm => ?_)
  refine bk_X8_addSwell_0 hm (d2 := 0) (w2 := jset w 29 o k x) (by rw [hk]; exact c_putN (ja_29 o) w x h5) (by decide) (bk_X8_addSwell_12 hm (d2 := 0) (w2 := jset (jset w 29 o k x) 30 o k y) ?_ (by decide) (bk_X8_addSwell_24 hm (d2 := 0) (w2 := jset (jset (jset w 29 o k x) 30 o k y) 31 o k z) ?_ (by decide) (bk_X8_addSwell_36 hm ⟨rfl, ?_⟩)))
  · rw [jset_bk (by decide), hk]
    exact c_putN (ja_30 o) _ y h5
  · rw [jset_bk (by decide), jset_bk (by decide), hk]
    exact c_putN (ja_31 o) _ z h5
  · rw [jset_bk (by decide), jset_bk (by decide), jset_bk (by decide), hk, nI_1]
theorem c_addSilence (w : JW) (o : Bool) {k : Nat} (hk : w.1 28 o 6 = nI k) (h5 : k < 3) (x y : Int32) : jF MX8_addSilence 1 [jR 28 o, jI x, jI y] w jU (jset (jset (jset w 32 o k x) 33 o k y) 28 o 6 (nI (k + 1))) := by
  refine jF_of jp_X8_addSilence rfl (Nat.le_of_ble_eq_true rfl) (fun C hm => ?_)
  refine bk_X8_addSilence_0 hm (d2 := 0) (w2 := jset w 32 o k x) (by rw [hk]; exact c_putN (ja_32 o) w x h5) (by decide) (bk_X8_addSilence_12 hm (d2 := 0) (w2 := jset (jset w 32 o k x) 33 o k y) ?_ (by decide) (bk_X8_addSilence_24 hm ⟨rfl, ?_⟩))
  · rw [jset_bk (by decide), hk]
    exact c_putN (ja_33 o) _ y h5
  · rw [jset_bk (by decide), jset_bk (by decide), hk, nI_1]
theorem c_beginChord (w : JW) (o : Bool) {k : Nat} (hk : w.1 20 o 11 = nI k) (h5 : k < 6) : jF MX3_beginChord 1 [jR 20 o] w jU (jset w 26 o k 0) := by
  refine jF_of jp_X3_beginChord rfl (Nat.le_of_ble_eq_true rfl) (fun C hm => ?_)
  exact bk_X3_beginChord_0 hm (d2 := 0) (w2 := jset w 26 o k 0) (by rw [hk]; exact c_putN (ja_26 o) w 0 h5) (by decide) (bk_X3_beginChord_12 hm ⟨rfl, rfl⟩)
theorem c_endChord (w : JW) (o : Bool) {k : Nat} (hk : w.1 20 o 11 = nI k) : jF MX3_endChord 0 [jR 20 o] w jU (jset w 20 o 11 (nI (k + 1))) := by
  refine jF_of jp_X3_endChord rfl (Nat.le_of_ble_eq_true rfl) (fun C hm => ?_)
  exact bk_X3_endChord_0 hm ⟨rfl, by rw [hk, nI_1]⟩
theorem c_beginOrder (w : JW) (o : Bool) {k : Nat} (hk : w.1 34 o 6 = nI k) (h5 : k < 16) (x y : Int32) : jF MX2_beginOrder 1 [jR 34 o, jI x, jI y] w jU (jset (jset (jset w 35 o k x) 36 o k y) 37 o k (w.1 34 o 7)) := by
  refine jF_of jp_X2_beginOrder rfl (Nat.le_of_ble_eq_true rfl) (fun C hm => ?_)
  refine bk_X2_beginOrder_0 hm (d2 := 0) (w2 := jset w 35 o k x) (by rw [hk]; exact c_putN (ja_35 o) w x h5) (by decide) (bk_X2_beginOrder_12 hm (d2 := 0) (w2 := jset (jset w 35 o k x) 36 o k y) ?_ (by decide) (bk_X2_beginOrder_24 hm (d2 := 0) (w2 := jset (jset (jset w 35 o k x) 36 o k y) 37 o k (w.1 34 o 7)) ?_ (by decide) (bk_X2_beginOrder_39 hm ⟨rfl, rfl⟩)))
  · rw [jset_bk (by decide), hk]
    exact c_putN (ja_36 o) _ y h5
  · rw [jset_bk (by decide), jset_bk (by decide), jset_bk (by decide), jset_bk (by decide), hk]
    exact c_putN (ja_37 o) _ _ h5
theorem c_endOrder (w : JW) (o : Bool) {k : Nat} (hk : w.1 34 o 6 = nI k) (h5 : k < 16) : jF MX2_endOrder 1 [jR 34 o] w jU (jset (jset w 38 o k (w.1 34 o 7)) 34 o 6 (nI (k + 1))) := by
  refine jF_of jp_X2_endOrder rfl (Nat.le_of_ble_eq_true rfl) (fun C hm => ?_)
  refine bk_X2_endOrder_0 hm (d2 := 0) (w2 := jset w 38 o k (w.1 34 o 7)) (by rw [hk]; exact c_putN (ja_38 o) w _ h5) (by decide) (bk_X2_endOrder_15 hm ⟨rfl, ?_⟩)
  rw [jset_bk (by decide), hk, nI_1]
theorem jWF_cave {D : JD} (h : jWF D) (h5 : D.1 0 < 5) (m : Int32) {d : Int32} (hd : ¬ d = 0) : jWF (jsN (jsI (jsI D 0 (D.1 0) m) 1 (D.1 0) d) 0 (D.1 0 + 1)) := by
  obtain ⟨⟨b0, b1, b2, b3, b4, b5⟩, w1, w2, w3, w4, w5⟩ := h
  refine ⟨⟨?_, ?_, ?_, ?_, ?_, ?_⟩, fun j hj => ?_, fun j hj => ?_, fun c hc => ?_, fun j hj => ?_, fun j hj => ?_⟩
  · simp (disch := omega) only [jset_at, jset_bk, jset_bj, jsN_at, jsN_no, jsN_I, jsI_N, jsI_T, jsI_at, jsI_no1, jsI_no2, jsT_N, jsT_I]; omega
  · simp (disch := omega) only [jset_at, jset_bk, jset_bj, jsN_at, jsN_no, jsN_I, jsI_N, jsI_T, jsI_at, jsI_no1, jsI_no2, jsT_N, jsT_I]; exact b1
  · simp (disch := omega) only [jset_at, jset_bk, jset_bj, jsN_at, jsN_no, jsN_I, jsI_N, jsI_T, jsI_at, jsI_no1, jsI_no2, jsT_N, jsT_I]; exact b2
  · simp (disch := omega) only [jset_at, jset_bk, jset_bj, jsN_at, jsN_no, jsN_I, jsI_N, jsI_T, jsI_at, jsI_no1, jsI_no2, jsT_N, jsT_I]; exact b3
  · simp (disch := omega) only [jset_at, jset_bk, jset_bj, jsN_at, jsN_no, jsN_I, jsI_N, jsI_T, jsI_at, jsI_no1, jsI_no2, jsT_N, jsT_I]; exact b4
  · simp (disch := omega) only [jset_at, jset_bk, jset_bj, jsN_at, jsN_no, jsN_I, jsI_N, jsI_T, jsI_at, jsI_no1, jsI_no2, jsT_N, jsT_I]; exact b5
  · rw [jsN_at] at hj
    by_cases z : j = D.1 0
    · subst z
      simp (disch := omega) only [jset_at, jset_bk, jset_bj, jsN_at, jsN_no, jsN_I, jsI_N, jsI_T, jsI_at, jsI_no1, jsI_no2, jsT_N, jsT_I]; exact hd
    · simp (disch := omega) only [jset_at, jset_bk, jset_bj, jsN_at, jsN_no, jsN_I, jsI_N, jsI_T, jsI_at, jsI_no1, jsI_no2, jsT_N, jsT_I]; exact w1 j (by omega)
  · have hj2 : j < D.1 1 := by revert hj; simp (disch := omega) only [jset_at, jset_bk, jset_bj, jsN_at, jsN_no, jsN_I, jsI_N, jsI_T, jsI_at, jsI_no1, jsI_no2, jsT_N, jsT_I]; exact id
    have := w2 j hj2
    simp (disch := omega) only [jset_at, jset_bk, jset_bj, jsN_at, jsN_no, jsN_I, jsI_N, jsI_T, jsI_at, jsI_no1, jsI_no2, jsT_N, jsT_I]; omega
  · have hc2 : c < D.1 2 := by revert hc; simp (disch := omega) only [jset_at, jset_bk, jset_bj, jsN_at, jsN_no, jsN_I, jsI_N, jsI_T, jsI_at, jsI_no1, jsI_no2, jsT_N, jsT_I]; exact id
    have := w3 c hc2
    refine ⟨by simp (disch := omega) only [jset_at, jset_bk, jset_bj, jsN_at, jsN_no, jsN_I, jsI_N, jsI_T, jsI_at, jsI_no1, jsI_no2, jsT_N, jsT_I]; exact this.1, by simp (disch := omega) only [jset_at, jset_bk, jset_bj, jsN_at, jsN_no, jsN_I, jsI_N, jsI_T, jsI_at, jsI_no1, jsI_no2, jsT_N, jsT_I]; exact this.2.1, fun p hp => ?_⟩
    have hp2 : p < D.1 (10 + c) := by revert hp; simp (disch := omega) only [jset_at, jset_bk, jset_bj, jsN_at, jsN_no, jsN_I, jsI_N, jsI_T, jsI_at, jsI_no1, jsI_no2, jsT_N, jsT_I]; exact id
    simp (disch := omega) only [jset_at, jset_bk, jset_bj, jsN_at, jsN_no, jsN_I, jsI_N, jsI_T, jsI_at, jsI_no1, jsI_no2, jsT_N, jsT_I]; exact this.2.2 p hp2
  · have hj2 : j < D.1 3 := by revert hj; simp (disch := omega) only [jset_at, jset_bk, jset_bj, jsN_at, jsN_no, jsN_I, jsI_N, jsI_T, jsI_at, jsI_no1, jsI_no2, jsT_N, jsT_I]; exact id
    simp (disch := omega) only [jset_at, jset_bk, jset_bj, jsN_at, jsN_no, jsN_I, jsI_N, jsI_T, jsI_at, jsI_no1, jsI_no2, jsT_N, jsT_I]; exact w4 j hj2
  · have hj2 : j < D.1 5 := by revert hj; simp (disch := omega) only [jset_at, jset_bk, jset_bj, jsN_at, jsN_no, jsN_I, jsI_N, jsI_T, jsI_at, jsI_no1, jsI_no2, jsT_N, jsT_I]; exact id
    simp (disch := omega) only [jset_at, jset_bk, jset_bj, jsN_at, jsN_no, jsN_I, jsI_N, jsI_T, jsI_at, jsI_no1, jsI_no2, jsT_N, jsT_I]
    rcases w5 j hj2 with q | q
    · exact Or.inl ⟨q.1, by omega⟩
    · exact Or.inr q
theorem jWF_pipe {D : JD} (h : jWF D) (h12 : D.1 1 < 12) {c l : Nat} {r : Int32} (hc : c < D.1 0) (hl : 1 ≤ l ∧ l ≤ 40) : jWF (jsN (jsN (jsN (jsI D 4 (D.1 1) r) (100 + D.1 1) c) (140 + D.1 1) l) 1 (D.1 1 + 1)) := by
  obtain ⟨⟨b0, b1, b2, b3, b4, b5⟩, w1, w2, w3, w4, w5⟩ := h
  refine ⟨⟨?_, ?_, ?_, ?_, ?_, ?_⟩, fun j hj => ?_, fun j hj => ?_, fun c2 hc2 => ?_, fun j hj => ?_, fun j hj => ?_⟩
  · simp (disch := omega) only [jset_at, jset_bk, jset_bj, jsN_at, jsN_no, jsN_I, jsI_N, jsI_T, jsI_at, jsI_no1, jsI_no2, jsT_N, jsT_I]; exact b0
  · simp (disch := omega) only [jset_at, jset_bk, jset_bj, jsN_at, jsN_no, jsN_I, jsI_N, jsI_T, jsI_at, jsI_no1, jsI_no2, jsT_N, jsT_I]; omega
  · simp (disch := omega) only [jset_at, jset_bk, jset_bj, jsN_at, jsN_no, jsN_I, jsI_N, jsI_T, jsI_at, jsI_no1, jsI_no2, jsT_N, jsT_I]; exact b2
  · simp (disch := omega) only [jset_at, jset_bk, jset_bj, jsN_at, jsN_no, jsN_I, jsI_N, jsI_T, jsI_at, jsI_no1, jsI_no2, jsT_N, jsT_I]; exact b3
  · simp (disch := omega) only [jset_at, jset_bk, jset_bj, jsN_at, jsN_no, jsN_I, jsI_N, jsI_T, jsI_at, jsI_no1, jsI_no2, jsT_N, jsT_I]; exact b4
  · simp (disch := omega) only [jset_at, jset_bk, jset_bj, jsN_at, jsN_no, jsN_I, jsI_N, jsI_T, jsI_at, jsI_no1, jsI_no2, jsT_N, jsT_I]; exact b5
  · have hj2 : j < D.1 0 := by revert hj; simp (disch := omega) only [jset_at, jset_bk, jset_bj, jsN_at, jsN_no, jsN_I, jsI_N, jsI_T, jsI_at, jsI_no1, jsI_no2, jsT_N, jsT_I]; exact id
    simp (disch := omega) only [jset_at, jset_bk, jset_bj, jsN_at, jsN_no, jsN_I, jsI_N, jsI_T, jsI_at, jsI_no1, jsI_no2, jsT_N, jsT_I]; exact w1 j hj2
  · rw [jsN_at] at hj
    by_cases z : j = D.1 1
    · subst z
      simp (disch := omega) only [jset_at, jset_bk, jset_bj, jsN_at, jsN_no, jsN_I, jsI_N, jsI_T, jsI_at, jsI_no1, jsI_no2, jsT_N, jsT_I]; exact ⟨hc, hl⟩
    · simp (disch := omega) only [jset_at, jset_bk, jset_bj, jsN_at, jsN_no, jsN_I, jsI_N, jsI_T, jsI_at, jsI_no1, jsI_no2, jsT_N, jsT_I]; exact w2 j (by omega)
  · have hc3 : c2 < D.1 2 := by revert hc2; simp (disch := omega) only [jset_at, jset_bk, jset_bj, jsN_at, jsN_no, jsN_I, jsI_N, jsI_T, jsI_at, jsI_no1, jsI_no2, jsT_N, jsT_I]; exact id
    have := w3 c2 hc3
    refine ⟨by simp (disch := omega) only [jset_at, jset_bk, jset_bj, jsN_at, jsN_no, jsN_I, jsI_N, jsI_T, jsI_at, jsI_no1, jsI_no2, jsT_N, jsT_I]; exact this.1, by simp (disch := omega) only [jset_at, jset_bk, jset_bj, jsN_at, jsN_no, jsN_I, jsI_N, jsI_T, jsI_at, jsI_no1, jsI_no2, jsT_N, jsT_I]; exact this.2.1, fun p hp => ?_⟩
    have hp2 : p < D.1 (10 + c2) := by revert hp; simp (disch := omega) only [jset_at, jset_bk, jset_bj, jsN_at, jsN_no, jsN_I, jsI_N, jsI_T, jsI_at, jsI_no1, jsI_no2, jsT_N, jsT_I]; exact id
    have := this.2.2 p hp2
    simp (disch := omega) only [jset_at, jset_bk, jset_bj, jsN_at, jsN_no, jsN_I, jsI_N, jsI_T, jsI_at, jsI_no1, jsI_no2, jsT_N, jsT_I]; omega
  · have hj2 : j < D.1 3 := by revert hj; simp (disch := omega) only [jset_at, jset_bk, jset_bj, jsN_at, jsN_no, jsN_I, jsI_N, jsI_T, jsI_at, jsI_no1, jsI_no2, jsT_N, jsT_I]; exact id
    simp (disch := omega) only [jset_at, jset_bk, jset_bj, jsN_at, jsN_no, jsN_I, jsI_N, jsI_T, jsI_at, jsI_no1, jsI_no2, jsT_N, jsT_I]; exact w4 j hj2
  · have hj2 : j < D.1 5 := by revert hj; simp (disch := omega) only [jset_at, jset_bk, jset_bj, jsN_at, jsN_no, jsN_I, jsI_N, jsI_T, jsI_at, jsI_no1, jsI_no2, jsT_N, jsT_I]; exact id
    simp (disch := omega) only [jset_at, jset_bk, jset_bj, jsN_at, jsN_no, jsN_I, jsI_N, jsI_T, jsI_at, jsI_no1, jsI_no2, jsT_N, jsT_I]
    rcases w5 j hj2 with q | q
    · exact Or.inl q
    · exact Or.inr ⟨q.1, by omega⟩
theorem jWF_swell {D : JD} (h : jWF D) (h5 : D.1 3 < 5) (x z : Int32) {y : Int32} (hy : ¬ y ≤ 0) : jWF (jsN (jsI (jsI (jsI D 7 (D.1 3) x) 8 (D.1 3) y) 9 (D.1 3) z) 3 (D.1 3 + 1)) := by
  obtain ⟨⟨b0, b1, b2, b3, b4, b5⟩, w1, w2, w3, w4, w5⟩ := h
  refine ⟨⟨?_, ?_, ?_, ?_, ?_, ?_⟩, fun j hj => ?_, fun j hj => ?_, fun c2 hc2 => ?_, fun j hj => ?_, fun j hj => ?_⟩
  · simp (disch := omega) only [jset_at, jset_bk, jset_bj, jsN_at, jsN_no, jsN_I, jsI_N, jsI_T, jsI_at, jsI_no1, jsI_no2, jsT_N, jsT_I]; exact b0
  · simp (disch := omega) only [jset_at, jset_bk, jset_bj, jsN_at, jsN_no, jsN_I, jsI_N, jsI_T, jsI_at, jsI_no1, jsI_no2, jsT_N, jsT_I]; exact b1
  · simp (disch := omega) only [jset_at, jset_bk, jset_bj, jsN_at, jsN_no, jsN_I, jsI_N, jsI_T, jsI_at, jsI_no1, jsI_no2, jsT_N, jsT_I]; exact b2
  · simp (disch := omega) only [jset_at, jset_bk, jset_bj, jsN_at, jsN_no, jsN_I, jsI_N, jsI_T, jsI_at, jsI_no1, jsI_no2, jsT_N, jsT_I]; omega
  · simp (disch := omega) only [jset_at, jset_bk, jset_bj, jsN_at, jsN_no, jsN_I, jsI_N, jsI_T, jsI_at, jsI_no1, jsI_no2, jsT_N, jsT_I]; exact b4
  · simp (disch := omega) only [jset_at, jset_bk, jset_bj, jsN_at, jsN_no, jsN_I, jsI_N, jsI_T, jsI_at, jsI_no1, jsI_no2, jsT_N, jsT_I]; exact b5
  · have hj2 : j < D.1 0 := by revert hj; simp (disch := omega) only [jset_at, jset_bk, jset_bj, jsN_at, jsN_no, jsN_I, jsI_N, jsI_T, jsI_at, jsI_no1, jsI_no2, jsT_N, jsT_I]; exact id
    simp (disch := omega) only [jset_at, jset_bk, jset_bj, jsN_at, jsN_no, jsN_I, jsI_N, jsI_T, jsI_at, jsI_no1, jsI_no2, jsT_N, jsT_I]; exact w1 j hj2
  · have hj2 : j < D.1 1 := by revert hj; simp (disch := omega) only [jset_at, jset_bk, jset_bj, jsN_at, jsN_no, jsN_I, jsI_N, jsI_T, jsI_at, jsI_no1, jsI_no2, jsT_N, jsT_I]; exact id
    simp (disch := omega) only [jset_at, jset_bk, jset_bj, jsN_at, jsN_no, jsN_I, jsI_N, jsI_T, jsI_at, jsI_no1, jsI_no2, jsT_N, jsT_I]; exact w2 j hj2
  · have hc3 : c2 < D.1 2 := by revert hc2; simp (disch := omega) only [jset_at, jset_bk, jset_bj, jsN_at, jsN_no, jsN_I, jsI_N, jsI_T, jsI_at, jsI_no1, jsI_no2, jsT_N, jsT_I]; exact id
    have := w3 c2 hc3
    refine ⟨by simp (disch := omega) only [jset_at, jset_bk, jset_bj, jsN_at, jsN_no, jsN_I, jsI_N, jsI_T, jsI_at, jsI_no1, jsI_no2, jsT_N, jsT_I]; exact this.1, by simp (disch := omega) only [jset_at, jset_bk, jset_bj, jsN_at, jsN_no, jsN_I, jsI_N, jsI_T, jsI_at, jsI_no1, jsI_no2, jsT_N, jsT_I]; exact this.2.1, fun p hp => ?_⟩
    have hp2 : p < D.1 (10 + c2) := by revert hp; simp (disch := omega) only [jset_at, jset_bk, jset_bj, jsN_at, jsN_no, jsN_I, jsI_N, jsI_T, jsI_at, jsI_no1, jsI_no2, jsT_N, jsT_I]; exact id
    simp (disch := omega) only [jset_at, jset_bk, jset_bj, jsN_at, jsN_no, jsN_I, jsI_N, jsI_T, jsI_at, jsI_no1, jsI_no2, jsT_N, jsT_I]; exact this.2.2 p hp2
  · rw [jsN_at] at hj
    by_cases q : j = D.1 3
    · subst q
      simp (disch := omega) only [jset_at, jset_bk, jset_bj, jsN_at, jsN_no, jsN_I, jsI_N, jsI_T, jsI_at, jsI_no1, jsI_no2, jsT_N, jsT_I]; exact hy
    · simp (disch := omega) only [jset_at, jset_bk, jset_bj, jsN_at, jsN_no, jsN_I, jsI_N, jsI_T, jsI_at, jsI_no1, jsI_no2, jsT_N, jsT_I]; exact w4 j (by omega)
  · have hj2 : j < D.1 5 := by revert hj; simp (disch := omega) only [jset_at, jset_bk, jset_bj, jsN_at, jsN_no, jsN_I, jsI_N, jsI_T, jsI_at, jsI_no1, jsI_no2, jsT_N, jsT_I]; exact id
    simp (disch := omega) only [jset_at, jset_bk, jset_bj, jsN_at, jsN_no, jsN_I, jsI_N, jsI_T, jsI_at, jsI_no1, jsI_no2, jsT_N, jsT_I]; exact w5 j hj2
theorem jWF_sil {D : JD} (h : jWF D) (h5 : D.1 4 < 3) (x y : Int32) : jWF (jsN (jsI (jsI D 10 (D.1 4) x) 11 (D.1 4) y) 4 (D.1 4 + 1)) := by
  obtain ⟨⟨b0, b1, b2, b3, b4, b5⟩, w1, w2, w3, w4, w5⟩ := h
  refine ⟨⟨?_, ?_, ?_, ?_, ?_, ?_⟩, fun j hj => ?_, fun j hj => ?_, fun c2 hc2 => ?_, fun j hj => ?_, fun j hj => ?_⟩
  · simp (disch := omega) only [jset_at, jset_bk, jset_bj, jsN_at, jsN_no, jsN_I, jsI_N, jsI_T, jsI_at, jsI_no1, jsI_no2, jsT_N, jsT_I]; exact b0
  · simp (disch := omega) only [jset_at, jset_bk, jset_bj, jsN_at, jsN_no, jsN_I, jsI_N, jsI_T, jsI_at, jsI_no1, jsI_no2, jsT_N, jsT_I]; exact b1
  · simp (disch := omega) only [jset_at, jset_bk, jset_bj, jsN_at, jsN_no, jsN_I, jsI_N, jsI_T, jsI_at, jsI_no1, jsI_no2, jsT_N, jsT_I]; exact b2
  · simp (disch := omega) only [jset_at, jset_bk, jset_bj, jsN_at, jsN_no, jsN_I, jsI_N, jsI_T, jsI_at, jsI_no1, jsI_no2, jsT_N, jsT_I]; exact b3
  · simp (disch := omega) only [jset_at, jset_bk, jset_bj, jsN_at, jsN_no, jsN_I, jsI_N, jsI_T, jsI_at, jsI_no1, jsI_no2, jsT_N, jsT_I]; omega
  · simp (disch := omega) only [jset_at, jset_bk, jset_bj, jsN_at, jsN_no, jsN_I, jsI_N, jsI_T, jsI_at, jsI_no1, jsI_no2, jsT_N, jsT_I]; exact b5
  · have hj2 : j < D.1 0 := by revert hj; simp (disch := omega) only [jset_at, jset_bk, jset_bj, jsN_at, jsN_no, jsN_I, jsI_N, jsI_T, jsI_at, jsI_no1, jsI_no2, jsT_N, jsT_I]; exact id
    simp (disch := omega) only [jset_at, jset_bk, jset_bj, jsN_at, jsN_no, jsN_I, jsI_N, jsI_T, jsI_at, jsI_no1, jsI_no2, jsT_N, jsT_I]; exact w1 j hj2
  · have hj2 : j < D.1 1 := by revert hj; simp (disch := omega) only [jset_at, jset_bk, jset_bj, jsN_at, jsN_no, jsN_I, jsI_N, jsI_T, jsI_at, jsI_no1, jsI_no2, jsT_N, jsT_I]; exact id
    simp (disch := omega) only [jset_at, jset_bk, jset_bj, jsN_at, jsN_no, jsN_I, jsI_N, jsI_T, jsI_at, jsI_no1, jsI_no2, jsT_N, jsT_I]; exact w2 j hj2
  · have hc3 : c2 < D.1 2 := by revert hc2; simp (disch := omega) only [jset_at, jset_bk, jset_bj, jsN_at, jsN_no, jsN_I, jsI_N, jsI_T, jsI_at, jsI_no1, jsI_no2, jsT_N, jsT_I]; exact id
    have := w3 c2 hc3
    refine ⟨by simp (disch := omega) only [jset_at, jset_bk, jset_bj, jsN_at, jsN_no, jsN_I, jsI_N, jsI_T, jsI_at, jsI_no1, jsI_no2, jsT_N, jsT_I]; exact this.1, by simp (disch := omega) only [jset_at, jset_bk, jset_bj, jsN_at, jsN_no, jsN_I, jsI_N, jsI_T, jsI_at, jsI_no1, jsI_no2, jsT_N, jsT_I]; exact this.2.1, fun p hp => ?_⟩
    have hp2 : p < D.1 (10 + c2) := by revert hp; simp (disch := omega) only [jset_at, jset_bk, jset_bj, jsN_at, jsN_no, jsN_I, jsI_N, jsI_T, jsI_at, jsI_no1, jsI_no2, jsT_N, jsT_I]; exact id
    simp (disch := omega) only [jset_at, jset_bk, jset_bj, jsN_at, jsN_no, jsN_I, jsI_N, jsI_T, jsI_at, jsI_no1, jsI_no2, jsT_N, jsT_I]; exact this.2.2 p hp2
  · have hj2 : j < D.1 3 := by revert hj; simp (disch := omega) only [jset_at, jset_bk, jset_bj, jsN_at, jsN_no, jsN_I, jsI_N, jsI_T, jsI_at, jsI_no1, jsI_no2, jsT_N, jsT_I]; exact id
    simp (disch := omega) only [jset_at, jset_bk, jset_bj, jsN_at, jsN_no, jsN_I, jsI_N, jsI_T, jsI_at, jsI_no1, jsI_no2, jsT_N, jsT_I]; exact w4 j hj2
  · have hj2 : j < D.1 5 := by revert hj; simp (disch := omega) only [jset_at, jset_bk, jset_bj, jsN_at, jsN_no, jsN_I, jsI_N, jsI_T, jsI_at, jsI_no1, jsI_no2, jsT_N, jsT_I]; exact id
    simp (disch := omega) only [jset_at, jset_bk, jset_bj, jsN_at, jsN_no, jsN_I, jsI_N, jsI_T, jsI_at, jsI_no1, jsI_no2, jsT_N, jsT_I]; exact w5 j hj2
theorem jWF_chord {D : JD} (h : jWF D) (h6 : D.1 2 < 6) {m : Nat} {fn : Nat → Nat} (hm : 1 ≤ m ∧ m ≤ 6) (hf : ∀ p, p < m → fn p < D.1 1) : jWF (jsN (jsN (jaNotes D (D.1 2) fn m) (10 + D.1 2) m) 2 (D.1 2 + 1)) := by
  obtain ⟨⟨b0, b1, b2, b3, b4, b5⟩, w1, w2, w3, w4, w5⟩ := h
  have out : ∀ k, (k < 10 ∨ 56 ≤ k) → k ≠ 2 → (jsN (jsN (jaNotes D (D.1 2) fn m) (10 + D.1 2) m) 2 (D.1 2 + 1)).1 k = D.1 k := by
    intro k h1 h2
    rw [jsN_no (by omega), jsN_no (by omega), jaNotes_out (by omega)]
  have int : (jsN (jsN (jaNotes D (D.1 2) fn m) (10 + D.1 2) m) 2 (D.1 2 + 1)).2 = D.2 := by rw [jsN_I, jsN_I, jaNotes_2]
  unfold jWF
  rw [out 0 (by omega) (by omega), out 1 (by omega) (by omega), out 3 (by omega) (by omega), out 4 (by omega) (by omega), out 5 (by omega) (by omega), int]
  refine ⟨⟨b0, b1, by simp (disch := omega) only [jset_at, jset_bk, jset_bj, jsN_at, jsN_no, jsN_I, jsI_N, jsI_T, jsI_at, jsI_no1, jsI_no2, jsT_N, jsT_I]; omega, b3, b4, b5⟩, w1, fun j hj => ?_, fun c hc => ?_, w4, fun j hj => ?_⟩
  · rw [out (100 + j) (by omega) (by omega), out (140 + j) (by omega) (by omega)]
    exact w2 j hj
  · rw [jsN_at] at hc
    by_cases z : c = D.1 2
    · subst z
      have e10 : (jsN (jsN (jaNotes D (D.1 2) fn m) (10 + D.1 2) m) 2 (D.1 2 + 1)).1 (10 + D.1 2) = m := by rw [jsN_no (by omega), jsN_at]
      rw [e10]
      refine ⟨hm.1, hm.2, fun p hp => ?_⟩
      rw [jsN_no (by omega), jsN_no (by omega), jaNotes_in hp]
      exact hf p hp
    · have hc3 : c < D.1 2 := by omega
      have hs := (w3 c hc3).2.1
      have e10 : (jsN (jsN (jaNotes D (D.1 2) fn m) (10 + D.1 2) m) 2 (D.1 2 + 1)).1 (10 + c) = D.1 (10 + c) := by rw [jsN_no (by omega), jsN_no (by omega), jaNotes_out (by omega)]
      rw [e10]
      refine ⟨(w3 c hc3).1, hs, fun p hp => ?_⟩
      rw [jsN_no (by omega), jsN_no (by omega), jaNotes_out (by omega)]
      exact (w3 c hc3).2.2 p hp
  · rw [out (120 + j) (by omega) (by omega)]
    exact w5 j hj
theorem jWF_ord {D : JD} (h : jWF D) (h16 : D.1 5 < 16) {s : Int32} {t : Nat} {f : (Nat → Int32) → Bool} (hs : (s = 15 ∧ t < D.1 0) ∨ (s = 16 ∧ t < D.1 1)) : jWF (jsN (jsN (jsT (jsI D 12 (D.1 5) s) (D.1 5) f) (120 + D.1 5) t) 5 (D.1 5 + 1)) := by
  obtain ⟨⟨b0, b1, b2, b3, b4, b5⟩, w1, w2, w3, w4, w5⟩ := h
  refine ⟨⟨?_, ?_, ?_, ?_, ?_, ?_⟩, fun j hj => ?_, fun j hj => ?_, fun c2 hc2 => ?_, fun j hj => ?_, fun j hj => ?_⟩
  · simp (disch := omega) only [jset_at, jset_bk, jset_bj, jsN_at, jsN_no, jsN_I, jsI_N, jsI_T, jsI_at, jsI_no1, jsI_no2, jsT_N, jsT_I]; exact b0
  · simp (disch := omega) only [jset_at, jset_bk, jset_bj, jsN_at, jsN_no, jsN_I, jsI_N, jsI_T, jsI_at, jsI_no1, jsI_no2, jsT_N, jsT_I]; exact b1
  · simp (disch := omega) only [jset_at, jset_bk, jset_bj, jsN_at, jsN_no, jsN_I, jsI_N, jsI_T, jsI_at, jsI_no1, jsI_no2, jsT_N, jsT_I]; exact b2
  · simp (disch := omega) only [jset_at, jset_bk, jset_bj, jsN_at, jsN_no, jsN_I, jsI_N, jsI_T, jsI_at, jsI_no1, jsI_no2, jsT_N, jsT_I]; exact b3
  · simp (disch := omega) only [jset_at, jset_bk, jset_bj, jsN_at, jsN_no, jsN_I, jsI_N, jsI_T, jsI_at, jsI_no1, jsI_no2, jsT_N, jsT_I]; exact b4
  · simp (disch := omega) only [jset_at, jset_bk, jset_bj, jsN_at, jsN_no, jsN_I, jsI_N, jsI_T, jsI_at, jsI_no1, jsI_no2, jsT_N, jsT_I]; omega
  · have hj2 : j < D.1 0 := by revert hj; simp (disch := omega) only [jset_at, jset_bk, jset_bj, jsN_at, jsN_no, jsN_I, jsI_N, jsI_T, jsI_at, jsI_no1, jsI_no2, jsT_N, jsT_I]; exact id
    simp (disch := omega) only [jset_at, jset_bk, jset_bj, jsN_at, jsN_no, jsN_I, jsI_N, jsI_T, jsI_at, jsI_no1, jsI_no2, jsT_N, jsT_I]; exact w1 j hj2
  · have hj2 : j < D.1 1 := by revert hj; simp (disch := omega) only [jset_at, jset_bk, jset_bj, jsN_at, jsN_no, jsN_I, jsI_N, jsI_T, jsI_at, jsI_no1, jsI_no2, jsT_N, jsT_I]; exact id
    simp (disch := omega) only [jset_at, jset_bk, jset_bj, jsN_at, jsN_no, jsN_I, jsI_N, jsI_T, jsI_at, jsI_no1, jsI_no2, jsT_N, jsT_I]; exact w2 j hj2
  · have hc3 : c2 < D.1 2 := by revert hc2; simp (disch := omega) only [jset_at, jset_bk, jset_bj, jsN_at, jsN_no, jsN_I, jsI_N, jsI_T, jsI_at, jsI_no1, jsI_no2, jsT_N, jsT_I]; exact id
    have := w3 c2 hc3
    refine ⟨by simp (disch := omega) only [jset_at, jset_bk, jset_bj, jsN_at, jsN_no, jsN_I, jsI_N, jsI_T, jsI_at, jsI_no1, jsI_no2, jsT_N, jsT_I]; exact this.1, by simp (disch := omega) only [jset_at, jset_bk, jset_bj, jsN_at, jsN_no, jsN_I, jsI_N, jsI_T, jsI_at, jsI_no1, jsI_no2, jsT_N, jsT_I]; exact this.2.1, fun p hp => ?_⟩
    have hp2 : p < D.1 (10 + c2) := by revert hp; simp (disch := omega) only [jset_at, jset_bk, jset_bj, jsN_at, jsN_no, jsN_I, jsI_N, jsI_T, jsI_at, jsI_no1, jsI_no2, jsT_N, jsT_I]; exact id
    simp (disch := omega) only [jset_at, jset_bk, jset_bj, jsN_at, jsN_no, jsN_I, jsI_N, jsI_T, jsI_at, jsI_no1, jsI_no2, jsT_N, jsT_I]; exact this.2.2 p hp2
  · have hj2 : j < D.1 3 := by revert hj; simp (disch := omega) only [jset_at, jset_bk, jset_bj, jsN_at, jsN_no, jsN_I, jsI_N, jsI_T, jsI_at, jsI_no1, jsI_no2, jsT_N, jsT_I]; exact id
    simp (disch := omega) only [jset_at, jset_bk, jset_bj, jsN_at, jsN_no, jsN_I, jsI_N, jsI_T, jsI_at, jsI_no1, jsI_no2, jsT_N, jsT_I]; exact w4 j hj2
  · rw [jsN_at] at hj
    by_cases q : j = D.1 5
    · subst q
      simp (disch := omega) only [jset_at, jset_bk, jset_bj, jsN_at, jsN_no, jsN_I, jsI_N, jsI_T, jsI_at, jsI_no1, jsI_no2, jsT_N, jsT_I]; exact hs
    · simp (disch := omega) only [jset_at, jset_bk, jset_bj, jsN_at, jsN_no, jsN_I, jsI_N, jsI_T, jsI_at, jsI_no1, jsI_no2, jsT_N, jsT_I]; exact w5 j (by omega)
