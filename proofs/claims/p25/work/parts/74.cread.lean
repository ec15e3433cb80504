/-! the class reads orders; lines; the whole list -/
theorem jLI.ef {T : JTk} {L : JLn} {w w2 : JW} {n n2 : Nat} {er er2 : JEr} {s s2 : Nat} (h : jLI T L w n er s) (hf : jEF w w2) (hc : jCI T (jNc L) (jNp L) w2 n2 er2) (hs2 : jSt w2 s2) (hle : s ≤ s2) (hsn : s2 ≤ n2) (hk : jKp w w2 s) : jLI T L w2 n2 er2 s2 := by
  obtain ⟨h1, ⟨h2, h3⟩, h4, h5, ⟨h6, h7⟩, h8⟩ := h
  have eo : w2.2.2 7 4 = w.2.2 7 4 := by rw [hf.1]
  have same : ∀ k, 20 ≤ k → k ≠ 34 → k ≠ 39 → k ≠ 40 → w2.1 k (w.2.2 7 4) = w.1 k (w.2.2 7 4) := fun k a b c d => hf.2.1 k _ (by omega) (fun q => by omega)
  refine ⟨hc, ⟨h2.kept (hf.2.1 10 false (by decide) (by simp)), h3⟩, ?_, h5, ⟨hs2, hsn⟩, fun j hj => ?_⟩
  · rw [eo]
    obtain ⟨⟨a0, a1, a2, a3, a4, a5⟩, b, c, e, f, g, i⟩ := h4
    have h400 := h1.le
    refine ⟨⟨?_, ?_, ?_, ?_, ?_, ?_⟩, fun j hj => ?_, fun j hj => ?_, fun c2 hc2 => ?_, fun j hj => ?_, fun j hj => ?_, fun j hj => ?_⟩
    · rw [same 20 (by decide) (by decide) (by decide) (by decide)]; exact a0
    · rw [same 20 (by decide) (by decide) (by decide) (by decide)]; exact a1
    · rw [same 20 (by decide) (by decide) (by decide) (by decide)]; exact a2
    · rw [same 28 (by decide) (by decide) (by decide) (by decide)]; exact a3
    · rw [same 28 (by decide) (by decide) (by decide) (by decide)]; exact a4
    · rw [hf.2.2]; exact a5
    · rw [same 21 (by decide) (by decide) (by decide) (by decide), same 22 (by decide) (by decide) (by decide) (by decide)]; exact b j hj
    · rw [same 23 (by decide) (by decide) (by decide) (by decide), same 24 (by decide) (by decide) (by decide) (by decide), same 25 (by decide) (by decide) (by decide) (by decide)]; exact c j hj
    · rw [same 26 (by decide) (by decide) (by decide) (by decide), same 27 (by decide) (by decide) (by decide) (by decide)]; exact e c2 hc2
    · rw [same 29 (by decide) (by decide) (by decide) (by decide), same 30 (by decide) (by decide) (by decide) (by decide), same 31 (by decide) (by decide) (by decide) (by decide)]; exact f j hj
    · rw [same 32 (by decide) (by decide) (by decide) (by decide), same 33 (by decide) (by decide) (by decide) (by decide)]; exact g j hj
    · rw [same 35 (by decide) (by decide) (by decide) (by decide), same 36 (by decide) (by decide) (by decide) (by decide), same 37 (by decide) (by decide) (by decide) (by decide), same 38 (by decide) (by decide) (by decide) (by decide)]
      obtain ⟨i1, i2, a, e9, i3, i4, i5, i6, i7⟩ := i j hj
      obtain ⟨e8, q1, q2⟩ := h8 j hj
      have e89 : e9 = e8 := (nI_eq (by omega) (by omega)).mp (i4.symm.trans q2)
      subst e89
      refine ⟨i1, i2, a, e9, i3, i4, i5, i6, ?_⟩
      rcases i7 with q | ⟨q3, q4⟩
      · exact Or.inl q
      · refine Or.inr ⟨q3, fun R => ?_⟩
        obtain ⟨v, S, q5, q6⟩ := q4 R
        exact ⟨v, S, (jrunS_cong _ _ _ (fun j2 k1 k2 => hk j2 (by omega))).trans q5, q6⟩
  · obtain ⟨e, q1, q2⟩ := h8 j hj
    refine ⟨e, by omega, ?_⟩
    rw [eo, same 38 (by decide) (by decide) (by decide) (by decide)]
    exact q2
theorem jLI.ord {T : JTk} {L : JLn} {w : JW} {n : Nat} {er : JEr} {s2 : Nat} (h : jLI T L w n er s2) (h16 : L.1.1 5 < 16) {x : Int32} {t a : Nat} {f : (Nat → Int32) → Bool} (h35 : w.1 35 (w.2.2 7 4) (L.1.1 5) = x) (h36 : w.1 36 (w.2.2 7 4) (L.1.1 5) = nI t) (h37 : w.1 37 (w.2.2 7 4) (L.1.1 5) = nI a) (hae : a ≤ s2) (hx : (x = 15 ∧ t < L.1.1 0) ∨ (x = 16 ∧ t < L.1.1 1))
    (hr : (a = s2 ∧ ∀ R, f R = true) ∨ (a ≠ s2 ∧ ∀ R, ∃ v S, jrunS (w.1 39 (w.2.2 7 4)) (w.1 40 (w.2.2 7 4)) (jrd R) (s2 - a) a [] = some (v :: S) ∧ f R = decide (v ≠ 0))) :
    jLI T (jaOrd L x t f) (jset (jset w 38 (w.2.2 7 4) (L.1.1 5) (w.1 34 (w.2.2 7 4) 7)) 34 (w.2.2 7 4) 6 (nI (L.1.1 5 + 1))) n er s2 := by
  have h34 : w.1 34 (w.2.2 7 4) 7 = nI s2 := h.2.2.2.2.1.1
  have h400 := h.1.le
  have hsn := h.2.2.2.2.1.2
  rw [h34]
  have e0 : (jaOrd L x t f).1.1 0 = L.1.1 0 := by unfold jaOrd; simp (disch := omega) only [jset_at, jset_bk, jset_bj, jsN_at, jsN_no, jsN_I, jsI_N, jsI_T, jsI_at, jsI_no1, jsI_no2, jsT_N, jsT_I]
  have e1 : (jaOrd L x t f).1.1 1 = L.1.1 1 := by unfold jaOrd; simp (disch := omega) only [jset_at, jset_bk, jset_bj, jsN_at, jsN_no, jsN_I, jsI_N, jsI_T, jsI_at, jsI_no1, jsI_no2, jsT_N, jsT_I]
  have e2 : (jaOrd L x t f).1.1 2 = L.1.1 2 := by unfold jaOrd; simp (disch := omega) only [jset_at, jset_bk, jset_bj, jsN_at, jsN_no, jsN_I, jsI_N, jsI_T, jsI_at, jsI_no1, jsI_no2, jsT_N, jsT_I]
  have e5 : (jaOrd L x t f).1.1 5 = L.1.1 5 + 1 := jsN_at
  refine h.same rfl (fun k hk => by rw [jset_k (by omega), jset_k (by omega)]) (by simp (disch := omega) only [jset_at, jset_bk, jset_bj, jsN_at, jsN_no, jsN_I, jsI_N, jsI_T, jsI_at, jsI_no1, jsI_no2, jsT_N, jsT_I]) (by simp (disch := omega) only [jset_at, jset_bk, jset_bj, jsN_at, jsN_no, jsN_I, jsI_N, jsI_T, jsI_at, jsI_no1, jsI_no2, jsT_N, jsT_I]) rfl e0 e1 e2 (jOrg_ord h.2.2.1 h.2.2.2.1 h16 h35 h36 h37 hae (by omega) hr) (jWF_ord h.2.2.2.1 h16 hx) (by simp (disch := omega) only [jset_at, jset_bk, jset_bj, jsN_at, jsN_no, jsN_I, jsI_N, jsI_T, jsI_at, jsI_no1, jsI_no2, jsT_N, jsT_I]; exact h34) hsn (fun j hj => ?_)
  rw [e5] at hj
  by_cases z : j = L.1.1 5
  · subst z
    exact ⟨s2, Nat.le_refl _, by simp (disch := omega) only [jset_at, jset_bk, jset_bj, jsN_at, jsN_no, jsN_I, jsI_N, jsI_T, jsI_at, jsI_no1, jsI_no2, jsT_N, jsT_I]⟩
  · obtain ⟨e, q1, q2⟩ := h.2.2.2.2.2 j (by omega)
    exact ⟨e, q1, by simp (disch := omega) only [jset_at, jset_bk, jset_bj, jsN_at, jsN_no, jsN_I, jsI_N, jsI_T, jsI_at, jsI_no1, jsI_no2, jsT_N, jsT_I]; exact q2⟩
/-- an order is begun: nothing is told anew yet -/
theorem jLI.beg {T : JTk} {L : JLn} {w : JW} {n : Nat} {er : JEr} {s : Nat} (h : jLI T L w n er s) (x y z : Int32) : jLI T L (jset (jset (jset w 35 (w.2.2 7 4) (L.1.1 5) x) 36 (w.2.2 7 4) (L.1.1 5) y) 37 (w.2.2 7 4) (L.1.1 5) z) n er s ∧ jLF w (jset (jset (jset w 35 (w.2.2 7 4) (L.1.1 5) x) 36 (w.2.2 7 4) (L.1.1 5) y) 37 (w.2.2 7 4) (L.1.1 5) z) := by
  refine ⟨?_, (jLF_set (by decide)).trans ((jLF_set (w := jset w 35 _ _ _) (by decide)).trans (jLF_set (w := jset (jset w 35 _ _ _) 36 _ _ _) (by decide)))⟩
  refine h.same rfl (fun k hk => by rw [jset_k (by omega), jset_k (by omega), jset_k (by omega)]) (by simp (disch := omega) only [jset_at, jset_bk, jset_bj, jsN_at, jsN_no, jsN_I, jsI_N, jsI_T, jsI_at, jsI_no1, jsI_no2, jsT_N, jsT_I]) (by simp (disch := omega) only [jset_at, jset_bk, jset_bj, jsN_at, jsN_no, jsN_I, jsI_N, jsI_T, jsI_at, jsI_no1, jsI_no2, jsT_N, jsT_I]) rfl rfl rfl rfl ?_ h.2.2.2.1 (by simp (disch := omega) only [jset_at, jset_bk, jset_bj, jsN_at, jsN_no, jsN_I, jsI_N, jsI_T, jsI_at, jsI_no1, jsI_no2, jsT_N, jsT_I]; exact h.2.2.2.2.1.1) h.2.2.2.2.1.2 (fun j hj => ?_)
  · obtain ⟨⟨a0, a1, a2, a3, a4, a5⟩, b, c1, e, f, g, i⟩ := h.2.2.1
    refine ⟨⟨by simp (disch := omega) only [jset_at, jset_bk, jset_bj, jsN_at, jsN_no, jsN_I, jsI_N, jsI_T, jsI_at, jsI_no1, jsI_no2, jsT_N, jsT_I]; exact a0, by simp (disch := omega) only [jset_at, jset_bk, jset_bj, jsN_at, jsN_no, jsN_I, jsI_N, jsI_T, jsI_at, jsI_no1, jsI_no2, jsT_N, jsT_I]; exact a1, by simp (disch := omega) only [jset_at, jset_bk, jset_bj, jsN_at, jsN_no, jsN_I, jsI_N, jsI_T, jsI_at, jsI_no1, jsI_no2, jsT_N, jsT_I]; exact a2, by simp (disch := omega) only [jset_at, jset_bk, jset_bj, jsN_at, jsN_no, jsN_I, jsI_N, jsI_T, jsI_at, jsI_no1, jsI_no2, jsT_N, jsT_I]; exact a3, by simp (disch := omega) only [jset_at, jset_bk, jset_bj, jsN_at, jsN_no, jsN_I, jsI_N, jsI_T, jsI_at, jsI_no1, jsI_no2, jsT_N, jsT_I]; exact a4, by simp (disch := omega) only [jset_at, jset_bk, jset_bj, jsN_at, jsN_no, jsN_I, jsI_N, jsI_T, jsI_at, jsI_no1, jsI_no2, jsT_N, jsT_I]; exact a5⟩, fun j hj => by simp (disch := omega) only [jset_at, jset_bk, jset_bj, jsN_at, jsN_no, jsN_I, jsI_N, jsI_T, jsI_at, jsI_no1, jsI_no2, jsT_N, jsT_I]; exact b j hj, fun j hj => by simp (disch := omega) only [jset_at, jset_bk, jset_bj, jsN_at, jsN_no, jsN_I, jsI_N, jsI_T, jsI_at, jsI_no1, jsI_no2, jsT_N, jsT_I]; exact c1 j hj, fun c2 hc2 => ⟨by simp (disch := omega) only [jset_at, jset_bk, jset_bj, jsN_at, jsN_no, jsN_I, jsI_N, jsI_T, jsI_at, jsI_no1, jsI_no2, jsT_N, jsT_I]; exact (e c2 hc2).1, fun p hp => by simp (disch := omega) only [jset_at, jset_bk, jset_bj, jsN_at, jsN_no, jsN_I, jsI_N, jsI_T, jsI_at, jsI_no1, jsI_no2, jsT_N, jsT_I]; exact (e c2 hc2).2 p hp⟩, fun j hj => by simp (disch := omega) only [jset_at, jset_bk, jset_bj, jsN_at, jsN_no, jsN_I, jsI_N, jsI_T, jsI_at, jsI_no1, jsI_no2, jsT_N, jsT_I]; exact f j hj, fun j hj => by simp (disch := omega) only [jset_at, jset_bk, jset_bj, jsN_at, jsN_no, jsN_I, jsI_N, jsI_T, jsI_at, jsI_no1, jsI_no2, jsT_N, jsT_I]; exact g j hj, fun j hj => ?_⟩
    have e39 : (jset (jset (jset w 35 (w.2.2 7 4) (L.1.1 5) x) 36 (w.2.2 7 4) (L.1.1 5) y) 37 (w.2.2 7 4) (L.1.1 5) z).1 39 (w.2.2 7 4) = w.1 39 (w.2.2 7 4) := by rw [jset_k (by decide), jset_k (by decide), jset_k (by decide)]
    have e40 : (jset (jset (jset w 35 (w.2.2 7 4) (L.1.1 5) x) 36 (w.2.2 7 4) (L.1.1 5) y) 37 (w.2.2 7 4) (L.1.1 5) z).1 40 (w.2.2 7 4) = w.1 40 (w.2.2 7 4) := by rw [jset_k (by decide), jset_k (by decide), jset_k (by decide)]
    rw [e39, e40]
    simp (disch := omega) only [jset_at, jset_bk, jset_bj, jsN_at, jsN_no, jsN_I, jsI_N, jsI_T, jsI_at, jsI_no1, jsI_no2, jsT_N, jsT_I]; exact i j hj
  · obtain ⟨e2, q1, q2⟩ := h.2.2.2.2.2 j hj
    exact ⟨e2, q1, by simp (disch := omega) only [jset_at, jset_bk, jset_bj, jsN_at, jsN_no, jsN_I, jsI_N, jsI_T, jsI_at, jsI_no1, jsI_no2, jsT_N, jsT_I]; exact q2⟩
/-- an order is begun, where no fault was found: what of it is told -/
def jBg (L : JLn) (w : JW) (er : JEr) (s : Nat) (x : Int32) (t : Nat) : Prop := er.1 = 0 → w.1 35 (w.2.2 7 4) (L.1.1 5) = x ∧ w.1 36 (w.2.2 7 4) (L.1.1 5) = nI t ∧ w.1 37 (w.2.2 7 4) (L.1.1 5) = nI s
theorem jBg.kept {L : JLn} {w w2 : JW} {er er2 : JEr} {s : Nat} {x : Int32} {t : Nat} (h : jBg L w er s x t) (ho : w2.2 = w.2) (hk : ∀ k, 35 ≤ k → k ≤ 37 → w2.1 k (w.2.2 7 4) = w.1 k (w.2.2 7 4)) (he : er2.1 = 0 → er.1 = 0) : jBg L w2 er2 s x t := by
  intro z
  have e : w2.2.2 7 4 = w.2.2 7 4 := by rw [ho]
  obtain ⟨h1, h2, h3⟩ := h (he z)
  rw [e, hk 35 (by decide) (by decide), hk 36 (by decide) (by decide), hk 37 (by decide) (by decide)]
  exact ⟨h1, h2, h3⟩
theorem l_beginOrder {T : JTk} {L : JLn} {w : JW} {n : Nat} {er : JEr} {s : Nat} (h0 : jLI T L w n er s) {x y : Int32} {t : Nat} (h16 : er.1 = 0 → L.1.1 5 < 16) (hy : er.1 = 0 → y = nI t) : jSV MX5_beginOrder 2 [jR 7 false, jI x, jI y] w (fun w1 => jLI T L w1 n er s ∧ jLF w w1 ∧ jBg L w1 er s x t) := by
  refine jSV_of jp_X5_beginOrder rfl (Nat.le_of_ble_eq_true rfl) (fun C hm => ?_)
  refine bk_X5_beginOrder_0 hm (fun z => bk_X5_beginOrder_19 hm ⟨rfl, h0, jLF.refl w, fun q => absurd (h0.fault.mpr q) z⟩) (fun z => ?_)
  have z0 := h0.fault.mp z
  obtain ⟨b1, b2⟩ := h0.beg x y (w.1 34 (w.2.2 7 4) 7)
  refine bk_X5_beginOrder_7 hm (c_beginOrder w _ h0.ord6 (h16 z0) _ _) (by decide) (bk_X5_beginOrder_19 hm ⟨rfl, b1, b2, fun _ => ⟨?_, ?_, ?_⟩⟩)
  · show (jset _ 37 (w.2.2 7 4) _ _).1 35 (w.2.2 7 4) _ = _
    simp (disch := omega) only [jset_at, jset_bk, jset_bj, jsN_at, jsN_no, jsN_I, jsI_N, jsI_T, jsI_at, jsI_no1, jsI_no2, jsT_N, jsT_I]
  · show (jset _ 37 (w.2.2 7 4) _ _).1 36 (w.2.2 7 4) _ = _
    simp (disch := omega) only [jset_at, jset_bk, jset_bj, jsN_at, jsN_no, jsN_I, jsI_N, jsI_T, jsI_at, jsI_no1, jsI_no2, jsT_N, jsT_I]
    exact hy z0
  · show (jset _ 37 (w.2.2 7 4) _ _).1 37 (w.2.2 7 4) _ = _
    simp (disch := omega) only [jset_at, jset_bk, jset_bj, jsN_at, jsN_no, jsN_I, jsI_N, jsI_T, jsI_at, jsI_no1, jsI_no2, jsT_N, jsT_I]
    exact h0.2.2.2.2.1.1
theorem l_endOrder {T : JTk} {L : JLn} {w : JW} {n : Nat} {er : JEr} {s2 : Nat} (h2 : jLI T L w n er s2) {x : Int32} {t a : Nat} {f : (Nat → Int32) → Bool} (h16 : er.1 = 0 → L.1.1 5 < 16) (hc : jBg L w er a x t) (hae : a ≤ s2) (hx : er.1 = 0 → (x = 15 ∧ t < L.1.1 0) ∨ (x = 16 ∧ t < L.1.1 1))
    (hr : er.1 = 0 → (a = s2 ∧ ∀ R, f R = true) ∨ (a ≠ s2 ∧ ∀ R, ∃ v S, jrunS (w.1 39 (w.2.2 7 4)) (w.1 40 (w.2.2 7 4)) (jrd R) (s2 - a) a [] = some (v :: S) ∧ f R = decide (v ≠ 0))) :
    jSV MX5_endOrder 2 [jR 7 false] w (fun w2 => jLI T (if er.1 = 0 then jaOrd L x t f else L) w2 n er s2 ∧ jLF w w2) := by
  refine jSV_of jp_X5_endOrder rfl (Nat.le_of_ble_eq_true rfl) (fun C hm => ?_)
  refine bk_X5_endOrder_0 hm (fun z => bk_X5_endOrder_17 hm ⟨rfl, ?_⟩) (fun z => ?_)
  · rw [if_neg (fun q => z (h2.fault.mpr q))]
    exact ⟨h2, jLF.refl w⟩
  · have z2 := h2.fault.mp z
    obtain ⟨k1, k2, k3⟩ := hc z2
    refine bk_X5_endOrder_7 hm (c_endOrder w _ h2.ord6 (h16 z2)) (by decide) (bk_X5_endOrder_17 hm ⟨rfl, ?_⟩)
    rw [if_pos z2]
    exact ⟨h2.ord (h16 z2) (a := a) k1 k2 k3 hae (hx z2) (hr z2), (jLF_set (by decide)).trans (jLF_set (w := jset w 38 _ _ _) (by decide))⟩
/-- behind an order's test -/
def jTs (T : JTk) (L : JLn) (w : JW) (s : Nat) (res : JXR) (r : Int32) (w2 : JW) : Prop := match res with
  | .inl f => r = 0 ∧ w2.1 7 false 5 = nI f ∧ jLF w w2
  | .inr q => r = 1 ∧ jLF w w2 ∧ ∃ s2, s ≤ s2 ∧ jLI T L w2 q.1 q.2.1 s2 ∧ (∀ k, 35 ≤ k → k ≤ 37 → w2.1 k (w.2.2 7 4) = w.1 k (w.2.2 7 4)) ∧ (q.2.1.1 = 0 → s ≠ s2 ∧ ∀ R, ∃ v S, jrunS (w2.1 39 (w2.2.2 7 4)) (w2.1 40 (w2.2.2 7 4)) (jrd R) (s2 - s) s [] = some (v :: S) ∧ decide (¬ q.2.2 R = 0) = decide (v ≠ 0))
theorem jTs_of {T : JTk} {L : JLn} {w : JW} {n : Nat} {er : JEr} {s : Nat} {r : Int32} {w2 : JW} (h1 : jLI T L w n er s) (h : jEP T (jNc L) (jNp L) w n er s (jxTest T L n er) r w2) : jTs T L w s (jxTest T L n er) r w2 ∧ ∀ q, jxTest T L n er = .inr q → q.2.1.1 = 0 → er.1 = 0 := by
  unfold jTs
  revert h
  cases hr : jxTest T L n er with
  | inl f =>
    rintro ⟨rfl, e5, hf⟩
    exact ⟨⟨rfl, e5, hf.LF⟩, fun q e => by cases e⟩
  | inr q =>
    rintro ⟨rfl, g1, g2, g3, s2, g4, g5, g6, g7, g8⟩
    have hsn := h1.2.2.2.2.1.2
    have hl : jLI T L w2 q.1 q.2.1 s2 := h1.ef g2 g1 g4 g5 (by omega) g7
    have eo : w2.2.2 7 4 = w.2.2 7 4 := by rw [g2.1]
    refine ⟨⟨rfl, g2.LF, s2, g5, hl, fun k k1 k2 => g2.2.1 k _ (by omega) (fun z => by omega), fun z2 => ?_⟩, fun q2 e z => by cases e; exact (g8 z).1⟩
    obtain ⟨z0, cd⟩ := g8 z2
    refine ⟨fun e => ?_, fun R => ⟨q.2.2 R, [], cd R [], rfl⟩⟩
    have c := cd (fun _ => 0) []
    rw [e, Nat.sub_self] at c
    cases c
theorem l_blameOrd {T : JTk} {L : JLn} {w : JW} {n : Nat} {er : JEr} {s : Nat} (h : jLI T L w n er s) : jSV MX5_blameOrderTooMany 1 [jR 7 false] w (fun w2 => jLI T L w2 n (if L.1.1 5 < 16 then er else jbl er 4 n) s ∧ jNF w w2) := by
  refine jSV_of jp_X5_blameOrderTooMany rfl (Nat.le_of_ble_eq_true rfl) (fun C hm => ?_)
  have hW := h.2.2.2.1.1
  refine bk_X5_blameOrderTooMany_0 hm (fun q => bk_X5_blameOrderTooMany_20 hm ⟨rfl, ?_⟩) (fun q => bq_X5_blameOrderTooMany_15 hm (l_blame h (c := 4) (by decide)) (by decide) (fun w2 hp => bk_X5_blameOrderTooMany_20 hm ⟨rfl, ?_⟩))
  · rw [h.ord6] at q
    rw [if_pos ((nI_ltI (b := 16) (by omega) (by omega)).mp q)]
    exact ⟨h, jNF.refl w⟩
  · rw [h.ord6] at q
    rw [if_neg (fun z => q ((nI_ltI (b := 16) (by omega) (by omega)).mpr z))]
    exact hp
theorem jord16 {L : JLn} {er : JEr} {n : Nat} (h : (if L.1.1 5 < 16 then er else jbl er 4 n).1 = 0) : L.1.1 5 < 16 := by
  by_cases z : L.1.1 5 < 16
  · exact z
  · rw [if_neg z] at h
    exact absurd h (jbl_n0 (by decide))
theorem jnum_ok {T : JTk} {N : JNm} {t : Nat} (h12 : N.2 ≤ 12) (h : ¬ jnum T N t < 0) : jnum T N t = nI (jfi T N t) ∧ jfi T N t < N.2 := by
  have k : jfi T N t < N.2 := Classical.not_not.mp (fun q => h ((jnum_neg h12).1.mpr q))
  exact ⟨by rw [jnum_fi, if_pos k], k⟩
theorem jLP_01 {T : JTk} {w w2 : JW} {res : JLR} {r : Int32} (h : jLP T w res r w2) : r = 0 ∨ r = 1 := by
  cases res with
  | inl f => exact Or.inl h.1
  | inr q => exact Or.inr h.1
theorem jLP.pre {T : JTk} {w w1 w2 : JW} {res : JLR} {r : Int32} (hf : jLF w w1) (h : jLP T w1 res r w2) : jLP T w res r w2 := by
  cases res with
  | inl f => exact ⟨h.1, h.2.1, hf.trans h.2.2⟩
  | inr q => exact ⟨h.1, hf.trans h.2.1, h.2.2⟩
theorem l_shutLine {T : JTk} {L : JLn} {w : JW} {n : Nat} {er : JEr} {s : Nat} (hh : jLI T L w n er s) : jSI MX5_shutLine 47 [jR 7 false] w (jLP T w (jlShut T L n er)) := by
  refine jSI_of jp_X5_shutLine rfl (Nat.le_of_ble_eq_true rfl) (fun C hm => ?_)
  refine bq_X5_shutLine_0 hm (l_blameOrd hh) (by decide) (fun w0 hp => ?_)
  obtain ⟨h0, f0⟩ := hp
  have F0 := f0.LF
  have h16 : (if L.1.1 5 < 16 then er else jbl er 4 n).1 = 0 → L.1.1 5 < 16 := jord16
  unfold jlShut
  revert h0 h16
  generalize (if L.1.1 5 < 16 then er else jbl er 4 n) = er0
  intro h0 h16
  rw [hh.1.1.1]
  refine bq_X5_shutLine_9 hm (l_take h0 15 (by decide) (by decide)) (by decide) (fun r w1 q => ?_)
  rcases q with ⟨er1, e0, rfl, h1, f1⟩ | ⟨e0, rfl, rfl⟩
  rotate_left
  · refine bk_X5_shutLine_15 hm (fun _ => bk_X5_shutLine_45 hm ⟨0, rfl, ?_⟩) (fun z => absurd rfl z)
    simp only [jpSq, e0]
    exact ⟨rfl, h0.1.1.1, F0⟩
  refine bk_X5_shutLine_15 hm (fun z => absurd z (by decide)) (fun _ => ?_)
  have F1 := F0.trans f1.LF
  refine bq_X5_shutLine_18 hm (l_known h1 (h1.cN (Or.inl ⟨rfl, rfl, rfl⟩)).1 h1.org9) (by decide) (fun r w2 q => ?_)
  rcases q with ⟨er2, e1, rfl, h2, f2⟩ | ⟨e1, rfl, rfl⟩
  rotate_left
  · refine bk_X5_shutLine_33 hm (fun _ => bk_X5_shutLine_45 hm ⟨0, rfl, ?_⟩) (fun z => absurd rfl z)
    simp only [jpSq, e0, e1]
    exact ⟨rfl, h1.1.1.1, F1⟩
  refine bk_X5_shutLine_33 hm (fun z => absurd z (by decide)) (fun _ => ?_)
  have F2 := F1.trans f2.LF
  refine bq_X5_shutLine_36 hm (l_take h2 17 (by decide) (by decide)) (by decide) (fun r w3 q => ?_)
  rcases q with ⟨er3, e2, rfl, h3, f3⟩ | ⟨e2, rfl, rfl⟩
  rotate_left
  · refine bk_X5_shutLine_42 hm (fun z => absurd rfl z) (fun _ => bk_X5_shutLine_45 hm ⟨0, rfl, ?_⟩)
    simp only [jpSq, e0, e1, e2]
    exact ⟨rfl, h2.1.1.1, F2⟩
  refine bk_X5_shutLine_42 hm (fun _ => ?_) (fun z => absurd z (by decide))
  have F3 := F2.trans f3.LF
  have o1 := jpO_ok e1
  have hl := h3.lt
  have hcN := (h3.cN (Or.inl ⟨rfl, rfl, rfl⟩)).1
  have zz : er3.1 = 0 → er0.1 = 0 ∧ ¬ jnum T (jNc L) (n + 1) < 0 := by
    intro z
    have z2 : er2.1 = 0 := by rw [← jpK_er e2]; exact z
    obtain ⟨z1, k⟩ := o1.2.2 z2
    exact ⟨by rw [← jpK_er e0]; exact z1, k⟩
  refine bk_X5_shutLine_47 hm (by rw [h3.org9, nI_1]; exact c_num (k := 8) h3.1 hcN (t := n + 1) (by omega) o1.1) (by decide) ?_
  refine bq_X5_shutLine_68 hm (l_beginOrder h3 (x := 15) (t := jfi T (jNc L) (n + 1)) (fun z => h16 (zz z).1) (fun z => (jnum_ok hcN.2.2.2.1 (zz z).2).1)) (by decide) (fun w4 q4 => ?_)
  obtain ⟨h4, f4, c4⟩ := q4
  have F4 := F3.trans f4
  refine bq_X5_shutLine_71 hm (c_wtest w4 _ er3 s h4.1 h4.2.2.2.2.1.1 h4.2.2.2.2.1.2) (by decide) (fun r w5 q5 => ?_)
  simp only [jpSq, e0, e1, e2]
  unfold jlOrd
  obtain ⟨q6, g6⟩ := jTs_of h4 q5
  unfold jTs at q6
  revert q6 g6
  cases hr : jxTest T L (n + 1 + 1 + 1) er3 with
  | inl f =>
    rintro ⟨rfl, e5, hf⟩ -
    exact bk_X5_shutLine_76 hm (fun z => absurd rfl z) (fun _ => bk_X5_shutLine_79 hm ⟨0, rfl, rfl, e5, F4.trans hf⟩)
  | inr q =>
    rintro ⟨rfl, hf, s2, g5, h5, hk, g7⟩ g6
    have z3 : q.2.1.1 = 0 → er3.1 = 0 := g6 q rfl
    refine bk_X5_shutLine_76 hm (fun _ => bq_X5_shutLine_81 hm (l_endOrder h5 (x := 15) (t := jfi T (jNc L) (n + 1)) (a := s) (f := fun R => decide (¬ q.2.2 R = 0)) (fun z => h16 (zz (z3 z)).1) (c4.kept hf.1 hk z3) g5 (fun z => Or.inl ⟨rfl, (jnum_ok hcN.2.2.2.1 (zz (z3 z)).2).2⟩) (fun z => Or.inr (g7 z))) (by decide) (fun w6 h6 => bk_X5_shutLine_85 hm ⟨1, rfl, rfl, (F4.trans hf).trans h6.2, s2, h6.1⟩)) (fun z => absurd z (by decide))
theorem l_cleanLine {T : JTk} {L : JLn} {w : JW} {n : Nat} {er : JEr} {s : Nat} (hh : jLI T L w n er s) : jSI MX5_cleanLine 47 [jR 7 false] w (jLP T w (jlClean T L n er)) := by
  refine jSI_of jp_X5_cleanLine rfl (Nat.le_of_ble_eq_true rfl) (fun C hm => ?_)
  refine bq_X5_cleanLine_0 hm (l_blameOrd hh) (by decide) (fun w0 hp => ?_)
  obtain ⟨h0, f0⟩ := hp
  have F0 := f0.LF
  have h16 : (if L.1.1 5 < 16 then er else jbl er 4 n).1 = 0 → L.1.1 5 < 16 := jord16
  unfold jlClean
  revert h0 h16
  generalize (if L.1.1 5 < 16 then er else jbl er 4 n) = er0
  intro h0 h16
  rw [hh.1.1.1]
  refine bq_X5_cleanLine_9 hm (l_take h0 16 (by decide) (by decide)) (by decide) (fun r w1 q => ?_)
  rcases q with ⟨er1, e0, rfl, h1, f1⟩ | ⟨e0, rfl, rfl⟩
  rotate_left
  · refine bk_X5_cleanLine_15 hm (fun _ => bk_X5_cleanLine_36 hm ⟨0, rfl, ?_⟩) (fun z => absurd rfl z)
    simp only [jpSq, e0]
    exact ⟨rfl, h0.1.1.1, F0⟩
  refine bk_X5_cleanLine_15 hm (fun z => absurd z (by decide)) (fun _ => ?_)
  have F1 := F0.trans f1.LF
  refine bq_X5_cleanLine_18 hm (l_known h1 (h1.cN (Or.inr (Or.inl ⟨rfl, rfl, rfl⟩))).1 h1.org10) (by decide) (fun r w2 q => ?_)
  rcases q with ⟨er2, e1, rfl, h2, f2⟩ | ⟨e1, rfl, rfl⟩
  rotate_left
  · refine bk_X5_cleanLine_33 hm (fun z => absurd rfl z) (fun _ => bk_X5_cleanLine_36 hm ⟨0, rfl, ?_⟩)
    simp only [jpSq, e0, e1]
    exact ⟨rfl, h1.1.1.1, F1⟩
  refine bk_X5_cleanLine_33 hm (fun _ => ?_) (fun z => absurd z (by decide))
  have F2 := F1.trans f2.LF
  have o1 := jpO_ok e1
  have hl := h2.lt
  have hcN := (h2.cN (Or.inr (Or.inl ⟨rfl, rfl, rfl⟩))).1
  have zz : er2.1 = 0 → er0.1 = 0 ∧ ¬ jnum T (jNp L) (n + 1) < 0 := by
    intro z
    obtain ⟨z1, k⟩ := o1.2.2 z
    exact ⟨by rw [← jpK_er e0]; exact z1, k⟩
  refine bk_X5_cleanLine_38 hm (by rw [h2.org10, nI_1]; exact c_num (k := 9) h2.1 hcN (t := n + 1) (by omega) o1.1) (by decide) ?_
  refine bq_X5_cleanLine_59 hm (l_beginOrder h2 (x := 16) (t := jfi T (jNp L) (n + 1)) (fun z => h16 (zz z).1) (fun z => (jnum_ok hcN.2.2.2.1 (zz z).2).1)) (by decide) (fun w3 q3 => ?_)
  obtain ⟨h3, f3, c3⟩ := q3
  have F3 := F2.trans f3
  have hx : er2.1 = 0 → ((16 : Int32) = 15 ∧ jfi T (jNp L) (n + 1) < L.1.1 0) ∨ ((16 : Int32) = 16 ∧ jfi T (jNp L) (n + 1) < L.1.1 1) := fun z => Or.inr ⟨rfl, (jnum_ok hcN.2.2.2.1 (zz z).2).2⟩
  refine bq_X5_cleanLine_62 hm (l_take h3 17 (by decide) (by decide)) (by decide) (fun r w4 q => ?_)
  simp only [jpSq, e0, e1]
  rcases q with ⟨er3, e2, rfl, h4, f4⟩ | ⟨e2, rfl, rfl⟩
  · have e32 : er3 = er2 := jpK_er e2
    subst e32
    rw [if_pos (jpK_ok e2).1]
    have F4 := F3.trans f4.LF
    have c4 : jBg L w4 er3 s 16 (jfi T (jNp L) (n + 1)) := c3.kept f4.1 (fun k k1 k2 => f4.2 k _ (by omega)) id
    refine bk_X5_cleanLine_68 hm (fun z => absurd z (by decide)) (fun _ => ?_)
    refine bq_X5_cleanLine_71 hm (c_wtest w4 _ er3 s h4.1 h4.2.2.2.2.1.1 h4.2.2.2.2.1.2) (by decide) (fun r w5 q5 => ?_)
    unfold jlOrd
    obtain ⟨q6, g6⟩ := jTs_of h4 q5
    unfold jTs at q6
    revert q6 g6
    cases hr : jxTest T L (n + 1 + 1 + 1) er3 with
    | inl f =>
      rintro ⟨rfl, e5, hf⟩ -
      exact bk_X5_cleanLine_76 hm (fun z => absurd rfl z) (fun _ => bk_X5_cleanLine_79 hm ⟨0, rfl, rfl, e5, F4.trans hf⟩)
    | inr q =>
      rintro ⟨rfl, hf, s2, g5, h5, hk, g7⟩ g6
      have z3 : q.2.1.1 = 0 → er3.1 = 0 := g6 q rfl
      refine bk_X5_cleanLine_76 hm (fun _ => bq_X5_cleanLine_81 hm (l_endOrder h5 (x := 16) (t := jfi T (jNp L) (n + 1)) (a := s) (f := fun R => decide (¬ q.2.2 R = 0)) (fun z => h16 (zz (z3 z)).1) (c4.kept hf.1 hk z3) g5 (fun z => hx (z3 z)) (fun z => Or.inr (g7 z))) (by decide) (fun w6 h6 => bk_X5_cleanLine_85 hm ⟨1, rfl, rfl, (F4.trans hf).trans h6.2, s2, h6.1⟩)) (fun z => absurd z (by decide))
  · have k17 : ¬ T.1 (n + 1 + 1) = 17 := fun z => by
      unfold jpK at e2
      rw [if_pos z] at e2
      cases e2
    rw [if_neg k17]
    refine bk_X5_cleanLine_68 hm (fun _ => bq_X5_cleanLine_81 hm (l_endOrder h3 (x := 16) (t := jfi T (jNp L) (n + 1)) (a := s) (f := fun _ => true) (fun z => h16 (zz z).1) c3 (Nat.le_refl s) hx (fun _ => Or.inl ⟨rfl, fun _ => rfl⟩)) (by decide) (fun w6 h6 => bk_X5_cleanLine_85 hm ⟨1, rfl, rfl, F3.trans h6.2, s, h6.1⟩)) (fun z => absurd rfl z)
theorem l_line {T : JTk} {L : JLn} {w : JW} {n : Nat} {er : JEr} {s : Nat} (h : jLI T L w n er s) : jSI MX5_line 48 [jR 7 false] w (jLP T w (jlLine T L n er)) := by
  refine jSI_of jp_X5_line rfl (Nat.le_of_ble_eq_true rfl) (fun C hm => ?_)
  refine bk_X5_line_0 hm (c_kind h.1) (by decide) ?_
  unfold jlLine
  refine bk_X5_line_4 hm (fun a => ?_) (fun a => ?_) (fun a => ?_) (fun a => ?_) (fun a => ?_) (fun a => ?_) (fun a => ?_) (fun a0 a1 a2 a3 a4 a5 a6 => ?_)
  · rw [if_pos a]
    exact bq_X5_line_88 hm (l_caveLine h) (by decide) (fun r w2 q => bk_X5_line_92 hm (i32_01 r (jLP_01 q)) ⟨r, rfl, q⟩)
  · rw [if_neg (by rw [a]; decide), if_pos a]
    exact bq_X5_line_93 hm (l_pipeLine h) (by decide) (fun r w2 q => bk_X5_line_97 hm (i32_01 r (jLP_01 q)) ⟨r, rfl, q⟩)
  · rw [if_neg (by rw [a]; decide), if_neg (by rw [a]; decide), if_pos a]
    exact bq_X5_line_98 hm (l_swellLine h) (by decide) (fun r w2 q => bk_X5_line_102 hm (i32_01 r (jLP_01 q)) ⟨r, rfl, q⟩)
  · rw [if_neg (by rw [a]; decide), if_neg (by rw [a]; decide), if_neg (by rw [a]; decide), if_pos a]
    exact bq_X5_line_103 hm (l_silenceLine h) (by decide) (fun r w2 q => bk_X5_line_107 hm (i32_01 r (jLP_01 q)) ⟨r, rfl, q⟩)
  · rw [if_neg (by rw [a]; decide), if_neg (by rw [a]; decide), if_neg (by rw [a]; decide), if_neg (by rw [a]; decide), if_pos a]
    exact bq_X5_line_108 hm (l_chordLine h) (by decide) (fun r w2 q => bk_X5_line_112 hm (i32_01 r (jLP_01 q)) ⟨r, rfl, q⟩)
  · rw [if_neg (by rw [a]; decide), if_neg (by rw [a]; decide), if_neg (by rw [a]; decide), if_neg (by rw [a]; decide), if_neg (by rw [a]; decide), if_pos a]
    exact bq_X5_line_113 hm (l_shutLine h) (by decide) (fun r w2 q => bk_X5_line_117 hm (i32_01 r (jLP_01 q)) ⟨r, rfl, q⟩)
  · rw [if_neg (by rw [a]; decide), if_neg (by rw [a]; decide), if_neg (by rw [a]; decide), if_neg (by rw [a]; decide), if_neg (by rw [a]; decide), if_neg (by rw [a]; decide), if_pos a]
    exact bq_X5_line_118 hm (l_cleanLine h) (by decide) (fun r w2 q => bk_X5_line_122 hm (i32_01 r (jLP_01 q)) ⟨r, rfl, q⟩)
  · rw [if_neg a0, if_neg a1, if_neg a2, if_neg a3, if_neg a4, if_neg a5, if_neg a6]
    exact bk_X5_line_123 hm ⟨0, rfl, rfl, h.1.1.1, jLF.refl w⟩
theorem c_orgBegin (w : JW) (o : Bool) : jF MX3_begin 1 [jR 20 o] w jU (jset (jset (jset (jset (jset (jset (jset w 20 o 9 0) 20 o 10 0) 20 o 11 0) 28 o 5 0) 28 o 6 0) 34 o 6 0) 34 o 7 0) := by
  refine jF_of jp_X3_begin rfl (Nat.le_of_ble_eq_true rfl) (fun C hm => ?_)
  refine bk_X3_begin_0 hm (d2 := 0) (w2 := jset (jset (jset (jset (jset w 20 o 9 0) 20 o 10 0) 20 o 11 0) 28 o 5 0) 28 o 6 0) ?_ (by decide) (bk_X3_begin_22 hm (d2 := 0) (w2 := jset (jset (jset (jset (jset (jset (jset w 20 o 9 0) 20 o 10 0) 20 o 11 0) 28 o 5 0) 28 o 6 0) 34 o 6 0) 34 o 7 0) ?_ (by decide) (bk_X3_begin_29 hm ⟨rfl, rfl⟩))
  · refine jF_of jp_X8_begin rfl (Nat.le_of_ble_eq_true rfl) (fun C hm => ?_)
    exact bk_X8_begin_0 hm ⟨rfl, rfl⟩
  · refine jF_of jp_X2_begin rfl (Nat.le_of_ble_eq_true rfl) (fun C hm => ?_)
    exact bk_X2_begin_0 hm ⟨rfl, rfl⟩
theorem jWF0 : jWF jD0 := ⟨⟨by decide, by decide, by decide, by decide, by decide, by decide⟩, fun j h => absurd h (Nat.not_lt_zero j), fun j h => absurd h (Nat.not_lt_zero j), fun j h => absurd h (Nat.not_lt_zero j), fun j h => absurd h (Nat.not_lt_zero j), fun j h => absurd h (Nat.not_lt_zero j)⟩
theorem jLI_0 {T : JTk} {w : JW} (hT : jTK T w) (h7 : w.1 7 false 5 = 0 ∧ w.1 7 false 6 = 0) (h20 : w.1 20 (w.2.2 7 4) 9 = 0 ∧ w.1 20 (w.2.2 7 4) 10 = 0 ∧ w.1 20 (w.2.2 7 4) 11 = 0) (h28 : w.1 28 (w.2.2 7 4) 5 = 0 ∧ w.1 28 (w.2.2 7 4) 6 = 0) (h34 : w.1 34 (w.2.2 7 4) 6 = 0 ∧ w.1 34 (w.2.2 7 4) 7 = 0) : jLI T jL0 w 0 (0, 0) 0 := by
  exact ⟨⟨⟨h7.1, Nat.zero_le _⟩, ⟨h7.2, by decide, fun q => absurd rfl q⟩, hT, ⟨by decide, h20.1, fun j h => absurd h (Nat.not_lt_zero j), fun j h => absurd h (Nat.not_lt_zero j)⟩, ⟨by decide, h20.2.1, fun j h => absurd h (Nat.not_lt_zero j), fun j h => absurd h (Nat.not_lt_zero j)⟩⟩, ⟨fun j h => absurd h (Nat.not_lt_zero j), fun j h => absurd h (Nat.not_lt_zero j)⟩,
    ⟨⟨h20.1, h20.2.1, h20.2.2, h28.1, h28.2, h34.1⟩, fun j h => absurd h (Nat.not_lt_zero j), fun j h => absurd h (Nat.not_lt_zero j), fun j h => absurd h (Nat.not_lt_zero j), fun j h => absurd h (Nat.not_lt_zero j), fun j h => absurd h (Nat.not_lt_zero j), fun j h => absurd h (Nat.not_lt_zero j)⟩, jWF0, ⟨h34.2, Nat.le_refl 0⟩, fun j h => absurd h (Nat.not_lt_zero j)⟩
/-- how the reading of a list ends -/
def jRP (T : JTk) (w : JW) (res : Nat ⊕ (JEr × JLn)) (r : Int32) (w2 : JW) : Prop := jLF w w2 ∧ match res with
  | .inl f => r = 1 ∧ w2.1 7 false 7 = nI f
  | .inr q => r = nI q.1.1 ∧ q.1.1 ≤ 5 ∧ (¬ q.1.1 = 0 → w2.1 7 false 7 = nI q.1.2) ∧ (q.1.1 = 0 → jOrg w2 (w2.2.2 7 4) q.2.1 ∧ jWF q.2.1)
theorem l_read {T : JTk} {w : JW} (hT : jTK T w) : jSI MX5_read 49 [jR 7 false] w (jRP T w (jlAll T 400 0 (0, 0) jL0)) := by
  refine jSI_of jp_X5_read rfl (Nat.le_of_ble_eq_true rfl) (fun C hm => ?_)
  refine bk_X5_read_0 hm (c_orgBegin w (w.2.2 7 4)) (by decide) (bk_X5_read_7 hm ?_)
  have F0 : jLF w (jset (jset (jset (jset (jset (jset (jset (jset (jset w 20 (w.2.2 7 4) 9 0) 20 (w.2.2 7 4) 10 0) 20 (w.2.2 7 4) 11 0) 28 (w.2.2 7 4) 5 0) 28 (w.2.2 7 4) 6 0) 34 (w.2.2 7 4) 6 0) 34 (w.2.2 7 4) 7 0) 7 false 5 0) 7 false 6 0) := by
    refine ⟨rfl, fun k b hk hb => ?_⟩
    rw [jset_k (by omega), jset_k (by omega)]
    funext j
    by_cases z : b = w.2.2 7 4
    · have hk2 : ¬ (20 ≤ k ∧ k ≤ 40) := fun q => hb ⟨z, q⟩
      rw [jset_bk (by omega), jset_bk (by omega), jset_bk (by omega), jset_bk (by omega), jset_bk (by omega), jset_bk (by omega), jset_bk (by omega)]
    · rw [jset_b (Or.inr (Or.inl z)), jset_b (Or.inr (Or.inl z)), jset_b (Or.inr (Or.inl z)), jset_b (Or.inr (Or.inl z)), jset_b (Or.inr (Or.inl z)), jset_b (Or.inr (Or.inl z)), jset_b (Or.inr (Or.inl z))]
  have h0 : jLI T jL0 (jset (jset (jset (jset (jset (jset (jset (jset (jset w 20 (w.2.2 7 4) 9 0) 20 (w.2.2 7 4) 10 0) 20 (w.2.2 7 4) 11 0) 28 (w.2.2 7 4) 5 0) 28 (w.2.2 7 4) 6 0) 34 (w.2.2 7 4) 6 0) 34 (w.2.2 7 4) 7 0) 7 false 5 0) 7 false 6 0) 0 (0, 0) 0 := by
    refine jLI_0 (hT.kept (by rw [jset_k (by decide), jset_k (by decide), jset_k (by decide), jset_k (by decide), jset_k (by decide), jset_k (by decide), jset_k (by decide), jset_k (by decide), jset_k (by decide)]) rfl) ⟨by simp (disch := omega) only [jset_at, jset_bk, jset_bj, jsN_at, jsN_no, jsN_I, jsI_N, jsI_T, jsI_at, jsI_no1, jsI_no2, jsT_N, jsT_I], by simp (disch := omega) only [jset_at, jset_bk, jset_bj, jsN_at, jsN_no, jsN_I, jsI_N, jsI_T, jsI_at, jsI_no1, jsI_no2, jsT_N, jsT_I]⟩ ⟨?_, ?_, ?_⟩ ⟨?_, ?_⟩ ⟨?_, ?_⟩
    all_goals
      simp only [jset_L]
      simp (disch := omega) only [jset_at, jset_bk, jset_bj, jsN_at, jsN_no, jsN_I, jsI_N, jsI_T, jsI_at, jsI_no1, jsI_no2, jsT_N, jsT_I]
  revert F0 h0
  generalize (jset (jset (jset (jset (jset (jset (jset (jset (jset w 20 (w.2.2 7 4) 9 0) 20 (w.2.2 7 4) 10 0) 20 (w.2.2 7 4) 11 0) 28 (w.2.2 7 4) 5 0) 28 (w.2.2 7 4) 6 0) 34 (w.2.2 7 4) 6 0) 34 (w.2.2 7 4) 7 0) 7 false 5 0) 7 false 6 0) = w0
  intro F0 h0
  -- where the tokens don't fit
  have bad : ∀ (w1 : JW) (f : Nat), jLF w w1 → w1.1 7 false 5 = nI f → jW C 0 0 (jQQ C 0 0 (fun v w' => ∃ r, v = jI r ∧ jRP T w (.inl f) r w')) 82 [jR 7 false, jU, jU] [] w1 := by
    intro w1 f F1 e5
    refine bk_X5_read_82 hm (bk_X5_read_95 hm ⟨_, rfl, F1.trans (jNF_set.trans jNF_set).LF, ?_, ?_⟩)
    · rw [jset_bj (by decide), jset_at]
    · rw [jset_at, jset_bj (by decide)]
      exact e5
  have good : ∀ (w1 : JW) (n : Nat) (er : JEr) (L : JLn) (s : Nat), jLI T L w1 n er s → jLF w w1 → jW C 0 0 (jQQ C 0 0 (fun v w' => ∃ r, v = jI r ∧ jRP T w (.inr (er, L)) r w')) 95 [jR 7 false, jU, jU] [] w1 := by
    intro w1 n er L s h1 F1
    exact bk_X5_read_95 hm ⟨_, rfl, F1, h1.1.2.1.1, h1.1.2.1.2.1, h1.1.2.1.2.2, fun _ => ⟨h1.2.2.1, h1.2.2.2.1⟩⟩
  have key : ∀ (k c : Nat), c + k = 400 → ∀ (w1 : JW) (n : Nat) (er : JEr) (L : JLn) (s : Nat), jLI T L w1 n er s → jLF w w1 → jW C 0 0 (jQQ C 0 0 (fun v w' => ∃ r, v = jI r ∧ jRP T w (jlAll T k n er L) r w')) 21 [jR 7 false, jI 1, jI (nI c)] [] w1 := by
    intro k
    induction k with
    | zero =>
      intro c hc w1 n er L s h1 F1
      refine bk_X5_read_21 hm (fun _ => bk_X5_read_69 hm (fun z => absurd z (by decide)) (fun _ => bq_X5_read_73 hm (jSI_F (c_kind h1.1)) (by decide) (fun r w2 hh => ?_))) (fun z => absurd ((nI_leI (a := 400) (by omega) (by omega)).mpr (by omega)) z)
      obtain ⟨rfl, rfl⟩ := hh
      unfold jlAll
      refine bk_X5_read_77 hm (fun z => ?_) (fun z => ?_)
      · rw [if_pos z]
        exact good _ n er L s h1 F1
      · rw [if_neg z]
        exact bad _ n F1 h1.1.1.1
    | succ k ih =>
      intro c hc w1 n er L s h1 F1
      refine bk_X5_read_21 hm (fun z => absurd ((nI_leI (a := 400) (by omega) (by omega)).mp z) (by omega)) (fun _ => bk_X5_read_28 hm (fun z => absurd z (by decide)) (fun _ => bq_X5_read_32 hm (jSI_F (c_kind h1.1)) (by decide) (fun r w2 hh => ?_)))
      obtain ⟨rfl, rfl⟩ := hh
      rw [jlAll]
      -- behind a line that doesn't fit
      have out : ∀ (w3 : JW) (f : Nat), jLF w w3 → w3.1 7 false 5 = nI f → jW C 0 0 (jQQ C 0 0 (fun v w' => ∃ r, v = jI r ∧ jRP T w (.inl f) r w')) 61 [jR 7 false, jU, jI (nI c)] [] w3 := by
        intro w3 f F3 e5
        refine bk_X5_read_61 hm (bk_X5_read_62 hm (bk_X5_read_21 hm (fun _ => ?_) (fun _ => bk_X5_read_28 hm (fun _ => ?_) (fun z => absurd rfl z))))
        · exact bk_X5_read_69 hm (fun _ => bad w3 f F3 e5) (fun z => absurd rfl z)
        · exact bk_X5_read_69 hm (fun _ => bad w3 f F3 e5) (fun z => absurd rfl z)
      refine bk_X5_read_36 hm (fun z => ?_) (fun z => ?_)
      · rw [if_pos z]
        refine bk_X5_read_69 hm (fun z => absurd z (by decide)) (fun _ => bq_X5_read_73 hm (jSI_F (c_kind h1.1)) (by decide) (fun r w3 hh => ?_))
        obtain ⟨rfl, rfl⟩ := hh
        exact bk_X5_read_77 hm (fun _ => good _ n er L s h1 F1) (fun z2 => absurd z z2)
      · rw [if_neg z]
        refine bq_X5_read_41 hm (l_line h1) (by decide) (fun r w3 q => ?_)
        revert q
        cases hr : jlLine T L n er with
        | inl f =>
          rintro ⟨rfl, e5, hf⟩
          exact bk_X5_read_45 hm (fun _ => out w3 f (F1.trans hf) e5) (fun z => absurd rfl z)
        | inr q =>
          rintro ⟨rfl, hf, s3, h3⟩
          refine bk_X5_read_45 hm (fun z => absurd z (by decide)) (fun _ => bq_X5_read_48 hm (l_take h3 36 (by decide) (by decide)) (by decide) (fun r w4 q4 => ?_))
          rcases q4 with ⟨er4, e4, rfl, h4, f4⟩ | ⟨e4, rfl, rfl⟩
          · have e43 : er4 = q.2.1 := jpK_er e4
            subst e43
            simp only [if_pos (jpK_ok e4).1]
            refine bk_X5_read_54 hm (fun z => absurd z (by decide)) (fun _ => bk_X5_read_57 hm (bk_X5_read_62 hm ?_))
            rw [nI_1]
            exact ih (c + 1) (by omega) w4 _ _ _ s3 h4 ((F1.trans hf).trans f4.LF)
          · have k36 : ¬ T.1 q.1 = 36 := fun z => by
              unfold jpK at e4
              rw [if_pos z] at e4
              cases e4
            simp only [if_neg k36]
            exact bk_X5_read_54 hm (fun _ => out _ q.1 (F1.trans hf) h3.1.1.1) (fun z => absurd rfl z)
  exact key 400 0 rfl w0 0 (0, 0) jL0 0 h0 F0
