/-! what the class's reader holds, when the draft has grown -/
theorem jCI.keep {T : JTk} {Nc Np : JNm} {w w2 : JW} {n : Nat} {er : JEr} (h : jCI T Nc Np w n er) (e2 : w2.2 = w.2) (ek : ∀ k, k < 20 → w2.1 k false = w.1 k false) (c9 : w2.1 20 (w.2.2 7 4) 9 = w.1 20 (w.2.2 7 4) 9) (c10 : w2.1 20 (w.2.2 7 4) 10 = w.1 20 (w.2.2 7 4) 10) : jCI T Nc Np w2 n er := by
  obtain ⟨c1, c2, c3, c4, c5⟩ := h
  unfold jCI
  rw [ek 7 (by decide), e2, c9, c10]
  exact ⟨c1, c2, c3.kept (ek 4 (by decide)) e2, ⟨c4.1, c4.2.1, c4.2.2.1.kept (ek 8 (by decide)), c4.2.2.2⟩, ⟨c5.1, c5.2.1, c5.2.2.1.kept (ek 9 (by decide)), c5.2.2.2⟩⟩
theorem jNM_more {T : JTk} {N : JNm} {w : JW} {k t : Nat} (h : jNM N w k) (ht : jNMt T N) (hn : w.1 k false N.2 = nI t) (hl : t < T.2.2.2) (h30 : T.1 t = 30) : jNM (updn N.1 N.2 t, N.2 + 1) w k ∧ jNMt T (updn N.1 N.2 t, N.2 + 1) := by
  refine ⟨fun j hj => ?_, fun j hj => ?_⟩
  · show _ = nI (updn N.1 N.2 t j)
    by_cases z : j = N.2
    · subst z
      rw [updn_at]
      exact hn
    · rw [updn_no z]
      have : j < N.2 + 1 := hj
      exact h j (by omega)
  · show updn N.1 N.2 t j < _ ∧ T.1 (updn N.1 N.2 t j) = 30
    by_cases z : j = N.2
    · subst z
      rw [updn_at]
      exact ⟨hl, h30⟩
    · rw [updn_no z]
      have : j < N.2 + 1 := hj
      exact ht j (by omega)
theorem jLI.cave {T : JTk} {L : JLn} {w : JW} {n : Nat} {er : JEr} {s : Nat} (h : jLI T L w n er s) (h5 : L.1.1 0 < 5) {t : Nat} (hnm : w.1 8 false (L.1.1 0) = nI t) (ht : t < T.2.2.2) (h30 : T.1 t = 30) (m : Int32) {d : Int32} (hd : ¬ d = 0) :
    jLI T (jaCave L t m d) (jset (jset (jset w 21 (w.2.2 7 4) (L.1.1 0) m) 22 (w.2.2 7 4) (L.1.1 0) d) 20 (w.2.2 7 4) 9 (nI (L.1.1 0 + 1))) n er s := by
  obtain ⟨hc, ⟨h2, h3⟩, h4, hW, ⟨h6, h7⟩, h8⟩ := h
  have ek : ∀ k, k < 20 → (jset (jset (jset w 21 (w.2.2 7 4) (L.1.1 0) m) 22 (w.2.2 7 4) (L.1.1 0) d) 20 (w.2.2 7 4) 9 (nI (L.1.1 0 + 1))).1 k false = w.1 k false := fun k hk => by rw [jset_k (by omega), jset_k (by omega), jset_k (by omega)]
  obtain ⟨c1, c2, c3, c4, c5⟩ := hc
  obtain ⟨n1, n2⟩ := jNM_more c4.2.2.1 c4.2.2.2 hnm ht h30
  have e0 : (jaCave L t m d).1.1 0 = L.1.1 0 + 1 := jsN_at
  have e1 : (jaCave L t m d).1.1 1 = L.1.1 1 := by unfold jaCave; simp (disch := omega) only [jset_at, jset_bk, jset_bj, jsN_at, jsN_no, jsN_I, jsI_N, jsI_T, jsI_at, jsI_no1, jsI_no2, jsT_N, jsT_I]
  have e2 : (jaCave L t m d).1.1 2 = L.1.1 2 := by unfold jaCave; simp (disch := omega) only [jset_at, jset_bk, jset_bj, jsN_at, jsN_no, jsN_I, jsI_N, jsI_T, jsI_at, jsI_no1, jsI_no2, jsT_N, jsT_I]
  have e5 : (jaCave L t m d).1.1 5 = L.1.1 5 := by unfold jaCave; simp (disch := omega) only [jset_at, jset_bk, jset_bj, jsN_at, jsN_no, jsN_I, jsI_N, jsI_T, jsI_at, jsI_no1, jsI_no2, jsT_N, jsT_I]
  have eN : jNc (jaCave L t m d) = (updn L.2.1 (L.1.1 0) t, L.1.1 0 + 1) := by unfold jNc; rw [e0]; rfl
  have eP : jNp (jaCave L t m d) = jNp L := by unfold jNp; rw [e1]; rfl
  have eH : jNh (jaCave L t m d) = jNh L := by unfold jNh; rw [e2]; rfl
  unfold jLI
  rw [eN, eP, eH, e5]
  refine ⟨⟨?_, ?_, c3.kept (ek 4 (by decide)) rfl, ⟨h5, ?_, n1.kept (ek 8 (by decide)), n2⟩, ⟨c5.1, ?_, c5.2.2.1.kept (ek 9 (by decide)), c5.2.2.2⟩⟩, ⟨h2.kept (ek 10 (by decide)), h3⟩, jOrg_cave h4 hW m d, jWF_cave hW h5 m hd, ⟨?_, h7⟩, fun j hj => ?_⟩
  · rw [ek 7 (by decide)]; exact c1
  · rw [ek 7 (by decide)]; exact c2
  · exact jset_at
  · simp (disch := omega) only [jset_at, jset_bk, jset_bj, jsN_at, jsN_no, jsN_I, jsI_N, jsI_T, jsI_at, jsI_no1, jsI_no2, jsT_N, jsT_I]; exact c5.2.1
  · unfold jSt; simp (disch := omega) only [jset_at, jset_bk, jset_bj, jsN_at, jsN_no, jsN_I, jsI_N, jsI_T, jsI_at, jsI_no1, jsI_no2, jsT_N, jsT_I]; exact h6
  · obtain ⟨e, q1, q2⟩ := h8 j hj
    refine ⟨e, q1, ?_⟩
    simp (disch := omega) only [jset_at, jset_bk, jset_bj, jsN_at, jsN_no, jsN_I, jsI_N, jsI_T, jsI_at, jsI_no1, jsI_no2, jsT_N, jsT_I]; exact q2
theorem jLI.pipe {T : JTk} {L : JLn} {w : JW} {n : Nat} {er : JEr} {s : Nat} (h : jLI T L w n er s) (h12 : L.1.1 1 < 12) {t c l : Nat} (hnm : w.1 9 false (L.1.1 1) = nI t) (ht : t < T.2.2.2) (h30 : T.1 t = 30) (hcc : c < L.1.1 0) (hl : 1 ≤ l ∧ l ≤ 40) (r : Int32) :
    jLI T (jaPipe L t c l r) (jset (jset (jset (jset w 23 (w.2.2 7 4) (L.1.1 1) (nI c)) 24 (w.2.2 7 4) (L.1.1 1) (nI l)) 25 (w.2.2 7 4) (L.1.1 1) r) 20 (w.2.2 7 4) 10 (nI (L.1.1 1 + 1))) n er s := by
  obtain ⟨hc, ⟨h2, h3⟩, h4, hW, ⟨h6, h7⟩, h8⟩ := h
  have ek : ∀ k, k < 20 → (jset (jset (jset (jset w 23 (w.2.2 7 4) (L.1.1 1) (nI c)) 24 (w.2.2 7 4) (L.1.1 1) (nI l)) 25 (w.2.2 7 4) (L.1.1 1) r) 20 (w.2.2 7 4) 10 (nI (L.1.1 1 + 1))).1 k false = w.1 k false := fun k hk => by rw [jset_k (by omega), jset_k (by omega), jset_k (by omega), jset_k (by omega)]
  obtain ⟨c1, c2, c3, c4, c5⟩ := hc
  obtain ⟨n1, n2⟩ := jNM_more c5.2.2.1 c5.2.2.2 hnm ht h30
  have e1 : (jaPipe L t c l r).1.1 1 = L.1.1 1 + 1 := jsN_at
  have e0 : (jaPipe L t c l r).1.1 0 = L.1.1 0 := by unfold jaPipe; simp (disch := omega) only [jset_at, jset_bk, jset_bj, jsN_at, jsN_no, jsN_I, jsI_N, jsI_T, jsI_at, jsI_no1, jsI_no2, jsT_N, jsT_I]
  have e2 : (jaPipe L t c l r).1.1 2 = L.1.1 2 := by unfold jaPipe; simp (disch := omega) only [jset_at, jset_bk, jset_bj, jsN_at, jsN_no, jsN_I, jsI_N, jsI_T, jsI_at, jsI_no1, jsI_no2, jsT_N, jsT_I]
  have e5 : (jaPipe L t c l r).1.1 5 = L.1.1 5 := by unfold jaPipe; simp (disch := omega) only [jset_at, jset_bk, jset_bj, jsN_at, jsN_no, jsN_I, jsI_N, jsI_T, jsI_at, jsI_no1, jsI_no2, jsT_N, jsT_I]
  have eP : jNp (jaPipe L t c l r) = (updn L.2.2.1 (L.1.1 1) t, L.1.1 1 + 1) := by unfold jNp; rw [e1]; rfl
  have eN : jNc (jaPipe L t c l r) = jNc L := by unfold jNc; rw [e0]; rfl
  have eH : jNh (jaPipe L t c l r) = jNh L := by unfold jNh; rw [e2]; rfl
  unfold jLI
  rw [eN, eP, eH, e5]
  refine ⟨⟨?_, ?_, c3.kept (ek 4 (by decide)) rfl, ⟨c4.1, ?_, c4.2.2.1.kept (ek 8 (by decide)), c4.2.2.2⟩, ⟨h12, ?_, n1.kept (ek 9 (by decide)), n2⟩⟩, ⟨h2.kept (ek 10 (by decide)), h3⟩, jOrg_pipe h4 hW c l r h12, jWF_pipe hW h12 hcc hl, ⟨?_, h7⟩, fun j hj => ?_⟩
  · rw [ek 7 (by decide)]; exact c1
  · rw [ek 7 (by decide)]; exact c2
  · simp (disch := omega) only [jset_at, jset_bk, jset_bj, jsN_at, jsN_no, jsN_I, jsI_N, jsI_T, jsI_at, jsI_no1, jsI_no2, jsT_N, jsT_I]; exact c4.2.1
  · exact jset_at
  · unfold jSt; simp (disch := omega) only [jset_at, jset_bk, jset_bj, jsN_at, jsN_no, jsN_I, jsI_N, jsI_T, jsI_at, jsI_no1, jsI_no2, jsT_N, jsT_I]; exact h6
  · obtain ⟨e, q1, q2⟩ := h8 j hj
    refine ⟨e, q1, ?_⟩
    simp (disch := omega) only [jset_at, jset_bk, jset_bj, jsN_at, jsN_no, jsN_I, jsI_N, jsI_T, jsI_at, jsI_no1, jsI_no2, jsT_N, jsT_I]; exact q2
/-- the same names -/
theorem jLI.same {T : JTk} {L L2 : JLn} {w w2 : JW} {n : Nat} {er : JEr} {s s2 : Nat} (h : jLI T L w n er s) (e2 : w2.2 = w.2) (ek : ∀ k, k < 20 → w2.1 k false = w.1 k false) (c9 : w2.1 20 (w.2.2 7 4) 9 = w.1 20 (w.2.2 7 4) 9) (c10 : w2.1 20 (w.2.2 7 4) 10 = w.1 20 (w.2.2 7 4) 10)
    (en : L2.2 = L.2) (e0 : L2.1.1 0 = L.1.1 0) (e1 : L2.1.1 1 = L.1.1 1) (eh : L2.1.1 2 = L.1.1 2) (hO : jOrg w2 (w.2.2 7 4) L2.1) (hW : jWF L2.1) (hs : w2.1 34 (w.2.2 7 4) 7 = nI s2) (hsn : s2 ≤ n) (h38 : ∀ j, j < L2.1.1 5 → ∃ e, e ≤ s2 ∧ w2.1 38 (w.2.2 7 4) j = nI e) : jLI T L2 w2 n er s2 := by
  obtain ⟨hc, ⟨h2, h3⟩, -, -, -, -⟩ := h
  have eN : jNc L2 = jNc L := by unfold jNc; rw [e0, en]
  have eP : jNp L2 = jNp L := by unfold jNp; rw [e1, en]
  have eH : jNh L2 = jNh L := by unfold jNh; rw [eh, en]
  unfold jLI jSt
  rw [eN, eP, eH, e2]
  exact ⟨hc.keep e2 ek c9 c10, ⟨h2.kept (ek 10 (by decide)), h3⟩, hO, hW, ⟨hs, hsn⟩, h38⟩
theorem jLI.swell {T : JTk} {L : JLn} {w : JW} {n : Nat} {er : JEr} {s : Nat} (h : jLI T L w n er s) (h5 : L.1.1 3 < 5) (x z : Int32) {y : Int32} (hy : ¬ y ≤ 0) :
    jLI T (jaSwell L x y z) (jset (jset (jset (jset w 29 (w.2.2 7 4) (L.1.1 3) x) 30 (w.2.2 7 4) (L.1.1 3) y) 31 (w.2.2 7 4) (L.1.1 3) z) 28 (w.2.2 7 4) 5 (nI (L.1.1 3 + 1))) n er s := by
  refine h.same rfl (fun k hk => by rw [jset_k (by omega), jset_k (by omega), jset_k (by omega), jset_k (by omega)]) (by simp (disch := omega) only [jset_at, jset_bk, jset_bj, jsN_at, jsN_no, jsN_I, jsI_N, jsI_T, jsI_at, jsI_no1, jsI_no2, jsT_N, jsT_I]) (by simp (disch := omega) only [jset_at, jset_bk, jset_bj, jsN_at, jsN_no, jsN_I, jsI_N, jsI_T, jsI_at, jsI_no1, jsI_no2, jsT_N, jsT_I]) rfl (by unfold jaSwell; simp (disch := omega) only [jset_at, jset_bk, jset_bj, jsN_at, jsN_no, jsN_I, jsI_N, jsI_T, jsI_at, jsI_no1, jsI_no2, jsT_N, jsT_I]) (by unfold jaSwell; simp (disch := omega) only [jset_at, jset_bk, jset_bj, jsN_at, jsN_no, jsN_I, jsI_N, jsI_T, jsI_at, jsI_no1, jsI_no2, jsT_N, jsT_I]) (by unfold jaSwell; simp (disch := omega) only [jset_at, jset_bk, jset_bj, jsN_at, jsN_no, jsN_I, jsI_N, jsI_T, jsI_at, jsI_no1, jsI_no2, jsT_N, jsT_I]) (jOrg_swell h.2.2.1 h.2.2.2.1 x y z) (jWF_swell h.2.2.2.1 h5 x z hy) (by simp (disch := omega) only [jset_at, jset_bk, jset_bj, jsN_at, jsN_no, jsN_I, jsI_N, jsI_T, jsI_at, jsI_no1, jsI_no2, jsT_N, jsT_I]; exact h.2.2.2.2.1.1) h.2.2.2.2.1.2 (fun j hj => ?_)
  have hj2 : j < L.1.1 5 := by revert hj; unfold jaSwell; simp (disch := omega) only [jset_at, jset_bk, jset_bj, jsN_at, jsN_no, jsN_I, jsI_N, jsI_T, jsI_at, jsI_no1, jsI_no2, jsT_N, jsT_I]; exact id
  obtain ⟨e, q1, q2⟩ := h.2.2.2.2.2 j hj2
  exact ⟨e, q1, by simp (disch := omega) only [jset_at, jset_bk, jset_bj, jsN_at, jsN_no, jsN_I, jsI_N, jsI_T, jsI_at, jsI_no1, jsI_no2, jsT_N, jsT_I]; exact q2⟩
theorem jLI.sil {T : JTk} {L : JLn} {w : JW} {n : Nat} {er : JEr} {s : Nat} (h : jLI T L w n er s) (h5 : L.1.1 4 < 3) (x y : Int32) :
    jLI T (jaSil L x y) (jset (jset (jset w 32 (w.2.2 7 4) (L.1.1 4) x) 33 (w.2.2 7 4) (L.1.1 4) y) 28 (w.2.2 7 4) 6 (nI (L.1.1 4 + 1))) n er s := by
  refine h.same rfl (fun k hk => by rw [jset_k (by omega), jset_k (by omega), jset_k (by omega)]) (by simp (disch := omega) only [jset_at, jset_bk, jset_bj, jsN_at, jsN_no, jsN_I, jsI_N, jsI_T, jsI_at, jsI_no1, jsI_no2, jsT_N, jsT_I]) (by simp (disch := omega) only [jset_at, jset_bk, jset_bj, jsN_at, jsN_no, jsN_I, jsI_N, jsI_T, jsI_at, jsI_no1, jsI_no2, jsT_N, jsT_I]) rfl (by unfold jaSil; simp (disch := omega) only [jset_at, jset_bk, jset_bj, jsN_at, jsN_no, jsN_I, jsI_N, jsI_T, jsI_at, jsI_no1, jsI_no2, jsT_N, jsT_I]) (by unfold jaSil; simp (disch := omega) only [jset_at, jset_bk, jset_bj, jsN_at, jsN_no, jsN_I, jsI_N, jsI_T, jsI_at, jsI_no1, jsI_no2, jsT_N, jsT_I]) (by unfold jaSil; simp (disch := omega) only [jset_at, jset_bk, jset_bj, jsN_at, jsN_no, jsN_I, jsI_N, jsI_T, jsI_at, jsI_no1, jsI_no2, jsT_N, jsT_I]) (jOrg_sil h.2.2.1 h.2.2.2.1 x y) (jWF_sil h.2.2.2.1 h5 x y) (by simp (disch := omega) only [jset_at, jset_bk, jset_bj, jsN_at, jsN_no, jsN_I, jsI_N, jsI_T, jsI_at, jsI_no1, jsI_no2, jsT_N, jsT_I]; exact h.2.2.2.2.1.1) h.2.2.2.2.1.2 (fun j hj => ?_)
  have hj2 : j < L.1.1 5 := by revert hj; unfold jaSil; simp (disch := omega) only [jset_at, jset_bk, jset_bj, jsN_at, jsN_no, jsN_I, jsI_N, jsI_T, jsI_at, jsI_no1, jsI_no2, jsT_N, jsT_I]; exact id
  obtain ⟨e, q1, q2⟩ := h.2.2.2.2.2 j hj2
  exact ⟨e, q1, by simp (disch := omega) only [jset_at, jset_bk, jset_bj, jsN_at, jsN_no, jsN_I, jsI_N, jsI_T, jsI_at, jsI_no1, jsI_no2, jsT_N, jsT_I]; exact q2⟩
theorem jLI.chord {T : JTk} {L : JLn} {w : JW} {n : Nat} {er : JEr} {s : Nat} (h : jLI T L w n er s) (h6 : L.1.1 2 < 6) {t m : Nat} {fn : Nat → Nat} (hnm : w.1 10 false (L.1.1 2) = nI t) (ht : t < T.2.2.2) (h30 : T.1 t = 30) (hm : 1 ≤ m ∧ m ≤ 6) (hf : ∀ p, p < m → fn p < L.1.1 1) (hch : jChP w (w.2.2 7 4) (L.1.1 2) (m, fn)) :
    jLI T (jaChord L t m fn) (jset w 20 (w.2.2 7 4) 11 (nI (L.1.1 2 + 1))) n er s := by
  obtain ⟨hc, ⟨h2, h3⟩, h4, hW, ⟨h6s, h7⟩, h8⟩ := h
  obtain ⟨n1, n2⟩ := jNM_more h2 h3 hnm ht h30
  have out : ∀ k, (k < 10 ∨ 56 ≤ k) → k ≠ 2 → (jaChord L t m fn).1.1 k = L.1.1 k := by
    intro k h1 h2
    show (jsN (jsN (jaNotes L.1 (L.1.1 2) fn m) (10 + L.1.1 2) m) 2 (L.1.1 2 + 1)).1 k = _
    rw [jsN_no (by omega), jsN_no (by omega), jaNotes_out (by omega)]
  have e2 : (jaChord L t m fn).1.1 2 = L.1.1 2 + 1 := jsN_at
  have eN : jNc (jaChord L t m fn) = jNc L := by unfold jNc; rw [out 0 (by omega) (by omega)]; rfl
  have eP : jNp (jaChord L t m fn) = jNp L := by unfold jNp; rw [out 1 (by omega) (by omega)]; rfl
  have eH : jNh (jaChord L t m fn) = (updn L.2.2.2 (L.1.1 2) t, L.1.1 2 + 1) := by unfold jNh; rw [e2]; rfl
  have ek : ∀ k, k < 20 → (jset w 20 (w.2.2 7 4) 11 (nI (L.1.1 2 + 1))).1 k false = w.1 k false := fun k hk => by rw [jset_k (by omega)]
  unfold jLI
  rw [eN, eP, eH, out 5 (by omega) (by omega)]
  refine ⟨hc.keep rfl ek (by simp (disch := omega) only [jset_at, jset_bk, jset_bj, jsN_at, jsN_no, jsN_I, jsI_N, jsI_T, jsI_at, jsI_no1, jsI_no2, jsT_N, jsT_I]) (by simp (disch := omega) only [jset_at, jset_bk, jset_bj, jsN_at, jsN_no, jsN_I, jsI_N, jsI_T, jsI_at, jsI_no1, jsI_no2, jsT_N, jsT_I]), ⟨n1.kept (ek 10 (by decide)), n2⟩, jOrg_chord h4 hW h6 hm.2 hch, jWF_chord hW h6 hm hf, ⟨?_, h7⟩, fun j hj => ?_⟩
  · unfold jSt; simp (disch := omega) only [jset_at, jset_bk, jset_bj, jsN_at, jsN_no, jsN_I, jsI_N, jsI_T, jsI_at, jsI_no1, jsI_no2, jsT_N, jsT_I]; exact h6s
  · obtain ⟨e, q1, q2⟩ := h8 j hj
    exact ⟨e, q1, by simp (disch := omega) only [jset_at, jset_bk, jset_bj, jsN_at, jsN_no, jsN_I, jsI_N, jsI_T, jsI_at, jsI_no1, jsI_no2, jsT_N, jsT_I]; exact q2⟩
