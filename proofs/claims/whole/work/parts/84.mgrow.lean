/-! the reference's book grows -/
theorem nI_2m (k : Nat) : (2 : Int32) * nI k = nI (2 * k) := (Int32.ofNat_mul 2 k).symm
theorem nI_3m (k : Nat) : (3 : Int32) * nI k = nI (3 * k) := (Int32.ofNat_mul 3 k).symm
theorem nI_p2 (k : Nat) : nI k + 2 = nI (k + 2) := nI_add k 2
def jBoP (w : JW) (b : Bool) (D : JD) (m : Nat) : Prop := ∀ j, j < D.1 5 → w.1 59 b (3 * j) = D.2.1 12 j ∧ w.1 59 b (3 * j + 1) = nI (D.1 (120 + j)) ∧
  ((w.1 59 b (3 * j + 2) = -1 ∧ D.2.1 12 j = 16 ∧ ∀ R, D.2.2 j R = true) ∨ (∃ v : Nat, w.1 59 b (3 * j + 2) = nI v ∧ jTm m (w.1 60 b) (w.1 61 b) (w.1 62 b) (D.1 0) (D.1 1) (v + 1) true v ∧ ∀ R, jmv (w.1 60 b) (w.1 61 b) (w.1 62 b) R (v + 1) v = if D.2.2 j R then 1 else 0))
def jBq (w : JW) (b : Bool) (D : JD) (m : Nat) : Prop :=
  (w.1 53 b 0 = nI (D.1 0) ∧ w.1 53 b 1 = nI (D.1 1) ∧ w.1 53 b 4 = nI (D.1 2) ∧ w.1 53 b 2 = nI (D.1 3) ∧ w.1 53 b 3 = nI (D.1 4) ∧ w.1 53 b 5 = nI (D.1 5)) ∧
  (∀ j, j < D.1 0 → w.1 54 b (2 * j) = D.2.1 0 j ∧ w.1 54 b (2 * j + 1) = D.2.1 1 j) ∧ (∀ j, j < D.1 1 → w.1 55 b (3 * j) = nI (D.1 (100 + j)) ∧ w.1 55 b (3 * j + 1) = nI (D.1 (140 + j)) ∧ w.1 55 b (3 * j + 2) = D.2.1 4 j) ∧
  (∀ c, c < D.1 2 → w.1 58 b (7 * c) = nI (D.1 (10 + c)) ∧ ∀ p, p < D.1 (10 + c) → w.1 58 b (7 * c + (1 + p)) = nI (D.1 (20 + (6 * c + p)))) ∧
  (∀ j, j < D.1 3 → w.1 56 b (3 * j) = D.2.1 7 j ∧ w.1 56 b (3 * j + 1) = D.2.1 8 j ∧ w.1 56 b (3 * j + 2) = D.2.1 9 j) ∧ (∀ j, j < D.1 4 → w.1 57 b (2 * j) = D.2.1 10 j ∧ w.1 57 b (2 * j + 1) = D.2.1 11 j) ∧ jBoP w b D m
theorem jBq_Bk {w : JW} {b : Bool} {D : JD} {m : Nat} (h : jBq w b D m) (hm : m ≤ 401) : jBk w b D := by
  obtain ⟨a, b1, c, d, e, f, g⟩ := h
  refine ⟨a, b1, c, d, e, f, fun j hj => ?_⟩
  obtain ⟨q1, q2, q3⟩ := g j hj
  refine ⟨q1, q2, ?_⟩
  rcases q3 with q | ⟨v, q4, q5, q6⟩
  · exact Or.inl q
  · have := jTm_lt q5
    exact Or.inr ⟨v, v + 1, q4, by omega, jTm_Tr hm q5, q6⟩
theorem jBoP.kept {w w2 : JW} {b : Bool} {D D2 : JD} {m m2 : Nat} (h : jBoP w b D m) (hm : m2 ≤ 401) (h59 : w2.1 59 b = w.1 59 b) (hr : ∀ j, j < m → w2.1 60 b j = w.1 60 b j ∧ w2.1 61 b j = w.1 61 b j ∧ w2.1 62 b j = w.1 62 b j) (hmm : m ≤ m2) (h5 : D2.1 5 = D.1 5) (h0 : D.1 0 ≤ D2.1 0) (h1 : D.1 1 ≤ D2.1 1) (ha : ∀ j, j < D.1 5 → D2.1 (120 + j) = D.1 (120 + j) ∧ D2.2.1 12 j = D.2.1 12 j ∧ D2.2.2 j = D.2.2 j) : jBoP w2 b D2 m2 := by
  intro j hj
  rw [h5] at hj
  obtain ⟨q1, q2, q3⟩ := ha j hj
  rw [h59, q1, q2, q3]
  obtain ⟨g1, g2, g3⟩ := h j hj
  refine ⟨g1, g2, ?_⟩
  rcases g3 with q | ⟨v, q4, q5, q6⟩
  · exact Or.inl q
  · exact Or.inr ⟨v, q4, jTm_mono hmm hr h0 h1 (Nat.le_refl _) q5, fun R => (jmv_cong (by omega) hr (Nat.le_refl _) q5).trans (q6 R)⟩
theorem jBq.kept {w w2 : JW} {b : Bool} {D : JD} {m m2 : Nat} (h : jBq w b D m) (hm : m2 ≤ 401) (hk : ∀ k, 54 ≤ k → k ≤ 59 → w2.1 k b = w.1 k b) (h53 : ∀ j, j ≠ 12 → w2.1 53 b j = w.1 53 b j) (hr : ∀ j, j < m → w2.1 60 b j = w.1 60 b j ∧ w2.1 61 b j = w.1 61 b j ∧ w2.1 62 b j = w.1 62 b j) (hmm : m ≤ m2) : jBq w2 b D m2 := by
  obtain ⟨a, b1, c, d, e, f, g⟩ := h
  unfold jBq
  rw [h53 0 (by decide), h53 1 (by decide), h53 4 (by decide), h53 2 (by decide), h53 3 (by decide), h53 5 (by decide), hk 54 (by decide) (by decide), hk 55 (by decide) (by decide), hk 56 (by decide) (by decide), hk 57 (by decide) (by decide), hk 58 (by decide) (by decide)]
  exact ⟨a, b1, c, d, e, f, g.kept hm (hk 59 (by decide) (by decide)) hr hmm rfl (Nat.le_refl _) (Nat.le_refl _) (fun j _ => ⟨rfl, rfl, rfl⟩)⟩
theorem jrows {w w2 : JW} {b : Bool} {m : Nat} (h : ∀ k, 60 ≤ k → w2.1 k b = w.1 k b) : ∀ j, j < m → w2.1 60 b j = w.1 60 b j ∧ w2.1 61 b j = w.1 61 b j ∧ w2.1 62 b j = w.1 62 b j := fun j _ => ⟨by rw [h 60 (by decide)], by rw [h 61 (by decide)], by rw [h 62 (by decide)]⟩
theorem jBq_cave {w : JW} {b : Bool} {D : JD} {m : Nat} (h : jBq w b D m) (hm : m ≤ 401) (hW : jWF D) (x d : Int32) (y : Int32) : jBq (jset (jset (jset (jset w 47 false (D.1 0) y) 54 b (2 * D.1 0) x) 54 b (2 * D.1 0 + 1) d) 53 b 0 (nI (D.1 0 + 1))) b (jsN (jsI (jsI D 0 (D.1 0) x) 1 (D.1 0) d) 0 (D.1 0 + 1)) m := by
  obtain ⟨⟨b0, b1, b2, b3, b4, b5⟩, w1, w2, w3, w4, w5⟩ := hW
  obtain ⟨⟨a0, a1, a2, a3, a4, a5⟩, q, c, e, f, g, i⟩ := h
  refine ⟨⟨?_, ?_, ?_, ?_, ?_, ?_⟩, fun j hj => ?_, fun j hj => ?_, fun c2 hc => ?_, fun j hj => ?_, fun j hj => ?_, ?_⟩
  · simp (disch := omega) only [jset_at, jset_bk, jset_bj, jsN_at, jsN_no, jsN_I, jsI_N, jsI_T, jsI_at, jsI_no1, jsI_no2, jsT_N, jsT_I]
  · simp (disch := omega) only [jset_at, jset_bk, jset_bj, jsN_at, jsN_no, jsN_I, jsI_N, jsI_T, jsI_at, jsI_no1, jsI_no2, jsT_N, jsT_I]; exact a1
  · simp (disch := omega) only [jset_at, jset_bk, jset_bj, jsN_at, jsN_no, jsN_I, jsI_N, jsI_T, jsI_at, jsI_no1, jsI_no2, jsT_N, jsT_I]; exact a2
  · simp (disch := omega) only [jset_at, jset_bk, jset_bj, jsN_at, jsN_no, jsN_I, jsI_N, jsI_T, jsI_at, jsI_no1, jsI_no2, jsT_N, jsT_I]; exact a3
  · simp (disch := omega) only [jset_at, jset_bk, jset_bj, jsN_at, jsN_no, jsN_I, jsI_N, jsI_T, jsI_at, jsI_no1, jsI_no2, jsT_N, jsT_I]; exact a4
  · simp (disch := omega) only [jset_at, jset_bk, jset_bj, jsN_at, jsN_no, jsN_I, jsI_N, jsI_T, jsI_at, jsI_no1, jsI_no2, jsT_N, jsT_I]; exact a5
  · rw [jsN_at] at hj
    by_cases z : j = D.1 0
    · subst z
      simp (disch := omega) only [jset_at, jset_bk, jset_bj, jsN_at, jsN_no, jsN_I, jsI_N, jsI_T, jsI_at, jsI_no1, jsI_no2, jsT_N, jsT_I]; exact ⟨trivial, trivial⟩
    · simp (disch := omega) only [jset_at, jset_bk, jset_bj, jsN_at, jsN_no, jsN_I, jsI_N, jsI_T, jsI_at, jsI_no1, jsI_no2, jsT_N, jsT_I]; exact q j (by omega)
  · have hj2 : j < D.1 1 := by revert hj; simp (disch := omega) only [jset_at, jset_bk, jset_bj, jsN_at, jsN_no, jsN_I, jsI_N, jsI_T, jsI_at, jsI_no1, jsI_no2, jsT_N, jsT_I]; exact id
    simp (disch := omega) only [jset_at, jset_bk, jset_bj, jsN_at, jsN_no, jsN_I, jsI_N, jsI_T, jsI_at, jsI_no1, jsI_no2, jsT_N, jsT_I]; exact c j hj2
  · have hc2 : c2 < D.1 2 := by revert hc; simp (disch := omega) only [jset_at, jset_bk, jset_bj, jsN_at, jsN_no, jsN_I, jsI_N, jsI_T, jsI_at, jsI_no1, jsI_no2, jsT_N, jsT_I]; exact id
    have hs := (w3 c2 hc2).2.1
    refine ⟨by simp (disch := omega) only [jset_at, jset_bk, jset_bj, jsN_at, jsN_no, jsN_I, jsI_N, jsI_T, jsI_at, jsI_no1, jsI_no2, jsT_N, jsT_I]; exact (e c2 hc2).1, fun p hp => ?_⟩
    have hp2 : p < D.1 (10 + c2) := by revert hp; simp (disch := omega) only [jset_at, jset_bk, jset_bj, jsN_at, jsN_no, jsN_I, jsI_N, jsI_T, jsI_at, jsI_no1, jsI_no2, jsT_N, jsT_I]; exact id
    simp (disch := omega) only [jset_at, jset_bk, jset_bj, jsN_at, jsN_no, jsN_I, jsI_N, jsI_T, jsI_at, jsI_no1, jsI_no2, jsT_N, jsT_I]; exact (e c2 hc2).2 p hp2
  · have hj2 : j < D.1 3 := by revert hj; simp (disch := omega) only [jset_at, jset_bk, jset_bj, jsN_at, jsN_no, jsN_I, jsI_N, jsI_T, jsI_at, jsI_no1, jsI_no2, jsT_N, jsT_I]; exact id
    simp (disch := omega) only [jset_at, jset_bk, jset_bj, jsN_at, jsN_no, jsN_I, jsI_N, jsI_T, jsI_at, jsI_no1, jsI_no2, jsT_N, jsT_I]; exact f j hj2
  · have hj2 : j < D.1 4 := by revert hj; simp (disch := omega) only [jset_at, jset_bk, jset_bj, jsN_at, jsN_no, jsN_I, jsI_N, jsI_T, jsI_at, jsI_no1, jsI_no2, jsT_N, jsT_I]; exact id
    simp (disch := omega) only [jset_at, jset_bk, jset_bj, jsN_at, jsN_no, jsN_I, jsI_N, jsI_T, jsI_at, jsI_no1, jsI_no2, jsT_N, jsT_I]; exact g j hj2
  · exact jBoP.kept (D := D) i hm (by rw [jset_k (by decide), jset_k (by decide), jset_k (by decide), jset_k (by decide)]) (jrows (fun k hk => by rw [jset_k (by omega), jset_k (by omega), jset_k (by omega), jset_k (by omega)])) (Nat.le_refl _) (by simp (disch := omega) only [jset_at, jset_bk, jset_bj, jsN_at, jsN_no, jsN_I, jsI_N, jsI_T, jsI_at, jsI_no1, jsI_no2, jsT_N, jsT_I]) (by simp (disch := omega) only [jset_at, jset_bk, jset_bj, jsN_at, jsN_no, jsN_I, jsI_N, jsI_T, jsI_at, jsI_no1, jsI_no2, jsT_N, jsT_I]; omega) (by simp (disch := omega) only [jset_at, jset_bk, jset_bj, jsN_at, jsN_no, jsN_I, jsI_N, jsI_T, jsI_at, jsI_no1, jsI_no2, jsT_N, jsT_I]; exact Nat.le_refl _) (fun j hj => ⟨by simp (disch := omega) only [jset_at, jset_bk, jset_bj, jsN_at, jsN_no, jsN_I, jsI_N, jsI_T, jsI_at, jsI_no1, jsI_no2, jsT_N, jsT_I], by simp (disch := omega) only [jset_at, jset_bk, jset_bj, jsN_at, jsN_no, jsN_I, jsI_N, jsI_T, jsI_at, jsI_no1, jsI_no2, jsT_N, jsT_I], rfl⟩)
theorem jBq_pipe {w : JW} {b : Bool} {D : JD} {m : Nat} (h : jBq w b D m) (hm : m ≤ 401) (hW : jWF D) (h12 : D.1 1 < 12) (c l : Nat) (r : Int32) (y : Int32) : jBq (jset (jset (jset (jset (jset w 48 false (D.1 1) y) 55 b (3 * D.1 1) (nI c)) 55 b (3 * D.1 1 + 1) (nI l)) 55 b (3 * D.1 1 + 2) r) 53 b 1 (nI (D.1 1 + 1))) b (jsN (jsN (jsN (jsI D 4 (D.1 1) r) (100 + D.1 1) c) (140 + D.1 1) l) 1 (D.1 1 + 1)) m := by
  obtain ⟨⟨b0, b1, b2, b3, b4, b5⟩, w1, w2, w3, w4, w5⟩ := hW
  obtain ⟨⟨a0, a1, a2, a3, a4, a5⟩, q, c1, e, f, g, i⟩ := h
  refine ⟨⟨?_, ?_, ?_, ?_, ?_, ?_⟩, fun j hj => ?_, fun j hj => ?_, fun c2 hc => ?_, fun j hj => ?_, fun j hj => ?_, ?_⟩
  · simp (disch := omega) only [jset_at, jset_bk, jset_bj, jsN_at, jsN_no, jsN_I, jsI_N, jsI_T, jsI_at, jsI_no1, jsI_no2, jsT_N, jsT_I]; exact a0
  · simp (disch := omega) only [jset_at, jset_bk, jset_bj, jsN_at, jsN_no, jsN_I, jsI_N, jsI_T, jsI_at, jsI_no1, jsI_no2, jsT_N, jsT_I]
  · simp (disch := omega) only [jset_at, jset_bk, jset_bj, jsN_at, jsN_no, jsN_I, jsI_N, jsI_T, jsI_at, jsI_no1, jsI_no2, jsT_N, jsT_I]; exact a2
  · simp (disch := omega) only [jset_at, jset_bk, jset_bj, jsN_at, jsN_no, jsN_I, jsI_N, jsI_T, jsI_at, jsI_no1, jsI_no2, jsT_N, jsT_I]; exact a3
  · simp (disch := omega) only [jset_at, jset_bk, jset_bj, jsN_at, jsN_no, jsN_I, jsI_N, jsI_T, jsI_at, jsI_no1, jsI_no2, jsT_N, jsT_I]; exact a4
  · simp (disch := omega) only [jset_at, jset_bk, jset_bj, jsN_at, jsN_no, jsN_I, jsI_N, jsI_T, jsI_at, jsI_no1, jsI_no2, jsT_N, jsT_I]; exact a5
  · have hj2 : j < D.1 0 := by revert hj; simp (disch := omega) only [jset_at, jset_bk, jset_bj, jsN_at, jsN_no, jsN_I, jsI_N, jsI_T, jsI_at, jsI_no1, jsI_no2, jsT_N, jsT_I]; exact id
    simp (disch := omega) only [jset_at, jset_bk, jset_bj, jsN_at, jsN_no, jsN_I, jsI_N, jsI_T, jsI_at, jsI_no1, jsI_no2, jsT_N, jsT_I]; exact q j hj2
  · rw [jsN_at] at hj
    by_cases z : j = D.1 1
    · subst z
      simp (disch := omega) only [jset_at, jset_bk, jset_bj, jsN_at, jsN_no, jsN_I, jsI_N, jsI_T, jsI_at, jsI_no1, jsI_no2, jsT_N, jsT_I]; exact ⟨trivial, trivial, trivial⟩
    · simp (disch := omega) only [jset_at, jset_bk, jset_bj, jsN_at, jsN_no, jsN_I, jsI_N, jsI_T, jsI_at, jsI_no1, jsI_no2, jsT_N, jsT_I]; exact c1 j (by omega)
  · have hc2 : c2 < D.1 2 := by revert hc; simp (disch := omega) only [jset_at, jset_bk, jset_bj, jsN_at, jsN_no, jsN_I, jsI_N, jsI_T, jsI_at, jsI_no1, jsI_no2, jsT_N, jsT_I]; exact id
    have hs := (w3 c2 hc2).2.1
    refine ⟨by simp (disch := omega) only [jset_at, jset_bk, jset_bj, jsN_at, jsN_no, jsN_I, jsI_N, jsI_T, jsI_at, jsI_no1, jsI_no2, jsT_N, jsT_I]; exact (e c2 hc2).1, fun p hp => ?_⟩
    have hp2 : p < D.1 (10 + c2) := by revert hp; simp (disch := omega) only [jset_at, jset_bk, jset_bj, jsN_at, jsN_no, jsN_I, jsI_N, jsI_T, jsI_at, jsI_no1, jsI_no2, jsT_N, jsT_I]; exact id
    simp (disch := omega) only [jset_at, jset_bk, jset_bj, jsN_at, jsN_no, jsN_I, jsI_N, jsI_T, jsI_at, jsI_no1, jsI_no2, jsT_N, jsT_I]; exact (e c2 hc2).2 p hp2
  · have hj2 : j < D.1 3 := by revert hj; simp (disch := omega) only [jset_at, jset_bk, jset_bj, jsN_at, jsN_no, jsN_I, jsI_N, jsI_T, jsI_at, jsI_no1, jsI_no2, jsT_N, jsT_I]; exact id
    simp (disch := omega) only [jset_at, jset_bk, jset_bj, jsN_at, jsN_no, jsN_I, jsI_N, jsI_T, jsI_at, jsI_no1, jsI_no2, jsT_N, jsT_I]; exact f j hj2
  · have hj2 : j < D.1 4 := by revert hj; simp (disch := omega) only [jset_at, jset_bk, jset_bj, jsN_at, jsN_no, jsN_I, jsI_N, jsI_T, jsI_at, jsI_no1, jsI_no2, jsT_N, jsT_I]; exact id
    simp (disch := omega) only [jset_at, jset_bk, jset_bj, jsN_at, jsN_no, jsN_I, jsI_N, jsI_T, jsI_at, jsI_no1, jsI_no2, jsT_N, jsT_I]; exact g j hj2
  · exact jBoP.kept (D := D) i hm (by rw [jset_k (by decide), jset_k (by decide), jset_k (by decide), jset_k (by decide), jset_k (by decide)]) (jrows (fun k hk => by rw [jset_k (by omega), jset_k (by omega), jset_k (by omega), jset_k (by omega), jset_k (by omega)])) (Nat.le_refl _) (by simp (disch := omega) only [jset_at, jset_bk, jset_bj, jsN_at, jsN_no, jsN_I, jsI_N, jsI_T, jsI_at, jsI_no1, jsI_no2, jsT_N, jsT_I]) (by simp (disch := omega) only [jset_at, jset_bk, jset_bj, jsN_at, jsN_no, jsN_I, jsI_N, jsI_T, jsI_at, jsI_no1, jsI_no2, jsT_N, jsT_I]; exact Nat.le_refl _) (by simp (disch := omega) only [jset_at, jset_bk, jset_bj, jsN_at, jsN_no, jsN_I, jsI_N, jsI_T, jsI_at, jsI_no1, jsI_no2, jsT_N, jsT_I]; omega) (fun j hj => ⟨by simp (disch := omega) only [jset_at, jset_bk, jset_bj, jsN_at, jsN_no, jsN_I, jsI_N, jsI_T, jsI_at, jsI_no1, jsI_no2, jsT_N, jsT_I], by simp (disch := omega) only [jset_at, jset_bk, jset_bj, jsN_at, jsN_no, jsN_I, jsI_N, jsI_T, jsI_at, jsI_no1, jsI_no2, jsT_N, jsT_I], rfl⟩)
theorem jBq_swell {w : JW} {b : Bool} {D : JD} {m : Nat} (h : jBq w b D m) (hm : m ≤ 401) (hW : jWF D) (x y z : Int32) : jBq (jset (jset (jset (jset w 56 b (3 * D.1 3) x) 56 b (3 * D.1 3 + 1) y) 56 b (3 * D.1 3 + 2) z) 53 b 2 (nI (D.1 3 + 1))) b (jsN (jsI (jsI (jsI D 7 (D.1 3) x) 8 (D.1 3) y) 9 (D.1 3) z) 3 (D.1 3 + 1)) m := by
  obtain ⟨⟨b0, b1, b2, b3, b4, b5⟩, w1, w2, w3, w4, w5⟩ := hW
  obtain ⟨⟨a0, a1, a2, a3, a4, a5⟩, q, c1, e, f, g, i⟩ := h
  refine ⟨⟨?_, ?_, ?_, ?_, ?_, ?_⟩, fun j hj => ?_, fun j hj => ?_, fun c2 hc => ?_, fun j hj => ?_, fun j hj => ?_, ?_⟩
  · simp (disch := omega) only [jset_at, jset_bk, jset_bj, jsN_at, jsN_no, jsN_I, jsI_N, jsI_T, jsI_at, jsI_no1, jsI_no2, jsT_N, jsT_I]; exact a0
  · simp (disch := omega) only [jset_at, jset_bk, jset_bj, jsN_at, jsN_no, jsN_I, jsI_N, jsI_T, jsI_at, jsI_no1, jsI_no2, jsT_N, jsT_I]; exact a1
  · simp (disch := omega) only [jset_at, jset_bk, jset_bj, jsN_at, jsN_no, jsN_I, jsI_N, jsI_T, jsI_at, jsI_no1, jsI_no2, jsT_N, jsT_I]; exact a2
  · simp (disch := omega) only [jset_at, jset_bk, jset_bj, jsN_at, jsN_no, jsN_I, jsI_N, jsI_T, jsI_at, jsI_no1, jsI_no2, jsT_N, jsT_I]
  · simp (disch := omega) only [jset_at, jset_bk, jset_bj, jsN_at, jsN_no, jsN_I, jsI_N, jsI_T, jsI_at, jsI_no1, jsI_no2, jsT_N, jsT_I]; exact a4
  · simp (disch := omega) only [jset_at, jset_bk, jset_bj, jsN_at, jsN_no, jsN_I, jsI_N, jsI_T, jsI_at, jsI_no1, jsI_no2, jsT_N, jsT_I]; exact a5
  · have hj2 : j < D.1 0 := by revert hj; simp (disch := omega) only [jset_at, jset_bk, jset_bj, jsN_at, jsN_no, jsN_I, jsI_N, jsI_T, jsI_at, jsI_no1, jsI_no2, jsT_N, jsT_I]; exact id
    simp (disch := omega) only [jset_at, jset_bk, jset_bj, jsN_at, jsN_no, jsN_I, jsI_N, jsI_T, jsI_at, jsI_no1, jsI_no2, jsT_N, jsT_I]; exact q j hj2
  · have hj2 : j < D.1 1 := by revert hj; simp (disch := omega) only [jset_at, jset_bk, jset_bj, jsN_at, jsN_no, jsN_I, jsI_N, jsI_T, jsI_at, jsI_no1, jsI_no2, jsT_N, jsT_I]; exact id
    simp (disch := omega) only [jset_at, jset_bk, jset_bj, jsN_at, jsN_no, jsN_I, jsI_N, jsI_T, jsI_at, jsI_no1, jsI_no2, jsT_N, jsT_I]; exact c1 j hj2
  · have hc2 : c2 < D.1 2 := by revert hc; simp (disch := omega) only [jset_at, jset_bk, jset_bj, jsN_at, jsN_no, jsN_I, jsI_N, jsI_T, jsI_at, jsI_no1, jsI_no2, jsT_N, jsT_I]; exact id
    have hs := (w3 c2 hc2).2.1
    refine ⟨by simp (disch := omega) only [jset_at, jset_bk, jset_bj, jsN_at, jsN_no, jsN_I, jsI_N, jsI_T, jsI_at, jsI_no1, jsI_no2, jsT_N, jsT_I]; exact (e c2 hc2).1, fun p hp => ?_⟩
    have hp2 : p < D.1 (10 + c2) := by revert hp; simp (disch := omega) only [jset_at, jset_bk, jset_bj, jsN_at, jsN_no, jsN_I, jsI_N, jsI_T, jsI_at, jsI_no1, jsI_no2, jsT_N, jsT_I]; exact id
    simp (disch := omega) only [jset_at, jset_bk, jset_bj, jsN_at, jsN_no, jsN_I, jsI_N, jsI_T, jsI_at, jsI_no1, jsI_no2, jsT_N, jsT_I]; exact (e c2 hc2).2 p hp2
  · rw [jsN_at] at hj
    by_cases z : j = D.1 3
    · subst z
      simp (disch := omega) only [jset_at, jset_bk, jset_bj, jsN_at, jsN_no, jsN_I, jsI_N, jsI_T, jsI_at, jsI_no1, jsI_no2, jsT_N, jsT_I]; exact ⟨trivial, trivial, trivial⟩
    · simp (disch := omega) only [jset_at, jset_bk, jset_bj, jsN_at, jsN_no, jsN_I, jsI_N, jsI_T, jsI_at, jsI_no1, jsI_no2, jsT_N, jsT_I]; exact f j (by omega)
  · have hj2 : j < D.1 4 := by revert hj; simp (disch := omega) only [jset_at, jset_bk, jset_bj, jsN_at, jsN_no, jsN_I, jsI_N, jsI_T, jsI_at, jsI_no1, jsI_no2, jsT_N, jsT_I]; exact id
    simp (disch := omega) only [jset_at, jset_bk, jset_bj, jsN_at, jsN_no, jsN_I, jsI_N, jsI_T, jsI_at, jsI_no1, jsI_no2, jsT_N, jsT_I]; exact g j hj2
  · exact jBoP.kept (D := D) i hm (by rw [jset_k (by decide), jset_k (by decide), jset_k (by decide), jset_k (by decide)]) (jrows (fun k hk => by rw [jset_k (by omega), jset_k (by omega), jset_k (by omega), jset_k (by omega)])) (Nat.le_refl _) (by simp (disch := omega) only [jset_at, jset_bk, jset_bj, jsN_at, jsN_no, jsN_I, jsI_N, jsI_T, jsI_at, jsI_no1, jsI_no2, jsT_N, jsT_I]) (by simp (disch := omega) only [jset_at, jset_bk, jset_bj, jsN_at, jsN_no, jsN_I, jsI_N, jsI_T, jsI_at, jsI_no1, jsI_no2, jsT_N, jsT_I]; exact Nat.le_refl _) (by simp (disch := omega) only [jset_at, jset_bk, jset_bj, jsN_at, jsN_no, jsN_I, jsI_N, jsI_T, jsI_at, jsI_no1, jsI_no2, jsT_N, jsT_I]; exact Nat.le_refl _) (fun j hj => ⟨by simp (disch := omega) only [jset_at, jset_bk, jset_bj, jsN_at, jsN_no, jsN_I, jsI_N, jsI_T, jsI_at, jsI_no1, jsI_no2, jsT_N, jsT_I], by simp (disch := omega) only [jset_at, jset_bk, jset_bj, jsN_at, jsN_no, jsN_I, jsI_N, jsI_T, jsI_at, jsI_no1, jsI_no2, jsT_N, jsT_I], rfl⟩)
theorem jBq_sil {w : JW} {b : Bool} {D : JD} {m : Nat} (h : jBq w b D m) (hm : m ≤ 401) (hW : jWF D) (x y : Int32) : jBq (jset (jset (jset w 57 b (2 * D.1 4) x) 57 b (2 * D.1 4 + 1) y) 53 b 3 (nI (D.1 4 + 1))) b (jsN (jsI (jsI D 10 (D.1 4) x) 11 (D.1 4) y) 4 (D.1 4 + 1)) m := by
  obtain ⟨⟨b0, b1, b2, b3, b4, b5⟩, w1, w2, w3, w4, w5⟩ := hW
  obtain ⟨⟨a0, a1, a2, a3, a4, a5⟩, q, c1, e, f, g, i⟩ := h
  refine ⟨⟨?_, ?_, ?_, ?_, ?_, ?_⟩, fun j hj => ?_, fun j hj => ?_, fun c2 hc => ?_, fun j hj => ?_, fun j hj => ?_, ?_⟩
  · simp (disch := omega) only [jset_at, jset_bk, jset_bj, jsN_at, jsN_no, jsN_I, jsI_N, jsI_T, jsI_at, jsI_no1, jsI_no2, jsT_N, jsT_I]; exact a0
  · simp (disch := omega) only [jset_at, jset_bk, jset_bj, jsN_at, jsN_no, jsN_I, jsI_N, jsI_T, jsI_at, jsI_no1, jsI_no2, jsT_N, jsT_I]; exact a1
  · simp (disch := omega) only [jset_at, jset_bk, jset_bj, jsN_at, jsN_no, jsN_I, jsI_N, jsI_T, jsI_at, jsI_no1, jsI_no2, jsT_N, jsT_I]; exact a2
  · simp (disch := omega) only [jset_at, jset_bk, jset_bj, jsN_at, jsN_no, jsN_I, jsI_N, jsI_T, jsI_at, jsI_no1, jsI_no2, jsT_N, jsT_I]; exact a3
  · simp (disch := omega) only [jset_at, jset_bk, jset_bj, jsN_at, jsN_no, jsN_I, jsI_N, jsI_T, jsI_at, jsI_no1, jsI_no2, jsT_N, jsT_I]
  · simp (disch := omega) only [jset_at, jset_bk, jset_bj, jsN_at, jsN_no, jsN_I, jsI_N, jsI_T, jsI_at, jsI_no1, jsI_no2, jsT_N, jsT_I]; exact a5
  · have hj2 : j < D.1 0 := by revert hj; simp (disch := omega) only [jset_at, jset_bk, jset_bj, jsN_at, jsN_no, jsN_I, jsI_N, jsI_T, jsI_at, jsI_no1, jsI_no2, jsT_N, jsT_I]; exact id
    simp (disch := omega) only [jset_at, jset_bk, jset_bj, jsN_at, jsN_no, jsN_I, jsI_N, jsI_T, jsI_at, jsI_no1, jsI_no2, jsT_N, jsT_I]; exact q j hj2
  · have hj2 : j < D.1 1 := by revert hj; simp (disch := omega) only [jset_at, jset_bk, jset_bj, jsN_at, jsN_no, jsN_I, jsI_N, jsI_T, jsI_at, jsI_no1, jsI_no2, jsT_N, jsT_I]; exact id
    simp (disch := omega) only [jset_at, jset_bk, jset_bj, jsN_at, jsN_no, jsN_I, jsI_N, jsI_T, jsI_at, jsI_no1, jsI_no2, jsT_N, jsT_I]; exact c1 j hj2
  · have hc2 : c2 < D.1 2 := by revert hc; simp (disch := omega) only [jset_at, jset_bk, jset_bj, jsN_at, jsN_no, jsN_I, jsI_N, jsI_T, jsI_at, jsI_no1, jsI_no2, jsT_N, jsT_I]; exact id
    have hs := (w3 c2 hc2).2.1
    refine ⟨by simp (disch := omega) only [jset_at, jset_bk, jset_bj, jsN_at, jsN_no, jsN_I, jsI_N, jsI_T, jsI_at, jsI_no1, jsI_no2, jsT_N, jsT_I]; exact (e c2 hc2).1, fun p hp => ?_⟩
    have hp2 : p < D.1 (10 + c2) := by revert hp; simp (disch := omega) only [jset_at, jset_bk, jset_bj, jsN_at, jsN_no, jsN_I, jsI_N, jsI_T, jsI_at, jsI_no1, jsI_no2, jsT_N, jsT_I]; exact id
    simp (disch := omega) only [jset_at, jset_bk, jset_bj, jsN_at, jsN_no, jsN_I, jsI_N, jsI_T, jsI_at, jsI_no1, jsI_no2, jsT_N, jsT_I]; exact (e c2 hc2).2 p hp2
  · have hj2 : j < D.1 3 := by revert hj; simp (disch := omega) only [jset_at, jset_bk, jset_bj, jsN_at, jsN_no, jsN_I, jsI_N, jsI_T, jsI_at, jsI_no1, jsI_no2, jsT_N, jsT_I]; exact id
    simp (disch := omega) only [jset_at, jset_bk, jset_bj, jsN_at, jsN_no, jsN_I, jsI_N, jsI_T, jsI_at, jsI_no1, jsI_no2, jsT_N, jsT_I]; exact f j hj2
  · rw [jsN_at] at hj
    by_cases z : j = D.1 4
    · subst z
      simp (disch := omega) only [jset_at, jset_bk, jset_bj, jsN_at, jsN_no, jsN_I, jsI_N, jsI_T, jsI_at, jsI_no1, jsI_no2, jsT_N, jsT_I]; exact ⟨trivial, trivial⟩
    · simp (disch := omega) only [jset_at, jset_bk, jset_bj, jsN_at, jsN_no, jsN_I, jsI_N, jsI_T, jsI_at, jsI_no1, jsI_no2, jsT_N, jsT_I]; exact g j (by omega)
  · exact jBoP.kept (D := D) i hm (by rw [jset_k (by decide), jset_k (by decide), jset_k (by decide)]) (jrows (fun k hk => by rw [jset_k (by omega), jset_k (by omega), jset_k (by omega)])) (Nat.le_refl _) (by simp (disch := omega) only [jset_at, jset_bk, jset_bj, jsN_at, jsN_no, jsN_I, jsI_N, jsI_T, jsI_at, jsI_no1, jsI_no2, jsT_N, jsT_I]) (by simp (disch := omega) only [jset_at, jset_bk, jset_bj, jsN_at, jsN_no, jsN_I, jsI_N, jsI_T, jsI_at, jsI_no1, jsI_no2, jsT_N, jsT_I]; exact Nat.le_refl _) (by simp (disch := omega) only [jset_at, jset_bk, jset_bj, jsN_at, jsN_no, jsN_I, jsI_N, jsI_T, jsI_at, jsI_no1, jsI_no2, jsT_N, jsT_I]; exact Nat.le_refl _) (fun j hj => ⟨by simp (disch := omega) only [jset_at, jset_bk, jset_bj, jsN_at, jsN_no, jsN_I, jsI_N, jsI_T, jsI_at, jsI_no1, jsI_no2, jsT_N, jsT_I], by simp (disch := omega) only [jset_at, jset_bk, jset_bj, jsN_at, jsN_no, jsN_I, jsI_N, jsI_T, jsI_at, jsI_no1, jsI_no2, jsT_N, jsT_I], rfl⟩)
theorem jBq_chord {w : JW} {b : Bool} {D : JD} {m k : Nat} {fn : Nat → Nat} (h : jBq w b D m) (hm : m ≤ 401) (hW : jWF D) (h6 : D.1 2 < 6) (hk : k ≤ 6) (hc : ∀ p, p < k → w.1 58 b (7 * D.1 2 + (1 + p)) = nI (fn p)) (y : Int32) : jBq (jset (jset (jset w 58 b (7 * D.1 2) (nI k)) 49 false (D.1 2) y) 53 b 4 (nI (D.1 2 + 1))) b (jsN (jsN (jaNotes D (D.1 2) fn k) (10 + D.1 2) k) 2 (D.1 2 + 1)) m := by
  obtain ⟨⟨b0, b1, b2, b3, b4, b5⟩, w1, w2, w3, w4, w5⟩ := hW
  obtain ⟨⟨a0, a1, a2, a3, a4, a5⟩, q, c1, e, f, g, i⟩ := h
  have out : ∀ j, (j < 10 ∨ 56 ≤ j) → j ≠ 2 → (jsN (jsN (jaNotes D (D.1 2) fn k) (10 + D.1 2) k) 2 (D.1 2 + 1)).1 j = D.1 j := by
    intro j h1 h2
    rw [jsN_no (by omega), jsN_no (by omega), jaNotes_out (by omega)]
  have int : (jsN (jsN (jaNotes D (D.1 2) fn k) (10 + D.1 2) k) 2 (D.1 2 + 1)).2 = D.2 := by rw [jsN_I, jsN_I, jaNotes_2]
  unfold jBq
  rw [out 0 (by omega) (by omega), out 1 (by omega) (by omega), out 3 (by omega) (by omega), out 4 (by omega) (by omega), out 5 (by omega) (by omega), int]
  refine ⟨⟨by simp (disch := omega) only [jset_at, jset_bk, jset_bj, jsN_at, jsN_no, jsN_I, jsI_N, jsI_T, jsI_at, jsI_no1, jsI_no2, jsT_N, jsT_I]; exact a0, by simp (disch := omega) only [jset_at, jset_bk, jset_bj, jsN_at, jsN_no, jsN_I, jsI_N, jsI_T, jsI_at, jsI_no1, jsI_no2, jsT_N, jsT_I]; exact a1, by simp (disch := omega) only [jset_at, jset_bk, jset_bj, jsN_at, jsN_no, jsN_I, jsI_N, jsI_T, jsI_at, jsI_no1, jsI_no2, jsT_N, jsT_I], by simp (disch := omega) only [jset_at, jset_bk, jset_bj, jsN_at, jsN_no, jsN_I, jsI_N, jsI_T, jsI_at, jsI_no1, jsI_no2, jsT_N, jsT_I]; exact a3, by simp (disch := omega) only [jset_at, jset_bk, jset_bj, jsN_at, jsN_no, jsN_I, jsI_N, jsI_T, jsI_at, jsI_no1, jsI_no2, jsT_N, jsT_I]; exact a4, by simp (disch := omega) only [jset_at, jset_bk, jset_bj, jsN_at, jsN_no, jsN_I, jsI_N, jsI_T, jsI_at, jsI_no1, jsI_no2, jsT_N, jsT_I]; exact a5⟩, fun j hj => by simp (disch := omega) only [jset_at, jset_bk, jset_bj, jsN_at, jsN_no, jsN_I, jsI_N, jsI_T, jsI_at, jsI_no1, jsI_no2, jsT_N, jsT_I]; exact q j hj, fun j hj => ?_, fun c2 hc2 => ?_, fun j hj => by simp (disch := omega) only [jset_at, jset_bk, jset_bj, jsN_at, jsN_no, jsN_I, jsI_N, jsI_T, jsI_at, jsI_no1, jsI_no2, jsT_N, jsT_I]; exact f j hj, fun j hj => by simp (disch := omega) only [jset_at, jset_bk, jset_bj, jsN_at, jsN_no, jsN_I, jsI_N, jsI_T, jsI_at, jsI_no1, jsI_no2, jsT_N, jsT_I]; exact g j hj, ?_⟩
  · rw [out (100 + j) (by omega) (by omega), out (140 + j) (by omega) (by omega)]
    simp (disch := omega) only [jset_at, jset_bk, jset_bj, jsN_at, jsN_no, jsN_I, jsI_N, jsI_T, jsI_at, jsI_no1, jsI_no2, jsT_N, jsT_I]; exact c1 j hj
  · rw [jsN_at] at hc2
    by_cases z : c2 = D.1 2
    · subst z
      have e10 : (jsN (jsN (jaNotes D (D.1 2) fn k) (10 + D.1 2) k) 2 (D.1 2 + 1)).1 (10 + D.1 2) = k := by rw [jsN_no (by omega), jsN_at]
      rw [e10]
      refine ⟨by simp (disch := omega) only [jset_at, jset_bk, jset_bj, jsN_at, jsN_no, jsN_I, jsI_N, jsI_T, jsI_at, jsI_no1, jsI_no2, jsT_N, jsT_I], fun p hp => ?_⟩
      rw [jsN_no (by omega), jsN_no (by omega), jaNotes_in hp]
      simp (disch := omega) only [jset_at, jset_bk, jset_bj, jsN_at, jsN_no, jsN_I, jsI_N, jsI_T, jsI_at, jsI_no1, jsI_no2, jsT_N, jsT_I]; exact hc p hp
    · have hc3 : c2 < D.1 2 := by omega
      have hs := (w3 c2 hc3).2.1
      have e10 : (jsN (jsN (jaNotes D (D.1 2) fn k) (10 + D.1 2) k) 2 (D.1 2 + 1)).1 (10 + c2) = D.1 (10 + c2) := by rw [jsN_no (by omega), jsN_no (by omega), jaNotes_out (by omega)]
      rw [e10]
      refine ⟨by simp (disch := omega) only [jset_at, jset_bk, jset_bj, jsN_at, jsN_no, jsN_I, jsI_N, jsI_T, jsI_at, jsI_no1, jsI_no2, jsT_N, jsT_I]; exact (e c2 hc3).1, fun p hp => ?_⟩
      rw [jsN_no (by omega), jsN_no (by omega), jaNotes_out (by omega)]
      simp (disch := omega) only [jset_at, jset_bk, jset_bj, jsN_at, jsN_no, jsN_I, jsI_N, jsI_T, jsI_at, jsI_no1, jsI_no2, jsT_N, jsT_I]; exact (e c2 hc3).2 p hp
  · exact jBoP.kept (D := D) i hm (by rw [jset_k (by decide), jset_k (by decide), jset_k (by decide)]) (jrows (fun k hk => by rw [jset_k (by omega), jset_k (by omega), jset_k (by omega)])) (Nat.le_refl _) (out 5 (by omega) (by omega)) (by rw [out 0 (by omega) (by omega)]; exact Nat.le_refl _) (by rw [out 1 (by omega) (by omega)]; exact Nat.le_refl _) (fun j hj => ⟨out (120 + j) (by omega) (by omega), by rw [int], by rw [int]⟩)
theorem jBq_ord {w : JW} {b : Bool} {D : JD} {m : Nat} (h : jBq w b D m) (hW : jWF D) (h16 : D.1 5 < 16) {s : Int32} {t : Nat} {z : Int32} {f : (Nat → Int32) → Bool} (hr : (z = -1 ∧ s = 16 ∧ ∀ R, f R = true) ∨ (∃ v : Nat, z = nI v ∧ jTm m (w.1 60 b) (w.1 61 b) (w.1 62 b) (D.1 0) (D.1 1) (v + 1) true v ∧ ∀ R, jmv (w.1 60 b) (w.1 61 b) (w.1 62 b) R (v + 1) v = if f R then 1 else 0)) :
    jBq (jset (jset (jset (jset w 59 b (3 * D.1 5) s) 59 b (3 * D.1 5 + 1) (nI t)) 59 b (3 * D.1 5 + 2) z) 53 b 5 (nI (D.1 5 + 1))) b (jsN (jsN (jsT (jsI D 12 (D.1 5) s) (D.1 5) f) (120 + D.1 5) t) 5 (D.1 5 + 1)) m := by
  obtain ⟨⟨b0, b1, b2, b3, b4, b5⟩, w1, w2, w3, w4, w5⟩ := hW
  obtain ⟨⟨a0, a1, a2, a3, a4, a5⟩, q, c1, e, f2, g, i⟩ := h
  refine ⟨⟨?_, ?_, ?_, ?_, ?_, ?_⟩, fun j hj => ?_, fun j hj => ?_, fun c2 hc => ?_, fun j hj => ?_, fun j hj => ?_, fun j hj => ?_⟩
  · simp (disch := omega) only [jset_at, jset_bk, jset_bj, jsN_at, jsN_no, jsN_I, jsI_N, jsI_T, jsI_at, jsI_no1, jsI_no2, jsT_N, jsT_I]; exact a0
  · simp (disch := omega) only [jset_at, jset_bk, jset_bj, jsN_at, jsN_no, jsN_I, jsI_N, jsI_T, jsI_at, jsI_no1, jsI_no2, jsT_N, jsT_I]; exact a1
  · simp (disch := omega) only [jset_at, jset_bk, jset_bj, jsN_at, jsN_no, jsN_I, jsI_N, jsI_T, jsI_at, jsI_no1, jsI_no2, jsT_N, jsT_I]; exact a2
  · simp (disch := omega) only [jset_at, jset_bk, jset_bj, jsN_at, jsN_no, jsN_I, jsI_N, jsI_T, jsI_at, jsI_no1, jsI_no2, jsT_N, jsT_I]; exact a3
  · simp (disch := omega) only [jset_at, jset_bk, jset_bj, jsN_at, jsN_no, jsN_I, jsI_N, jsI_T, jsI_at, jsI_no1, jsI_no2, jsT_N, jsT_I]; exact a4
  · simp (disch := omega) only [jset_at, jset_bk, jset_bj, jsN_at, jsN_no, jsN_I, jsI_N, jsI_T, jsI_at, jsI_no1, jsI_no2, jsT_N, jsT_I]
  · have hj2 : j < D.1 0 := by revert hj; simp (disch := omega) only [jset_at, jset_bk, jset_bj, jsN_at, jsN_no, jsN_I, jsI_N, jsI_T, jsI_at, jsI_no1, jsI_no2, jsT_N, jsT_I]; exact id
    simp (disch := omega) only [jset_at, jset_bk, jset_bj, jsN_at, jsN_no, jsN_I, jsI_N, jsI_T, jsI_at, jsI_no1, jsI_no2, jsT_N, jsT_I]; exact q j hj2
  · have hj2 : j < D.1 1 := by revert hj; simp (disch := omega) only [jset_at, jset_bk, jset_bj, jsN_at, jsN_no, jsN_I, jsI_N, jsI_T, jsI_at, jsI_no1, jsI_no2, jsT_N, jsT_I]; exact id
    simp (disch := omega) only [jset_at, jset_bk, jset_bj, jsN_at, jsN_no, jsN_I, jsI_N, jsI_T, jsI_at, jsI_no1, jsI_no2, jsT_N, jsT_I]; exact c1 j hj2
  · have hc2 : c2 < D.1 2 := by revert hc; simp (disch := omega) only [jset_at, jset_bk, jset_bj, jsN_at, jsN_no, jsN_I, jsI_N, jsI_T, jsI_at, jsI_no1, jsI_no2, jsT_N, jsT_I]; exact id
    have hs := (w3 c2 hc2).2.1
    refine ⟨by simp (disch := omega) only [jset_at, jset_bk, jset_bj, jsN_at, jsN_no, jsN_I, jsI_N, jsI_T, jsI_at, jsI_no1, jsI_no2, jsT_N, jsT_I]; exact (e c2 hc2).1, fun p hp => ?_⟩
    have hp2 : p < D.1 (10 + c2) := by revert hp; simp (disch := omega) only [jset_at, jset_bk, jset_bj, jsN_at, jsN_no, jsN_I, jsI_N, jsI_T, jsI_at, jsI_no1, jsI_no2, jsT_N, jsT_I]; exact id
    simp (disch := omega) only [jset_at, jset_bk, jset_bj, jsN_at, jsN_no, jsN_I, jsI_N, jsI_T, jsI_at, jsI_no1, jsI_no2, jsT_N, jsT_I]; exact (e c2 hc2).2 p hp2
  · have hj2 : j < D.1 3 := by revert hj; simp (disch := omega) only [jset_at, jset_bk, jset_bj, jsN_at, jsN_no, jsN_I, jsI_N, jsI_T, jsI_at, jsI_no1, jsI_no2, jsT_N, jsT_I]; exact id
    simp (disch := omega) only [jset_at, jset_bk, jset_bj, jsN_at, jsN_no, jsN_I, jsI_N, jsI_T, jsI_at, jsI_no1, jsI_no2, jsT_N, jsT_I]; exact f2 j hj2
  · have hj2 : j < D.1 4 := by revert hj; simp (disch := omega) only [jset_at, jset_bk, jset_bj, jsN_at, jsN_no, jsN_I, jsI_N, jsI_T, jsI_at, jsI_no1, jsI_no2, jsT_N, jsT_I]; exact id
    simp (disch := omega) only [jset_at, jset_bk, jset_bj, jsN_at, jsN_no, jsN_I, jsI_N, jsI_T, jsI_at, jsI_no1, jsI_no2, jsT_N, jsT_I]; exact g j hj2
  · rw [jsN_at] at hj
    have er : ∀ k, 60 ≤ k → (jset (jset (jset (jset w 59 b (3 * D.1 5) s) 59 b (3 * D.1 5 + 1) (nI t)) 59 b (3 * D.1 5 + 2) z) 53 b 5 (nI (D.1 5 + 1))).1 k b = w.1 k b := fun k hk => by rw [jset_k (by omega), jset_k (by omega), jset_k (by omega), jset_k (by omega)]
    rw [er 60 (by decide), er 61 (by decide), er 62 (by decide)]
    by_cases zz : j = D.1 5
    · subst zz
      have eT : (jsN (jsN (jsT (jsI D 12 (D.1 5) s) (D.1 5) f) (120 + D.1 5) t) 5 (D.1 5 + 1)).2.2 (D.1 5) = f := by
        rw [jsN_I, jsN_I, jsT_at]
      rw [eT]
      simp (disch := omega) only [jset_at, jset_bk, jset_bj, jsN_at, jsN_no, jsN_I, jsI_N, jsI_T, jsI_at, jsI_no1, jsI_no2, jsT_N, jsT_I]; exact ⟨trivial, trivial, hr⟩
    · have eT : (jsN (jsN (jsT (jsI D 12 (D.1 5) s) (D.1 5) f) (120 + D.1 5) t) 5 (D.1 5 + 1)).2.2 j = D.2.2 j := by
        rw [jsN_I, jsN_I, jsT_no zz, jsI_T]
      rw [eT]
      have := i j (by omega)
      simp (disch := omega) only [jset_at, jset_bk, jset_bj, jsN_at, jsN_no, jsN_I, jsI_N, jsI_T, jsI_at, jsI_no1, jsI_no2, jsT_N, jsT_I]; exact this
