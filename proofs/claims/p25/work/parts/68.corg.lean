/-! an organ grows, on both sides: a cave, a pipe, a swell, a silence, a chord, an order -/
theorem jset_k {w : JW} {k : Nat} {b : Bool} {j : Nat} {x : Int32} {k2 : Nat} {b2 : Bool} (h : k2 ≠ k) : (jset w k b j x).1 k2 b2 = w.1 k2 b2 := by
  funext j2
  exact jset_b (Or.inl h)
theorem jset_bk {w : JW} {k : Nat} {b : Bool} {j : Nat} {x : Int32} {k2 : Nat} {b2 : Bool} {j2 : Nat} (h : k2 ≠ k) : (jset w k b j x).1 k2 b2 j2 = w.1 k2 b2 j2 := jset_b (Or.inl h)
theorem jset_bj {w : JW} {k : Nat} {b : Bool} {j : Nat} {x : Int32} {k2 : Nat} {b2 : Bool} {j2 : Nat} (h : j2 ≠ j) : (jset w k b j x).1 k2 b2 j2 = w.1 k2 b2 j2 := jset_b (Or.inr (Or.inr h))
theorem jsN_at {D : JD} {i v : Nat} : (jsN D i v).1 i = v := updn_at
theorem jsN_no {D : JD} {i v j : Nat} (h : j ≠ i) : (jsN D i v).1 j = D.1 j := updn_no h
theorem jsN_I {D : JD} {i v : Nat} : (jsN D i v).2 = D.2 := rfl
theorem jsI_N {D : JD} {k j : Nat} {x : Int32} : (jsI D k j x).1 = D.1 := rfl
theorem jsI_T {D : JD} {k j : Nat} {x : Int32} : (jsI D k j x).2.2 = D.2.2 := rfl
theorem jsI_at {D : JD} {k j : Nat} {x : Int32} : (jsI D k j x).2.1 k j = x := if_pos ⟨rfl, rfl⟩
theorem jsI_no1 {D : JD} {k j : Nat} {x : Int32} {k2 j2 : Nat} (h : k2 ≠ k) : (jsI D k j x).2.1 k2 j2 = D.2.1 k2 j2 := if_neg (fun q => h q.1)
theorem jsI_no2 {D : JD} {k j : Nat} {x : Int32} {k2 j2 : Nat} (h : j2 ≠ j) : (jsI D k j x).2.1 k2 j2 = D.2.1 k2 j2 := if_neg (fun q => h q.2)
theorem jsT_N {D : JD} {j : Nat} {t : (Nat → Int32) → Bool} : (jsT D j t).1 = D.1 := rfl
theorem jsT_I {D : JD} {j : Nat} {t : (Nat → Int32) → Bool} : (jsT D j t).2.1 = D.2.1 := rfl
theorem jsT_at {D : JD} {j : Nat} {t : (Nat → Int32) → Bool} : (jsT D j t).2.2 j = t := if_pos rfl
theorem jsT_no {D : JD} {j : Nat} {t : (Nat → Int32) → Bool} {i : Nat} (h : i ≠ j) : (jsT D j t).2.2 i = D.2.2 i := if_neg h
/-- the part of jOrg that tells orders -/
def jOrdP (w : JW) (o : Bool) (D : JD) : Prop := ∀ j, j < D.1 5 → w.1 35 o j = D.2.1 12 j ∧ w.1 36 o j = nI (D.1 (120 + j)) ∧ ∃ a e : Nat, w.1 37 o j = nI a ∧ w.1 38 o j = nI e ∧ a ≤ e ∧ e ≤ 400 ∧
    ((a = e ∧ ∀ R, D.2.2 j R = true) ∨ (a ≠ e ∧ ∀ R, ∃ v S, jrunS (w.1 39 o) (w.1 40 o) (jrd R) (e - a) a [] = some (v :: S) ∧ D.2.2 j R = decide (v ≠ 0)))
theorem jOrdP.kept {w w2 : JW} {o : Bool} {D D2 : JD} (h : jOrdP w o D) (hk : ∀ k, 35 ≤ k → k ≤ 40 → w2.1 k o = w.1 k o) (h5 : D2.1 5 = D.1 5) (ha : ∀ j, j < D.1 5 → D2.1 (120 + j) = D.1 (120 + j) ∧ D2.2.1 12 j = D.2.1 12 j ∧ D2.2.2 j = D.2.2 j) : jOrdP w2 o D2 := by
  intro j hj
  rw [h5] at hj
  obtain ⟨q1, q2, q3⟩ := ha j hj
  rw [hk 35 (by omega) (by omega), hk 36 (by omega) (by omega), hk 37 (by omega) (by omega), hk 38 (by omega) (by omega), hk 39 (by omega) (by omega), hk 40 (by omega) (by omega), q1, q2, q3]
  exact h j hj
theorem jOrg_cave {w : JW} {o : Bool} {D : JD} (h : jOrg w o D) (hW : jWF D) (m d : Int32) : jOrg (jset (jset (jset w 21 o (D.1 0) m) 22 o (D.1 0) d) 20 o 9 (nI (D.1 0 + 1))) o (jsN (jsI (jsI D 0 (D.1 0) m) 1 (D.1 0) d) 0 (D.1 0 + 1)) := by
  obtain ⟨⟨b0, b1, b2, b3, b4, b5⟩, w1, w2, w3, w4, w5⟩ := hW
  obtain ⟨⟨a0, a1, a2, a3, a4, a5⟩, b, c, e, f, g, i⟩ := h
  refine ⟨⟨?_, ?_, ?_, ?_, ?_, ?_⟩, fun j hj => ?_, fun j hj => ?_, fun c2 hc => ?_, fun j hj => ?_, fun j hj => ?_, ?_⟩
  · simp (disch := omega) only [jset_at, jset_bk, jset_bj, jsN_at, jsN_no, jsN_I, jsI_N, jsI_T, jsI_at, jsI_no1, jsI_no2, jsT_N, jsT_I]
  · simp (disch := omega) only [jset_at, jset_bk, jset_bj, jsN_at, jsN_no, jsN_I, jsI_N, jsI_T, jsI_at, jsI_no1, jsI_no2, jsT_N, jsT_I]; exact a1
  · simp (disch := omega) only [jset_at, jset_bk, jset_bj, jsN_at, jsN_no, jsN_I, jsI_N, jsI_T, jsI_at, jsI_no1, jsI_no2, jsT_N, jsT_I]; exact a2
  · simp (disch := omega) only [jset_at, jset_bk, jset_bj, jsN_at, jsN_no, jsN_I, jsI_N, jsI_T, jsI_at, jsI_no1, jsI_no2, jsT_N, jsT_I]; exact a3
  · simp (disch := omega) only [jset_at, jset_bk, jset_bj, jsN_at, jsN_no, jsN_I, jsI_N, jsI_T, jsI_at, jsI_no1, jsI_no2, jsT_N, jsT_I]; exact a4
  · simp (disch := omega) only [jset_at, jset_bk, jset_bj, jsN_at, jsN_no, jsN_I, jsI_N, jsI_T, jsI_at, jsI_no1, jsI_no2, jsT_N, jsT_I]; exact a5
  · rw [jsN_at] at hj
    by_cases z : j = D.1 0
    · subst z
      simp (disch := omega) only [jset_at, jset_bk, jset_bj, jsN_at, jsN_no, jsN_I, jsI_N, jsI_T, jsI_at, jsI_no1, jsI_no2, jsT_N, jsT_I]; exact ⟨trivial, trivial⟩
    · simp (disch := omega) only [jset_at, jset_bk, jset_bj, jsN_at, jsN_no, jsN_I, jsI_N, jsI_T, jsI_at, jsI_no1, jsI_no2, jsT_N, jsT_I]; exact b j (by omega)
  · rw [jsN_no (by omega)] at hj
    simp (disch := omega) only [jset_at, jset_bk, jset_bj, jsN_at, jsN_no, jsN_I, jsI_N, jsI_T, jsI_at, jsI_no1, jsI_no2, jsT_N, jsT_I]; exact c j hj
  · rw [jsN_no (by omega)] at hc
    have hs := (w3 c2 hc).2.1
    refine ⟨by simp (disch := omega) only [jset_at, jset_bk, jset_bj, jsN_at, jsN_no, jsN_I, jsI_N, jsI_T, jsI_at, jsI_no1, jsI_no2, jsT_N, jsT_I]; exact (e c2 hc).1, fun p hp => ?_⟩
    rw [jsN_no (by omega)] at hp
    simp (disch := omega) only [jset_at, jset_bk, jset_bj, jsN_at, jsN_no, jsN_I, jsI_N, jsI_T, jsI_at, jsI_no1, jsI_no2, jsT_N, jsT_I]; exact (e c2 hc).2 p hp
  · rw [jsN_no (by omega)] at hj
    simp (disch := omega) only [jset_at, jset_bk, jset_bj, jsN_at, jsN_no, jsN_I, jsI_N, jsI_T, jsI_at, jsI_no1, jsI_no2, jsT_N, jsT_I]; exact f j hj
  · rw [jsN_no (by omega)] at hj
    simp (disch := omega) only [jset_at, jset_bk, jset_bj, jsN_at, jsN_no, jsN_I, jsI_N, jsI_T, jsI_at, jsI_no1, jsI_no2, jsT_N, jsT_I]; exact g j hj
  · exact jOrdP.kept (D := D) i (fun k h1 h2 => by rw [jset_k (by omega), jset_k (by omega), jset_k (by omega)]) (by simp (disch := omega) only [jset_at, jset_bk, jset_bj, jsN_at, jsN_no, jsN_I, jsI_N, jsI_T, jsI_at, jsI_no1, jsI_no2, jsT_N, jsT_I]) (fun j hj => ⟨by simp (disch := omega) only [jset_at, jset_bk, jset_bj, jsN_at, jsN_no, jsN_I, jsI_N, jsI_T, jsI_at, jsI_no1, jsI_no2, jsT_N, jsT_I], by simp (disch := omega) only [jset_at, jset_bk, jset_bj, jsN_at, jsN_no, jsN_I, jsI_N, jsI_T, jsI_at, jsI_no1, jsI_no2, jsT_N, jsT_I], rfl⟩)
theorem jOrg_pipe {w : JW} {o : Bool} {D : JD} (h : jOrg w o D) (hW : jWF D) (c l : Nat) (r : Int32) (h12 : D.1 1 < 12) : jOrg (jset (jset (jset (jset w 23 o (D.1 1) (nI c)) 24 o (D.1 1) (nI l)) 25 o (D.1 1) r) 20 o 10 (nI (D.1 1 + 1))) o (jsN (jsN (jsN (jsI D 4 (D.1 1) r) (100 + D.1 1) c) (140 + D.1 1) l) 1 (D.1 1 + 1)) := by
  obtain ⟨⟨b0, b1, b2, b3, b4, b5⟩, w1, w2, w3, w4, w5⟩ := hW
  obtain ⟨⟨a0, a1, a2, a3, a4, a5⟩, b, c1, e, f, g, i⟩ := h
  refine ⟨⟨?_, ?_, ?_, ?_, ?_, ?_⟩, fun j hj => ?_, fun j hj => ?_, fun c2 hc => ?_, fun j hj => ?_, fun j hj => ?_, ?_⟩
  · simp (disch := omega) only [jset_at, jset_bk, jset_bj, jsN_at, jsN_no, jsN_I, jsI_N, jsI_T, jsI_at, jsI_no1, jsI_no2, jsT_N, jsT_I]; exact a0
  · simp (disch := omega) only [jset_at, jset_bk, jset_bj, jsN_at, jsN_no, jsN_I, jsI_N, jsI_T, jsI_at, jsI_no1, jsI_no2, jsT_N, jsT_I]
  · simp (disch := omega) only [jset_at, jset_bk, jset_bj, jsN_at, jsN_no, jsN_I, jsI_N, jsI_T, jsI_at, jsI_no1, jsI_no2, jsT_N, jsT_I]; exact a2
  · simp (disch := omega) only [jset_at, jset_bk, jset_bj, jsN_at, jsN_no, jsN_I, jsI_N, jsI_T, jsI_at, jsI_no1, jsI_no2, jsT_N, jsT_I]; exact a3
  · simp (disch := omega) only [jset_at, jset_bk, jset_bj, jsN_at, jsN_no, jsN_I, jsI_N, jsI_T, jsI_at, jsI_no1, jsI_no2, jsT_N, jsT_I]; exact a4
  · simp (disch := omega) only [jset_at, jset_bk, jset_bj, jsN_at, jsN_no, jsN_I, jsI_N, jsI_T, jsI_at, jsI_no1, jsI_no2, jsT_N, jsT_I]; exact a5
  · have hj2 : j < D.1 0 := by revert hj; simp (disch := omega) only [jset_at, jset_bk, jset_bj, jsN_at, jsN_no, jsN_I, jsI_N, jsI_T, jsI_at, jsI_no1, jsI_no2, jsT_N, jsT_I]; exact id
    simp (disch := omega) only [jset_at, jset_bk, jset_bj, jsN_at, jsN_no, jsN_I, jsI_N, jsI_T, jsI_at, jsI_no1, jsI_no2, jsT_N, jsT_I]; exact b j hj2
  · rw [jsN_at] at hj
    by_cases z : j = D.1 1
    · subst z
      simp (disch := omega) only [jset_at, jset_bk, jset_bj, jsN_at, jsN_no, jsN_I, jsI_N, jsI_T, jsI_at, jsI_no1, jsI_no2, jsT_N, jsT_I]; exact ⟨trivial, trivial, trivial⟩
    · simp (disch := omega) only [jset_at, jset_bk, jset_bj, jsN_at, jsN_no, jsN_I, jsI_N, jsI_T, jsI_at, jsI_no1, jsI_no2, jsT_N, jsT_I]; exact c1 j (by omega)
  · have hc2 : c2 < D.1 2 := by revert hc; simp (disch := omega) only [jset_at, jset_bk, jset_bj, jsN_at, jsN_no, jsN_I, jsI_N, jsI_T, jsI_at, jsI_no1, jsI_no2, jsT_N, jsT_I]; exact id
    have hs := (w3 c2 hc2).2.1
    refine ⟨by simp (disch := omega) only [jset_at, jset_bk, jset_bj, jsN_at, jsN_no, jsN_I, jsI_N, jsI_T, jsI_at, jsI_no1, jsI_no2, jsT_N, jsT_I]; exact (e c2 hc2).1, fun p hp => ?_⟩
    have hp2 : p < D.1 (10 + c2) := by revert hp; simp (disch := omega) only [jset_at, jset_bk, jset_bj, jsN_at, jsN_no, jsN_I, jsI_N, jsI_T, jsI_at, jsI_no1, jsI_no2, jsT_N, jsT_I]; exact id
    simp (disch := omega) only [jset_at, jset_bk, jset_bj, jsN_at, jsN_no, jsN_I, jsI_N, jsI_T, jsI_at, jsI_no1, jsI_no2, jsT_N, jsT_I]; exact (e c2 hc2).2 p hp2
  · have hj2 : j < D.1 3 := by revert hj; simp (disch := omega) only [jset_at, jset_bk, jset_bj, jsN_at, jsN_no, jsN_I, jsI_N, jsI_T, jsI_at, jsI_no1, jsI_no2, jsT_N, jsT_I]; exact id
    simp (disch := omega) only [jset_at, jset_bk, jset_bj, jsN_at, jsN_no, jsN_I, jsI_N, jsI_T, jsI_at, jsI_no1, jsI_no2, jsT_N, jsT_I]; exact f j hj2
  · have hj2 : j < D.1 4 := by revert hj; simp (disch := omega) only [jset_at, jset_bk, jset_bj, jsN_at, jsN_no, jsN_I, jsI_N, jsI_T, jsI_at, jsI_no1, jsI_no2, jsT_N, jsT_I]; exact id
    simp (disch := omega) only [jset_at, jset_bk, jset_bj, jsN_at, jsN_no, jsN_I, jsI_N, jsI_T, jsI_at, jsI_no1, jsI_no2, jsT_N, jsT_I]; exact g j hj2
  · exact jOrdP.kept (D := D) i (fun k h1 h2 => by rw [jset_k (by omega), jset_k (by omega), jset_k (by omega), jset_k (by omega)]) (by simp (disch := omega) only [jset_at, jset_bk, jset_bj, jsN_at, jsN_no, jsN_I, jsI_N, jsI_T, jsI_at, jsI_no1, jsI_no2, jsT_N, jsT_I]) (fun j hj => ⟨by simp (disch := omega) only [jset_at, jset_bk, jset_bj, jsN_at, jsN_no, jsN_I, jsI_N, jsI_T, jsI_at, jsI_no1, jsI_no2, jsT_N, jsT_I], by simp (disch := omega) only [jset_at, jset_bk, jset_bj, jsN_at, jsN_no, jsN_I, jsI_N, jsI_T, jsI_at, jsI_no1, jsI_no2, jsT_N, jsT_I], rfl⟩)
theorem jOrg_swell {w : JW} {o : Bool} {D : JD} (h : jOrg w o D) (hW : jWF D) (x y z : Int32) : jOrg (jset (jset (jset (jset w 29 o (D.1 3) x) 30 o (D.1 3) y) 31 o (D.1 3) z) 28 o 5 (nI (D.1 3 + 1))) o (jsN (jsI (jsI (jsI D 7 (D.1 3) x) 8 (D.1 3) y) 9 (D.1 3) z) 3 (D.1 3 + 1)) := by
  obtain ⟨⟨b0, b1, b2, b3, b4, b5⟩, w1, w2, w3, w4, w5⟩ := hW
  obtain ⟨⟨a0, a1, a2, a3, a4, a5⟩, b, c1, e, f, g, i⟩ := h
  refine ⟨⟨?_, ?_, ?_, ?_, ?_, ?_⟩, fun j hj => ?_, fun j hj => ?_, fun c2 hc => ?_, fun j hj => ?_, fun j hj => ?_, ?_⟩
  · simp (disch := omega) only [jset_at, jset_bk, jset_bj, jsN_at, jsN_no, jsN_I, jsI_N, jsI_T, jsI_at, jsI_no1, jsI_no2, jsT_N, jsT_I]; exact a0
  · simp (disch := omega) only [jset_at, jset_bk, jset_bj, jsN_at, jsN_no, jsN_I, jsI_N, jsI_T, jsI_at, jsI_no1, jsI_no2, jsT_N, jsT_I]; exact a1
  · simp (disch := omega) only [jset_at, jset_bk, jset_bj, jsN_at, jsN_no, jsN_I, jsI_N, jsI_T, jsI_at, jsI_no1, jsI_no2, jsT_N, jsT_I]; exact a2
  · simp (disch := omega) only [jset_at, jset_bk, jset_bj, jsN_at, jsN_no, jsN_I, jsI_N, jsI_T, jsI_at, jsI_no1, jsI_no2, jsT_N, jsT_I]
  · simp (disch := omega) only [jset_at, jset_bk, jset_bj, jsN_at, jsN_no, jsN_I, jsI_N, jsI_T, jsI_at, jsI_no1, jsI_no2, jsT_N, jsT_I]; exact a4
  · simp (disch := omega) only [jset_at, jset_bk, jset_bj, jsN_at, jsN_no, jsN_I, jsI_N, jsI_T, jsI_at, jsI_no1, jsI_no2, jsT_N, jsT_I]; exact a5
  · have hj2 : j < D.1 0 := by revert hj; simp (disch := omega) only [jset_at, jset_bk, jset_bj, jsN_at, jsN_no, jsN_I, jsI_N, jsI_T, jsI_at, jsI_no1, jsI_no2, jsT_N, jsT_I]; exact id
    simp (disch := omega) only [jset_at, jset_bk, jset_bj, jsN_at, jsN_no, jsN_I, jsI_N, jsI_T, jsI_at, jsI_no1, jsI_no2, jsT_N, jsT_I]; exact b j hj2
  · have hj2 : j < D.1 1 := by revert hj; simp (disch := omega) only [jset_at, jset_bk, jset_bj, jsN_at, jsN_no, jsN_I, jsI_N, jsI_T, jsI_at, jsI_no1, jsI_no2, jsT_N, jsT_I]; exact id
    simp (disch := omega) only [jset_at, jset_bk, jset_bj, jsN_at, jsN_no, jsN_I, jsI_N, jsI_T, jsI_at, jsI_no1, jsI_no2, jsT_N, jsT_I]; exact c1 j hj2
  · have hc2 : c2 < D.1 2 := by revert hc; simp (disch := omega) only [jset_at, jset_bk, jset_bj, jsN_at, jsN_no, jsN_I, jsI_N, jsI_T, jsI_at, jsI_no1, jsI_no2, jsT_N, jsT_I]; exact id
    have hs := (w3 c2 hc2).2.1
    refine ⟨by simp (disch := omega) only [jset_at, jset_bk, jset_bj, jsN_at, jsN_no, jsN_I, jsI_N, jsI_T, jsI_at, jsI_no1, jsI_no2, jsT_N, jsT_I]; exact (e c2 hc2).1, fun p hp => ?_⟩
    have hp2 : p < D.1 (10 + c2) := by revert hp; simp (disch := omega) only [jset_at, jset_bk, jset_bj, jsN_at, jsN_no, jsN_I, jsI_N, jsI_T, jsI_at, jsI_no1, jsI_no2, jsT_N, jsT_I]; exact id
    simp (disch := omega) only [jset_at, jset_bk, jset_bj, jsN_at, jsN_no, jsN_I, jsI_N, jsI_T, jsI_at, jsI_no1, jsI_no2, jsT_N, jsT_I]; exact (e c2 hc2).2 p hp2
  · rw [jsN_at] at hj
    by_cases q : j = D.1 3
    · subst q
      simp (disch := omega) only [jset_at, jset_bk, jset_bj, jsN_at, jsN_no, jsN_I, jsI_N, jsI_T, jsI_at, jsI_no1, jsI_no2, jsT_N, jsT_I]; exact ⟨trivial, trivial, trivial⟩
    · simp (disch := omega) only [jset_at, jset_bk, jset_bj, jsN_at, jsN_no, jsN_I, jsI_N, jsI_T, jsI_at, jsI_no1, jsI_no2, jsT_N, jsT_I]; exact f j (by omega)
  · have hj2 : j < D.1 4 := by revert hj; simp (disch := omega) only [jset_at, jset_bk, jset_bj, jsN_at, jsN_no, jsN_I, jsI_N, jsI_T, jsI_at, jsI_no1, jsI_no2, jsT_N, jsT_I]; exact id
    simp (disch := omega) only [jset_at, jset_bk, jset_bj, jsN_at, jsN_no, jsN_I, jsI_N, jsI_T, jsI_at, jsI_no1, jsI_no2, jsT_N, jsT_I]; exact g j hj2
  · exact jOrdP.kept (D := D) i (fun k h1 h2 => by rw [jset_k (by omega), jset_k (by omega), jset_k (by omega), jset_k (by omega)]) (by simp (disch := omega) only [jset_at, jset_bk, jset_bj, jsN_at, jsN_no, jsN_I, jsI_N, jsI_T, jsI_at, jsI_no1, jsI_no2, jsT_N, jsT_I]) (fun j hj => ⟨by simp (disch := omega) only [jset_at, jset_bk, jset_bj, jsN_at, jsN_no, jsN_I, jsI_N, jsI_T, jsI_at, jsI_no1, jsI_no2, jsT_N, jsT_I], by simp (disch := omega) only [jset_at, jset_bk, jset_bj, jsN_at, jsN_no, jsN_I, jsI_N, jsI_T, jsI_at, jsI_no1, jsI_no2, jsT_N, jsT_I], rfl⟩)
theorem jOrg_sil {w : JW} {o : Bool} {D : JD} (h : jOrg w o D) (hW : jWF D) (x y : Int32) : jOrg (jset (jset (jset w 32 o (D.1 4) x) 33 o (D.1 4) y) 28 o 6 (nI (D.1 4 + 1))) o (jsN (jsI (jsI D 10 (D.1 4) x) 11 (D.1 4) y) 4 (D.1 4 + 1)) := by
  obtain ⟨⟨b0, b1, b2, b3, b4, b5⟩, w1, w2, w3, w4, w5⟩ := hW
  obtain ⟨⟨a0, a1, a2, a3, a4, a5⟩, b, c1, e, f, g, i⟩ := h
  refine ⟨⟨?_, ?_, ?_, ?_, ?_, ?_⟩, fun j hj => ?_, fun j hj => ?_, fun c2 hc => ?_, fun j hj => ?_, fun j hj => ?_, ?_⟩
  · simp (disch := omega) only [jset_at, jset_bk, jset_bj, jsN_at, jsN_no, jsN_I, jsI_N, jsI_T, jsI_at, jsI_no1, jsI_no2, jsT_N, jsT_I]; exact a0
  · simp (disch := omega) only [jset_at, jset_bk, jset_bj, jsN_at, jsN_no, jsN_I, jsI_N, jsI_T, jsI_at, jsI_no1, jsI_no2, jsT_N, jsT_I]; exact a1
  · simp (disch := omega) only [jset_at, jset_bk, jset_bj, jsN_at, jsN_no, jsN_I, jsI_N, jsI_T, jsI_at, jsI_no1, jsI_no2, jsT_N, jsT_I]; exact a2
  · simp (disch := omega) only [jset_at, jset_bk, jset_bj, jsN_at, jsN_no, jsN_I, jsI_N, jsI_T, jsI_at, jsI_no1, jsI_no2, jsT_N, jsT_I]; exact a3
  · simp (disch := omega) only [jset_at, jset_bk, jset_bj, jsN_at, jsN_no, jsN_I, jsI_N, jsI_T, jsI_at, jsI_no1, jsI_no2, jsT_N, jsT_I]
  · simp (disch := omega) only [jset_at, jset_bk, jset_bj, jsN_at, jsN_no, jsN_I, jsI_N, jsI_T, jsI_at, jsI_no1, jsI_no2, jsT_N, jsT_I]; exact a5
  · have hj2 : j < D.1 0 := by revert hj; simp (disch := omega) only [jset_at, jset_bk, jset_bj, jsN_at, jsN_no, jsN_I, jsI_N, jsI_T, jsI_at, jsI_no1, jsI_no2, jsT_N, jsT_I]; exact id
    simp (disch := omega) only [jset_at, jset_bk, jset_bj, jsN_at, jsN_no, jsN_I, jsI_N, jsI_T, jsI_at, jsI_no1, jsI_no2, jsT_N, jsT_I]; exact b j hj2
  · have hj2 : j < D.1 1 := by revert hj; simp (disch := omega) only [jset_at, jset_bk, jset_bj, jsN_at, jsN_no, jsN_I, jsI_N, jsI_T, jsI_at, jsI_no1, jsI_no2, jsT_N, jsT_I]; exact id
    simp (disch := omega) only [jset_at, jset_bk, jset_bj, jsN_at, jsN_no, jsN_I, jsI_N, jsI_T, jsI_at, jsI_no1, jsI_no2, jsT_N, jsT_I]; exact c1 j hj2
  · have hc2 : c2 < D.1 2 := by revert hc; simp (disch := omega) only [jset_at, jset_bk, jset_bj, jsN_at, jsN_no, jsN_I, jsI_N, jsI_T, jsI_at, jsI_no1, jsI_no2, jsT_N, jsT_I]; exact id
    have hs := (w3 c2 hc2).2.1
    refine ⟨by simp (disch := omega) only [jset_at, jset_bk, jset_bj, jsN_at, jsN_no, jsN_I, jsI_N, jsI_T, jsI_at, jsI_no1, jsI_no2, jsT_N, jsT_I]; exact (e c2 hc2).1, fun p hp => ?_⟩
    have hp2 : p < D.1 (10 + c2) := by revert hp; simp (disch := omega) only [jset_at, jset_bk, jset_bj, jsN_at, jsN_no, jsN_I, jsI_N, jsI_T, jsI_at, jsI_no1, jsI_no2, jsT_N, jsT_I]; exact id
    simp (disch := omega) only [jset_at, jset_bk, jset_bj, jsN_at, jsN_no, jsN_I, jsI_N, jsI_T, jsI_at, jsI_no1, jsI_no2, jsT_N, jsT_I]; exact (e c2 hc2).2 p hp2
  · have hj2 : j < D.1 3 := by revert hj; simp (disch := omega) only [jset_at, jset_bk, jset_bj, jsN_at, jsN_no, jsN_I, jsI_N, jsI_T, jsI_at, jsI_no1, jsI_no2, jsT_N, jsT_I]; exact id
    simp (disch := omega) only [jset_at, jset_bk, jset_bj, jsN_at, jsN_no, jsN_I, jsI_N, jsI_T, jsI_at, jsI_no1, jsI_no2, jsT_N, jsT_I]; exact f j hj2
  · rw [jsN_at] at hj
    by_cases q : j = D.1 4
    · subst q
      simp (disch := omega) only [jset_at, jset_bk, jset_bj, jsN_at, jsN_no, jsN_I, jsI_N, jsI_T, jsI_at, jsI_no1, jsI_no2, jsT_N, jsT_I]; exact ⟨trivial, trivial⟩
    · simp (disch := omega) only [jset_at, jset_bk, jset_bj, jsN_at, jsN_no, jsN_I, jsI_N, jsI_T, jsI_at, jsI_no1, jsI_no2, jsT_N, jsT_I]; exact g j (by omega)
  · exact jOrdP.kept (D := D) i (fun k h1 h2 => by rw [jset_k (by omega), jset_k (by omega), jset_k (by omega)]) (by simp (disch := omega) only [jset_at, jset_bk, jset_bj, jsN_at, jsN_no, jsN_I, jsI_N, jsI_T, jsI_at, jsI_no1, jsI_no2, jsT_N, jsT_I]) (fun j hj => ⟨by simp (disch := omega) only [jset_at, jset_bk, jset_bj, jsN_at, jsN_no, jsN_I, jsI_N, jsI_T, jsI_at, jsI_no1, jsI_no2, jsT_N, jsT_I], by simp (disch := omega) only [jset_at, jset_bk, jset_bj, jsN_at, jsN_no, jsN_I, jsI_N, jsI_T, jsI_at, jsI_no1, jsI_no2, jsT_N, jsT_I], rfl⟩)
theorem jaNotes_2 {D : JD} {c : Nat} {f : Nat → Nat} : ∀ {m : Nat}, (jaNotes D c f m).2 = D.2
  | 0 => rfl
  | m + 1 => (jsN_I).trans (jaNotes_2 (m := m))
theorem jaNotes_in {D : JD} {c : Nat} {f : Nat → Nat} {p : Nat} : ∀ {m : Nat}, p < m → (jaNotes D c f m).1 (20 + (6 * c + p)) = f p := by
  intro m
  induction m with
  | zero => intro h; omega
  | succ m ih =>
    intro h
    unfold jaNotes
    by_cases z : p = m
    · subst z
      exact jsN_at
    · rw [jsN_no (by omega)]
      exact ih (by omega)
theorem jaNotes_out {D : JD} {c : Nat} {f : Nat → Nat} {i : Nat} : ∀ {m : Nat}, (i < 20 + 6 * c ∨ 20 + (6 * c + m) ≤ i) → (jaNotes D c f m).1 i = D.1 i := by
  intro m
  induction m with
  | zero => intro _; rfl
  | succ m ih =>
    intro h
    unfold jaNotes
    rw [jsN_no (by omega)]
    exact ih (by omega)
/-- a chord that is being read -/
def jChP (w : JW) (o : Bool) (c : Nat) (ch : JCh) : Prop := w.1 26 o c = nI ch.1 ∧ ∀ p, p < ch.1 → w.1 27 o (6 * c + p) = nI (ch.2 p)
theorem jOrg_chord {w : JW} {o : Bool} {D : JD} (h : jOrg w o D) (hW : jWF D) {m : Nat} {fn : Nat → Nat} (h6 : D.1 2 < 6) (hm : m ≤ 6) (hc : jChP w o (D.1 2) (m, fn)) : jOrg (jset w 20 o 11 (nI (D.1 2 + 1))) o (jsN (jsN (jaNotes D (D.1 2) fn m) (10 + D.1 2) m) 2 (D.1 2 + 1)) := by
  obtain ⟨⟨b0, b1, b2, b3, b4, b5⟩, w1, w2, w3, w4, w5⟩ := hW
  obtain ⟨⟨a0, a1, a2, a3, a4, a5⟩, b, c1, e, f, g, i⟩ := h
  have out : ∀ k, (k < 10 ∨ 56 ≤ k) → k ≠ 2 → (jsN (jsN (jaNotes D (D.1 2) fn m) (10 + D.1 2) m) 2 (D.1 2 + 1)).1 k = D.1 k := by
    intro k h1 h2
    rw [jsN_no (by omega), jsN_no (by omega), jaNotes_out (by omega)]
  have int : (jsN (jsN (jaNotes D (D.1 2) fn m) (10 + D.1 2) m) 2 (D.1 2 + 1)).2 = D.2 := by rw [jsN_I, jsN_I, jaNotes_2]
  refine ⟨⟨?_, ?_, ?_, ?_, ?_, ?_⟩, fun j hj => ?_, fun j hj => ?_, fun c2 hc2 => ?_, fun j hj => ?_, fun j hj => ?_, ?_⟩
  · rw [out 0 (by omega) (by omega)]; simp (disch := omega) only [jset_at, jset_bk, jset_bj, jsN_at, jsN_no, jsN_I, jsI_N, jsI_T, jsI_at, jsI_no1, jsI_no2, jsT_N, jsT_I]; exact a0
  · rw [out 1 (by omega) (by omega)]; simp (disch := omega) only [jset_at, jset_bk, jset_bj, jsN_at, jsN_no, jsN_I, jsI_N, jsI_T, jsI_at, jsI_no1, jsI_no2, jsT_N, jsT_I]; exact a1
  · simp (disch := omega) only [jset_at, jset_bk, jset_bj, jsN_at, jsN_no, jsN_I, jsI_N, jsI_T, jsI_at, jsI_no1, jsI_no2, jsT_N, jsT_I]
  · rw [out 3 (by omega) (by omega)]; simp (disch := omega) only [jset_at, jset_bk, jset_bj, jsN_at, jsN_no, jsN_I, jsI_N, jsI_T, jsI_at, jsI_no1, jsI_no2, jsT_N, jsT_I]; exact a3
  · rw [out 4 (by omega) (by omega)]; simp (disch := omega) only [jset_at, jset_bk, jset_bj, jsN_at, jsN_no, jsN_I, jsI_N, jsI_T, jsI_at, jsI_no1, jsI_no2, jsT_N, jsT_I]; exact a4
  · rw [out 5 (by omega) (by omega)]; simp (disch := omega) only [jset_at, jset_bk, jset_bj, jsN_at, jsN_no, jsN_I, jsI_N, jsI_T, jsI_at, jsI_no1, jsI_no2, jsT_N, jsT_I]; exact a5
  · rw [out 0 (by omega) (by omega)] at hj
    rw [int]
    simp (disch := omega) only [jset_at, jset_bk, jset_bj, jsN_at, jsN_no, jsN_I, jsI_N, jsI_T, jsI_at, jsI_no1, jsI_no2, jsT_N, jsT_I]; exact b j hj
  · rw [out 1 (by omega) (by omega)] at hj
    rw [out (100 + j) (by omega) (by omega), out (140 + j) (by omega) (by omega), int]
    simp (disch := omega) only [jset_at, jset_bk, jset_bj, jsN_at, jsN_no, jsN_I, jsI_N, jsI_T, jsI_at, jsI_no1, jsI_no2, jsT_N, jsT_I]; exact c1 j hj
  · rw [jsN_at] at hc2
    by_cases z : c2 = D.1 2
    · subst z
      have e10 : (jsN (jsN (jaNotes D (D.1 2) fn m) (10 + D.1 2) m) 2 (D.1 2 + 1)).1 (10 + D.1 2) = m := by rw [jsN_no (by omega), jsN_at]
      rw [e10]
      refine ⟨by simp (disch := omega) only [jset_at, jset_bk, jset_bj, jsN_at, jsN_no, jsN_I, jsI_N, jsI_T, jsI_at, jsI_no1, jsI_no2, jsT_N, jsT_I]; exact hc.1, fun p hp => ?_⟩
      rw [jsN_no (by omega), jsN_no (by omega), jaNotes_in hp]
      simp (disch := omega) only [jset_at, jset_bk, jset_bj, jsN_at, jsN_no, jsN_I, jsI_N, jsI_T, jsI_at, jsI_no1, jsI_no2, jsT_N, jsT_I]; exact hc.2 p hp
    · have hc3 : c2 < D.1 2 := by omega
      have hs := (w3 c2 hc3).2.1
      have e10 : (jsN (jsN (jaNotes D (D.1 2) fn m) (10 + D.1 2) m) 2 (D.1 2 + 1)).1 (10 + c2) = D.1 (10 + c2) := by rw [jsN_no (by omega), jsN_no (by omega), jaNotes_out (by omega)]
      rw [e10]
      refine ⟨by simp (disch := omega) only [jset_at, jset_bk, jset_bj, jsN_at, jsN_no, jsN_I, jsI_N, jsI_T, jsI_at, jsI_no1, jsI_no2, jsT_N, jsT_I]; exact (e c2 hc3).1, fun p hp => ?_⟩
      rw [jsN_no (by omega), jsN_no (by omega), jaNotes_out (by omega)]
      simp (disch := omega) only [jset_at, jset_bk, jset_bj, jsN_at, jsN_no, jsN_I, jsI_N, jsI_T, jsI_at, jsI_no1, jsI_no2, jsT_N, jsT_I]; exact (e c2 hc3).2 p hp
  · rw [out 3 (by omega) (by omega)] at hj
    rw [int]
    simp (disch := omega) only [jset_at, jset_bk, jset_bj, jsN_at, jsN_no, jsN_I, jsI_N, jsI_T, jsI_at, jsI_no1, jsI_no2, jsT_N, jsT_I]; exact f j hj
  · rw [out 4 (by omega) (by omega)] at hj
    rw [int]
    simp (disch := omega) only [jset_at, jset_bk, jset_bj, jsN_at, jsN_no, jsN_I, jsI_N, jsI_T, jsI_at, jsI_no1, jsI_no2, jsT_N, jsT_I]; exact g j hj
  · exact jOrdP.kept (D := D) i (fun k h1 h2 => by rw [jset_k (by omega)]) (out 5 (by omega) (by omega)) (fun j hj => ⟨out (120 + j) (by omega) (by omega), by rw [int], by rw [int]⟩)
theorem jOrg_ord {w : JW} {o : Bool} {D : JD} (h : jOrg w o D) (hW : jWF D) (h16 : D.1 5 < 16) {s : Int32} {t a e : Nat} {f : (Nat → Int32) → Bool} (h35 : w.1 35 o (D.1 5) = s) (h36 : w.1 36 o (D.1 5) = nI t) (h37 : w.1 37 o (D.1 5) = nI a) (hae : a ≤ e) (he : e ≤ 400)
    (hr : (a = e ∧ ∀ R, f R = true) ∨ (a ≠ e ∧ ∀ R, ∃ v S, jrunS (w.1 39 o) (w.1 40 o) (jrd R) (e - a) a [] = some (v :: S) ∧ f R = decide (v ≠ 0))) :
    jOrg (jset (jset w 38 o (D.1 5) (nI e)) 34 o 6 (nI (D.1 5 + 1))) o (jsN (jsN (jsT (jsI D 12 (D.1 5) s) (D.1 5) f) (120 + D.1 5) t) 5 (D.1 5 + 1)) := by
  obtain ⟨⟨b0, b1, b2, b3, b4, b5⟩, w1, w2, w3, w4, w5⟩ := hW
  obtain ⟨⟨a0, a1, a2, a3, a4, a5⟩, b, c1, e2, f2, g, i⟩ := h
  refine ⟨⟨?_, ?_, ?_, ?_, ?_, ?_⟩, fun j hj => ?_, fun j hj => ?_, fun c2 hc => ?_, fun j hj => ?_, fun j hj => ?_, fun j hj => ?_⟩
  · simp (disch := omega) only [jset_at, jset_bk, jset_bj, jsN_at, jsN_no, jsN_I, jsI_N, jsI_T, jsI_at, jsI_no1, jsI_no2, jsT_N, jsT_I]; exact a0
  · simp (disch := omega) only [jset_at, jset_bk, jset_bj, jsN_at, jsN_no, jsN_I, jsI_N, jsI_T, jsI_at, jsI_no1, jsI_no2, jsT_N, jsT_I]; exact a1
  · simp (disch := omega) only [jset_at, jset_bk, jset_bj, jsN_at, jsN_no, jsN_I, jsI_N, jsI_T, jsI_at, jsI_no1, jsI_no2, jsT_N, jsT_I]; exact a2
  · simp (disch := omega) only [jset_at, jset_bk, jset_bj, jsN_at, jsN_no, jsN_I, jsI_N, jsI_T, jsI_at, jsI_no1, jsI_no2, jsT_N, jsT_I]; exact a3
  · simp (disch := omega) only [jset_at, jset_bk, jset_bj, jsN_at, jsN_no, jsN_I, jsI_N, jsI_T, jsI_at, jsI_no1, jsI_no2, jsT_N, jsT_I]; exact a4
  · simp (disch := omega) only [jset_at, jset_bk, jset_bj, jsN_at, jsN_no, jsN_I, jsI_N, jsI_T, jsI_at, jsI_no1, jsI_no2, jsT_N, jsT_I]
  · have hj2 : j < D.1 0 := by revert hj; simp (disch := omega) only [jset_at, jset_bk, jset_bj, jsN_at, jsN_no, jsN_I, jsI_N, jsI_T, jsI_at, jsI_no1, jsI_no2, jsT_N, jsT_I]; exact id
    simp (disch := omega) only [jset_at, jset_bk, jset_bj, jsN_at, jsN_no, jsN_I, jsI_N, jsI_T, jsI_at, jsI_no1, jsI_no2, jsT_N, jsT_I]; exact b j hj2
  · have hj2 : j < D.1 1 := by revert hj; simp (disch := omega) only [jset_at, jset_bk, jset_bj, jsN_at, jsN_no, jsN_I, jsI_N, jsI_T, jsI_at, jsI_no1, jsI_no2, jsT_N, jsT_I]; exact id
    simp (disch := omega) only [jset_at, jset_bk, jset_bj, jsN_at, jsN_no, jsN_I, jsI_N, jsI_T, jsI_at, jsI_no1, jsI_no2, jsT_N, jsT_I]; exact c1 j hj2
  · have hc2 : c2 < D.1 2 := by revert hc; simp (disch := omega) only [jset_at, jset_bk, jset_bj, jsN_at, jsN_no, jsN_I, jsI_N, jsI_T, jsI_at, jsI_no1, jsI_no2, jsT_N, jsT_I]; exact id
    have hs := (w3 c2 hc2).2.1
    refine ⟨by simp (disch := omega) only [jset_at, jset_bk, jset_bj, jsN_at, jsN_no, jsN_I, jsI_N, jsI_T, jsI_at, jsI_no1, jsI_no2, jsT_N, jsT_I]; exact (e2 c2 hc2).1, fun p hp => ?_⟩
    have hp2 : p < D.1 (10 + c2) := by revert hp; simp (disch := omega) only [jset_at, jset_bk, jset_bj, jsN_at, jsN_no, jsN_I, jsI_N, jsI_T, jsI_at, jsI_no1, jsI_no2, jsT_N, jsT_I]; exact id
    simp (disch := omega) only [jset_at, jset_bk, jset_bj, jsN_at, jsN_no, jsN_I, jsI_N, jsI_T, jsI_at, jsI_no1, jsI_no2, jsT_N, jsT_I]; exact (e2 c2 hc2).2 p hp2
  · have hj2 : j < D.1 3 := by revert hj; simp (disch := omega) only [jset_at, jset_bk, jset_bj, jsN_at, jsN_no, jsN_I, jsI_N, jsI_T, jsI_at, jsI_no1, jsI_no2, jsT_N, jsT_I]; exact id
    simp (disch := omega) only [jset_at, jset_bk, jset_bj, jsN_at, jsN_no, jsN_I, jsI_N, jsI_T, jsI_at, jsI_no1, jsI_no2, jsT_N, jsT_I]; exact f2 j hj2
  · have hj2 : j < D.1 4 := by revert hj; simp (disch := omega) only [jset_at, jset_bk, jset_bj, jsN_at, jsN_no, jsN_I, jsI_N, jsI_T, jsI_at, jsI_no1, jsI_no2, jsT_N, jsT_I]; exact id
    simp (disch := omega) only [jset_at, jset_bk, jset_bj, jsN_at, jsN_no, jsN_I, jsI_N, jsI_T, jsI_at, jsI_no1, jsI_no2, jsT_N, jsT_I]; exact g j hj2
  · rw [jsN_at] at hj
    have e39 : (jset (jset w 38 o (D.1 5) (nI e)) 34 o 6 (nI (D.1 5 + 1))).1 39 o = w.1 39 o := by rw [jset_k (by decide), jset_k (by decide)]
    have e40 : (jset (jset w 38 o (D.1 5) (nI e)) 34 o 6 (nI (D.1 5 + 1))).1 40 o = w.1 40 o := by rw [jset_k (by decide), jset_k (by decide)]
    rw [e39, e40]
    by_cases z : j = D.1 5
    · subst z
      have eT : (jsN (jsN (jsT (jsI D 12 (D.1 5) s) (D.1 5) f) (120 + D.1 5) t) 5 (D.1 5 + 1)).2.2 (D.1 5) = f := by
        rw [jsN_I, jsN_I, jsT_at]
      rw [eT]
      refine ⟨by simp (disch := omega) only [jset_at, jset_bk, jset_bj, jsN_at, jsN_no, jsN_I, jsI_N, jsI_T, jsI_at, jsI_no1, jsI_no2, jsT_N, jsT_I]; exact h35, by simp (disch := omega) only [jset_at, jset_bk, jset_bj, jsN_at, jsN_no, jsN_I, jsI_N, jsI_T, jsI_at, jsI_no1, jsI_no2, jsT_N, jsT_I]; exact h36, a, e, by simp (disch := omega) only [jset_at, jset_bk, jset_bj, jsN_at, jsN_no, jsN_I, jsI_N, jsI_T, jsI_at, jsI_no1, jsI_no2, jsT_N, jsT_I]; exact h37, by simp (disch := omega) only [jset_at, jset_bk, jset_bj, jsN_at, jsN_no, jsN_I, jsI_N, jsI_T, jsI_at, jsI_no1, jsI_no2, jsT_N, jsT_I], hae, he, hr⟩
    · have eT : (jsN (jsN (jsT (jsI D 12 (D.1 5) s) (D.1 5) f) (120 + D.1 5) t) 5 (D.1 5 + 1)).2.2 j = D.2.2 j := by
        rw [jsN_I, jsN_I, jsT_no z, jsI_T]
      rw [eT]
      have := i j (by omega)
      simp (disch := omega) only [jset_at, jset_bk, jset_bj, jsN_at, jsN_no, jsN_I, jsI_N, jsI_T, jsI_at, jsI_no1, jsI_no2, jsT_N, jsT_I]; exact this
