/-! the reference teaches -/
theorem jW_mono {C : JC} {cl sl : Nat} {P P2 : JV → JW → Prop} {pc : Nat} {ls st : List JV} {w : JW} (h : ∀ v w', P v w' → P2 v w') (k : jW C cl sl (jQQ C cl sl P) pc ls st w) : jW C cl sl (jQQ C cl sl P2) pc ls st w := by
  intro H locs a hr hl T hT X
  obtain ⟨t, a1, b1⟩ := k H locs a hr hl T hT X
  refine ⟨t, a1, ?_⟩
  unfold jQQ MQ at b1 ⊢
  obtain ⟨o, q1, q2, ⟨⟨v, w2, q3, q4, q5⟩, q6⟩, q7⟩ := b1
  exact ⟨o, q1, q2, ⟨⟨v, w2, q3, h v w2 q4, q5⟩, q6⟩, q7⟩
def jmF0 (w w2 : JW) : Prop := w2.2 = w.2 ∧ w2.1 41 false 2 = 0 ∧ w2.1 41 false 0 = 0 ∧ ∀ k c, k ≠ 41 → ¬ (43 ≤ k ∧ k ≤ 50) → ¬ (c = w.2.2 41 9 ∧ 53 ≤ k ∧ k ≤ 62) → w2.1 k c = w.1 k c
def jmF1 (w w2 : JW) : Prop := w2.2.1 = w.2.1 ∧ (w2.2.2 41 8 = w.2.2 41 9 ∧ w2.2.2 41 9 = w.2.2 41 8 ∧ ∀ k j, k ≠ 41 → w2.2.2 k j = w.2.2 k j) ∧ w2.1 41 false 2 = 0 ∧ w2.1 41 false 0 = 0 ∧ (∀ k c, k ≠ 41 → k ≠ 51 → ¬ (43 ≤ k ∧ k ≤ 50) → ¬ (c = w.2.2 41 9 ∧ 53 ≤ k ∧ k ≤ 62) → w2.1 k c = w.1 k c) ∧ ∀ j, w2.1 51 false j = if 2 ≤ j ∧ j < 51 then 0 else w.1 51 false j
def jMT0 (s : Nat → Nat) (w : JW) (res : Nat ⊕ (JEr × JLn)) (r : Int32) (w2 : JW) : Prop := match res with
  | .inl f => r = 1 ∧ f ≤ jntk s ∧ w2.1 41 false 3 = nI (jtk s f) ∧ jmF0 w w2
  | .inr q => r = nI q.1.1 ∧ q.1.1 ≤ 5 ∧ (¬ q.1.1 = 0 → q.1.2 ≤ jntk s ∧ w2.1 41 false 3 = nI (jtk s q.1.2) ∧ jmF0 w w2) ∧ (q.1.1 = 0 → w2.1 41 false 3 = -1 ∧ jmF1 w w2 ∧ jBk w2 (w2.2.2 41 8) q.2.1 ∧ jWF q.2.1)
theorem jmF0_of {s : Nat → Nat} {w w1 w2 : JW} (h1 : jMs s (jset w 41 false 0 0) w1 (jntk s + 1)) (h2 : jTF0 w1 w2) : jmF0 w w2 := by
  refine ⟨h2.1.trans h1.1.1, h2.2.1, ?_, fun k c k1 k2 k3 => ?_⟩
  · rw [h2.2.2.1, h1.1.2 41 false (by omega), jset_I, if_pos ⟨rfl, rfl, rfl⟩]
  · have e : w1.2.2 41 9 = w.2.2 41 9 := by
      rw [h1.1.1]
      rfl
    rw [h2.2.2.2 k c k1 (by omega) (by rw [e]; exact k3), h1.1.2 k c (by omega)]
    funext j
    rw [jset_I, if_neg (fun q => k1 q.1)]
theorem jmF1_of {s : Nat → Nat} {w w1 w2 : JW} (h1 : jMs s (jset w 41 false 0 0) w1 (jntk s + 1)) (h2 : jTF1 w1 w2) : jmF1 w w2 := by
  have e : w1.2 = w.2 := h1.1.1
  refine ⟨h2.1.trans (by rw [e]), ⟨h2.2.1.1.trans (by rw [e]), h2.2.1.2.1.trans (by rw [e]), fun k j hk => (h2.2.1.2.2 k j hk).trans (by rw [e])⟩, h2.2.2.1, ?_, fun k c k1 k2 k3 k4 => ?_, fun j => ?_⟩
  · rw [h2.2.2.2.1, h1.1.2 41 false (by omega), jset_I, if_pos ⟨rfl, rfl, rfl⟩]
  · rw [h2.2.2.2.2.1 k c k1 k2 (by omega) (by rw [e]; exact k4), h1.1.2 k c (by omega)]
    funext j
    rw [jset_I, if_neg (fun q => k1 q.1)]
  · rw [h2.2.2.2.2.2 j, h1.1.2 51 false (by omega), show (jset w 41 false 0 0).1 51 false j = w.1 51 false j from by rw [jset_I, if_neg (by omega)]]
theorem c_mteach {s : Nat → Nat} {L : Nat} {w : JW} (h : jC0 s L w) : jSI MX11_teach 48 [jR 41 false] w (jMT0 s w (jlAll (jTT s) 400 0 (0, 0) jL0)) := by
  refine jSI_of jp_X11_teach rfl (Nat.le_of_ble_eq_true rfl) (fun C hm => ?_)
  have h0 : jC0 s L (jset w 41 false 0 0) := by
    refine h.kept ?_ ?_
    · rw [jset_I, if_neg (by omega)]
    · funext j
      rw [jset_I, if_neg (by omega)]
  refine bq_X11_teach_0 hm (c_split h0) (by decide) (fun w1 h1 => ?_)
  refine jW_mono ?_ (m_teach9 hm (Nat.le_refl _) (h1.TK h0))
  intro v w2 h2
  have st : ∀ f, f ≤ jntk s → w1.1 45 false f = nI (jtk s f) := fun f hf => (h1.2 f (Nat.lt_succ_of_le hf)).2.1
  revert h2
  cases jlAll (jTT s) 400 0 (0, 0) jL0 with
  | inl f =>
    rintro ⟨rfl, a, b, c⟩
    exact ⟨1, rfl, rfl, a, by rw [b, st f a], jmF0_of h1 c⟩
  | inr q =>
    rintro ⟨rfl, a, b, c⟩
    refine ⟨nI q.1.1, rfl, rfl, a, fun n => ?_, fun n => ?_⟩
    · obtain ⟨x, y, z⟩ := b n
      exact ⟨x, by rw [y, st _ x], jmF0_of h1 z⟩
    · obtain ⟨x, y, z⟩ := c n
      exact ⟨x, jmF1_of h1 y, z⟩
/-- THE COUPLING at rest: what the class and the reference hold together -/
def jCpl (D : JD) (w : JW) : Prop := (jWF D ∧ jOrg w (w.2.2 0 6) D ∧ jBk w (w.2.2 41 8) D) ∧ (∀ i, i < 51 → jrow w false i = w.1 51 false i) ∧ (∃ (s : Nat → Nat) (L : Nat), jC1 s L w ∧ jC0 s L w) ∧ w.1 0 false 7 = w.1 41 false 3 ∧ w.2.2 7 4 = !w.2.2 0 6 ∧ w.2.2 41 9 = !w.2.2 41 8
theorem jno_self (b : Bool) : ¬ b = !b := by cases b <;> decide
theorem jC_empty {w : JW} (h1 : w.1 1 false 1 = 0) (h2 : w.1 41 false 2 = 0) : ∃ (s : Nat → Nat) (L : Nat), jC1 s L w ∧ jC0 s L w :=
  ⟨fun _ => 300, 0, ⟨⟨Nat.zero_le _, fun i hi => absurd hi (Nat.not_lt_zero i), fun _ _ => rfl⟩, h1, fun i hi => absurd hi (Nat.not_lt_zero i)⟩, ⟨⟨Nat.zero_le _, fun i hi => absurd hi (Nat.not_lt_zero i), fun _ _ => rfl⟩, h2, fun i hi => absurd hi (Nat.not_lt_zero i)⟩⟩
theorem jrow_cong {w w2 : JW} (h : ∀ k, 14 ≤ k → k ≤ 19 → w2.1 k false = w.1 k false) : jrow w2 false = jrow w false := by
  unfold jrow
  rw [h 14 (by omega) (by omega), h 15 (by omega) (by omega), h 16 (by omega) (by omega), h 17 (by omega) (by omega), h 18 (by omega) (by omega), h 19 (by omega) (by omega)]
/-- a list with an error: all stays but the tape and the fault's place -/
theorem jCpl_err {D : JD} {w w1 w2 : JW} (h : jCpl D w) (h1 : jCF0 w w1) (h2 : jmF0 w1 w2) (hf : w1.1 0 false 7 = w2.1 41 false 3) : jCpl D w2 ∧ w2.1 51 false = w.1 51 false := by
  obtain ⟨⟨hW, hO, hB⟩, hR, -, -, hd, hn⟩ := h
  have e : w2.2.2 = w.2.2 := by rw [h2.1, h1.1]
  have e1 : w1.2.2 = w.2.2 := h1.1
  have K : ∀ k c, k ≠ 0 → k ≠ 1 → k ≠ 4 → k ≠ 5 → ¬ (7 ≤ k ∧ k ≤ 10) → ¬ (c = w.2.2 7 4 ∧ 20 ≤ k ∧ k ≤ 40) → k ≠ 41 → ¬ (43 ≤ k ∧ k ≤ 50) → ¬ (c = w.2.2 41 9 ∧ 53 ≤ k ∧ k ≤ 62) → w2.1 k c = w.1 k c := by
    intro k c a1 a2 a3 a4 a5 a6 a7 a8 a9
    rw [h2.2.2.2 k c a7 a8 (by rw [e1]; exact a9), h1.2.2.2 k c a1 a2 a3 a4 a5 a6]
  have e51 : w2.1 51 false = w.1 51 false := K 51 false (by omega) (by omega) (by omega) (by omega) (by omega) (by omega) (by omega) (by omega) (by omega)
  refine ⟨⟨⟨hW, ?_, ?_⟩, fun i hi => ?_, ?_, ?_, by rw [e]; exact hd, by rw [e]; exact hn⟩, e51⟩
  · rw [e]
    refine hO.kept (fun k k1 k2 => K k _ (by omega) (by omega) (by omega) (by omega) (by omega) (fun q => ?_) (by omega) (by omega) (by omega))
    rw [hd] at q
    exact jno_self _ q.1
  · rw [e]
    refine hB.kept (fun k k1 k2 => K k _ (by omega) (by omega) (by omega) (by omega) (by omega) (by omega) (by omega) (by omega) (fun q => ?_))
    rw [hn] at q
    exact jno_self _ q.1
  · rw [jrow_cong (w := w) (w2 := w2) (fun k k1 k2 => K k false (by omega) (by omega) (by omega) (by omega) (by omega) (by omega) (by omega) (by omega) (by omega)), e51]
    exact hR i hi
  · refine jC_empty ?_ h2.2.1
    rw [h2.2.2.2 1 false (by omega) (by omega) (by omega)]
    exact h1.2.2.1
  · rw [h2.2.2.2 0 false (by omega) (by omega) (by omega)]
    exact hf
/-- a list without one -/
theorem jCpl_ok {D D2 : JD} {w w1 w2 : JW} (h : jCpl D w) (h1 : jCF1 w w1) (h2 : jmF1 w1 w2) (hW : jWF D2) (hO : jOrg w1 (w1.2.2 0 6) D2) (hB : jBk w2 (w2.2.2 41 8) D2) (hf : w1.1 0 false 7 = w2.1 41 false 3) : jCpl D2 w2 ∧ ∀ i, 2 ≤ i → i < 51 → w2.1 51 false i = 0 := by
  obtain ⟨-, hR, -, -, hd, hn⟩ := h
  obtain ⟨⟨a1, a2, a3⟩, -, a4, a5, a6⟩ := h1
  obtain ⟨-, ⟨b1, b2, b3⟩, b4, -, b5, b6⟩ := h2
  have e51 : ∀ i, i < 51 → w2.1 51 false i = if i < 2 then w.1 51 false i else 0 := by
    intro i hi
    rw [b6 i, a5 51 false (by omega) (by omega) (by omega) (by omega) (by omega) (by omega) (by omega)]
    by_cases z : i < 2
    · rw [if_neg (by omega), if_pos z]
    · rw [if_pos (by omega), if_neg z]
  refine ⟨⟨⟨hW, ?_, hB⟩, fun i hi => ?_, ?_, ?_, ?_, ?_⟩, fun i h2 hi => ?_⟩
  · rw [b3 0 6 (by omega)]
    exact hO.kept (fun k k1 k2 => b5 k _ (by omega) (by omega) (by omega) (by omega))
  · rw [jrow_cong (w := w1) (w2 := w2) (fun k k1 k2 => b5 k false (by omega) (by omega) (by omega) (by omega)), a6 i hi, e51 i hi]
    split
    · exact hR i hi
    · rfl
  · refine jC_empty ?_ b4
    rw [b5 1 false (by omega) (by omega) (by omega) (by omega)]
    exact a4
  · rw [b5 0 false (by omega) (by omega) (by omega) (by omega)]
    exact hf
  · rw [b3 7 4 (by omega), b3 0 6 (by omega), a1, a2, hd, Bool.not_not]
  · rw [b1, b2, a3 41 9 (by omega) (by omega), a3 41 8 (by omega) (by omega), hn, Bool.not_not]
  · rw [e51 i hi, if_neg (by omega)]
/-- TEACHING: the same answer, and coupled again -/
theorem teach_cpl {D : JD} {s : Nat → Nat} {w w1 w2 : JW} {res : Nat ⊕ (JEr × JLn)} {r r2 : Int32} (h : jCpl D w) (h1 : jCTq s w res r w1) (h2 : jMT0 s w1 res r2 w2) : r = r2 ∧ ∃ D2, jCpl D2 w2 ∧ (w2.1 51 false = w.1 51 false ∨ ∀ i, 2 ≤ i → i < 51 → w2.1 51 false i = 0) := by
  cases res with
  | inl f =>
    obtain ⟨a1, a2, a3⟩ := h1
    obtain ⟨b1, b2, b3, b4⟩ := h2
    have := jCpl_err h a3 b4 (by rw [a2 b2, b3])
    exact ⟨a1.trans b1.symm, D, this.1, Or.inl this.2⟩
  | inr q =>
    obtain ⟨a1, -, a2, a3⟩ := h1
    obtain ⟨b1, -, b2, b3⟩ := h2
    refine ⟨a1.trans b1.symm, ?_⟩
    by_cases z : q.1.1 = 0
    · obtain ⟨c1, c2, c3, c4⟩ := a3 z
      obtain ⟨d1, d2, d3, -⟩ := b3 z
      have := jCpl_ok h c2 d2 c4 c3 d3 (by rw [c1, d1])
      exact ⟨q.2.1, this.1, Or.inr this.2⟩
    · obtain ⟨c1, c2⟩ := a2 z
      obtain ⟨d1, d2, d3⟩ := b2 z
      have := jCpl_err h c2 d3 (by rw [c1 d1, d2])
      exact ⟨D, this.1, Or.inl this.2⟩
