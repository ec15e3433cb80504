/-! the class teaches -/
theorem c_exchange (w : JW) (b : Bool) : jSR MX5_exchange 0 [jR 7 false, jR 20 b] w (fun r w' => r = w.2.2 7 4 ∧ w' = jsetR w 7 4 b) := by
  refine jSR_of jp_X5_exchange rfl (Nat.le_of_ble_eq_true rfl) (fun C hm => ?_)
  exact bk_X5_exchange_0 hm ⟨_, rfl, rfl, rfl⟩
theorem c_startOf (w : JW) (x : Int32) : jF MX7_startOf 1 [jR 3 false, jI x] w (jI (jat 401 (w.1 5 false) x)) w := by
  refine jF_of jp_X7_startOf rfl (Nat.le_of_ble_eq_true rfl) (fun C hm => ?_)
  exact bk_X7_startOf_0 hm (c_at ja_5 w x) (by decide) (bk_X7_startOf_8 hm ⟨rfl, rfl⟩)
theorem c_shorten (w : JW) (x : Int32) : jF MX6_shorten 0 [jR 1 false, jI x] w jU (jset w 1 false 1 x) := by
  refine jF_of jp_X6_shorten rfl (Nat.le_of_ble_eq_true rfl) (fun C hm => ?_)
  exact bk_X6_shorten_0 hm ⟨rfl, rfl⟩
theorem jrow_mom {w : JW} {t : Bool} {R : Nat → Int32} {i : Nat} (h : i < 51) : jrow (jmom w t R) t i = R i := by
  by_cases h0 : i < 4
  · rw [jrow_0 h0]
    exact jmom_at (jpos_14 h0)
  by_cases h1 : i < 9
  · have := jrow_15 (w := jmom w t R) (t := t) (i := i - 4) (by omega)
    rw [jmom_at (jpos_15 (by omega)), show 4 + (i - 4) = i by omega] at this
    exact this
  by_cases h2 : i < 21
  · have := jrow_16 (w := jmom w t R) (t := t) (i := i - 9) (by omega)
    rw [jmom_at (jpos_16 (by omega)), show 9 + (i - 9) = i by omega] at this
    exact this
  by_cases h3 : i < 33
  · have := jrow_17 (w := jmom w t R) (t := t) (i := i - 21) (by omega)
    rw [jmom_at (jpos_17 (by omega)), show 21 + (i - 21) = i by omega] at this
    exact this
  by_cases h4 : i < 45
  · have := jrow_18 (w := jmom w t R) (t := t) (i := i - 33) (by omega)
    rw [jmom_at (jpos_18 (by omega)), show 33 + (i - 33) = i by omega] at this
    exact this
  · have := jrow_19 (w := jmom w t R) (t := t) (i := i - 45) (by omega)
    rw [jmom_at (jpos_19 (by omega)), show 45 + (i - 45) = i by omega] at this
    exact this
/-- the class's worlds behind a list with an error, and behind one without -/
def jCF0 (w w2 : JW) : Prop := w2.2.2 = w.2.2 ∧ (∀ k, k ≠ 6 → w2.2.1 k = w.2.1 k) ∧ w2.1 1 false 1 = 0 ∧ ∀ k b, k ≠ 0 → k ≠ 1 → k ≠ 4 → k ≠ 5 → ¬ (7 ≤ k ∧ k ≤ 10) → ¬ (b = w.2.2 7 4 ∧ 20 ≤ k ∧ k ≤ 40) → w2.1 k b = w.1 k b
def jCF1 (w w2 : JW) : Prop := (w2.2.2 0 6 = w.2.2 7 4 ∧ w2.2.2 7 4 = w.2.2 0 6 ∧ ∀ k j, k ≠ 0 → k ≠ 7 → w2.2.2 k j = w.2.2 k j) ∧ (∀ k, k ≠ 6 → w2.2.1 k = w.2.1 k) ∧ w2.1 1 false 1 = 0 ∧ (∀ k b, k ≠ 0 → k ≠ 1 → k ≠ 4 → k ≠ 5 → ¬ (7 ≤ k ∧ k ≤ 10) → ¬ (b = w.2.2 7 4 ∧ 20 ≤ k ∧ k ≤ 40) → ¬ (b = false ∧ 14 ≤ k ∧ k ≤ 19) → w2.1 k b = w.1 k b) ∧ ∀ i, i < 51 → jrow w2 false i = if i < 2 then jrow w false i else 0
def jCTq (s : Nat → Nat) (w : JW) (res : Nat ⊕ (JEr × JLn)) (r : Int32) (w2 : JW) : Prop := match res with
  | .inl f => r = 1 ∧ (f ≤ jntk s → w2.1 0 false 7 = nI (jtk s f)) ∧ jCF0 w w2
  | .inr q => r = nI q.1.1 ∧ q.1.1 ≤ 5 ∧ (¬ q.1.1 = 0 → (q.1.2 ≤ jntk s → w2.1 0 false 7 = nI (jtk s q.1.2)) ∧ jCF0 w w2) ∧ (q.1.1 = 0 → w2.1 0 false 7 = -1 ∧ jCF1 w w2 ∧ jOrg w2 (w2.2.2 0 6) q.2.1 ∧ jWF q.2.1)
theorem c_teach {s : Nat → Nat} {L : Nat} {w : JW} (h : jC1 s L w) : jSI MX9_teach 50 [jR 0 false] w (jCTq s w (jlAll (jTT s) 400 0 (0, 0) jL0)) := by
  have hN := jntk_le s
  refine jSI_of jp_X9_teach rfl (Nat.le_of_ble_eq_true rfl) (fun C hm => ?_)
  refine bq_X9_teach_0 hm (c_scan h) (by decide) (fun w1 h1 => ?_)
  refine bk_X9_teach_11 hm (c_shorten w1 0) (by decide) ?_
  have hT : jTK (jTT s) (jset w1 1 false 1 0) := h1.TK.kept (by funext j; rw [jset_I, if_neg (by omega)]) rfl
  refine bq_X9_teach_19 hm (l_read hT) (by decide) (fun r w3 h3 => ?_)
  obtain ⟨F, h3⟩ := h3
  have F1 : w3.2.2 = w.2.2 := by
    rw [F.1]
    exact h1.1.1
  have F2 : ∀ k, k ≠ 6 → w3.2.1 k = w.2.1 k := by
    intro k hk
    rw [F.1]
    exact h1.1.2.1 k hk
  have e74 : (jset w1 1 false 1 0).2.2 7 4 = w.2.2 7 4 := by
    show w1.2.2 7 4 = _
    rw [h1.1.1]
  have F3 : ∀ k b, k ≠ 0 → k ≠ 1 → k ≠ 4 → k ≠ 5 → ¬ (7 ≤ k ∧ k ≤ 10) → ¬ (b = w.2.2 7 4 ∧ 20 ≤ k ∧ k ≤ 40) → w3.1 k b = w.1 k b := by
    intro k b k0 k1 k4 k5 k7 kd
    rw [F.2 k b k7 (by rw [e74]; exact kd), ← h1.1.2.2 k b k4 k5]
    funext j
    rw [jset_I, if_neg (fun q => k1 q.1)]
  have F4 : w3.1 1 false 1 = 0 := by
    rw [F.2 1 false (by omega) (by omega), jset_I, if_pos ⟨rfl, rfl, rfl⟩]
  have F5 : ∀ i, i ≤ jntk s → w3.1 5 false i = nI (jtk s i) := by
    intro i hi
    rw [F.2 5 false (by omega) (by omega), jset_I, if_neg (by omega)]
    exact (h1.2 i (Nat.lt_succ_of_le hi)).2.1
  have err : ∀ x : Int32, x = w3.1 7 false 7 → ∀ f : Nat, x = nI f → jCF0 w (jset w3 0 false 7 (jat 401 (w3.1 5 false) x)) ∧ (f ≤ jntk s → (jset w3 0 false 7 (jat 401 (w3.1 5 false) x)).1 0 false 7 = nI (jtk s f)) := by
    intro x hx f hf
    refine ⟨⟨F1, F2, ?_, fun k b k0 k1 k4 k5 k7 kd => ?_⟩, fun hfn => ?_⟩
    · rw [jset_I, if_neg (by omega)]
      exact F4
    · rw [← F3 k b k0 k1 k4 k5 k7 kd]
      funext j
      rw [jset_I, if_neg (fun q => k0 q.1)]
    · rw [jset_I, if_pos ⟨rfl, rfl, rfl⟩, hf, jat_nI (by omega) (by omega)]
      exact F5 f hfn
  have ok : ∀ (P : Int32 → JW → Prop), (∀ w', w'.1 0 false 7 = -1 → jCF1 w w' → (∀ D, jOrg w3 (w3.2.2 7 4) D → jOrg w' (w'.2.2 0 6) D) → P 0 w') → jW C 0 0 (jQQ C 0 0 (fun v w' => ∃ r, v = jI r ∧ P r w')) 51 [jR 0 false, jU] [] w3 := by
    intro P hP
    refine bq_X9_teach_51 hm (c_exchange _ _) (by decide) (fun r w4 h4 => ?_)
    obtain ⟨rfl, rfl⟩ := h4
    refine bk_X9_teach_68 hm (c_mbegin _ false) (by decide) (bk_X9_teach_78 hm ⟨0, rfl, hP _ ?_ ?_ ?_⟩)
    · rw [jmom_k (by omega)]
      show (jset w3 0 false 7 (-1)).1 0 false 7 = -1
      rw [jset_I, if_pos ⟨rfl, rfl, rfl⟩]
    · refine ⟨⟨?_, ?_, fun k j k0 k7 => ?_⟩, F2, ?_, fun k b k0 k1 k4 k5 k7 kd km => ?_, fun i hi => ?_⟩
      · show (if (0 : Nat) = 0 ∧ (6 : Nat) = 6 then w3.2.2 7 4 else (if (0 : Nat) = 7 ∧ (6 : Nat) = 4 then w3.2.2 0 6 else w3.2.2 0 6)) = _
        rw [if_pos ⟨rfl, rfl⟩, F1]
      · show (if (7 : Nat) = 0 ∧ (4 : Nat) = 6 then w3.2.2 7 4 else if (7 : Nat) = 7 ∧ (4 : Nat) = 4 then w3.2.2 0 6 else w3.2.2 7 4) = _
        rw [if_neg (by omega), if_pos ⟨rfl, rfl⟩, F1]
      · show (if k = 0 ∧ j = 6 then w3.2.2 7 4 else if k = 7 ∧ j = 4 then w3.2.2 0 6 else w3.2.2 k j) = _
        rw [if_neg (fun q => k0 q.1), if_neg (fun q => k7 q.1), F1]
      · rw [jmom_k (by omega)]
        show (jset w3 0 false 7 (-1)).1 1 false 1 = 0
        rw [jset_I, if_neg (by omega)]
        exact F4
      · rw [← F3 k b k0 k1 k4 k5 k7 kd]
        funext j
        by_cases hb : b = false
        · subst hb
          have km2 : ¬ (14 ≤ k ∧ k ≤ 19) := fun q => km ⟨rfl, q⟩
          rw [jmom_k (by omega)]
          show (jset w3 0 false 7 (-1)).1 k false j = _
          rw [jset_I, if_neg (fun q => k0 q.1)]
        · rw [jmom_b hb]
          show (jset w3 0 false 7 (-1)).1 k b j = _
          rw [jset_I, if_neg (fun q => k0 q.1)]
      · rw [jrow_mom hi]
        have e : jrow (jsetR (jsetR (jset w3 0 false 7 (-1)) 7 4 ((jset w3 0 false 7 (-1)).2.2 0 6)) 0 6 ((jset w3 0 false 7 (-1)).2.2 7 4)) false = jrow w false := by
          have g : ∀ k, 14 ≤ k → k ≤ 19 → (jsetR (jsetR (jset w3 0 false 7 (-1)) 7 4 ((jset w3 0 false 7 (-1)).2.2 0 6)) 0 6 ((jset w3 0 false 7 (-1)).2.2 7 4)).1 k false = w.1 k false := by
            intro k k1 k2
            rw [← F3 k false (by omega) (by omega) (by omega) (by omega) (by omega) (by omega)]
            funext j
            show (jset w3 0 false 7 (-1)).1 k false j = _
            rw [jset_I, if_neg (by omega)]
          unfold jrow
          rw [g 14 (by omega) (by omega), g 15 (by omega) (by omega), g 16 (by omega) (by omega), g 17 (by omega) (by omega), g 18 (by omega) (by omega), g 19 (by omega) (by omega)]
        rw [e]
    · intro D hD
      have e : (jmom (jsetR (jsetR (jset w3 0 false 7 (-1)) 7 4 ((jset w3 0 false 7 (-1)).2.2 0 6)) 0 6 ((jset w3 0 false 7 (-1)).2.2 7 4)) false (fun i => if i < 2 then jrow (jsetR (jsetR (jset w3 0 false 7 (-1)) 7 4 ((jset w3 0 false 7 (-1)).2.2 0 6)) 0 6 ((jset w3 0 false 7 (-1)).2.2 7 4)) false i else 0)).2.2 0 6 = w3.2.2 7 4 := by
        show (if (0 : Nat) = 0 ∧ (6 : Nat) = 6 then w3.2.2 7 4 else (if (0 : Nat) = 7 ∧ (6 : Nat) = 4 then w3.2.2 0 6 else w3.2.2 0 6)) = _
        rw [if_pos ⟨rfl, rfl⟩]
      rw [e]
      refine hD.kept (fun k k1 k2 => ?_)
      funext j
      by_cases hb : w3.2.2 7 4 = false
      · rw [hb, jmom_k (by omega)]
        show (jset w3 0 false 7 (-1)).1 k false j = _
        rw [jset_I, if_neg (by omega)]
      · rw [jmom_b hb]
        show (jset w3 0 false 7 (-1)).1 k _ j = _
        rw [jset_I, if_neg (by omega)]
  cases hres : jlAll (jTT s) 400 0 (0, 0) jL0 with
  | inl f =>
    rw [hres] at h3
    obtain ⟨rfl, h7⟩ := h3
    refine bk_X9_teach_26 hm (fun z => absurd z (by decide)) (fun _ => bk_X9_teach_31 hm (c_startOf _ _) (by decide) (bk_X9_teach_46 hm ⟨1, rfl, rfl, ?_, ?_⟩))
    · exact (err _ rfl f h7).2
    · exact (err _ rfl f h7).1
  | inr q =>
    rw [hres] at h3
    obtain ⟨rfl, hq5, hq7, hq0⟩ := h3
    refine bk_X9_teach_26 hm (fun z => ?_) (fun z => ?_)
    · have z2 : q.1.1 = 0 := (nI_eqi (b := 0) (by omega) (by omega)).mp z
      refine ok _ (fun w' k1 k2 k3 => ⟨by rw [z2]; rfl, hq5, fun n => absurd z2 n, fun _ => ⟨k1, k2, k3 _ (hq0 z2).1, (hq0 z2).2⟩⟩)
    · have z2 : ¬ q.1.1 = 0 := fun e => z (by rw [e]; rfl)
      refine bk_X9_teach_31 hm (c_startOf _ _) (by decide) (bk_X9_teach_46 hm ⟨nI q.1.1, rfl, rfl, hq5, fun _ => ?_, fun e => absurd e z2⟩)
      exact ⟨(err _ rfl _ (hq7 z2)).2, (err _ rfl _ (hq7 z2)).1⟩
