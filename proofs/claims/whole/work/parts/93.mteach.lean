/-! the reference teaches, behind the splitting of the tape -/
theorem m_change (w : JW) : jF MX11_change 0 [jR 41 false] w jU (jfn (jsetR (jsetR w 41 8 (w.2.2 41 9)) 41 9 (w.2.2 41 8)) 51 false (fun j => if 2 ≤ j ∧ j < 51 then 0 else w.1 51 false j)) := by
  refine jF_of jp_X11_change rfl (Nat.le_of_ble_eq_true rfl) (fun C hm => ?_)
  refine bk_X11_change_0 hm ?_
  have key := jfor (P := fun i => i ≤ 49 → jW C 0 0 (jQQ C 0 0 (fun v w' => v = jU ∧ w' = jfn (jsetR (jsetR w 41 8 (w.2.2 41 9)) 41 9 (w.2.2 41 8)) 51 false (fun j => if 2 ≤ j ∧ j < 51 then 0 else w.1 51 false j))) 20 [jR 41 false, jU, jI (nI (i + 2))] [] (jfn (jsetR (jsetR w 41 8 (w.2.2 41 9)) 41 9 (w.2.2 41 8)) 51 false (fun j => if 2 ≤ j ∧ j < i + 2 then 0 else w.1 51 false j))) 49 ?_ ?_
  · have h0 := key (Nat.zero_le _)
    have e : (jfn (jsetR (jsetR w 41 8 (w.2.2 41 9)) 41 9 (w.2.2 41 8)) 51 false (fun j => if 2 ≤ j ∧ j < 0 + 2 then 0 else w.1 51 false j)) = jsetR (jsetR w 41 8 (w.2.2 41 9)) 41 9 (w.2.2 41 8) := by
      rw [show (fun j => if 2 ≤ j ∧ j < 0 + 2 then 0 else w.1 51 false j) = (jsetR (jsetR w 41 8 (w.2.2 41 9)) 41 9 (w.2.2 41 8)).1 51 false from funext (fun j => if_neg (by omega))]
      exact jfn_self
    rw [e] at h0
    exact h0
  · intro _
    exact bk_X11_change_20 hm (fun _ => bk_X11_change_39 hm ⟨rfl, rfl⟩) (fun h => absurd ((nI_leI (a := 51) (b := 51) (by omega) (by omega)).mpr (Nat.le_refl _)) h)
  · intro i hi ih _
    refine bk_X11_change_20 hm (fun h => absurd ((nI_leI (a := 51) (by omega) (by omega)).mp h) (by omega)) (fun _ => bk_X11_change_26 hm (vp_in_nI (by omega) (by decide)) ?_)
    rw [nI_1, nI_clamp (by omega), jset_jfn]
    have e : upd (fun j => if 2 ≤ j ∧ j < i + 2 then 0 else w.1 51 false j) (i + 2) 0 = (fun j => if 2 ≤ j ∧ j < (i + 1) + 2 then 0 else w.1 51 false j) := by
      funext j
      unfold upd
      by_cases h : j = i + 2
      · rw [if_pos h, if_pos (by omega)]
      · rw [if_neg h]
        show (if 2 ≤ j ∧ j < i + 2 then 0 else w.1 51 false j) = _
        by_cases h2 : 2 ≤ j ∧ j < i + 2
        · rw [if_pos h2, if_pos (by omega)]
        · rw [if_neg h2, if_neg (by omega)]
    rw [e]
    exact ih (by omega)
/-- how the lines have been read -/
def jMR (T : JTk) (w : JW) (res : Nat ⊕ (JEr × JLn)) (w2 : JW) : Prop := match res with
  | .inl f => jMX T w f w2
  | .inr q => jmLF w w2 ∧ ∃ (Rc Rp Rh : JNm) (m n : Nat), jMJ T q.2 Rc Rp Rh w2 n q.1 m
theorem m_lines {T : JTk} {C : JC} {d : Nat} (hm : jok C MX11_teach d 0 0) (hd : 48 ≤ d) {w0 : JW} {Q : State → Prop} {R : Nat ⊕ (JEr × JLn)} (k62 : ∀ w', jMR T w0 R w' → jW C 0 0 Q 62 [jR 41 false, jU, jU] [] w') :
    ∀ (k c : Nat), c + k = 400 → ∀ (w : JW) (n : Nat) (er : JEr) (L : JLn) (Rc Rp Rh : JNm) (m : Nat), c ≤ n → jMJ T L Rc Rp Rh w n er m → jmLF w0 w → jlAll T k n er L = R → jW C 0 0 Q 36 [jR 41 false, jU, jU] [] w := by
  have bad : ∀ (w1 : JW) (f : Nat), jMX T w0 f w1 → .inl f = R → jW C 0 0 Q 36 [jR 41 false, jU, jU] [] w1 := fun w1 f hX e => bk_X11_teach_36 hm (m_no hX.no) (by omega) (bk_X11_teach_40 hm (fun _ => k62 w1 (by rw [← e]; exact hX)) (fun z => absurd rfl z))
  intro k
  induction k with
  | zero =>
    intro c hc w n er L Rc Rp Rh m hcn h F hR
    have hl := h.1.le
    obtain ⟨ea, va⟩ := h.1.at
    rw [jlAll] at hR
    refine bk_X11_teach_36 hm (m_ok h.1) (by omega) (bk_X11_teach_40 hm (fun z => absurd z (by decide)) (fun _ => bk_X11_teach_43 hm va (fun q => ?_) (fun q => ?_)))
    · rw [ea] at q
      have z := (jkv_end h.1.tok).mp q
      rw [if_pos z] at hR
      exact k62 w (by rw [← hR]; exact ⟨F, Rc, Rp, Rh, m, n, h⟩)
    · rw [ea] at q
      have z : ¬ T.1 n = 47 := fun z => q ((jkv_end h.1.tok).mpr z)
      rw [if_neg z] at hR
      have en : n = T.2.2.2 := by omega
      have z8 : T.1 n = 48 := by
        have := h.1.2.2.1.2.1
        rw [← en] at this
        exact this.resolve_left z
      refine bq_X11_teach_55 hm (r_line h) (by omega) (fun w1 q1 => bk_X11_teach_59 hm ?_)
      rw [jlLine_48 z8] at q1
      exact bad w1 n (jMX.pre F q1) hR
  | succ k ih =>
    intro c hc w n er L Rc Rp Rh m hcn h F hR
    obtain ⟨ea, va⟩ := h.1.at
    rw [jlAll_semi] at hR
    refine bk_X11_teach_36 hm (m_ok h.1) (by omega) (bk_X11_teach_40 hm (fun z => absurd z (by decide)) (fun _ => bk_X11_teach_43 hm va (fun q => ?_) (fun q => ?_)))
    · rw [ea] at q
      have z := (jkv_end h.1.tok).mp q
      rw [if_pos z] at hR
      exact k62 w (by rw [← hR]; exact ⟨F, Rc, Rp, Rh, m, n, h⟩)
    · rw [ea] at q
      have z : ¬ T.1 n = 47 := fun z => q ((jkv_end h.1.tok).mpr z)
      rw [if_neg z] at hR
      refine bq_X11_teach_55 hm (r_line h) (by omega) (fun w1 q1 => bk_X11_teach_59 hm ?_)
      revert q1 hR
      cases hr : jlSemi T (jlLine T L n er) with
      | inl f =>
        intro hR q1
        exact bad w1 f (jMX.pre F q1) hR
      | inr p =>
        rintro hR ⟨hn, F1, Rc1, Rp1, Rh1, m1, h1⟩
        exact ih (c + 1) (by omega) w1 p.1 p.2.1 p.2.2 Rc1 Rp1 Rh1 m1 (by omega) h1 (F.trans F1) hR
/-- the worlds behind a list with an error, and behind one without -/
def jTF0 (w w2 : JW) : Prop := w2.2 = w.2 ∧ w2.1 41 false 2 = 0 ∧ w2.1 41 false 0 = w.1 41 false 0 ∧ ∀ k c, k ≠ 41 → ¬ (47 ≤ k ∧ k ≤ 50) → ¬ (c = w.2.2 41 9 ∧ 53 ≤ k ∧ k ≤ 62) → w2.1 k c = w.1 k c
def jTF1 (w w2 : JW) : Prop := w2.2.1 = w.2.1 ∧ (w2.2.2 41 8 = w.2.2 41 9 ∧ w2.2.2 41 9 = w.2.2 41 8 ∧ ∀ k j, k ≠ 41 → w2.2.2 k j = w.2.2 k j) ∧ w2.1 41 false 2 = 0 ∧ w2.1 41 false 0 = w.1 41 false 0 ∧ (∀ k c, k ≠ 41 → k ≠ 51 → ¬ (47 ≤ k ∧ k ≤ 50) → ¬ (c = w.2.2 41 9 ∧ 53 ≤ k ∧ k ≤ 62) → w2.1 k c = w.1 k c) ∧ ∀ j, w2.1 51 false j = if 2 ≤ j ∧ j < 51 then 0 else w.1 51 false j
def jMTq (T : JTk) (w : JW) (res : Nat ⊕ (JEr × JLn)) (v : JV) (w2 : JW) : Prop := match res with
  | .inl f => v = jI 1 ∧ f ≤ T.2.2.2 ∧ w2.1 41 false 3 = w.1 45 false f ∧ jTF0 w w2
  | .inr q => v = jI (nI q.1.1) ∧ q.1.1 ≤ 5 ∧ (¬ q.1.1 = 0 → q.1.2 ≤ T.2.2.2 ∧ w2.1 41 false 3 = w.1 45 false q.1.2 ∧ jTF0 w w2) ∧ (q.1.1 = 0 → w2.1 41 false 3 = -1 ∧ jTF1 w w2 ∧ jBk w2 (w2.2.2 41 8) q.2.1 ∧ jWF q.2.1)
theorem jTF0_of {w w1 : JW} {x : Int32} (F : jmLF w w1) : jTF0 w (jset (jset w1 41 false 3 x) 41 false 2 0) := by
  refine ⟨F.1, jset_at, ?_, fun k c a b d => ?_⟩
  · rw [jset_bj (by decide), jset_bj (by decide)]
    exact F.2.2 0 (by decide)
  · rw [jset_k a, jset_k a]
    exact F.2.1 k c a b d
theorem m_empty (w : JW) (b : Bool) : jF MX10_empty 0 [jR 53 b] w jU (jset (jset (jset (jset (jset (jset (jset w 53 b 0 0) 53 b 1 0) 53 b 2 0) 53 b 3 0) 53 b 4 0) 53 b 5 0) 53 b 12 0) := by
  refine jF_of jp_X10_empty rfl (Nat.le_of_ble_eq_true rfl) (fun C hm => ?_)
  exact bk_X10_empty_0 hm ⟨rfl, rfl⟩
theorem m_teach9 {T : JTk} {C : JC} {d : Nat} (hm : jok C MX11_teach d 0 0) (hd : 48 ≤ d) {w : JW} (hT : jMTK T w) : jW C 0 0 (jQQ C 0 0 (fun v w' => jMTq T w (jlAll T 400 0 (0, 0) jL0) v w')) 9 [jR 41 false, jU, jU] [] w := by
  refine bk_X11_teach_9 hm (m_empty w _) (by omega) (bk_X11_teach_16 hm ?_)
  have F0 : jmLF w (jset (jset (jset (jset (jset (jset (jset (jset (jset (jset (jset w 53 (w.2.2 41 9) 0 0) 53 (w.2.2 41 9) 1 0) 53 (w.2.2 41 9) 2 0) 53 (w.2.2 41 9) 3 0) 53 (w.2.2 41 9) 4 0) 53 (w.2.2 41 9) 5 0) 53 (w.2.2 41 9) 12 0) 41 false 13 0) 41 false 14 0) 41 false 15 (-1)) 41 false 16 0) := by
    refine ⟨rfl, fun k c a b e => ?_, fun j hj => ?_⟩
    · rw [jset_k a, jset_k a, jset_k a, jset_k a]
      funext i
      by_cases z : c = w.2.2 41 9
      · have : k ≠ 53 := fun y => e ⟨z, by omega, by omega⟩
        simp (disch := omega) only [jset_at, jset_bk, jset_bj, jsN_at, jsN_no, jsN_I, jsI_N, jsI_T, jsI_at, jsI_no1, jsI_no2, jsT_N, jsT_I]
      · rw [jset_b (Or.inr (Or.inl z)), jset_b (Or.inr (Or.inl z)), jset_b (Or.inr (Or.inl z)), jset_b (Or.inr (Or.inl z)), jset_b (Or.inr (Or.inl z)), jset_b (Or.inr (Or.inl z)), jset_b (Or.inr (Or.inl z))]
    · simp (disch := omega) only [jset_at, jset_bk, jset_bj, jsN_at, jsN_no, jsN_I, jsI_N, jsI_T, jsI_at, jsI_no1, jsI_no2, jsT_N, jsT_I]
  have h0 : jMJ T jL0 (fun _ => 0, 0) (fun _ => 0, 0) (fun _ => 0, 0) (jset (jset (jset (jset (jset (jset (jset (jset (jset (jset (jset w 53 (w.2.2 41 9) 0 0) 53 (w.2.2 41 9) 1 0) 53 (w.2.2 41 9) 2 0) 53 (w.2.2 41 9) 3 0) 53 (w.2.2 41 9) 4 0) 53 (w.2.2 41 9) 5 0) 53 (w.2.2 41 9) 12 0) 41 false 13 0) 41 false 14 0) 41 false 15 (-1)) 41 false 16 0) 0 (0, 0) 0 := by
    have no : ∀ {P : Prop} (j : Nat), j < 0 → P := fun j h => absurd h (Nat.not_lt_zero j)
    refine ⟨⟨⟨⟨?_, Nat.zero_le _⟩, ?_, ?_⟩, ⟨?_, by decide, fun q => absurd rfl q⟩, hT.kept (fun k k1 k2 => F0.2.1 k false (by omega) (by omega) (by omega)), ⟨?_, Nat.le_refl _⟩, ⟨by decide, ?_, fun j h => no j h, fun j h => no j h⟩, ⟨by decide, ?_, fun j h => no j h, fun j h => no j h⟩, fun _ => ⟨fun _ => rfl, fun _ => rfl⟩⟩, ⟨by decide, ?_, fun j h => no j h, fun j h => no j h⟩, ⟨0, 0, 0, 0, 0, 0, ⟨?_, by decide⟩, ⟨?_, by decide⟩, ⟨?_, by decide⟩, ⟨?_, by decide⟩, ⟨?_, by decide⟩, ⟨?_, by decide⟩⟩, fun _ => ⟨rfl, rfl, rfl, ⟨⟨?_, ?_, ?_, ?_, ?_, ?_⟩, fun j h => no j h, fun j h => no j h, fun j h => no j h, fun j h => no j h, fun j h => no j h, fun j h => no j h⟩, jWF0⟩⟩
    all_goals
      try simp only [jset_L]
      simp (disch := omega) only [jset_at, jset_bk, jset_bj, jsN_at, jsN_no, jsN_I, jsI_N, jsI_T, jsI_at, jsI_no1, jsI_no2, jsT_N, jsT_I]
      try rfl
  revert F0 h0
  generalize (jset (jset (jset (jset (jset (jset (jset (jset (jset (jset (jset w 53 (w.2.2 41 9) 0 0) 53 (w.2.2 41 9) 1 0) 53 (w.2.2 41 9) 2 0) 53 (w.2.2 41 9) 3 0) 53 (w.2.2 41 9) 4 0) 53 (w.2.2 41 9) 5 0) 53 (w.2.2 41 9) 12 0) 41 false 13 0) 41 false 14 0) 41 false 15 (-1)) 41 false 16 0) = w0
  intro F0 h0
  refine m_lines hm hd (w0 := w) (R := jlAll T 400 0 (0, 0) jL0) (fun w1 q => ?_) 400 0 rfl w0 0 (0, 0) jL0 _ _ _ 0 (Nat.le_refl 0) h0 F0 rfl
  have h400 := hT.1
  revert q
  cases hr : jlAll T 400 0 (0, 0) jL0 with
  | inl f =>
    intro hX
    have hf := hX.1.2.1
    refine bk_X11_teach_62 hm (m_no hX.no) (by omega) (bk_X11_teach_66 hm (fun _ => bk_X11_teach_76 hm (bk_X11_teach_80 hm (m_no hX.no) (by omega) (bk_X11_teach_85 hm (fun _ => bk_X11_teach_95 hm (bk_X11_teach_96 hm (fun _ => ?_) (fun z => absurd z (by decide)))) (fun z => absurd rfl z)))) (fun z => absurd rfl z))
    rw [hX.1.1]
    refine bk_X11_teach_106 hm (vp_in_nI (by omega) (by decide)) (bk_X11_teach_112 hm (fun _ => bk_X11_teach_128 hm ⟨rfl, hf, ?_, jTF0_of hX.2.1⟩) (fun z => absurd z (by decide)))
    rw [jset_bj (by decide), jset_at, nI_clamp (by omega), hX.2.1.2.1 45 false (by decide) (by decide) (by simp)]
  | inr q =>
    rintro ⟨F1, Rc, Rp, Rh, m, n, h1⟩
    have hl := h1.1.le
    have h5 := h1.1.2.1.2.1
    refine bk_X11_teach_62 hm (m_ok h1.1) (by omega) (bk_X11_teach_66 hm (fun z => absurd z (by decide)) (fun _ => bk_X11_teach_69 hm (bk_X11_teach_80 hm (m_ok h1.1) (by omega) (bk_X11_teach_85 hm (fun z => absurd z (by decide)) (fun _ => bk_X11_teach_88 hm (bk_X11_teach_96 hm (fun z => ?_) (fun z => ?_)))))))
    · have zz : ¬ q.1.1 = 0 := fun y => z (by rw [h1.1.2.1.1, y]; rfl)
      obtain ⟨a, b⟩ := h1.1.2.1.2.2 zz
      rw [a, h1.1.2.1.1]
      refine bk_X11_teach_106 hm (vp_in_nI (by omega) (by decide)) (bk_X11_teach_112 hm (fun _ => bk_X11_teach_128 hm ⟨rfl, h5, fun _ => ⟨by omega, ?_, jTF0_of F1⟩, fun y => absurd y zz⟩) (fun y => ?_))
      · rw [jset_bj (by decide), jset_at, nI_clamp (by omega), F1.2.1 45 false (by decide) (by decide) (by simp)]
      · exact absurd ((nI_eq (b := 0) (by omega) (by omega)).mp y) zz
    · have zz : q.1.1 = 0 := (nI_eq (b := 0) (by omega) (by omega)).mp (h1.1.2.1.1.symm.trans z)
      rw [z]
      refine bk_X11_teach_102 hm (bk_X11_teach_112 hm (fun y => absurd rfl y) (fun _ => bq_X11_teach_124 hm (jSV_F (m_change _)) (by omega) (fun w2 e => ?_)))
      subst e
      refine bk_X11_teach_128 hm ⟨by rw [zz]; rfl, h5, fun y => absurd zz y, fun _ => ⟨?_, ⟨by rw [← F1.1]; rfl, ⟨by rw [← F1.1]; rfl, by rw [← F1.1]; rfl, fun k j hk => ?_⟩, ?_, ?_, fun k c a b d e => ?_, fun j => ?_⟩, ?_, (h1.2.2.2 zz).2.2.2.2⟩⟩
      · rw [jfn_I, if_neg (by simp)]
        show (jset (jset w1 41 false 3 (-1)) 41 false 2 0).1 41 false 3 = -1
        rw [jset_bj (by decide), jset_at]
      · show (jsetR (jsetR (jset (jset w1 41 false 3 (-1)) 41 false 2 0) 41 8 _) 41 9 _).2.2 k j = _
        rw [jsetR_R, if_neg (fun y => hk y.1), jsetR_R, if_neg (fun y => hk y.1), ← F1.1]
        rfl
      · rw [jfn_I, if_neg (by simp)]
        show (jset (jset w1 41 false 3 (-1)) 41 false 2 0).1 41 false 2 = 0
        exact jset_at
      · rw [jfn_I, if_neg (by simp)]
        show (jset (jset w1 41 false 3 (-1)) 41 false 2 0).1 41 false 0 = _
        rw [jset_bj (by decide), jset_bj (by decide)]
        exact F1.2.2 0 (by decide)
      · rw [jfn_other b]
        show (jset (jset w1 41 false 3 (-1)) 41 false 2 0).1 k c = _
        rw [jset_k a, jset_k a]
        exact F1.2.1 k c a d e
      · rw [jfn_I, if_pos ⟨rfl, rfl⟩]
        show (if 2 ≤ j ∧ j < 51 then 0 else (jset (jset w1 41 false 3 (-1)) 41 false 2 0).1 51 false j) = _
        rw [jset_bk (by decide), jset_bk (by decide), F1.2.1 51 false (by decide) (by decide) (by simp)]
      · have eo : (jfn (jsetR (jsetR (jset (jset w1 41 false 3 (-1)) 41 false 2 0) 41 8 ((jset (jset w1 41 false 3 (-1)) 41 false 2 0).2.2 41 9)) 41 9 ((jset (jset w1 41 false 3 (-1)) 41 false 2 0).2.2 41 8)) 51 false (fun j => if 2 ≤ j ∧ j < 51 then 0 else (jset (jset w1 41 false 3 (-1)) 41 false 2 0).1 51 false j)).2.2 41 8 = w1.2.2 41 9 := rfl
        rw [eo]
        have hB := jBq_Bk (h1.2.2.2 zz).2.2.2.1 (by omega)
        refine hB.kept (fun k k1 k2 => ?_)
        rw [jfn_other (by omega)]
        show (jset (jset w1 41 false 3 (-1)) 41 false 2 0).1 k _ = _
        rw [jset_k (by omega), jset_k (by omega)]
