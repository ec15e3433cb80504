/-! the class reads lines of caves, pipes, swells, silences (written by gen72.py) -/
def jLP (T : JTk) (w : JW) (res : JLR) (r : Int32) (w2 : JW) : Prop := match res with
  | .inl f => r = 0 ∧ w2.1 7 false 5 = nI f ∧ jLF w w2
  | .inr q => r = 1 ∧ jLF w w2 ∧ ∃ s2, jLI T q.2.2 w2 q.1 q.2.1 s2
theorem jLI.fault {T : JTk} {L : JLn} {w : JW} {n : Nat} {er : JEr} {s : Nat} (h : jLI T L w n er s) : w.1 7 false 6 = 0 ↔ er.1 = 0 := by
  have h5 := h.1.2.1.2.1
  rw [h.1.2.1.1]
  exact nI_eq (b := 0) (by omega) (by omega)
theorem l_numAt {T : JTk} {L : JLn} {w : JW} {n : Nat} {er : JEr} {s : Nat} (h : jLI T L w n er s) {m k : Nat} {x : Int32} (hx : x = nI m + nI k) (hm : m + k < T.2.2.2) (h31 : T.1 (m + k) = 31) : jF MX7_numberAt 1 [jR 3 false, jI x] w (jI (T.2.1 (m + k))) w := by
  subst hx
  have h400 := h.1.2.2.1.1
  rw [nI_add, ← h.1.2.2.1.2.2.2.1 (m + k) hm h31]
  exact c_numberAt w (by omega)
theorem jLI.org9 {T : JTk} {L : JLn} {w : JW} {n : Nat} {er : JEr} {s : Nat} (h : jLI T L w n er s) : w.1 20 (w.2.2 7 4) 9 = nI (L.1.1 0) := h.2.2.1.1.1
theorem jLI.org10 {T : JTk} {L : JLn} {w : JW} {n : Nat} {er : JEr} {s : Nat} (h : jLI T L w n er s) : w.1 20 (w.2.2 7 4) 10 = nI (L.1.1 1) := h.2.2.1.1.2.1
theorem jLI.org11 {T : JTk} {L : JLn} {w : JW} {n : Nat} {er : JEr} {s : Nat} (h : jLI T L w n er s) : w.1 20 (w.2.2 7 4) 11 = nI (L.1.1 2) := h.2.2.1.1.2.2.1
theorem jLI.wea5 {T : JTk} {L : JLn} {w : JW} {n : Nat} {er : JEr} {s : Nat} (h : jLI T L w n er s) : w.1 28 (w.2.2 7 4) 5 = nI (L.1.1 3) := h.2.2.1.1.2.2.2.1
theorem jLI.wea6 {T : JTk} {L : JLn} {w : JW} {n : Nat} {er : JEr} {s : Nat} (h : jLI T L w n er s) : w.1 28 (w.2.2 7 4) 6 = nI (L.1.1 4) := h.2.2.1.1.2.2.2.2.1
theorem jLI.ord6 {T : JTk} {L : JLn} {w : JW} {n : Nat} {er : JEr} {s : Nat} (h : jLI T L w n er s) : w.1 34 (w.2.2 7 4) 6 = nI (L.1.1 5) := h.2.2.1.1.2.2.2.2.2
theorem jLI.lt {T : JTk} {L : JLn} {w : JW} {n : Nat} {er : JEr} {s : Nat} (h : jLI T L w n er s) : n ≤ T.2.2.2 ∧ T.2.2.2 ≤ 400 := ⟨h.1.1.2, h.1.2.2.1.1⟩
theorem jpK_er {T : JTk} {k : Int32} {n : Nat} {er : JEr} {q : Nat × JEr} (h : jpK T k n er = .inr q) : q.2 = er := by rw [(jpK_ok h).2]
theorem i32_pos_nI {x : Int32} {n : Nat} (h1 : nI 1 ≤ x) (h2 : x ≤ nI n) (hn : n < 2 ^ 31) : ∃ k : Nat, 1 ≤ k ∧ k ≤ n ∧ x = nI k := by
  have h0 : ¬ x < 0 := by
    intro q
    rw [Int32.lt_iff_toInt_lt, i32_0] at q
    rw [Int32.le_iff_toInt_le, nI_toInt (by omega)] at h1
    omega
  obtain ⟨k, hk, rfl⟩ := nI_of h0
  exact ⟨k, (nI_leI (by omega) hk).mp h1, (nI_leI hk hn).mp h2, rfl⟩
theorem l_caveLine {T : JTk} {L : JLn} {w : JW} {n : Nat} {er : JEr} {s : Nat} (h0 : jLI T L w n er s) : jSI MX5_caveLine 3 [jR 7 false] w (jLP T w (jlCave T L n er)) := by
  refine jSI_of jp_X5_caveLine rfl (Nat.le_of_ble_eq_true rfl) (fun C hm => ?_)
  have F0 := jLF.refl w
  have h400 := h0.lt
  refine bq_X5_caveLine_0 hm (l_take h0 0 (by decide) (by decide)) (by decide) (fun r w1 q => ?_)
  rcases q with ⟨er1, e0, rfl, h1, f1⟩ | ⟨e0, rfl, rfl⟩
  rotate_left
  · refine bk_X5_caveLine_10 hm (fun _ => bk_X5_caveLine_67 hm ⟨0, rfl, ?_⟩) (fun z => absurd rfl z)
    simp only [jlCave, jpSq, e0, jlEnd]
    exact ⟨rfl, h0.1.1.1, F0⟩
  refine bk_X5_caveLine_10 hm (fun z => absurd z (by decide)) (fun _ => ?_)
  have F1 := F0.trans f1.LF
  refine bq_X5_caveLine_13 hm (l_new h1 (Or.inl ⟨rfl, rfl, rfl⟩) h1.org9) (by decide) (fun r w2 q => ?_)
  rcases q with ⟨er2, e1, rfl, h2, f2, nm⟩ | ⟨e1, rfl, rfl⟩
  rotate_left
  · refine bk_X5_caveLine_28 hm (fun _ => bk_X5_caveLine_67 hm ⟨0, rfl, ?_⟩) (fun z => absurd rfl z)
    simp only [jlCave, jpSq, e0, e1, jlEnd]
    exact ⟨rfl, h1.1.1.1, F1⟩
  refine bk_X5_caveLine_28 hm (fun z => absurd z (by decide)) (fun _ => ?_)
  have F2 := F1.trans f2
  refine bq_X5_caveLine_31 hm (l_take h2 1 (by decide) (by decide)) (by decide) (fun r w3 q => ?_)
  rcases q with ⟨er3, e2, rfl, h3, f3⟩ | ⟨e2, rfl, rfl⟩
  rotate_left
  · refine bk_X5_caveLine_36 hm (fun _ => bk_X5_caveLine_67 hm ⟨0, rfl, ?_⟩) (fun z => absurd rfl z)
    simp only [jlCave, jpSq, e0, e1, e2, jlEnd]
    exact ⟨rfl, h2.1.1.1, F2⟩
  refine bk_X5_caveLine_36 hm (fun z => absurd z (by decide)) (fun _ => ?_)
  have F3 := F2.trans f3.LF
  refine bq_X5_caveLine_39 hm (l_num h3 1 9) (by decide) (fun r w4 q => ?_)
  rcases q with ⟨er4, e3, rfl, h4, f4⟩ | ⟨e3, rfl, rfl⟩
  rotate_left
  · refine bk_X5_caveLine_46 hm (fun _ => bk_X5_caveLine_67 hm ⟨0, rfl, ?_⟩) (fun z => absurd rfl z)
    simp only [jlCave, jpSq, e0, e1, e2, e3, jlEnd]
    exact ⟨rfl, h3.1.1.1, F3⟩
  refine bk_X5_caveLine_46 hm (fun z => absurd z (by decide)) (fun _ => ?_)
  have F4 := F3.trans f4.LF
  refine bq_X5_caveLine_49 hm (l_take h4 2 (by decide) (by decide)) (by decide) (fun r w5 q => ?_)
  rcases q with ⟨er5, e4, rfl, h5, f5⟩ | ⟨e4, rfl, rfl⟩
  rotate_left
  · refine bk_X5_caveLine_54 hm (fun _ => bk_X5_caveLine_67 hm ⟨0, rfl, ?_⟩) (fun z => absurd rfl z)
    simp only [jlCave, jpSq, e0, e1, e2, e3, e4, jlEnd]
    exact ⟨rfl, h4.1.1.1, F4⟩
  refine bk_X5_caveLine_54 hm (fun z => absurd z (by decide)) (fun _ => ?_)
  have F5 := F4.trans f5.LF
  refine bq_X5_caveLine_57 hm (l_num h5 1 9) (by decide) (fun r w6 q => ?_)
  rcases q with ⟨er6, e5, rfl, h6, f6⟩ | ⟨e5, rfl, rfl⟩
  rotate_left
  · refine bk_X5_caveLine_64 hm (fun z => absurd rfl z) (fun _ => bk_X5_caveLine_67 hm ⟨0, rfl, ?_⟩)
    simp only [jlCave, jpSq, e0, e1, e2, e3, e4, e5, jlEnd]
    exact ⟨rfl, h5.1.1.1, F5⟩
  refine bk_X5_caveLine_64 hm (fun _ => ?_) (fun z => absurd z (by decide))
  have F6 := F5.trans f6.LF
  have o3 := jpR_ok e3
  have o5 := jpR_ok e5
  have o1 := jpF_ok e1
  have nf := (f3.trans f4).trans (f5.trans f6)
  have hl := h6.lt
  rw [h0.1.1.1]
  refine bk_X5_caveLine_69 hm (fun z => bk_X5_caveLine_103 hm ⟨1, rfl, ?_⟩) (fun z => ?_)
  · simp only [jlCave, jpSq, e0, e1, e2, e3, e4, e5, jlEnd, if_neg (fun q => z (h6.fault.mpr q))]
    exact ⟨rfl, F6, s, h6⟩
  · have z6 : er6.1 = 0 := h6.fault.mp z
    obtain ⟨z5, b1, b2⟩ := o5.2.2 z6
    have z5b : er5.1 = 0 := z5
    have z4 : er4.1 = 0 := by rw [← jpK_er e4]; exact z5b
    obtain ⟨z3, -, -⟩ := o3.2.2 z4
    have z2 : er2.1 = 0 := by rw [← jpK_er e2]; exact z3
    obtain ⟨z1, -, l5⟩ := o1.2.2 z2
    refine bk_X5_caveLine_76 hm (l_numAt h6 (m := n) (k := 3) rfl (by omega) o3.1) (by decide) (bk_X5_caveLine_90 hm (l_numAt h6 (m := n) (k := 5) rfl (by omega) o5.1) (by decide) (bk_X5_caveLine_100 hm (c_addCave w6 _ h6.org9 l5 _ _) (by decide) (bk_X5_caveLine_103 hm ⟨1, rfl, ?_⟩)))
    simp only [jlCave, jpSq, e0, e1, e2, e3, e4, e5, jlEnd, if_pos z6]
    refine ⟨rfl, F6.trans ((jLF_set (by decide)).trans ((jLF_set (w := jset w6 21 _ _ _) (by decide)).trans (jLF_set (w := jset (jset w6 21 _ _ _) 22 _ _ _) (by decide)))), s, h6.cave l5 ?_ (t := n + 1) (by omega) o1.1 _ ?_⟩
    · rw [nf.2 8 _ (by decide)]
      exact nm z2
    · intro q
      rw [show n + 5 = n + 1 + 1 + 1 + 1 + 1 from rfl] at q
      rw [q] at b1
      exact absurd b1 (by decide)
theorem l_pipeLine {T : JTk} {L : JLn} {w : JW} {n : Nat} {er : JEr} {s : Nat} (h0 : jLI T L w n er s) : jSI MX5_pipeLine 3 [jR 7 false] w (jLP T w (jlPipe T L n er)) := by
  refine jSI_of jp_X5_pipeLine rfl (Nat.le_of_ble_eq_true rfl) (fun C hm => ?_)
  have F0 := jLF.refl w
  have h400 := h0.lt
  refine bq_X5_pipeLine_0 hm (l_take h0 3 (by decide) (by decide)) (by decide) (fun r w1 q => ?_)
  rcases q with ⟨er1, e0, rfl, h1, f1⟩ | ⟨e0, rfl, rfl⟩
  rotate_left
  · refine bk_X5_pipeLine_10 hm (fun _ => bk_X5_pipeLine_75 hm ⟨0, rfl, ?_⟩) (fun z => absurd rfl z)
    simp only [jlPipe, jpSq, e0, jlEnd]
    exact ⟨rfl, h0.1.1.1, F0⟩
  refine bk_X5_pipeLine_10 hm (fun z => absurd z (by decide)) (fun _ => ?_)
  have F1 := F0.trans f1.LF
  refine bq_X5_pipeLine_13 hm (l_new h1 (Or.inr (Or.inl ⟨rfl, rfl, rfl⟩)) h1.org10) (by decide) (fun r w2 q => ?_)
  rcases q with ⟨er2, e1, rfl, h2, f2, nm⟩ | ⟨e1, rfl, rfl⟩
  rotate_left
  · refine bk_X5_pipeLine_28 hm (fun _ => bk_X5_pipeLine_75 hm ⟨0, rfl, ?_⟩) (fun z => absurd rfl z)
    simp only [jlPipe, jpSq, e0, e1, jlEnd]
    exact ⟨rfl, h1.1.1.1, F1⟩
  refine bk_X5_pipeLine_28 hm (fun z => absurd z (by decide)) (fun _ => ?_)
  have F2 := F1.trans f2
  refine bq_X5_pipeLine_31 hm (l_take h2 4 (by decide) (by decide)) (by decide) (fun r w3 q => ?_)
  rcases q with ⟨er3, e2, rfl, h3, f3⟩ | ⟨e2, rfl, rfl⟩
  rotate_left
  · refine bk_X5_pipeLine_36 hm (fun _ => bk_X5_pipeLine_75 hm ⟨0, rfl, ?_⟩) (fun z => absurd rfl z)
    simp only [jlPipe, jpSq, e0, e1, e2, jlEnd]
    exact ⟨rfl, h2.1.1.1, F2⟩
  refine bk_X5_pipeLine_36 hm (fun z => absurd z (by decide)) (fun _ => ?_)
  have F3 := F2.trans f3.LF
  refine bq_X5_pipeLine_39 hm (l_known h3 (h3.cN (Or.inl ⟨rfl, rfl, rfl⟩)).1 h3.org9) (by decide) (fun r w4 q => ?_)
  rcases q with ⟨er4, e3, rfl, h4, f4⟩ | ⟨e3, rfl, rfl⟩
  rotate_left
  · refine bk_X5_pipeLine_54 hm (fun _ => bk_X5_pipeLine_75 hm ⟨0, rfl, ?_⟩) (fun z => absurd rfl z)
    simp only [jlPipe, jpSq, e0, e1, e2, e3, jlEnd]
    exact ⟨rfl, h3.1.1.1, F3⟩
  refine bk_X5_pipeLine_54 hm (fun z => absurd z (by decide)) (fun _ => ?_)
  have F4 := F3.trans f4.LF
  refine bq_X5_pipeLine_57 hm (l_take h4 5 (by decide) (by decide)) (by decide) (fun r w5 q => ?_)
  rcases q with ⟨er5, e4, rfl, h5, f5⟩ | ⟨e4, rfl, rfl⟩
  rotate_left
  · refine bk_X5_pipeLine_62 hm (fun _ => bk_X5_pipeLine_75 hm ⟨0, rfl, ?_⟩) (fun z => absurd rfl z)
    simp only [jlPipe, jpSq, e0, e1, e2, e3, e4, jlEnd]
    exact ⟨rfl, h4.1.1.1, F4⟩
  refine bk_X5_pipeLine_62 hm (fun z => absurd z (by decide)) (fun _ => ?_)
  have F5 := F4.trans f5.LF
  refine bq_X5_pipeLine_65 hm (l_num h5 1 40) (by decide) (fun r w6 q => ?_)
  rcases q with ⟨er6, e5, rfl, h6, f6⟩ | ⟨e5, rfl, rfl⟩
  rotate_left
  · refine bk_X5_pipeLine_72 hm (fun z => absurd rfl z) (fun _ => bk_X5_pipeLine_75 hm ⟨0, rfl, ?_⟩)
    simp only [jlPipe, jpSq, e0, e1, e2, e3, e4, e5, jlEnd]
    exact ⟨rfl, h5.1.1.1, F5⟩
  refine bk_X5_pipeLine_72 hm (fun _ => ?_) (fun z => absurd z (by decide))
  have F6 := F5.trans f6.LF
  have o1 := jpF_ok e1
  have o3 := jpO_ok e3
  have o5 := jpR_ok e5
  have nf := (f3.trans f4).trans (f5.trans f6)
  have hl := h6.lt
  rw [h0.1.1.1]
  have fin : ∀ (w7 : JW) (n7 : Nat) (x : Int32), (if T.1 (n + 1 + 1 + 1 + 1 + 1 + 1) = 6 then n + 1 + 1 + 1 + 1 + 1 + 1 + 1 else n + 1 + 1 + 1 + 1 + 1 + 1) = n7 → (if T.1 (n + 1 + 1 + 1 + 1 + 1 + 1) = 6 then (1 : Int32) else 0) = x → jLI T L w7 n7 er6 s → jNF w6 w7 → jW C 0 0 (jQQ C 0 0 (fun v w' => ∃ r, v = jI r ∧ jLP T w (jlPipe T L n er) r w')) 91 [jR 7 false, jI (nI n), jU] [jI x] w7 := by
    intro w7 n7 x c1 c2 h7 f7
    have F7 := F6.trans f7.LF
    refine bk_X5_pipeLine_91 hm (fun z => bk_X5_pipeLine_135 hm ⟨1, rfl, ?_⟩) (fun z => ?_)
    · simp only [jlPipe, jpSq, e0, e1, e2, e3, e4, e5, if_neg (fun q => z (h7.fault.mpr q)), c1]
      exact ⟨rfl, F7, s, h7⟩
    · have z6 : er6.1 = 0 := h7.fault.mp z
      obtain ⟨z5, b1, b2⟩ := o5.2.2 z6
      have z5b : er5.1 = 0 := z5
      have z4 : er4.1 = 0 := by rw [← jpK_er e4]; exact z5b
      obtain ⟨z3, k3⟩ := o3.2.2 z4
      have z2 : er2.1 = 0 := by rw [← jpK_er e2]; exact z3
      obtain ⟨z1, -, l12⟩ := o1.2.2 z2
      have hcN := (h7.cN (Or.inl ⟨rfl, rfl, rfl⟩)).1
      have kf : jfst (fun k => T.2.2.1 ((jNc L).1 k) (n + 3)) (jNc L).2 < (jNc L).2 := Classical.not_not.mp (fun q => k3 ((jnum_neg hcN.2.2.2.1).1.mpr q))
      have ek : jnum T (jNc L) (n + 3) = nI (jfi T (jNc L) (n + 3)) := by unfold jnum jfd jfi; rw [if_pos kf]
      obtain ⟨l, l1, l2, el⟩ := i32_pos_nI (n := 40) b1 b2 (by decide)
      have el2 : (T.2.1 (n + 5)).toNatClampNeg = l := by
        rw [show T.2.1 (n + 5) = nI l from el, nI_clamp (by omega)]
      refine bk_X5_pipeLine_99 hm (by rw [h7.org9, show nI n + (3 : Int32) = nI (n + 3) from nI_add n 3]; exact c_num (k := 8) h7.1 hcN (t := n + 3) (by omega) o3.1) (by decide) (bk_X5_pipeLine_121 hm (l_numAt h7 (m := n) (k := 5) rfl (by omega) o5.1) (by decide) (bk_X5_pipeLine_131 hm (c_addPipe w7 _ h7.org10 l12 _ _ _) (by decide) (bk_X5_pipeLine_135 hm ⟨1, rfl, ?_⟩)))
      simp only [jlPipe, jpSq, e0, e1, e2, e3, e4, e5, if_pos z6, c1, c2]
      rw [ek, show T.2.1 (n + 5) = nI l from el, nI_clamp (by omega)]
      refine ⟨rfl, F7.trans ((jLF_set (by decide)).trans ((jLF_set (w := jset w7 23 _ _ _) (by decide)).trans ((jLF_set (w := jset (jset w7 23 _ _ _) 24 _ _ _) (by decide)).trans (jLF_set (w := jset (jset (jset w7 23 _ _ _) 24 _ _ _) 25 _ _ _) (by decide))))), s, h7.pipe l12 (t := n + 1) ?_ (by omega) o1.1 kf ⟨l1, l2⟩ _⟩
      rw [f7.2 9 _ (by decide), nf.2 9 _ (by decide)]
      exact nm z2
  refine bq_X5_pipeLine_77 hm (l_take h6 6 (by decide) (by decide)) (by decide) (fun r w7 q => ?_)
  rcases q with ⟨er7, e6, rfl, h7, f7⟩ | ⟨e6, rfl, rfl⟩
  · have e6k := (jpK_ok e6).1
    have e6e : er7 = er6 := jpK_er e6
    subst e6e
    exact bk_X5_pipeLine_83 hm (fun z => absurd z (by decide)) (fun _ => bk_X5_pipeLine_86 hm (fin w7 _ 1 (if_pos e6k) (if_pos e6k) h7 f7))
  · have e6k : ¬ T.1 (n + 1 + 1 + 1 + 1 + 1 + 1) = 6 := fun z => by
      unfold jpK at e6
      rw [if_pos z] at e6
      cases e6
    exact bk_X5_pipeLine_83 hm (fun _ => bk_X5_pipeLine_90 hm (fin _ _ 0 (if_neg e6k) (if_neg e6k) h6 (jNF.refl _))) (fun z => absurd rfl z)
theorem l_swellLine {T : JTk} {L : JLn} {w : JW} {n : Nat} {er : JEr} {s : Nat} (h0 : jLI T L w n er s) : jSI MX5_swellLine 3 [jR 7 false] w (jLP T w (jlSwell T L n er)) := by
  refine jSI_of jp_X5_swellLine rfl (Nat.le_of_ble_eq_true rfl) (fun C hm => ?_)
  have h400 := h0.lt
  have main : ∀ (w0 : JW) (er0 : JEr), (if L.1.1 3 < 5 then er else jbl er 4 n) = er0 → jLI T L w0 n er0 s → jNF w w0 → jW C 0 0 (jQQ C 0 0 (fun v w' => ∃ r, v = jI r ∧ jLP T w (jlSwell T L n er) r w')) 24 [jR 7 false, jI (nI n)] [] w0 := by
    intro w0 er0 he h0 f0
    have F0 := f0.LF
    refine bq_X5_swellLine_24 hm (l_take h0 7 (by decide) (by decide)) (by decide) (fun r w1 q => ?_)
    rcases q with ⟨er1, e0, rfl, h1, f1⟩ | ⟨e0, rfl, rfl⟩
    rotate_left
    · refine bk_X5_swellLine_30 hm (fun _ => bk_X5_swellLine_90 hm ⟨0, rfl, ?_⟩) (fun z => absurd rfl z)
      simp only [jlSwell, he, jpSq, e0, jlEnd]
      exact ⟨rfl, h0.1.1.1, F0⟩
    refine bk_X5_swellLine_30 hm (fun z => absurd z (by decide)) (fun _ => ?_)
    have F1 := F0.trans f1.LF
    refine bq_X5_swellLine_33 hm (l_take h1 8 (by decide) (by decide)) (by decide) (fun r w2 q => ?_)
    rcases q with ⟨er2, e1, rfl, h2, f2⟩ | ⟨e1, rfl, rfl⟩
    rotate_left
    · refine bk_X5_swellLine_39 hm (fun _ => bk_X5_swellLine_90 hm ⟨0, rfl, ?_⟩) (fun z => absurd rfl z)
      simp only [jlSwell, he, jpSq, e0, e1, jlEnd]
      exact ⟨rfl, h1.1.1.1, F1⟩
    refine bk_X5_swellLine_39 hm (fun z => absurd z (by decide)) (fun _ => ?_)
    have F2 := F1.trans f2.LF
    refine bq_X5_swellLine_42 hm (l_num h2 1 30) (by decide) (fun r w3 q => ?_)
    rcases q with ⟨er3, e2, rfl, h3, f3⟩ | ⟨e2, rfl, rfl⟩
    rotate_left
    · refine bk_X5_swellLine_49 hm (fun _ => bk_X5_swellLine_90 hm ⟨0, rfl, ?_⟩) (fun z => absurd rfl z)
      simp only [jlSwell, he, jpSq, e0, e1, e2, jlEnd]
      exact ⟨rfl, h2.1.1.1, F2⟩
    refine bk_X5_swellLine_49 hm (fun z => absurd z (by decide)) (fun _ => ?_)
    have F3 := F2.trans f3.LF
    refine bq_X5_swellLine_52 hm (l_take h3 9 (by decide) (by decide)) (by decide) (fun r w4 q => ?_)
    rcases q with ⟨er4, e3, rfl, h4, f4⟩ | ⟨e3, rfl, rfl⟩
    rotate_left
    · refine bk_X5_swellLine_58 hm (fun _ => bk_X5_swellLine_90 hm ⟨0, rfl, ?_⟩) (fun z => absurd rfl z)
      simp only [jlSwell, he, jpSq, e0, e1, e2, e3, jlEnd]
      exact ⟨rfl, h3.1.1.1, F3⟩
    refine bk_X5_swellLine_58 hm (fun z => absurd z (by decide)) (fun _ => ?_)
    have F4 := F3.trans f4.LF
    refine bq_X5_swellLine_61 hm (l_num h4 1 24) (by decide) (fun r w5 q => ?_)
    rcases q with ⟨er5, e4, rfl, h5, f5⟩ | ⟨e4, rfl, rfl⟩
    rotate_left
    · refine bk_X5_swellLine_68 hm (fun _ => bk_X5_swellLine_90 hm ⟨0, rfl, ?_⟩) (fun z => absurd rfl z)
      simp only [jlSwell, he, jpSq, e0, e1, e2, e3, e4, jlEnd]
      exact ⟨rfl, h4.1.1.1, F4⟩
    refine bk_X5_swellLine_68 hm (fun z => absurd z (by decide)) (fun _ => ?_)
    have F5 := F4.trans f5.LF
    refine bq_X5_swellLine_71 hm (l_take h5 10 (by decide) (by decide)) (by decide) (fun r w6 q => ?_)
    rcases q with ⟨er6, e5, rfl, h6, f6⟩ | ⟨e5, rfl, rfl⟩
    rotate_left
    · refine bk_X5_swellLine_77 hm (fun _ => bk_X5_swellLine_90 hm ⟨0, rfl, ?_⟩) (fun z => absurd rfl z)
      simp only [jlSwell, he, jpSq, e0, e1, e2, e3, e4, e5, jlEnd]
      exact ⟨rfl, h5.1.1.1, F5⟩
    refine bk_X5_swellLine_77 hm (fun z => absurd z (by decide)) (fun _ => ?_)
    have F6 := F5.trans f6.LF
    refine bq_X5_swellLine_80 hm (l_num h6 0 99) (by decide) (fun r w7 q => ?_)
    rcases q with ⟨er7, e6, rfl, h7, f7⟩ | ⟨e6, rfl, rfl⟩
    rotate_left
    · refine bk_X5_swellLine_87 hm (fun z => absurd rfl z) (fun _ => bk_X5_swellLine_90 hm ⟨0, rfl, ?_⟩)
      simp only [jlSwell, he, jpSq, e0, e1, e2, e3, e4, e5, e6, jlEnd]
      exact ⟨rfl, h6.1.1.1, F6⟩
    refine bk_X5_swellLine_87 hm (fun _ => ?_) (fun z => absurd z (by decide))
    have F7 := F6.trans f7.LF
    have o2 := jpR_ok e2
    have o4 := jpR_ok e4
    have o6 := jpR_ok e6
    have hl := h7.lt
    refine bk_X5_swellLine_92 hm (fun z => bk_X5_swellLine_140 hm ⟨1, rfl, ?_⟩) (fun z => ?_)
    · simp only [jlSwell, he, jpSq, e0, e1, e2, e3, e4, e5, e6, jlEnd, if_neg (fun q => z (h7.fault.mpr q))]
      exact ⟨rfl, F7, s, h7⟩
    · have z7 : er7.1 = 0 := h7.fault.mp z
      obtain ⟨z6, -, -⟩ := o6.2.2 z7
      have z5 : er5.1 = 0 := by rw [← jpK_er e5]; exact z6
      obtain ⟨z4, b1, b2⟩ := o4.2.2 z5
      have z3 : er3.1 = 0 := by rw [← jpK_er e3]; exact z4
      obtain ⟨z2, -, -⟩ := o2.2.2 z3
      have z1 : er1.1 = 0 := by rw [← jpK_er e1]; exact z2
      have z0 : er0.1 = 0 := by rw [← jpK_er e0]; exact z1
      have l5 : L.1.1 3 < 5 := by
        by_cases q : L.1.1 3 < 5
        · exact q
        · rw [if_neg q] at he
          rw [← he] at z0
          exact absurd z0 (jbl_n0 (by decide))
      refine bk_X5_swellLine_99 hm (l_numAt h7 (m := n) (k := 2) rfl (by omega) o2.1) (by decide) (bk_X5_swellLine_116 hm (l_numAt h7 (m := n) (k := 4) rfl (by omega) o4.1) (by decide) (bk_X5_swellLine_126 hm (l_numAt h7 (m := n) (k := 6) rfl (by omega) o6.1) (by decide) (bk_X5_swellLine_137 hm (c_addSwell w7 _ h7.wea5 l5 _ _ _) (by decide) (bk_X5_swellLine_140 hm ⟨1, rfl, ?_⟩))))
      simp only [jlSwell, he, jpSq, e0, e1, e2, e3, e4, e5, e6, jlEnd, if_pos z7]
      refine ⟨rfl, F7.trans ((jLF_set (by decide)).trans ((jLF_set (w := jset w7 29 _ _ _) (by decide)).trans ((jLF_set (w := jset (jset w7 29 _ _ _) 30 _ _ _) (by decide)).trans (jLF_set (w := jset (jset (jset w7 29 _ _ _) 30 _ _ _) 31 _ _ _) (by decide))))), s, h7.swell l5 _ _ ?_⟩
      obtain ⟨l, l1, l2, el⟩ := i32_pos_nI (n := 24) b1 b2 (by decide)
      rw [show T.2.1 (n + 4) = nI l from el]
      exact nI_nle (by omega) (by omega)
  rw [show jentry [jR 7 false] MX5_swellLine.2.1 = [jR 7 false, jU] from rfl]
  refine bk_X5_swellLine_0 hm (fun q => ?_) (fun q => bq_X5_swellLine_19 hm (l_blame h0 (c := 4) (by decide)) (by decide) (fun w1 hp => ?_))
  · rw [h0.1.1.1]
    rw [h0.wea5] at q
    have hW := h0.2.2.2.1.1
    exact main w er (if_pos ((nI_ltI (b := 5) (by omega) (by omega)).mp q)) h0 (jNF.refl w)
  · rw [h0.1.1.1]
    rw [h0.wea5] at q
    have hW := h0.2.2.2.1.1
    exact main w1 _ (if_neg (fun z => q ((nI_ltI (b := 5) (by omega) (by omega)).mpr z))) hp.1 hp.2
theorem l_silenceLine {T : JTk} {L : JLn} {w : JW} {n : Nat} {er : JEr} {s : Nat} (h0 : jLI T L w n er s) : jSI MX5_silenceLine 3 [jR 7 false] w (jLP T w (jlSil T L n er)) := by
  refine jSI_of jp_X5_silenceLine rfl (Nat.le_of_ble_eq_true rfl) (fun C hm => ?_)
  have h400 := h0.lt
  have main : ∀ (w0 : JW) (er0 : JEr), (if L.1.1 4 < 3 then er else jbl er 4 n) = er0 → jLI T L w0 n er0 s → jNF w w0 → jW C 0 0 (jQQ C 0 0 (fun v w' => ∃ r, v = jI r ∧ jLP T w (jlSil T L n er) r w')) 24 [jR 7 false, jI (nI n)] [] w0 := by
    intro w0 er0 he h0 f0
    have F0 := f0.LF
    refine bq_X5_silenceLine_24 hm (l_take h0 11 (by decide) (by decide)) (by decide) (fun r w1 q => ?_)
    rcases q with ⟨er1, e0, rfl, h1, f1⟩ | ⟨e0, rfl, rfl⟩
    rotate_left
    · refine bk_X5_silenceLine_30 hm (fun _ => bk_X5_silenceLine_71 hm ⟨0, rfl, ?_⟩) (fun z => absurd rfl z)
      simp only [jlSil, he, jpSq, e0, jlEnd]
      exact ⟨rfl, h0.1.1.1, F0⟩
    refine bk_X5_silenceLine_30 hm (fun z => absurd z (by decide)) (fun _ => ?_)
    have F1 := F0.trans f1.LF
    refine bq_X5_silenceLine_33 hm (l_take h1 10 (by decide) (by decide)) (by decide) (fun r w2 q => ?_)
    rcases q with ⟨er2, e1, rfl, h2, f2⟩ | ⟨e1, rfl, rfl⟩
    rotate_left
    · refine bk_X5_silenceLine_39 hm (fun _ => bk_X5_silenceLine_71 hm ⟨0, rfl, ?_⟩) (fun z => absurd rfl z)
      simp only [jlSil, he, jpSq, e0, e1, jlEnd]
      exact ⟨rfl, h1.1.1.1, F1⟩
    refine bk_X5_silenceLine_39 hm (fun z => absurd z (by decide)) (fun _ => ?_)
    have F2 := F1.trans f2.LF
    refine bq_X5_silenceLine_42 hm (l_num h2 0 23) (by decide) (fun r w3 q => ?_)
    rcases q with ⟨er3, e2, rfl, h3, f3⟩ | ⟨e2, rfl, rfl⟩
    rotate_left
    · refine bk_X5_silenceLine_49 hm (fun _ => bk_X5_silenceLine_71 hm ⟨0, rfl, ?_⟩) (fun z => absurd rfl z)
      simp only [jlSil, he, jpSq, e0, e1, e2, jlEnd]
      exact ⟨rfl, h2.1.1.1, F2⟩
    refine bk_X5_silenceLine_49 hm (fun z => absurd z (by decide)) (fun _ => ?_)
    have F3 := F2.trans f3.LF
    refine bq_X5_silenceLine_52 hm (l_take h3 12 (by decide) (by decide)) (by decide) (fun r w4 q => ?_)
    rcases q with ⟨er4, e3, rfl, h4, f4⟩ | ⟨e3, rfl, rfl⟩
    rotate_left
    · refine bk_X5_silenceLine_58 hm (fun _ => bk_X5_silenceLine_71 hm ⟨0, rfl, ?_⟩) (fun z => absurd rfl z)
      simp only [jlSil, he, jpSq, e0, e1, e2, e3, jlEnd]
      exact ⟨rfl, h3.1.1.1, F3⟩
    refine bk_X5_silenceLine_58 hm (fun z => absurd z (by decide)) (fun _ => ?_)
    have F4 := F3.trans f4.LF
    refine bq_X5_silenceLine_61 hm (l_num h4 0 23) (by decide) (fun r w5 q => ?_)
    rcases q with ⟨er5, e4, rfl, h5, f5⟩ | ⟨e4, rfl, rfl⟩
    rotate_left
    · refine bk_X5_silenceLine_68 hm (fun z => absurd rfl z) (fun _ => bk_X5_silenceLine_71 hm ⟨0, rfl, ?_⟩)
      simp only [jlSil, he, jpSq, e0, e1, e2, e3, e4, jlEnd]
      exact ⟨rfl, h4.1.1.1, F4⟩
    refine bk_X5_silenceLine_68 hm (fun _ => ?_) (fun z => absurd z (by decide))
    have F5 := F4.trans f5.LF
    have o2 := jpR_ok e2
    have o4 := jpR_ok e4
    have hl := h5.lt
    refine bk_X5_silenceLine_73 hm (fun z => bk_X5_silenceLine_110 hm ⟨1, rfl, ?_⟩) (fun z => ?_)
    · simp only [jlSil, he, jpSq, e0, e1, e2, e3, e4, jlEnd, if_neg (fun q => z (h5.fault.mpr q))]
      exact ⟨rfl, F5, s, h5⟩
    · have z5 : er5.1 = 0 := h5.fault.mp z
      obtain ⟨z4, -, -⟩ := o4.2.2 z5
      have z3 : er3.1 = 0 := by rw [← jpK_er e3]; exact z4
      obtain ⟨z2, -, -⟩ := o2.2.2 z3
      have z1 : er1.1 = 0 := by rw [← jpK_er e1]; exact z2
      have z0 : er0.1 = 0 := by rw [← jpK_er e0]; exact z1
      have l3 : L.1.1 4 < 3 := by
        by_cases q : L.1.1 4 < 3
        · exact q
        · rw [if_neg q] at he
          rw [← he] at z0
          exact absurd z0 (jbl_n0 (by decide))
      refine bk_X5_silenceLine_80 hm (l_numAt h5 (m := n) (k := 2) rfl (by omega) o2.1) (by decide) (bk_X5_silenceLine_97 hm (l_numAt h5 (m := n) (k := 4) rfl (by omega) o4.1) (by decide) (bk_X5_silenceLine_107 hm (c_addSilence w5 _ h5.wea6 l3 _ _) (by decide) (bk_X5_silenceLine_110 hm ⟨1, rfl, ?_⟩)))
      simp only [jlSil, he, jpSq, e0, e1, e2, e3, e4, jlEnd, if_pos z5]
      exact ⟨rfl, F5.trans ((jLF_set (by decide)).trans ((jLF_set (w := jset w5 32 _ _ _) (by decide)).trans (jLF_set (w := jset (jset w5 32 _ _ _) 33 _ _ _) (by decide)))), s, h5.sil l3 _ _⟩
  rw [show jentry [jR 7 false] MX5_silenceLine.2.1 = [jR 7 false, jU] from rfl]
  refine bk_X5_silenceLine_0 hm (fun q => ?_) (fun q => bq_X5_silenceLine_19 hm (l_blame h0 (c := 4) (by decide)) (by decide) (fun w1 hp => ?_))
  · rw [h0.1.1.1]
    rw [h0.wea6] at q
    have hW := h0.2.2.2.1.1
    exact main w er (if_pos ((nI_ltI (b := 3) (by omega) (by omega)).mp q)) h0 (jNF.refl w)
  · rw [h0.1.1.1]
    rw [h0.wea6] at q
    have hW := h0.2.2.2.1.1
    exact main w1 _ (if_neg (fun z => q ((nI_ltI (b := 3) (by omega) (by omega)).mpr z))) hp.1 hp.2
