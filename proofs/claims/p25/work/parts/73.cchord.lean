/-! the class reads chords -/
theorem jOrg_26 {w : JW} {o : Bool} {D : JD} (h : jOrg w o D) (x : Int32) {c : Nat} (hc : D.1 2 ≤ c) : jOrg (jset w 26 o c x) o D := by
  obtain ⟨⟨a0, a1, a2, a3, a4, a5⟩, b, c1, e, f, g, i⟩ := h
  refine ⟨⟨by simp (disch := omega) only [jset_at, jset_bk, jset_bj, jsN_at, jsN_no, jsN_I, jsI_N, jsI_T, jsI_at, jsI_no1, jsI_no2, jsT_N, jsT_I]; exact a0, by simp (disch := omega) only [jset_at, jset_bk, jset_bj, jsN_at, jsN_no, jsN_I, jsI_N, jsI_T, jsI_at, jsI_no1, jsI_no2, jsT_N, jsT_I]; exact a1, by simp (disch := omega) only [jset_at, jset_bk, jset_bj, jsN_at, jsN_no, jsN_I, jsI_N, jsI_T, jsI_at, jsI_no1, jsI_no2, jsT_N, jsT_I]; exact a2, by simp (disch := omega) only [jset_at, jset_bk, jset_bj, jsN_at, jsN_no, jsN_I, jsI_N, jsI_T, jsI_at, jsI_no1, jsI_no2, jsT_N, jsT_I]; exact a3, by simp (disch := omega) only [jset_at, jset_bk, jset_bj, jsN_at, jsN_no, jsN_I, jsI_N, jsI_T, jsI_at, jsI_no1, jsI_no2, jsT_N, jsT_I]; exact a4, by simp (disch := omega) only [jset_at, jset_bk, jset_bj, jsN_at, jsN_no, jsN_I, jsI_N, jsI_T, jsI_at, jsI_no1, jsI_no2, jsT_N, jsT_I]; exact a5⟩, fun j hj => by simp (disch := omega) only [jset_at, jset_bk, jset_bj, jsN_at, jsN_no, jsN_I, jsI_N, jsI_T, jsI_at, jsI_no1, jsI_no2, jsT_N, jsT_I]; exact b j hj, fun j hj => by simp (disch := omega) only [jset_at, jset_bk, jset_bj, jsN_at, jsN_no, jsN_I, jsI_N, jsI_T, jsI_at, jsI_no1, jsI_no2, jsT_N, jsT_I]; exact c1 j hj, fun c2 hc2 => ⟨by simp (disch := omega) only [jset_at, jset_bk, jset_bj, jsN_at, jsN_no, jsN_I, jsI_N, jsI_T, jsI_at, jsI_no1, jsI_no2, jsT_N, jsT_I]; exact (e c2 hc2).1, fun p hp => by simp (disch := omega) only [jset_at, jset_bk, jset_bj, jsN_at, jsN_no, jsN_I, jsI_N, jsI_T, jsI_at, jsI_no1, jsI_no2, jsT_N, jsT_I]; exact (e c2 hc2).2 p hp⟩, fun j hj => by simp (disch := omega) only [jset_at, jset_bk, jset_bj, jsN_at, jsN_no, jsN_I, jsI_N, jsI_T, jsI_at, jsI_no1, jsI_no2, jsT_N, jsT_I]; exact f j hj, fun j hj => by simp (disch := omega) only [jset_at, jset_bk, jset_bj, jsN_at, jsN_no, jsN_I, jsI_N, jsI_T, jsI_at, jsI_no1, jsI_no2, jsT_N, jsT_I]; exact g j hj, ?_⟩
  exact jOrdP.kept (D := D) i (fun k h1 h2 => by rw [jset_k (by omega)]) rfl (fun j hj => ⟨rfl, rfl, rfl⟩)
theorem jOrg_27 {w : JW} {o : Bool} {D : JD} (h : jOrg w o D) (hW : jWF D) (x : Int32) {q : Nat} (hq : 6 * D.1 2 ≤ q) : jOrg (jset w 27 o q x) o D := by
  obtain ⟨⟨a0, a1, a2, a3, a4, a5⟩, b, c1, e, f, g, i⟩ := h
  refine ⟨⟨by simp (disch := omega) only [jset_at, jset_bk, jset_bj, jsN_at, jsN_no, jsN_I, jsI_N, jsI_T, jsI_at, jsI_no1, jsI_no2, jsT_N, jsT_I]; exact a0, by simp (disch := omega) only [jset_at, jset_bk, jset_bj, jsN_at, jsN_no, jsN_I, jsI_N, jsI_T, jsI_at, jsI_no1, jsI_no2, jsT_N, jsT_I]; exact a1, by simp (disch := omega) only [jset_at, jset_bk, jset_bj, jsN_at, jsN_no, jsN_I, jsI_N, jsI_T, jsI_at, jsI_no1, jsI_no2, jsT_N, jsT_I]; exact a2, by simp (disch := omega) only [jset_at, jset_bk, jset_bj, jsN_at, jsN_no, jsN_I, jsI_N, jsI_T, jsI_at, jsI_no1, jsI_no2, jsT_N, jsT_I]; exact a3, by simp (disch := omega) only [jset_at, jset_bk, jset_bj, jsN_at, jsN_no, jsN_I, jsI_N, jsI_T, jsI_at, jsI_no1, jsI_no2, jsT_N, jsT_I]; exact a4, by simp (disch := omega) only [jset_at, jset_bk, jset_bj, jsN_at, jsN_no, jsN_I, jsI_N, jsI_T, jsI_at, jsI_no1, jsI_no2, jsT_N, jsT_I]; exact a5⟩, fun j hj => by simp (disch := omega) only [jset_at, jset_bk, jset_bj, jsN_at, jsN_no, jsN_I, jsI_N, jsI_T, jsI_at, jsI_no1, jsI_no2, jsT_N, jsT_I]; exact b j hj, fun j hj => by simp (disch := omega) only [jset_at, jset_bk, jset_bj, jsN_at, jsN_no, jsN_I, jsI_N, jsI_T, jsI_at, jsI_no1, jsI_no2, jsT_N, jsT_I]; exact c1 j hj, fun c2 hc2 => ⟨by simp (disch := omega) only [jset_at, jset_bk, jset_bj, jsN_at, jsN_no, jsN_I, jsI_N, jsI_T, jsI_at, jsI_no1, jsI_no2, jsT_N, jsT_I]; exact (e c2 hc2).1, fun p hp => ?_⟩, fun j hj => by simp (disch := omega) only [jset_at, jset_bk, jset_bj, jsN_at, jsN_no, jsN_I, jsI_N, jsI_T, jsI_at, jsI_no1, jsI_no2, jsT_N, jsT_I]; exact f j hj, fun j hj => by simp (disch := omega) only [jset_at, jset_bk, jset_bj, jsN_at, jsN_no, jsN_I, jsI_N, jsI_T, jsI_at, jsI_no1, jsI_no2, jsT_N, jsT_I]; exact g j hj, ?_⟩
  · have := (hW.2.2.2.1 c2 hc2).2.1
    simp (disch := omega) only [jset_at, jset_bk, jset_bj, jsN_at, jsN_no, jsN_I, jsI_N, jsI_T, jsI_at, jsI_no1, jsI_no2, jsT_N, jsT_I]; exact (e c2 hc2).2 p hp
  · exact jOrdP.kept (D := D) i (fun k h1 h2 => by rw [jset_k (by omega)]) rfl (fun j hj => ⟨rfl, rfl, rfl⟩)
theorem c_hasNote (w : JW) (o : Bool) (x y : Int32) : jF MX3_hasNote 3 [jR 20 o, jI x, jI y] w (jI (if jany (fun i => decide (jat 36 (w.1 27 o) (x * 6 + nI i) = y)) (jat 6 (w.1 26 o) x).toNatClampNeg = true then 1 else 0)) w := by
  refine jF_of jp_X3_hasNote rfl (Nat.le_of_ble_eq_true rfl) (fun C hm => ?_)
  refine bk_X3_hasNote_0 hm (d2 := 1) (r := jat 6 (w.1 26 o) x) (w2 := w) ?_ (by decide) (bk_X3_hasNote_5 hm ?_)
  · refine jF_of jp_X3_sizeOf rfl (Nat.le_of_ble_eq_true rfl) (fun C hm => ?_)
    exact bk_X3_sizeOf_0 hm (c_at (ja_26 o) w x) (by decide) (bk_X3_sizeOf_8 hm ⟨rfl, rfl⟩)
  have note : ∀ z : Int32, jF MX3_noteAt 1 [jR 20 o, jI x, jI z] w (jI (jat 36 (w.1 27 o) (x * 6 + z))) w := by
    intro z
    refine jF_of jp_X3_noteAt rfl (Nat.le_of_ble_eq_true rfl) (fun C hm => ?_)
    exact bk_X3_noteAt_0 hm (c_at (ja_27 o) w _) (by decide) (bk_X3_noteAt_13 hm ⟨rfl, rfl⟩)
  generalize jat 6 (w.1 26 o) x = m
  have key := jfor (P := fun i => i ≤ m.toNatClampNeg → (∀ j, j < i → decide (jat 36 (w.1 27 o) (x * 6 + nI j) = y) = false) → jW C 0 0 (jQQ C 0 0 (fun v w' => v = jI (if jany (fun i => decide (jat 36 (w.1 27 o) (x * 6 + nI i) = y)) m.toNatClampNeg = true then 1 else 0) ∧ w' = w)) 9 [jR 20 o, jI x, jI y, jI m, jI (nI i)] [] w) m.toNatClampNeg ?_ ?_
  · exact key (Nat.zero_le _) (fun j h => absurd h (Nat.not_lt_zero j))
  · intro _ hb
    have hno : jany (fun i => decide (jat 36 (w.1 27 o) (x * 6 + nI i) = y)) m.toNatClampNeg = false := by
      rw [jany_cong (g := fun _ => false) (fun k hk => hb k hk)]
      generalize m.toNatClampNeg = n
      induction n with
      | zero => rfl
      | succ n ih => rw [jany, ih]; rfl
    refine bk_X3_hasNote_9 hm (fun _ => bk_X3_hasNote_34 hm ⟨by rw [hno]; rfl, rfl⟩) (fun h => ?_)
    exfalso
    apply h
    rcases Classical.em (m < 0) with q | q
    · have e0 : m.toNatClampNeg = 0 := by
        rw [Int32.lt_iff_toInt_lt, i32_0] at q
        rw [← Int32.toNat_toInt]
        omega
      rw [e0]
      rw [Int32.lt_iff_toInt_lt, i32_0] at q
      rw [Int32.le_iff_toInt_le, nI_toInt (by omega)]
      omega
    · obtain ⟨k, hk, rfl⟩ := nI_of q
      rw [nI_clamp hk]
      exact (nI_leI hk hk).mpr (Nat.le_refl k)
  · intro i hi ih _ hb
    have hm0 : ¬ m < 0 := by
      intro q
      have e0 : m.toNatClampNeg = 0 := by
        rw [Int32.lt_iff_toInt_lt, i32_0] at q
        rw [← Int32.toNat_toInt]
        omega
      omega
    obtain ⟨k, hk, rfl⟩ := nI_of hm0
    rw [nI_clamp hk] at hi ih ⊢
    refine bk_X3_hasNote_9 hm (fun h => absurd ((nI_leI hk (by omega)).mp h) (by omega)) (fun _ => bk_X3_hasNote_15 hm (note (nI i)) (by decide) (bk_X3_hasNote_22 hm (fun q => bk_X3_hasNote_28 hm ?_) (fun q => bk_X3_hasNote_26 hm ⟨?_, rfl⟩)))
    · rw [nI_1]
      refine ih (by omega) (fun j hj => ?_)
      by_cases z : j = i
      · subst z
        exact decide_eq_false q
      · exact hb j (by omega)
    · rw [jany_of hi (decide_eq_true q)]
      rfl
/-- a chord is being read -/
def jCH (L : JLn) (w : JW) (er : JEr) (ch : JCh) : Prop := er.1 = 0 → L.1.1 2 < 6 ∧ jChP w (w.2.2 7 4) (L.1.1 2) ch ∧ ch.1 ≤ 6 ∧ ∀ p, p < ch.1 → ch.2 p < L.1.1 1
def jCF (w w2 : JW) : Prop := w2.2 = w.2 ∧ ∀ k b, k ≠ 7 → ¬ (b = w.2.2 7 4 ∧ (k = 26 ∨ k = 27)) → w2.1 k b = w.1 k b
theorem jCF.refl (w : JW) : jCF w w := ⟨rfl, fun _ _ _ _ => rfl⟩
theorem jCF.trans {w w2 w3 : JW} (h : jCF w w2) (h2 : jCF w2 w3) : jCF w w3 := ⟨h2.1.trans h.1, fun k b hk hb => (h2.2 k b hk (by rw [h.1]; exact hb)).trans (h.2 k b hk hb)⟩
theorem jCF.LF {w w2 : JW} (h : jCF w w2) : jLF w w2 := ⟨h.1, fun k b hk hb => h.2 k b (fun e => hk (by omega)) (fun q => hb ⟨q.1, by omega, by omega⟩)⟩
theorem jNF.CF {w w2 : JW} (h : jNF w w2) : jCF w w2 := ⟨h.1, fun k b hk _ => h.2 k b hk⟩
theorem jCH.nf {L : JLn} {w w2 : JW} {er : JEr} {ch : JCh} (h : jCH L w er ch) (hf : jNF w w2) : jCH L w2 er ch := by
  intro z
  obtain ⟨h1, h2, h3, h4⟩ := h z
  refine ⟨h1, ?_, h3, h4⟩
  unfold jChP
  rw [hf.o, hf.2 26 _ (by decide), hf.2 27 _ (by decide)]
  exact h2
theorem jbl_keep {er : JEr} {c t : Nat} (h : ¬ er.1 = 0) : jbl er c t = er := if_neg h
theorem jcEr_keep {T : JTk} {N : JNm} {c : JCh} {n : Nat} {er : JEr} (h : ¬ er.1 = 0) : jcEr T N c n er = er := by
  unfold jcEr
  rw [jbl_keep h, jbl_keep h, jbl_keep h]
  split
  · rfl
  · split
    · rfl
    · split <;> rfl
theorem jcEr_0 {T : JTk} {N : JNm} {c : JCh} {n : Nat} {er : JEr} (h : (jcEr T N c n er).1 = 0) : er.1 = 0 ∧ jfi T N n < N.2 ∧ c.1 < 6 ∧ ¬ jhas c (jfi T N n) = true := by
  unfold jcEr at h
  split at h
  · exact absurd h (jbl_n0 (by decide))
  · rename_i h1
    split at h
    · exact absurd h (jbl_n0 (by decide))
    · rename_i h2
      split at h
      · exact absurd h (jbl_n0 (by decide))
      · rename_i h3
        exact ⟨h, Classical.not_not.mp h1, Classical.not_not.mp h2, h3⟩
theorem jnum_fi {T : JTk} {N : JNm} {n : Nat} : jnum T N n = if jfi T N n < N.2 then nI (jfi T N n) else -1 := rfl
theorem jcTo_1 {T : JTk} {N : JNm} {c : JCh} {n : Nat} {er2 : JEr} (h : er2.1 = 0) : 1 ≤ (jcTo T N c n er2).1 := by
  unfold jcTo
  rw [if_pos h]
  exact Nat.succ_le_succ (Nat.zero_le _)
theorem c_addNote (w : JW) (o : Bool) {c m : Nat} (hc : w.1 20 o 11 = nI c) (h6 : c < 6) (h26 : w.1 26 o c = nI m) (hm6 : m < 6) (x : Int32) : jF MX3_addNote 2 [jR 20 o, jI x] w jU (jset (jset w 27 o (6 * c + m) x) 26 o c (nI (m + 1))) := by
  refine jF_of jp_X3_addNote rfl (Nat.le_of_ble_eq_true rfl) (fun C hm => ?_)
  refine bk_X3_addNote_0 hm (d2 := 1) (r := nI m) (w2 := w) (by rw [hc, ← h26]; exact c_sizeOf w o h6) (by decide) (bk_X3_addNote_8 hm (d2 := 0) (w2 := jset w 27 o (6 * c + m) x) ?_ (by decide) (bk_X3_addNote_26 hm (d2 := 0) (w2 := jset (jset w 27 o (6 * c + m) x) 26 o c (nI (m + 1))) ?_ (by decide) (bk_X3_addNote_40 hm ⟨rfl, rfl⟩)))
  · have e : w.1 20 o 11 * 6 + nI m = nI (6 * c + m) := by
      rw [hc, show (6 : Int32) = nI 6 from rfl, show nI c * nI 6 = nI (c * 6) from (Int32.ofNat_mul c 6).symm, nI_add, Nat.mul_comm]
    rw [e]
    exact c_putN (ja_27 o) w x (by omega)
  · rw [jset_bk (by decide), hc, nI_1]
    exact c_putN (ja_26 o) _ _ h6
theorem l_chordPipe {T : JTk} {L : JLn} {w : JW} {n : Nat} {er : JEr} {s : Nat} (h : jLI T L w n er s) {ch : JCh} (hch : jCH L w er ch) :
    jSI MX5_chordPipe 4 [jR 7 false] w (fun r w2 => (T.1 n = 30 ∧ r = 1 ∧ jLI T L w2 (n + 1) (jcEr T (jNp L) ch n er) s ∧ jCH L w2 (jcEr T (jNp L) ch n er) (jcTo T (jNp L) ch n (jcEr T (jNp L) ch n er)) ∧ jCF w w2) ∨ (¬ T.1 n = 30 ∧ r = 0 ∧ w2 = w)) := by
  refine jSI_of jp_X5_chordPipe rfl (Nat.le_of_ble_eq_true rfl) (fun C hm => ?_)
  refine bk_X5_chordPipe_0 hm (c_kind h.1) (by decide) (bk_X5_chordPipe_4 hm (fun e => ?_) (fun e => bk_X5_chordPipe_9 hm ⟨0, rfl, Or.inr ⟨e, rfl, rfl⟩⟩))
  have hlt := (h.1.lt (by rw [e]; decide) (by rw [e]; decide)).1
  obtain ⟨hN, hA, hNm, hm12⟩ := h.cN (Or.inr (Or.inl ⟨rfl, rfl, rfl⟩))
  have h12 : (jNp L).2 ≤ 12 := by omega
  refine bk_X5_chordPipe_11 hm (r := jnum T (jNp L) n) (w2 := w) (by rw [h.1.1.1, h.org10]; exact c_num h.1 hN hlt e) (by decide) ?_
  -- behind the tests
  have fin : ∀ (w1 : JW) (er1 : JEr), jcEr T (jNp L) ch n er = er1 → jLI T L w1 n er1 s → jCH L w1 er ch → jNF w w1 → jW C 0 0 (jQQ C 0 0 (fun v w' => ∃ r, v = jI r ∧ ((T.1 n = 30 ∧ r = 1 ∧ jLI T L w' (n + 1) (jcEr T (jNp L) ch n er) s ∧ jCH L w' (jcEr T (jNp L) ch n er) (jcTo T (jNp L) ch n (jcEr T (jNp L) ch n er)) ∧ jCF w w') ∨ (¬ T.1 n = 30 ∧ r = 0 ∧ w' = w)))) 93 [jR 7 false, jI (jnum T (jNp L) n)] [] w1 := by
    intro w1 er1 he h1 hc1 hf1
    rw [he]
    refine bk_X5_chordPipe_93 hm (fun q => bk_X5_chordPipe_108 hm ⟨1, rfl, Or.inl ⟨e, rfl, h1.nf jNF_set (h1.1.next hlt) (Nat.le_succ n), ?_, (hf1.trans jNF_set).CF⟩⟩) (fun q => ?_)
    · intro z
      exact absurd (h1.fault.mpr z) q
    · have z0 := h1.fault.mp q
      obtain ⟨y1, y2, y3, y4⟩ := jcEr_0 (he ▸ z0)
      obtain ⟨c1, c2, c3, c4⟩ := hc1 y1
      have ej : jnum T (jNp L) n = nI (jfi T (jNp L) n) := by rw [jnum_fi, if_pos y2]
      rw [ej]
      refine bk_X5_chordPipe_100 hm (c_addNote w1 (w1.2.2 7 4) h1.org11 c1 c2.1 y3 _) (by decide) (bk_X5_chordPipe_108 hm ⟨1, rfl, Or.inl ⟨e, rfl, ?_, ?_, ?_⟩⟩)
      · have hx : jLI T L (jset (jset w1 27 (w1.2.2 7 4) (6 * L.1.1 2 + ch.1) (nI (jfi T (jNp L) n))) 26 (w1.2.2 7 4) (L.1.1 2) (nI (ch.1 + 1))) n er1 s := by
          refine h1.same rfl (fun k hk => by rw [jset_k (by omega), jset_k (by omega)]) (by simp (disch := omega) only [jset_at, jset_bk, jset_bj, jsN_at, jsN_no, jsN_I, jsI_N, jsI_T, jsI_at, jsI_no1, jsI_no2, jsT_N, jsT_I]) (by simp (disch := omega) only [jset_at, jset_bk, jset_bj, jsN_at, jsN_no, jsN_I, jsI_N, jsI_T, jsI_at, jsI_no1, jsI_no2, jsT_N, jsT_I]) rfl rfl rfl rfl (jOrg_26 (jOrg_27 h1.2.2.1 h1.2.2.2.1 _ (by omega)) _ (Nat.le_refl _)) h1.2.2.2.1 (by simp (disch := omega) only [jset_at, jset_bk, jset_bj, jsN_at, jsN_no, jsN_I, jsI_N, jsI_T, jsI_at, jsI_no1, jsI_no2, jsT_N, jsT_I]; exact h1.2.2.2.2.1.1) h1.2.2.2.2.1.2 (fun j hj => ?_)
          obtain ⟨e2, q1, q2⟩ := h1.2.2.2.2.2 j hj
          exact ⟨e2, q1, by simp (disch := omega) only [jset_at, jset_bk, jset_bj, jsN_at, jsN_no, jsN_I, jsI_N, jsI_T, jsI_at, jsI_no1, jsI_no2, jsT_N, jsT_I]; exact q2⟩
        exact hx.nf jNF_set (hx.1.next hlt) (Nat.le_succ n)
      · intro _
        have ec : jcTo T (jNp L) ch n er1 = (ch.1 + 1, updn ch.2 ch.1 (jfi T (jNp L) n)) := if_pos z0
        rw [ec]
        refine ⟨c1, ⟨?_, fun p hp => ?_⟩, y3, fun p hp => ?_⟩
        · show (jset _ 7 false 5 _).1 26 (w1.2.2 7 4) _ = _
          simp (disch := omega) only [jset_at, jset_bk, jset_bj, jsN_at, jsN_no, jsN_I, jsI_N, jsI_T, jsI_at, jsI_no1, jsI_no2, jsT_N, jsT_I]
        · show (jset _ 7 false 5 _).1 27 (w1.2.2 7 4) _ = nI (updn ch.2 ch.1 (jfi T (jNp L) n) p)
          have hp2 : p < ch.1 + 1 := hp
          by_cases z : p = ch.1
          · subst z
            rw [updn_at]
            simp (disch := omega) only [jset_at, jset_bk, jset_bj, jsN_at, jsN_no, jsN_I, jsI_N, jsI_T, jsI_at, jsI_no1, jsI_no2, jsT_N, jsT_I]
          · rw [updn_no z]
            simp (disch := omega) only [jset_at, jset_bk, jset_bj, jsN_at, jsN_no, jsN_I, jsI_N, jsI_T, jsI_at, jsI_no1, jsI_no2, jsT_N, jsT_I]; exact c2.2 p (by omega)
        · show updn ch.2 ch.1 (jfi T (jNp L) n) p < _
          have hp2 : p < ch.1 + 1 := hp
          by_cases z : p = ch.1
          · subst z
            rw [updn_at]
            exact y2
          · rw [updn_no z]
            exact c4 p (by omega)
      · have hx : jCF w1 (jset (jset w1 27 (w1.2.2 7 4) (6 * L.1.1 2 + ch.1) (nI (jfi T (jNp L) n))) 26 (w1.2.2 7 4) (L.1.1 2) (nI (ch.1 + 1))) := by
          refine ⟨rfl, fun k b hk hb => ?_⟩
          funext i
          by_cases z : b = w1.2.2 7 4
          · rw [jset_bk (fun q => hb ⟨z, Or.inl q⟩), jset_bk (fun q => hb ⟨z, Or.inr q⟩)]
          · rw [jset_b (Or.inr (Or.inl z)), jset_b (Or.inr (Or.inl z))]
        exact hf1.CF.trans (hx.trans jNF_set.CF)
  by_cases z0 : er.1 = 0
  · obtain ⟨c1, c2, c3, c4⟩ := hch z0
    refine bk_X5_chordPipe_30 hm (fun q => ?_) (fun q => ?_)
    · have y2 : jfi T (jNp L) n < (jNp L).2 := (jnum_neg h12).2.1.mp q
      refine bk_X5_chordPipe_43 hm (r := nI ch.1) (w2 := w) (by rw [h.org11, ← c2.1]; exact c_sizeOf w _ c1) (by decide) (bk_X5_chordPipe_57 hm (fun q2 => ?_) (fun q2 => ?_))
      · have y3 : ch.1 < 6 := (nI_ltI (b := 6) (by omega) (by omega)).mp q2
        refine bk_X5_chordPipe_70 hm (c_hasNote w _ _ _) (by decide) ?_
        have eh : jany (fun i => decide (jat 36 (w.1 27 (w.2.2 7 4)) (w.1 20 (w.2.2 7 4) 11 * 6 + nI i) = jnum T (jNp L) n)) (jat 6 (w.1 26 (w.2.2 7 4)) (w.1 20 (w.2.2 7 4) 11)).toNatClampNeg = jhas ch (jfi T (jNp L) n) := by
          rw [h.org11, jat_nI c1 (by decide), c2.1, nI_clamp (by omega)]
          refine jany_cong (fun k hk => ?_)
          have e6 : nI (L.1.1 2) * 6 + nI k = nI (6 * L.1.1 2 + k) := by
            rw [show (6 : Int32) = nI 6 from rfl, show nI (L.1.1 2) * nI 6 = nI (L.1.1 2 * 6) from (Int32.ofNat_mul _ 6).symm, nI_add, Nat.mul_comm]
          rw [e6, jat_nI (by omega) (by decide), c2.2 k hk, jnum_fi, if_pos y2]
          have := c4 k hk
          have hb12 : L.1.1 1 ≤ 12 := h12
          have y22 : jfi T (jNp L) n < L.1.1 1 := y2
          by_cases w0 : ch.2 k = jfi T (jNp L) n
          · rw [w0]; simp
          · rw [decide_eq_false w0, decide_eq_false (fun z => w0 ((nI_eq (by omega) (by omega)).mp z))]
        rw [eh]
        by_cases y4 : jhas ch (jfi T (jNp L) n) = true
        · rw [if_pos y4]
          refine bk_X5_chordPipe_85 hm (fun z => absurd z (by decide)) (fun _ => bq_X5_chordPipe_88 hm (l_blame h (c := 5) (by decide)) (by decide) (fun w1 hp => ?_))
          exact fin w1 _ (by unfold jcEr; rw [if_neg (fun z => z y2), if_neg (fun z => z y3), if_pos y4]) hp.1 (hch.nf hp.2) hp.2
        · rw [if_neg y4]
          refine bk_X5_chordPipe_85 hm (fun _ => ?_) (fun z => absurd rfl z)
          exact fin w er (by unfold jcEr; rw [if_neg (fun z => z y2), if_neg (fun z => z y3), if_neg y4]) h hch (jNF.refl w)
      · have y3 : ¬ ch.1 < 6 := fun z => q2 ((nI_ltI (b := 6) (by omega) (by omega)).mpr z)
        refine bq_X5_chordPipe_62 hm (l_blame h (c := 4) (by decide)) (by decide) (fun w1 hp => bk_X5_chordPipe_67 hm ?_)
        exact fin w1 _ (by unfold jcEr; rw [if_neg (fun z => z y2), if_pos y3]) hp.1 (hch.nf hp.2) hp.2
    · have y2 : ¬ jfi T (jNp L) n < (jNp L).2 := fun z => q ((jnum_neg h12).2.1.mpr z)
      refine bq_X5_chordPipe_35 hm (l_blame h (c := 3) (by decide)) (by decide) (fun w1 hp => bk_X5_chordPipe_40 hm ?_)
      exact fin w1 _ (by unfold jcEr; rw [if_pos y2]) hp.1 (hch.nf hp.2) hp.2
  · have bl : ∀ (w1 : JW) (c : Nat), jLI T L w1 n (jbl er c n) s ∧ jNF w w1 → jW C 0 0 (jQQ C 0 0 (fun v w' => ∃ r, v = jI r ∧ ((T.1 n = 30 ∧ r = 1 ∧ jLI T L w' (n + 1) (jcEr T (jNp L) ch n er) s ∧ jCH L w' (jcEr T (jNp L) ch n er) (jcTo T (jNp L) ch n (jcEr T (jNp L) ch n er)) ∧ jCF w w') ∨ (¬ T.1 n = 30 ∧ r = 0 ∧ w' = w)))) 93 [jR 7 false, jI (jnum T (jNp L) n)] [] w1 := by
      intro w1 c hp
      rw [jbl_keep z0] at hp
      exact fin w1 er (jcEr_keep z0) hp.1 (fun z => absurd z z0) hp.2
    refine bk_X5_chordPipe_30 hm (fun q => ?_) (fun q => bq_X5_chordPipe_35 hm (l_blame h (c := 3) (by decide)) (by decide) (fun w1 hp => bk_X5_chordPipe_40 hm (bl w1 3 hp)))
    refine bk_X5_chordPipe_43 hm (d2 := 1) (r := jat 6 (w.1 26 (w.2.2 7 4)) (w.1 20 (w.2.2 7 4) 11)) (w2 := w) ?_ (by decide) (bk_X5_chordPipe_57 hm (fun q2 => ?_) (fun q2 => bq_X5_chordPipe_62 hm (l_blame h (c := 4) (by decide)) (by decide) (fun w1 hp => bk_X5_chordPipe_67 hm (bl w1 4 hp))))
    · refine jF_of jp_X3_sizeOf rfl (Nat.le_of_ble_eq_true rfl) (fun C hm => ?_)
      exact bk_X3_sizeOf_0 hm (c_at (ja_26 _) w _) (by decide) (bk_X3_sizeOf_8 hm ⟨rfl, rfl⟩)
    · refine bk_X5_chordPipe_70 hm (c_hasNote w _ _ _) (by decide) (bk_X5_chordPipe_85 hm (fun _ => ?_) (fun _ => bq_X5_chordPipe_88 hm (l_blame h (c := 5) (by decide)) (by decide) (fun w1 hp => bl w1 5 hp)))
      exact fin w er (jcEr_keep z0) h (fun z => absurd z z0) (jNF.refl w)
theorem l_chordLine {T : JTk} {L : JLn} {w : JW} {n : Nat} {er : JEr} {s : Nat} (h0 : jLI T L w n er s) : jSI MX5_chordLine 5 [jR 7 false] w (jLP T w (jlChord T L n er)) := by
  refine jSI_of jp_X5_chordLine rfl (Nat.le_of_ble_eq_true rfl) (fun C hm => ?_)
  have F0 := jLF.refl w
  refine bq_X5_chordLine_0 hm (l_take h0 13 (by decide) (by decide)) (by decide) (fun r w1 q => ?_)
  rcases q with ⟨er1, e0, rfl, h1, f1⟩ | ⟨e0, rfl, rfl⟩
  rotate_left
  · refine bk_X5_chordLine_6 hm (fun _ => bk_X5_chordLine_36 hm ⟨0, rfl, ?_⟩) (fun z => absurd rfl z)
    simp only [jlChord, jpSq, e0]
    exact ⟨rfl, h0.1.1.1, F0⟩
  refine bk_X5_chordLine_6 hm (fun z => absurd z (by decide)) (fun _ => ?_)
  have F1 := F0.trans f1.LF
  refine bq_X5_chordLine_9 hm (l_new h1 (Or.inr (Or.inr ⟨rfl, rfl, rfl⟩)) h1.org11) (by decide) (fun r w2 q => ?_)
  rcases q with ⟨er2, e1, rfl, h2, f2, nm⟩ | ⟨e1, rfl, rfl⟩
  rotate_left
  · refine bk_X5_chordLine_24 hm (fun _ => bk_X5_chordLine_36 hm ⟨0, rfl, ?_⟩) (fun z => absurd rfl z)
    simp only [jlChord, jpSq, e0, e1]
    exact ⟨rfl, h1.1.1.1, F1⟩
  refine bk_X5_chordLine_24 hm (fun z => absurd z (by decide)) (fun _ => ?_)
  have F2 := F1.trans f2
  refine bq_X5_chordLine_27 hm (l_take h2 14 (by decide) (by decide)) (by decide) (fun r w3 q => ?_)
  rcases q with ⟨er3, e2, rfl, h3, f3⟩ | ⟨e2, rfl, rfl⟩
  rotate_left
  · refine bk_X5_chordLine_33 hm (fun z => absurd rfl z) (fun _ => bk_X5_chordLine_36 hm ⟨0, rfl, ?_⟩)
    simp only [jlChord, jpSq, e0, e1, e2]
    exact ⟨rfl, h2.1.1.1, F2⟩
  refine bk_X5_chordLine_33 hm (fun _ => ?_) (fun z => absurd z (by decide))
  have F3 := F2.trans f3.LF
  have o1 := jpF_ok e1
  have hl := h3.lt
  have e32 : er3 = er2 := jpK_er e2
  subst e32
  have main : ∀ w4, jLI T L w4 (n + 1 + 1 + 1) er3 s → jCH L w4 er3 (0, fun _ => 0) → jLF w w4 → (er3.1 = 0 → w4.1 10 false (L.1.1 2) = nI (n + 1)) → jW C 0 0 (jQQ C 0 0 (fun v w' => ∃ r, v = jI r ∧ jLP T w (jlChord T L n er) r w')) 52 [jR 7 false, jU] [] w4 := by
    intro w4 h4 c4 F4 nm4
    simp only [jlChord, jpSq, e0, e1, e2]
    refine bq_X5_chordLine_52 hm (l_chordPipe h4 c4) (by decide) (fun r w5 q => ?_)
    rcases q with ⟨k5, rfl, h5, c5, f5⟩ | ⟨k5, rfl, rfl⟩
    rotate_left
    · refine bk_X5_chordLine_56 hm (fun _ => bk_X5_chordLine_66 hm ⟨0, rfl, ?_⟩) (fun z => absurd rfl z)
      rw [if_pos k5]
      exact ⟨rfl, h4.1.1.1, F4⟩
    refine bk_X5_chordLine_56 hm (fun z => absurd z (by decide)) (fun _ => ?_)
    refine bq_X5_chordLine_59 hm (l_chordPipe h5 c5) (by decide) (fun r w6 q => ?_)
    rcases q with ⟨k6, rfl, h6, c6, f6⟩ | ⟨k6, rfl, rfl⟩
    rotate_left
    · refine bk_X5_chordLine_63 hm (fun z => absurd rfl z) (fun _ => bk_X5_chordLine_66 hm ⟨0, rfl, ?_⟩)
      rw [if_neg (fun z => z k5), if_pos k6]
      exact ⟨rfl, h5.1.1.1, F4.trans f5.LF⟩
    refine bk_X5_chordLine_63 hm (fun _ => bk_X5_chordLine_68 hm ?_) (fun z => absurd z (by decide))
    rw [if_neg (fun z => z k5), if_neg (fun z => z k6)]
    rw [show jcMore T (jNp L) 402 (n + 1 + 1 + 1) er3 (0, fun _ => 0) = jcMore T (jNp L) 400 (n + 1 + 1 + 1 + 1 + 1) (jcEr T (jNp L) (jcTo T (jNp L) (0, fun _ => 0) (n + 1 + 1 + 1) (jcEr T (jNp L) (0, fun _ => 0) (n + 1 + 1 + 1) er3)) (n + 1 + 1 + 1 + 1) (jcEr T (jNp L) (0, fun _ => 0) (n + 1 + 1 + 1) er3)) (jcTo T (jNp L) (jcTo T (jNp L) (0, fun _ => 0) (n + 1 + 1 + 1) (jcEr T (jNp L) (0, fun _ => 0) (n + 1 + 1 + 1) er3)) (n + 1 + 1 + 1 + 1) (jcEr T (jNp L) (jcTo T (jNp L) (0, fun _ => 0) (n + 1 + 1 + 1) (jcEr T (jNp L) (0, fun _ => 0) (n + 1 + 1 + 1) er3)) (n + 1 + 1 + 1 + 1) (jcEr T (jNp L) (0, fun _ => 0) (n + 1 + 1 + 1) er3))) by
      rw [jcMore, if_pos k5, jcMore, if_pos k6]]
    have key : ∀ (k c : Nat), c + k = 400 → ∀ (w7 : JW) (n7 : Nat) (er7 : JEr) (c7 : JCh), jLI T L w7 n7 er7 s → jCH L w7 er7 c7 → jCF w4 w7 → (er7.1 = 0 → er3.1 = 0 ∧ 1 ≤ c7.1) → jW C 0 0 (jQQ C 0 0 (fun v w' => ∃ r, v = jI r ∧ jLP T w (.inr ((jcMore T (jNp L) k n7 er7 c7).1, (jcMore T (jNp L) k n7 er7 c7).2.1, if (jcMore T (jNp L) k n7 er7 c7).2.1.1 = 0 then jaChord L (n + 1) (jcMore T (jNp L) k n7 er7 c7).2.2.1 (jcMore T (jNp L) k n7 er7 c7).2.2.2 else L)) r w')) 70 [jR 7 false, jI (nI c)] [] w7 := by
      have out : ∀ (w7 : JW) (n7 : Nat) (er7 : JEr) (c7 : JCh), jLI T L w7 n7 er7 s → jCH L w7 er7 c7 → jCF w4 w7 → (er7.1 = 0 → er3.1 = 0 ∧ 1 ≤ c7.1) → jW C 0 0 (jQQ C 0 0 (fun v w' => ∃ r, v = jI r ∧ jLP T w (.inr (n7, er7, if er7.1 = 0 then jaChord L (n + 1) c7.1 c7.2 else L)) r w')) 97 [jR 7 false, jU] [] w7 := by
        intro w7 n7 er7 c7 h7 ch7 f7 p7
        refine bk_X5_chordLine_97 hm (fun z => bk_X5_chordLine_111 hm ⟨1, rfl, ?_⟩) (fun z => ?_)
        · rw [if_neg (fun q => z (h7.fault.mpr q))]
          exact ⟨rfl, F4.trans f7.LF, s, h7⟩
        · have z7 := h7.fault.mp z
          obtain ⟨g1, g2, g3, g4⟩ := ch7 z7
          obtain ⟨p1, p2⟩ := p7 z7
          refine bk_X5_chordLine_104 hm (c_endChord w7 _ h7.org11) (by decide) (bk_X5_chordLine_111 hm ⟨1, rfl, ?_⟩)
          rw [if_pos z7]
          refine ⟨rfl, (F4.trans f7.LF).trans (jLF_set (by decide)), s, h7.chord g1 (t := n + 1) ?_ (by omega) o1.1 ⟨p2, g3⟩ g4 g2⟩
          rw [f7.2 10 _ (by decide) (by simp)]
          exact nm4 p1
      intro k
      induction k with
      | zero =>
        intro c hc w7 n7 er7 c7 h7 ch7 f7 p7
        exact bk_X5_chordLine_70 hm (fun _ => out w7 n7 er7 c7 h7 ch7 f7 p7) (fun z => absurd ((nI_leI (a := 400) (by omega) (by omega)).mpr (by omega)) z)
      | succ k ih =>
        intro c hc w7 n7 er7 c7 h7 ch7 f7 p7
        refine bk_X5_chordLine_70 hm (fun z => absurd ((nI_leI (a := 400) (by omega) (by omega)).mp z) (by omega)) (fun _ => ?_)
        refine bq_X5_chordLine_77 hm (jSI_F (c_kind h7.1)) (by decide) (fun r5 w5 hh => ?_)
        obtain ⟨rfl, rfl⟩ := hh
        refine bk_X5_chordLine_81 hm (fun z => ?_) (fun z => ?_)
        · rw [jcMore, if_neg z]
          exact out _ n7 er7 c7 h7 ch7 f7 p7
        · rw [jcMore, if_pos z]
          refine bq_X5_chordLine_86 hm (l_chordPipe h7 ch7) (by decide) (fun r w8 q => ?_)
          rcases q with ⟨k8, rfl, h8, c8, f8⟩ | ⟨k8, -, -⟩
          · refine bk_X5_chordLine_90 hm ?_
            rw [nI_1]
            refine ih (c + 1) (by omega) w8 _ _ _ h8 c8 (f7.trans f8) (fun z8 => ?_)
            have y := jcEr_0 z8
            refine ⟨(p7 y.1).1, ?_⟩
            unfold jcTo
            rw [if_pos z8]
            exact Nat.succ_le_succ (Nat.zero_le _)
          · exact absurd z k8
    refine key 400 0 rfl w6 _ _ _ h6 c6 (f5.trans f6) (fun z6 => ?_)
    have y6 := jcEr_0 z6
    have y5 := jcEr_0 y6.1
    exact ⟨y5.1, jcTo_1 z6⟩
  have nm3 : er3.1 = 0 → w3.1 10 false (L.1.1 2) = nI (n + 1) := fun z => by rw [f3.2 10 _ (by decide)]; exact nm z
  refine bk_X5_chordLine_38 hm (fun z => ?_) (fun z => ?_)
  · exact main w3 h3 (fun q => absurd (h3.fault.mpr q) z) F3 nm3
  · have z3 := h3.fault.mp z
    have l6 := (o1.2.2 z3).2.2
    refine bk_X5_chordLine_45 hm (c_beginChord w3 _ h3.org11 l6) (by decide) (main _ ?_ ?_ (F3.trans (jLF_set (by decide))) (fun q => by rw [jset_bk (by decide)]; exact nm3 q))
    · refine h3.same rfl (fun k hk => by rw [jset_k (by omega)]) (by simp (disch := omega) only [jset_at, jset_bk, jset_bj, jsN_at, jsN_no, jsN_I, jsI_N, jsI_T, jsI_at, jsI_no1, jsI_no2, jsT_N, jsT_I]) (by simp (disch := omega) only [jset_at, jset_bk, jset_bj, jsN_at, jsN_no, jsN_I, jsI_N, jsI_T, jsI_at, jsI_no1, jsI_no2, jsT_N, jsT_I]) rfl rfl rfl rfl (jOrg_26 h3.2.2.1 _ (Nat.le_refl _)) h3.2.2.2.1 (by simp (disch := omega) only [jset_at, jset_bk, jset_bj, jsN_at, jsN_no, jsN_I, jsI_N, jsI_T, jsI_at, jsI_no1, jsI_no2, jsT_N, jsT_I]; exact h3.2.2.2.2.1.1) h3.2.2.2.2.1.2 (fun j hj => ?_)
      obtain ⟨e2, q1, q2⟩ := h3.2.2.2.2.2 j hj
      exact ⟨e2, q1, by simp (disch := omega) only [jset_at, jset_bk, jset_bj, jsN_at, jsN_no, jsN_I, jsI_N, jsI_T, jsI_at, jsI_no1, jsI_no2, jsT_N, jsT_I]; exact q2⟩
    · intro _
      exact ⟨l6, ⟨jset_at, fun p hp => absurd hp (Nat.not_lt_zero p)⟩, Nat.zero_le _, fun p hp => absurd hp (Nat.not_lt_zero p)⟩
