/-! the reference reads chords -/
/-- an error told, whatever stood there -/
theorem m_tell2 {T : JTk} {Rc Rp : JNm} {fc fp : Nat → Int32} {w : JW} {n x : Nat} {er : JEr} {m : Nat} (h : jMI T Rc Rp fc fp w n x er m) {c t : Nat} (hc : c ≤ 5 ∧ ¬ c = 0) (ht : t < n) :
    jSV MX11_tell 0 [jR 41 false, jI (nI c), jI (nI t)] w (fun w2 => jMI T Rc Rp fc fp w2 n x (if er.1 = 0 ∨ (er.2 = t ∧ c < er.1) then (c, t) else er) m ∧ jMF w w2) := by
  refine jSV_of jp_X11_tell rfl (Nat.le_of_ble_eq_true rfl) (fun C hm => ?_)
  have h5 := h.2.1.2.1
  have hl := h.le
  have set : (er.1 = 0 ∨ (er.2 = t ∧ c < er.1)) → jMI T Rc Rp (if er.1 = 0 then fc else jnum T Rc) (if er.1 = 0 then fp else jnum T Rp) (jset (jset w 41 false 16 (nI c)) 41 false 17 (nI t)) n x (c, t) m := fun q => by
    have h2 : jMI T Rc Rp (if er.1 = 0 then fc else jnum T Rc) (if er.1 = 0 then fp else jnum T Rp) w n x er m := by
      by_cases z : er.1 = 0
      · rw [if_pos z, if_pos z]; exact h
      · rw [if_neg z, if_neg z]
        obtain ⟨a1, a2, a3, a4, a5, a6, a7⟩ := h
        exact ⟨a1, a2, a3, a4, a5, a6, fun y => absurd y z⟩
    refine h2.of ((jMF_set (by decide)).trans (jMF_set (by decide))).YF ?_ h.1.1.2 ?_ ?_ ?_ hc.1 (fun _ => ⟨?_, ht⟩) ?_ h.2.2.2.1.2 (fun z => absurd z hc.2)
    · rw [jset_bj (by decide), jset_bj (by decide)]; exact h.1.1.1
    · rw [jset_bj (by decide), jset_bj (by decide)]; exact h.1.2.1
    · rw [jset_bj (by decide), jset_bj (by decide)]; exact h.1.2.2
    · rw [jset_bj (by decide), jset_at]
    · rw [jset_at]
    · rw [jset_bk (by decide), jset_bk (by decide)]; exact h.2.2.2.1.1
  have set2 : (er.1 = 0 ∨ (er.2 = t ∧ c < er.1)) → jMI T Rc Rp fc fp (jset (jset w 41 false 16 (nI c)) 41 false 17 (nI t)) n x (if er.1 = 0 ∨ (er.2 = t ∧ c < er.1) then (c, t) else er) m ∧ jMF w (jset (jset w 41 false 16 (nI c)) 41 false 17 (nI t)) := fun q => by
    rw [if_pos q]
    obtain ⟨a1, a2, a3, a4, a5, a6, a7⟩ := set q
    exact ⟨⟨a1, a2, a3, a4, a5, a6, fun y => absurd y hc.2⟩, (jMF_set (by decide)).trans (jMF_set (by decide))⟩
  refine bk_X11_tell_0 hm (fun q => bk_X11_tell_24 hm ⟨rfl, set2 (Or.inl ?_)⟩) (fun q => ?_)
  · exact (nI_eq (b := 0) (by omega) (by omega)).mp (h.2.1.1.symm.trans q)
  · have z : ¬ er.1 = 0 := fun z => q (by rw [h.2.1.1, z]; rfl)
    obtain ⟨a, b⟩ := h.2.1.2.2 z
    refine bk_X11_tell_7 hm (fun q2 => bk_X11_tell_23 hm ⟨rfl, ?_⟩) (fun q2 => bk_X11_tell_15 hm (fun q3 => bk_X11_tell_24 hm ⟨rfl, set2 (Or.inr ⟨?_, ?_⟩)⟩) (fun q3 => bk_X11_tell_23 hm ⟨rfl, ?_⟩))
    · rw [if_neg]
      · exact ⟨h, jMF.refl w⟩
      · rintro (y | ⟨y, -⟩)
        · exact z y
        · exact q2 (by rw [a, y])
    · rw [a] at q2
      exact (nI_eq (by omega) (by omega)).mp q2
    · rw [h.2.1.1] at q3
      exact (nI_ltI (by omega) (by omega)).mp q3
    · rw [if_neg]
      · exact ⟨h, jMF.refl w⟩
      · rintro (y | ⟨-, y⟩)
        · exact z y
        · exact q3 (by rw [h.2.1.1]; exact (nI_ltI (by omega) (by omega)).mpr y)
theorem nI_7m (k : Nat) : (7 : Int32) * nI k = nI (7 * k) := (Int32.ofNat_mul 7 k).symm
/-- a place behind the chords is written; a place of the spare row -/
theorem jBq_58 {w : JW} {b : Bool} {D : JD} {m : Nat} (h : jBq w b D m) (hm : m ≤ 401) (hW : jWF D) {i : Nat} (hi : 7 * D.1 2 ≤ i) (x : Int32) : jBq (jset w 58 b i x) b D m := by
  obtain ⟨⟨a0, a1, a2, a3, a4, a5⟩, q, c1, e, f, g, o⟩ := h
  refine ⟨⟨by simp (disch := omega) only [jset_at, jset_bk, jset_bj, jsN_at, jsN_no, jsN_I, jsI_N, jsI_T, jsI_at, jsI_no1, jsI_no2, jsT_N, jsT_I]; exact a0, by simp (disch := omega) only [jset_at, jset_bk, jset_bj, jsN_at, jsN_no, jsN_I, jsI_N, jsI_T, jsI_at, jsI_no1, jsI_no2, jsT_N, jsT_I]; exact a1, by simp (disch := omega) only [jset_at, jset_bk, jset_bj, jsN_at, jsN_no, jsN_I, jsI_N, jsI_T, jsI_at, jsI_no1, jsI_no2, jsT_N, jsT_I]; exact a2, by simp (disch := omega) only [jset_at, jset_bk, jset_bj, jsN_at, jsN_no, jsN_I, jsI_N, jsI_T, jsI_at, jsI_no1, jsI_no2, jsT_N, jsT_I]; exact a3, by simp (disch := omega) only [jset_at, jset_bk, jset_bj, jsN_at, jsN_no, jsN_I, jsI_N, jsI_T, jsI_at, jsI_no1, jsI_no2, jsT_N, jsT_I]; exact a4, by simp (disch := omega) only [jset_at, jset_bk, jset_bj, jsN_at, jsN_no, jsN_I, jsI_N, jsI_T, jsI_at, jsI_no1, jsI_no2, jsT_N, jsT_I]; exact a5⟩, fun j hj => by simp (disch := omega) only [jset_at, jset_bk, jset_bj, jsN_at, jsN_no, jsN_I, jsI_N, jsI_T, jsI_at, jsI_no1, jsI_no2, jsT_N, jsT_I]; exact q j hj, fun j hj => by simp (disch := omega) only [jset_at, jset_bk, jset_bj, jsN_at, jsN_no, jsN_I, jsI_N, jsI_T, jsI_at, jsI_no1, jsI_no2, jsT_N, jsT_I]; exact c1 j hj, fun c2 hc2 => ⟨by simp (disch := omega) only [jset_at, jset_bk, jset_bj, jsN_at, jsN_no, jsN_I, jsI_N, jsI_T, jsI_at, jsI_no1, jsI_no2, jsT_N, jsT_I]; exact (e c2 hc2).1, fun p hp => ?_⟩, fun j hj => by simp (disch := omega) only [jset_at, jset_bk, jset_bj, jsN_at, jsN_no, jsN_I, jsI_N, jsI_T, jsI_at, jsI_no1, jsI_no2, jsT_N, jsT_I]; exact f j hj, fun j hj => by simp (disch := omega) only [jset_at, jset_bk, jset_bj, jsN_at, jsN_no, jsN_I, jsI_N, jsI_T, jsI_at, jsI_no1, jsI_no2, jsT_N, jsT_I]; exact g j hj, ?_⟩
  · have := (hW.2.2.2.1 c2 hc2).2.1
    simp (disch := omega) only [jset_at, jset_bk, jset_bj, jsN_at, jsN_no, jsN_I, jsI_N, jsI_T, jsI_at, jsI_no1, jsI_no2, jsT_N, jsT_I]; exact (e c2 hc2).2 p hp
  · exact jBoP.kept (D := D) o hm (by rw [jset_k (by decide)]) (jrows (fun k hk => by rw [jset_k (by omega)])) (Nat.le_refl _) rfl (Nat.le_refl _) (Nat.le_refl _) (fun j hj => ⟨rfl, rfl, rfl⟩)
theorem jMJ.set58 {T : JTk} {L : JLn} {Rc Rp Rh : JNm} {w : JW} {n : Nat} {er : JEr} {m : Nat} (h : jMJ T L Rc Rp Rh w n er m) {i : Nat} (hi : er.1 = 0 → 7 * L.1.1 2 ≤ i) (x : Int32) : jMJ T L Rc Rp Rh (jset w 58 (w.2.2 41 9) i x) n er m := by
  obtain ⟨h1, ⟨g1, g2, g3, g4⟩, h3, h4⟩ := h
  have hl := h1.le
  have hc := h1.2.2.2.2.1
  have hp := h1.2.2.2.2.2.1
  have ek : ∀ k, k ≤ 49 → (jset w 58 (w.2.2 41 9) i x).1 k false = w.1 k false := fun k hk => jset_k (by omega)
  have c53 : ∀ j, (jset w 58 (w.2.2 41 9) i x).1 53 (w.2.2 41 9) j = w.1 53 (w.2.2 41 9) j := fun j => jset_bk (by decide)
  refine ⟨h1.names rfl (ek 41 (by decide)) (fun k k1 k2 => ek k (by omega)) (c53 12) ⟨hc.1, (c53 0).trans hc.2.1, hc.2.2.1.kept (ek 47 (by decide)), hc.2.2.2⟩ ⟨hp.1, (c53 1).trans hp.2.1, hp.2.2.1.kept (ek 48 (by decide)), hp.2.2.2⟩ h1.2.2.2.2.2.2, ⟨g1, (c53 4).trans g2, g3.kept (ek 49 (by decide)), g4⟩, ?_, fun z => ?_⟩
  · obtain ⟨a0, a1, a2, a3, a4, a5, q⟩ := h3
    refine ⟨a0, a1, a2, a3, a4, a5, ?_⟩
    simp (disch := omega) only [jset_at, jset_bk, jset_bj, jsN_at, jsN_no, jsN_I, jsI_N, jsI_T, jsI_at, jsI_no1, jsI_no2, jsT_N, jsT_I]
    exact q
  · obtain ⟨q1, q2, q3, q4, q5⟩ := h4 z
    exact ⟨q1, q2, q3, jBq_58 q4 (by omega) q5 (hi z) x, q5⟩
theorem jMJ.set50 {T : JTk} {L : JLn} {Rc Rp Rh : JNm} {w : JW} {n : Nat} {er : JEr} {m : Nat} (h : jMJ T L Rc Rp Rh w n er m) (i : Nat) (x : Int32) : jMJ T L Rc Rp Rh (jset w 50 false i x) n er m := by
  obtain ⟨h1, ⟨g1, g2, g3, g4⟩, h3, h4⟩ := h
  have hl := h1.le
  have hc := h1.2.2.2.2.1
  have hp := h1.2.2.2.2.2.1
  have ek : ∀ k b, k ≠ 50 → (jset w 50 false i x).1 k b = w.1 k b := fun k b hk => jset_k hk
  have c53 : ∀ j, (jset w 50 false i x).1 53 (w.2.2 41 9) j = w.1 53 (w.2.2 41 9) j := fun j => jset_bk (by decide)
  refine ⟨h1.names rfl (ek 41 _ (by decide)) (fun k k1 k2 => ek k _ (by omega)) (c53 12) ⟨hc.1, (c53 0).trans hc.2.1, hc.2.2.1.kept (ek 47 _ (by decide)), hc.2.2.2⟩ ⟨hp.1, (c53 1).trans hp.2.1, hp.2.2.1.kept (ek 48 _ (by decide)), hp.2.2.2⟩ h1.2.2.2.2.2.2, ⟨g1, (c53 4).trans g2, g3.kept (ek 49 _ (by decide)), g4⟩, ?_, fun z => ?_⟩
  · obtain ⟨a0, a1, a2, a3, a4, a5, q⟩ := h3
    refine ⟨a0, a1, a2, a3, a4, a5, ?_⟩
    simp (disch := omega) only [jset_at, jset_bk, jset_bj, jsN_at, jsN_no, jsN_I, jsI_N, jsI_T, jsI_at, jsI_no1, jsI_no2, jsT_N, jsT_I]
    exact q
  · obtain ⟨q1, q2, q3, q4, q5⟩ := h4 z
    exact ⟨q1, q2, q3, q4.kept (by omega) (fun k k1 k2 => ek k _ (by omega)) (fun j _ => c53 j) (fun j _ => ⟨by rw [ek 60 _ (by decide)], by rw [ek 61 _ (by decide)], by rw [ek 62 _ (by decide)]⟩) (Nat.le_refl m), q5⟩
/-- a chord is being read: so many notes; kept, and where -/
def jKC (L : JLn) (Rh : JNm) (w : JW) (er : JEr) (ch : JCh) (μ : Nat) (kp : Int32) (row : Nat) : Prop := μ ≤ 6 ∧ ((kp = 1 ∧ Rh.2 < 6 ∧ row = 7 * Rh.2) ∨ (kp = 0 ∧ Rh.2 = 6 ∧ row = 35)) ∧ (er.1 = 0 → kp = 1 ∧ μ = ch.1 ∧ (∀ p, p < μ → w.1 58 (w.2.2 41 9) (7 * Rh.2 + (1 + p)) = nI (ch.2 p)) ∧ ∀ p, p < μ → ch.2 p < L.1.1 1)
theorem m_readNote0 {w : JW} (h : ¬ w.1 41 false 15 = -1) (a b c : Int32) : jF MX11_readNote 4 [jR 41 false, jI a, jI b, jI c] w (jI b) w := by
  refine jF_of jp_X11_readNote rfl (Nat.le_of_ble_eq_true rfl) (fun C hm => ?_)
  exact bk_X11_readNote_0 hm (m_knownPipe0 h) (by decide) (bk_X11_readNote_10 hm (m_no h) (by decide) (bk_X11_readNote_16 hm (fun z => absurd rfl z) (fun _ => bk_X11_readNote_19 hm ⟨rfl, rfl⟩)))
theorem r_readNote {T : JTk} {L : JLn} {Rc Rp Rh : JNm} {w : JW} {n : Nat} {er : JEr} {m : Nat} (h : jMJ T L Rc Rp Rh w n er m) {ch : JCh} {μ row : Nat} {kp : Int32} (hch : jKC L Rh w er ch μ kp row) :
    jSI MX11_readNote 4 [jR 41 false, jI (nI row), jI (nI μ), jI kp] w (fun r w2 => (T.1 n = 30 ∧ ∃ μ2, r = nI μ2 ∧ jMJ T L Rc Rp Rh w2 (n + 1) (jcEr T (jNp L) ch n er) m ∧ jKC L Rh w2 (jcEr T (jNp L) ch n er) (jcTo T (jNp L) ch n (jcEr T (jNp L) ch n er)) μ2 kp row ∧ jmLF w w2 ∧ w2.1 49 false = w.1 49 false) ∨ (¬ T.1 n = 30 ∧ r = nI μ ∧ jMX T w n w2 ∧ w2.1 53 (w2.2.2 41 9) 4 = w.1 53 (w.2.2 41 9) 4)) := by
  refine jSI_of jp_X11_readNote rfl (Nat.le_of_ble_eq_true rfl) (fun C hm => ?_)
  have hl := h.1.le
  rw [show jentry [jR 41 false, jI (nI row), jI (nI μ), jI kp] MX11_readNote.2.1 = [jR 41 false, jI (nI row), jI (nI μ), jI kp, jU, jU, jU, jU, jU] from rfl]
  refine bq_X11_readNote_0 hm (m_knownPipe h.1) (by decide) (fun r w1 q => ?_)
  rw [h.1.1.1.1]
  rcases q with ⟨a, h1, f1, hr⟩ | ⟨a, hF⟩
  rotate_left
  · exact bk_X11_readNote_10 hm (m_no hF.no) (by decide) (bk_X11_readNote_16 hm (fun z => absurd rfl z) (fun _ => bk_X11_readNote_19 hm ⟨_, rfl, Or.inr ⟨a, rfl, hF.X h.k, by rw [hF.o]; exact hF.2.1.2.2.2 4 (by decide)⟩⟩))
  refine bk_X11_readNote_10 hm (m_ok h1) (by decide) (bk_X11_readNote_16 hm (fun _ => ?_) (fun z => absurd z (by decide)))
  obtain ⟨hμ, hkp, h0⟩ := hch
  have hlt := h.1.lt (by rw [a]; decide) (by rw [a]; decide)
  have hN12 : (jNp L).2 ≤ 12 ∨ ¬ er.1 = 0 := by
    by_cases z : er.1 = 0
    · exact Or.inl (h.2.2.2 z).2.2.2.2.1.2.1
    · exact Or.inr z
  have hlt2 : ¬ er.1 = 0 → er.2 < n := fun z => (h.1.2.1.2.2 z).2
  -- the error behind i notes that were looked at
  have body : ∀ (k6 n6 fr : Nat) (b6 : Bool), jIA k6 b6 n6 → fr + 7 ≤ n6 → (er.1 = 0 → k6 = 58 ∧ b6 = w.2.2 41 9 ∧ fr = 7 * Rh.2) → ((k6 = 58 ∧ b6 = w.2.2 41 9) ∨ (k6 = 50 ∧ b6 = false)) → jW C 0 0 (jQQ C 0 0 (fun v w' => ∃ r, v = jI r ∧ ((T.1 n = 30 ∧ ∃ μ2, r = nI μ2 ∧ jMJ T L Rc Rp Rh w' (n + 1) (jcEr T (jNp L) ch n er) m ∧ jKC L Rh w' (jcEr T (jNp L) ch n er) (jcTo T (jNp L) ch n (jcEr T (jNp L) ch n er)) μ2 kp row ∧ jmLF w w' ∧ w'.1 49 false = w.1 49 false) ∨ (¬ T.1 n = 30 ∧ r = nI μ ∧ jMX T w n w' ∧ w'.1 53 (w'.2.2 41 9) 4 = w.1 53 (w.2.2 41 9) 4)))) 55 [jR 41 false, jU, jI (nI μ), jU, jI (nI n), jI r, jR k6 b6, jI (nI fr), jI 1] [] w1 := by
    intro k6 n6 fr b6 hA hfr hz hk6
    have hn6 := hA.2.1
    have k41 : k6 ≠ 41 := by rcases hk6 with q | q <;> omega
    -- what the error must be
    have key := jfor (P := fun i => i ≤ μ → ∀ (w2 : JW) (er2 : JEr), jMI T Rc Rp (jnum T (jNc L)) (jnum T (jNp L)) w2 (n + 1) 0 er2 m → jMF w w2 → (¬ er.1 = 0 → er2 = er) → (er.1 = 0 → er2 = if ¬ jfi T (jNp L) n < (jNp L).2 then (3, n) else if jany (fun p => decide (ch.2 p = jfi T (jNp L) n)) i = true then (5, n) else er) → jW C 0 0 (jQQ C 0 0 (fun v w' => ∃ r, v = jI r ∧ ((T.1 n = 30 ∧ ∃ μ2, r = nI μ2 ∧ jMJ T L Rc Rp Rh w' (n + 1) (jcEr T (jNp L) ch n er) m ∧ jKC L Rh w' (jcEr T (jNp L) ch n er) (jcTo T (jNp L) ch n (jcEr T (jNp L) ch n er)) μ2 kp row ∧ jmLF w w' ∧ w'.1 49 false = w.1 49 false) ∨ (¬ T.1 n = 30 ∧ r = nI μ ∧ jMX T w n w' ∧ w'.1 53 (w'.2.2 41 9) 4 = w.1 53 (w.2.2 41 9) 4)))) 55 [jR 41 false, jU, jI (nI μ), jU, jI (nI n), jI r, jR k6 b6, jI (nI fr), jI (nI (i + 1))] [] w2) μ ?_ ?_
    · refine key (Nat.zero_le _) w1 _ h1 f1 (fun z => ?_) (fun z => ?_)
      · rw [jbl_keep z]; split <;> rfl
      · have h12 := hN12.resolve_right (fun y => y z)
        by_cases y : jfi T (jNp L) n < (jNp L).2
        · rw [if_neg (show ¬ jnum T (jNp L) n < 0 from fun q => (jnum_neg h12).1.mp q y), if_neg (show ¬ ¬ jfi T (jNp L) n < (jNp L).2 from fun q => q y)]
          rfl
        · rw [if_pos (show jnum T (jNp L) n < 0 from (jnum_neg h12).1.mpr y), if_pos (show ¬ jfi T (jNp L) n < (jNp L).2 from y)]
          exact if_pos z
    · intro _ w2 er2 h2 f2 g1 g2
      have eb : w2.2.2 41 9 = w.2.2 41 9 := f2.o
      have ch0 : er.1 = 0 → jhas ch (jfi T (jNp L) n) = jany (fun p => decide (ch.2 p = jfi T (jNp L) n)) μ := fun z => by
        rw [(h0 z).2.1]; rfl
      refine bk_X11_readNote_55 hm (fun _ => bk_X11_readNote_93 hm (fun q => ?_) (fun q => ?_)) (fun q => absurd ((nI_ltI (by omega) (by omega)).mpr (Nat.lt_succ_self μ)) q)
      · -- room for one more
        have l6 : μ < 6 := by
          have : ¬ μ = 6 := fun z => q (by rw [z]; rfl)
          omega
        have e2 : er2 = jcEr T (jNp L) ch n er := by
          by_cases z : er.1 = 0
          · rw [g2 z]
            unfold jcEr
            rw [← (h0 z).2.1, ch0 z, show jbl er 3 n = (3, n) from if_pos z, show jbl er 4 n = (4, n) from if_pos z, show jbl er 5 n = (5, n) from if_pos z, if_neg (fun (y : ¬ μ < 6) => y l6)]
          · rw [g1 z, jcEr_keep z]
        have ei : nI fr + nI μ + 1 = nI (fr + (1 + μ)) := by rw [nI_add, nI_1, show fr + μ + 1 = fr + (1 + μ) by omega]
        have hv : vp_in (nI fr + nI μ + 1) n6 := by rw [ei]; exact vp_in_nI (by omega) hn6
        refine bk_X11_readNote_108 hm hA hv ⟨_, rfl, Or.inl ⟨a, μ + 1, by rw [nI_1], ?_, ?_, ?_, ?_⟩⟩
        · rw [ei, nI_clamp (by omega), ← e2]
          have h3 := h.mf f2 h2 (fun z => by
            by_cases y : er.1 = 0
            · exact y
            · rw [g1 y] at z
              exact z)
          rcases hk6 with ⟨rfl, rfl⟩ | ⟨rfl, rfl⟩
          · rw [← eb]
            refine h3.set58 (fun z => ?_) _
            have y : er.1 = 0 := by
              by_cases y : er.1 = 0
              · exact y
              · rw [g1 y] at z
                exact z
            have e3 := (h.2.2.2 y).2.2.1
            have e4 := (hz y).2.2
            have : L.1.1 2 = Rh.2 := by rw [e3]
            omega
          · exact h3.set50 _ _
        · rw [← e2, ei, nI_clamp (by omega)]
          refine ⟨l6, hkp, fun z => ?_⟩
          have y : er.1 = 0 := by
            by_cases y : er.1 = 0
            · exact y
            · rw [g1 y] at z
              exact z
          obtain ⟨c1, c2, c3, c4⟩ := h0 y
          obtain ⟨y1, y2, y3, y4⟩ := jcEr_0 (T := T) (N := jNp L) (c := ch) (n := n) (er := er) (e2 ▸ z)
          obtain ⟨rfl, rfl, rfl⟩ := hz y
          have er1 : r = nI (jfi T (jNp L) n) := by rw [hr y, jnum_fi, if_pos y2]
          have ec : jcTo T (jNp L) ch n er2 = (ch.1 + 1, updn ch.2 ch.1 (jfi T (jNp L) n)) := if_pos z
          rw [ec]
          refine ⟨c1, by rw [c2], fun p hp => ?_, fun p hp => ?_⟩
          · show (jset w2 58 (w.2.2 41 9) _ _).1 58 (w2.2.2 41 9) _ = nI (updn ch.2 ch.1 (jfi T (jNp L) n) p)
            rw [eb]
            by_cases zp : p = ch.1
            · subst zp
              rw [updn_at, c2, jset_at, er1]
            · rw [updn_no zp, jset_bj (by omega), f2.2.1 58 _ (by decide)]
              exact c3 p (by omega)
          · show updn ch.2 ch.1 (jfi T (jNp L) n) p < _
            by_cases zp : p = ch.1
            · subst zp
              rw [updn_at]
              exact y2
            · rw [updn_no zp]
              exact c4 p (by omega)
        · refine f2.LF.trans (jmLF_set ?_)
          rcases hk6 with ⟨rfl, rfl⟩ | ⟨rfl, rfl⟩
          · exact Or.inr ⟨eb.symm, by decide, by decide⟩
          · exact Or.inl (by decide)
        · rw [jset_k (by rcases hk6 with q | q <;> omega)]
          exact f2.2.1 49 _ (by decide)
      · have e6 : μ = 6 := (nI_eq (b := 6) (by omega) (by omega)).mp q
        refine bq_X11_readNote_99 hm (m_tell2 h2 (c := 4) (t := n) (by decide) (Nat.lt_succ_self n)) (by decide) (fun w3 hq => bk_X11_readNote_106 hm ⟨_, rfl, Or.inl ⟨a, μ, rfl, ?_, ?_, (f2.trans hq.2).LF, (f2.trans hq.2).2.1 49 _ (by decide)⟩⟩)
        · have e2 : (if er2.1 = 0 ∨ (er2.2 = n ∧ 4 < er2.1) then (4, n) else er2) = jcEr T (jNp L) ch n er := by
            by_cases z : er.1 = 0
            · have g := g2 z
              unfold jcEr
              rw [← (h0 z).2.1, show jbl er 3 n = (3, n) from if_pos z, show jbl er 4 n = (4, n) from if_pos z, if_pos (show ¬ μ < 6 by omega)]
              by_cases y : jfi T (jNp L) n < (jNp L).2
              · rw [if_neg (show ¬ ¬ jfi T (jNp L) n < (jNp L).2 from fun q => q y)] at g ⊢
                by_cases y2 : jany (fun p => decide (ch.2 p = jfi T (jNp L) n)) μ = true
                · rw [if_pos y2] at g
                  rw [g]
                  exact if_pos (Or.inr ⟨rfl, by show 4 < 5; omega⟩)
                · rw [if_neg y2] at g
                  rw [g]
                  exact if_pos (Or.inl z)
              · rw [if_pos (show ¬ jfi T (jNp L) n < (jNp L).2 from y)] at g ⊢
                rw [g]
                refine if_neg ?_
                rintro (y2 | ⟨-, y2⟩)
                · exact absurd (show 3 = 0 from y2) (by decide)
                · exact absurd (show 4 < 3 from y2) (by decide)
            · rw [g1 z, jcEr_keep z, if_neg]
              rintro (y2 | ⟨y2, -⟩)
              · exact z y2
              · have := hlt2 z
                omega
          have h3 := hq.1
          rw [e2] at h3
          exact h.mf (f2.trans hq.2) h3 (fun z => (jcEr_0 z).1)
        · refine ⟨by omega, hkp, fun z => ?_⟩
          have y := jcEr_0 z
          have := (h0 y.1).2.1
          omega
    · intro i hi ih _ w2 er2 h2 f2 g1 g2
      have eb : w2.2.2 41 9 = w.2.2 41 9 := f2.o
      refine bk_X11_readNote_55 hm (fun q => absurd ((nI_ltI (by omega) (by omega)).mp q) (by omega)) (fun _ => ?_)
      have go : ∀ (w3 : JW) (er3 : JEr), jMI T Rc Rp (jnum T (jNc L)) (jnum T (jNp L)) w3 (n + 1) 0 er3 m → jMF w w3 → (¬ er.1 = 0 → er3 = er) → (er.1 = 0 → er3 = if ¬ jfi T (jNp L) n < (jNp L).2 then (3, n) else if jany (fun p => decide (ch.2 p = jfi T (jNp L) n)) (i + 1) = true then (5, n) else er) → _ := fun w3 er3 k1 k2 k3 k4 => ih (by omega) w3 er3 k1 k2 k3 k4
      have rd : er.1 = 0 → w2.1 k6 b6 (fr + (i + 1)) = nI (ch.2 i) := fun z => by
        obtain ⟨rfl, rfl, rfl⟩ := hz z
        rw [f2.2.1 58 _ (by decide), show 7 * Rh.2 + (i + 1) = 7 * Rh.2 + (1 + i) by omega]
        exact (h0 z).2.2.1 i hi
      refine bk_X11_readNote_61 hm (fun q => bk_X11_readNote_87 hm ?_) (fun q => bk_X11_readNote_67 hm hA (by rw [nI_add]; exact vp_in_nI (by omega) hn6) (fun q2 => bk_X11_readNote_87 hm ?_) (fun q2 => ?_))
      · rw [nI_1]
        refine go w2 er2 h2 f2 g1 (fun z => ?_)
        have h12 := hN12.resolve_right (fun y => y z)
        rw [hr z] at q
        have y : ¬ jfi T (jNp L) n < (jNp L).2 := (jnum_neg h12).2.2.mp q
        rw [g2 z, if_pos (show ¬ jfi T (jNp L) n < (jNp L).2 from y), if_pos (show ¬ jfi T (jNp L) n < (jNp L).2 from y)]
      · rw [nI_1]
        refine go w2 er2 h2 f2 g1 (fun z => ?_)
        have h12 := hN12.resolve_right (fun y => y z)
        have y : jfi T (jNp L) n < (jNp L).2 := Classical.not_not.mp (fun y => q (by rw [hr z]; exact (jnum_neg h12).2.2.mpr y))
        rw [nI_add, nI_clamp (by omega), rd z, hr z, jnum_fi, if_pos y] at q2
        have ne : ¬ ch.2 i = jfi T (jNp L) n := fun e => q2 (by rw [e])
        rw [g2 z, if_neg (show ¬ ¬ jfi T (jNp L) n < (jNp L).2 from fun q => q y), if_neg (show ¬ ¬ jfi T (jNp L) n < (jNp L).2 from fun q => q y), jany, decide_eq_false ne, Bool.or_false]
      · refine bq_X11_readNote_80 hm (m_tell2 h2 (c := 5) (t := n) (by decide) (Nat.lt_succ_self n)) (by decide) (fun w3 hq => bk_X11_readNote_87 hm ?_)
        rw [nI_1]
        refine go w3 _ hq.1 (f2.trans hq.2) (fun z => ?_) (fun z => ?_)
        · have := hlt2 z
          rw [g1 z, if_neg]
          rintro (y2 | ⟨y2, -⟩)
          · exact z y2
          · omega
        · have h12 := hN12.resolve_right (fun y => y z)
          have y : jfi T (jNp L) n < (jNp L).2 := Classical.not_not.mp (fun y => q (by rw [hr z]; exact (jnum_neg h12).2.2.mpr y))
          rw [nI_add, nI_clamp (by omega), rd z, hr z, jnum_fi, if_pos y] at q2
          have c4 := (h0 z).2.2.2 i hi
          have hn12 : L.1.1 1 ≤ 12 := h12
          have y22 : jfi T (jNp L) n < L.1.1 1 := y
          have eq : ch.2 i = jfi T (jNp L) n := (nI_eq (by omega) (by omega)).mp q2
          have g := g2 z
          rw [if_neg (show ¬ ¬ jfi T (jNp L) n < (jNp L).2 from fun q => q y)] at g ⊢
          rw [show jany (fun p => decide (ch.2 p = jfi T (jNp L) n)) (i + 1) = true from jany_of (Nat.lt_succ_self i) (decide_eq_true eq), if_pos (show true = true from rfl)]
          by_cases y2 : jany (fun p => decide (ch.2 p = jfi T (jNp L) n)) i = true
          · rw [if_pos y2] at g
            rw [g]
            refine if_neg ?_
            rintro (y3 | ⟨-, y3⟩)
            · exact absurd (show 5 = 0 from y3) (by decide)
            · exact absurd (show 5 < 5 from y3) (by decide)
          · rw [if_neg y2] at g
            rw [g]
            exact if_pos (Or.inl z)
  rcases hkp with ⟨rfl, k6, erow⟩ | ⟨rfl, k6, erow⟩
  · refine bk_X11_readNote_21 hm (fun z => absurd z (by decide)) (fun _ => bk_X11_readNote_25 hm (bk_X11_readNote_39 hm (fun z => absurd z (by decide)) (fun _ => bk_X11_readNote_45 hm (bk_X11_readNote_50 hm ?_))))
    rw [show w1.2.2 41 9 = w.2.2 41 9 from f1.o]
    exact body 58 42 row _ (ja_58 _) (by omega) (fun z => ⟨rfl, rfl, erow⟩) (Or.inl ⟨rfl, rfl⟩)
  · refine bk_X11_readNote_21 hm (fun _ => bk_X11_readNote_35 hm (bk_X11_readNote_39 hm (fun _ => bk_X11_readNote_49 hm (bk_X11_readNote_50 hm ?_)) (fun z => absurd rfl z))) (fun z => absurd rfl z)
    exact body 50 7 0 false ja_50 (by omega) (fun z => absurd (h0 z).1 (by decide)) (Or.inr ⟨rfl, rfl⟩)
