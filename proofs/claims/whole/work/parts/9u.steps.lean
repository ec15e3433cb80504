/-! the operations that change something -/
theorem jT0_T1 {w : JW} {a b : Int32} : jset (jT0 w a) 41 false 0 b = jT0 w b := by
  unfold jT0
  refine jw_ext (fun k c j => ?_) rfl
  rw [jset_I, jset_I, jset_I]
  by_cases h : k = 41 ∧ c = false ∧ j = 0
  · rw [if_pos h, if_pos h]
  · rw [if_neg h, if_neg h, if_neg h]
theorem jT0_0 {w : JW} {t : Int32} : (jT0 w t).1 41 false 0 = t := by
  unfold jT0
  rw [jset_I, if_pos ⟨rfl, rfl, rfl⟩]
theorem jT0_k {w : JW} {t : Int32} {k : Nat} {b : Bool} (h : k ≠ 41) : (jT0 w t).1 k b = w.1 k b := jset_k h
theorem jsL_k {w : JW} {k j m q : Nat} {b : Bool} {x : Int32} {y : Int64} {k2 : Nat} {b2 : Bool} (h : k2 ≠ k) : (jsetL (jset w k b j x) m q y).1 k2 b2 = w.1 k2 b2 := jset_k h
theorem jsLg_k {w : JW} {t b : Bool} {R f : Nat → Int32} {x : Int32} {y : Int64} {k m q : Nat} (h : 19 < k ∨ k < 12) : (jsetL (jgm w t R f x) m q y).1 k b = w.1 k b := jgm_k h
theorem jMq_no {M : JM} {dm : Nat} {am : List JV} {w1 : JW} {k val r0 : Int32} (hk : k ≠ 0) (hm : jF M dm am w1 (jI r0) (jT0 w1 k)) : jMq M dm am w1 k val := by
  refine (jSI_F hm).mono (fun r w2 q => ?_)
  obtain ⟨rfl, rfl⟩ := q
  exact ⟨fun z => absurd z hk, jT0_0, rfl, jQu_T0⟩
theorem jInv.now {n : Nat} {D : JD} {w : JW} (hc : jCpl D w) (R f g : Nat → Int32) (x t : Int32) (y : Int64) (hg : ∀ i, i < 51 → g i = R i) (hL : jLow g (4320 * (n + 1))) (hP : ∀ p, p < 12 → 0 ≤ g (21 + p)) : jInv (n + 1) (jfn (jT0 (jsetL (jgm w false R f x) 63 0 y) t) 51 false g) :=
  ⟨D, hc.now R f g x t y hg, by rw [jfn_row]; exact hL, by rw [jfn_row]; exact hP⟩
theorem jop_setTide {n : Nat} {w : JW} (hI : jInv n w) (y : Int32) : jOp n ML_setTide [(0, 9, 12, 19)] [jR 0 false, jI y, jR 63 false] MX11_setTide [jR 41 false, jI y] w := by
  obtain ⟨D, hc, hL, hP⟩ := id hI
  obtain ⟨f, x, e⟩ := hc.gm
  have e2 : jset w 14 false 6 y = jgm w false (upd (w.1 51 false) 1 y) f x := (congrArg (fun z => jset z 14 false 6 y) e.symm).trans (jgm_set (jpos_14 (i := 1) (by omega)))
  refine ⟨7, 1, _, by decide, by decide, w_setTide y (x_setTide w y) (fun v w' q => ⟨_, q.2.1⟩) (fun E w' q => q.2.1), fun v w1 h => ?_⟩
  rcases h with ⟨r, w', ⟨q1, q2, rfl⟩, rfl, rfl⟩ | ⟨⟨q1, -, rfl⟩, rfl⟩
  · cases q2
    have h := c_msetTide (jsetL (jset w 14 false 6 y) 63 0 (w.1 14 false 6).toInt64) ja_51 y
    rw [if_pos (i32_rng.mpr q1), if_pos (i32_rng.mpr q1)] at h
    refine ⟨0, rfl, (jSI_F h).mono (fun r w2 z => ?_)⟩
    obtain ⟨rfl, rfl⟩ := z
    have e3 : (jsetL (jset w 14 false 6 y) 63 0 (w.1 14 false 6).toInt64).1 51 false = w.1 51 false := jsL_k (by omega)
    refine ⟨?_, fun _ => ?_, ?_⟩
    · rw [jset_k (by omega)]
      exact jT0_0
    · rw [e3]
      show (jsetL _ 63 0 _).2.1 63 0 = _
      rw [jsetL_L, if_pos ⟨rfl, rfl⟩, jhgt_01 hc]
    · rw [jset_fn, jT0_k (by omega), e3, e2]
      refine jInv.now hc _ f _ x 0 _ (fun i _ => rfl) ?_ (fun p hp => ?_)
      · obtain ⟨a, b, h1, h2, h3, h4⟩ := hL
        exact ⟨a, b, (pk_un (by omega)).trans h1, (pk_un (by omega)).trans h2, by omega, by omega⟩
      · rw [pk_un (by omega)]
        exact hP p hp
  · have h := c_msetTide w1 ja_51 y
    rw [if_neg (fun z => q1 (i32_rng.mp z)), if_neg (fun z => q1 (i32_rng.mp z))] at h
    exact ⟨1, rfl, jop_1 (val := 0) hI jQu.rf (fun z => absurd z (by decide)) (jMq_no (by decide) h)⟩
theorem jop_clean {n : Nat} {w : JW} (hI : jInv n w) (a : Int32) : jOp n ML_clean [(0, 9, 12, 24)] [jR 0 false, jI a, jR 63 false] MX11_clean [jR 41 false, jI a] w := by
  obtain ⟨D, hc, hL, hP⟩ := id hI
  have hWO := hc.1
  obtain ⟨hW, hO, hB⟩ := hWO
  have hn := hW.1.2.1
  obtain ⟨f, x, e⟩ := hc.gm
  refine ⟨7, 2, _, by decide, by decide, w_clean a (x_clean hO hW a) (fun v w' q => by obtain ⟨p, -, -, h, -⟩ := q; exact ⟨_, h⟩) (fun E w' q => q.2.1), fun v w1 h => ?_⟩
  rcases h with ⟨r, w', ⟨p, hp, rfl, q2, rfl⟩, rfl, rfl⟩ | ⟨⟨q1, -, rfl⟩, rfl⟩
  · cases q2
    have e2 : jset w 16 false p 0 = jgm w false (upd (w.1 51 false) (9 + p) 0) f x := (congrArg (fun z => jset z 16 false p 0) e.symm).trans (jgm_set (jpos_16 (by omega)))
    have hB2 : jBk (jsetL (jset w 16 false p 0) 63 0 (w.1 16 false p).toInt64) ((jsetL (jset w 16 false p 0) 63 0 (w.1 16 false p).toInt64).2.2 41 8) D := hB.kept (fun k k1 k2 => jsL_k (by omega))
    have h := c_mclean hB2 hW ja_51 (nI p)
    have hr := nI_range (c := p) (n := D.1 1) (by omega) hp
    rw [if_pos hr, if_pos hr, nI_clamp (by omega)] at h
    refine ⟨0, rfl, (jSI_F h).mono (fun r w2 z => ?_)⟩
    obtain ⟨rfl, rfl⟩ := z
    have e3 : (jsetL (jset w 16 false p 0) 63 0 (w.1 16 false p).toInt64).1 51 false = w.1 51 false := jsL_k (by omega)
    refine ⟨?_, fun _ => ?_, ?_⟩
    · rw [jset_k (by omega)]
      exact jT0_0
    · rw [e3]
      show (jsetL _ 63 0 _).2.1 63 0 = _
      rw [jsetL_L, if_pos ⟨rfl, rfl⟩, ← hc.2.1 (9 + p) (by omega), jrow_16 (by omega)]
    · rw [jset_fn, jT0_k (by omega), e3, e2]
      refine jInv.now hc _ f _ x 0 _ (fun i _ => rfl) ?_ (fun q hq => ?_)
      · obtain ⟨a, b, h1, h2, h3, h4⟩ := hL
        exact ⟨a, b, (pk_un (by omega)).trans h1, (pk_un (by omega)).trans h2, by omega, by omega⟩
      · rw [pk_un (by omega)]
        exact hP q hq
  · have h := c_mclean hB hW ja_51 a
    have hr : ¬ (0 ≤ a ∧ a ≤ nI (D.1 1) - 1) := fun z => q1 ((jin_r (by omega)).mpr z)
    rw [if_neg hr, if_neg hr] at h
    exact ⟨1, rfl, jop_1 (val := 0) hI jQu.rf (fun z => absurd z (by decide)) (jMq_no (by decide) h)⟩
theorem jIter_ind {P : (Nat → Int32) → Prop} {F : Nat → (Nat → Int32) → Nat → Int32} {n : Nat} {R : Nat → Int32} (h0 : P R) (h : ∀ p R, p < n → P R → P (F p R)) : P (jIter F n R) := by
  induction n with
  | zero => exact h0
  | succ n ih => exact h n _ (Nat.lt_succ_self n) (ih (fun p R hp hR => h p R (Nat.lt_succ_of_lt hp) hR))
def jLd (R : Nat → Int32) : Prop := ∀ p, p < 12 → 0 ≤ R (21 + p)
theorem jLd.upd {R : Nat → Int32} (h : jLd R) {i : Nat} {x : Int32} (hi : i < 21 ∨ 33 ≤ i ∨ 0 ≤ x) : jLd (upd R i x) := by
  intro p hp
  by_cases e : 21 + p = i
  · subst e
    rw [pk_us]
    rcases hi with hi | hi | hi
    · omega
    · omega
    · exact hi
  · rw [pk_un e]
    exact h p hp
theorem jHour_loud {D : JD} (hW : jWF D) {R : Nat → Int32} (h : jLd R) : jLd (jHour D R) := by
  have h5 := hW.1.1
  have h12 := hW.1.2.1
  have k1 : jLd (jIter (jPress1 D) (D.1 0) R) := jIter_ind h (fun p R hp hR => hR.upd (Or.inl (by omega)))
  have k2 : jLd (jIter (jBlow1 D) (D.1 1) (jIter (jPress1 D) (D.1 0) R)) := by
    refine jIter_ind k1 (fun p R hp hR => ?_)
    unfold jBlow1
    refine jLd.upd (hR.upd (Or.inr (Or.inr ?_))) (Or.inr (Or.inl (by omega)))
    unfold jLoud
    split
    · rename_i z
      exact Int32.le_of_lt z
    · exact Int32.le_refl _
  have k3 : jLd (jIter (jSettle1 D) (D.1 1) (jIter (jBlow1 D) (D.1 1) (jIter (jPress1 D) (D.1 0) R))) := jIter_ind k2 (fun p R hp hR => hR.upd (Or.inl (by omega)))
  have k4 : jLd (jIter (jClean1 D) (D.1 5) (jIter (jSettle1 D) (D.1 1) (jIter (jBlow1 D) (D.1 1) (jIter (jPress1 D) (D.1 0) R)))) := by
    refine jIter_ind k3 (fun p R hp hR => ?_)
    unfold jClean1
    split
    · exact hR.upd (Or.inr (Or.inr (by decide)))
    · exact hR
  have k5 : jLd (jIter (jChord1 D) (D.1 2) (jIter (jClean1 D) (D.1 5) (jIter (jSettle1 D) (D.1 1) (jIter (jBlow1 D) (D.1 1) (jIter (jPress1 D) (D.1 0) R))))) := by
    refine jIter_ind k4 (fun p R hp hR => ?_)
    unfold jChord1
    split
    · exact jLd.upd (jLd.upd (hR.upd (Or.inl (by omega))) (Or.inl (by omega))) (Or.inr (Or.inl (by omega)))
    · exact hR
  exact k5.upd (Or.inl (by omega))
theorem jHours_loud {D : JD} (hW : jWF D) {R : Nat → Int32} (h : jLd R) (n : Nat) : jLd (jHours D n R) := by
  induction n with
  | zero => exact h
  | succ n ih => exact jHour_loud hW ih
theorem jop_pass {n : Nat} {w : JW} (hI : jInv n w) (a : Int32) : jOp n ML_pass [(0, 9, 12, 19)] [jR 0 false, jI a, jR 63 false] MX11_pass_ [jR 41 false, jI a] w := by
  obtain ⟨D, hc, hL, hP⟩ := id hI
  have hWO := hc.1
  obtain ⟨hW, hO, hB⟩ := hWO
  obtain ⟨f, x, e⟩ := hc.gm
  have hx := x_pass (R := w.1 51 false) (f := f) (x0 := x) hO hW a
  rw [e] at hx
  refine ⟨8, 407, _, by decide, by decide, w_pass a hx (fun v w' q => by obtain ⟨p, -, -, -, h, -⟩ := q; exact ⟨_, h⟩) (fun E w' q => q.2.1), fun v w1 h => ?_⟩
  rcases h with ⟨r, w', ⟨k, hk, rfl, hk1, q2, f2, x2, rfl⟩, rfl, rfl⟩ | ⟨⟨q1, -, rfl⟩, rfl⟩
  · cases q2
    have e3 : (jsetL (jgm w false (jHours D k (w.1 51 false)) f2 x2) 63 0 (jHours D k (w.1 51 false) 2 - w.1 51 false 2).toInt64).1 51 false = w.1 51 false := jsLg_k (by omega)
    have hB2 : jBk (jsetL (jgm w false (jHours D k (w.1 51 false)) f2 x2) 63 0 (jHours D k (w.1 51 false) 2 - w.1 51 false 2).toInt64) ((jsetL (jgm w false (jHours D k (w.1 51 false)) f2 x2) 63 0 (jHours D k (w.1 51 false) 2 - w.1 51 false 2).toInt64).2.2 41 8) D := hB.kept (fun k k1 k2 => jsLg_k (by omega))
    have h := c_mpass_ hB2 hW ja_51 (nI k)
    have hr : 1 ≤ nI k ∧ nI k ≤ 120 := ⟨nI_1le (by omega) hk1, (nI_leI (a := k) (b := 120) (by omega) (by omega)).mpr hk⟩
    rw [if_pos hr, if_pos hr, nI_clamp (by omega), e3] at h
    refine ⟨0, rfl, (jSI_F h).mono (fun r w2 z => ?_)⟩
    obtain ⟨rfl, rfl⟩ := z
    refine ⟨?_, fun _ => ?_, ?_⟩
    · rw [jfn_I, if_neg (by omega)]
      exact jT0_0
    · show (jsetL _ 63 0 _).2.1 63 0 = _
      rw [jsetL_L, if_pos ⟨rfl, rfl⟩]
    · exact jInv.now hc _ f2 _ x2 0 _ (fun i _ => rfl) ((jHours_low hW hL k).up (by omega)) (jHours_loud hW hP k)
  · have h := c_mpass_ hB hW ja_51 a
    have hr : ¬ (1 ≤ a ∧ a ≤ 120) := fun z => q1 ((i32_r3 trivial).mpr z)
    rw [if_neg hr, if_neg hr, jT0_T1] at h
    exact ⟨1, rfl, jop_1 (val := 0) hI jQu.rf (fun z => absurd z (by decide)) (jMq_no (by decide) h)⟩
theorem jop_trim {n : Nat} {w : JW} (hI : jInv n w) (a : Int32) : jOp n ML_trim [(0, 9, 12, 19)] [jR 0 false, jI a, jR 63 false] MX11_trim [jR 41 false, jI a] w := by
  obtain ⟨D, hc, hL, hP⟩ := id hI
  obtain ⟨s, L, h1, h0⟩ := hc.2.2.1
  have hlen := hc.len
  refine ⟨7, 1, _, by decide, by decide, w_trim a (x_trim w a) (fun v w' q => ⟨_, q.2.1⟩) (fun E w' q => q.2.1), fun v w1 h => ?_⟩
  rcases h with ⟨r, w', ⟨q1, q2, rfl⟩, rfl, rfl⟩ | ⟨⟨q1, -, rfl⟩, rfl⟩
  · cases q2
    have h := c_mtrim (jsetL (jset w 1 false 1 a) 63 0 a.toInt64) a
    have e3 : (jsetL (jset w 1 false 1 a) 63 0 a.toInt64).1 41 false 2 = w.1 1 false 1 := (congrFun (jsL_k (by omega)) 2).trans hlen.symm
    have hr : 0 ≤ a ∧ a ≤ w.1 1 false 1 := i32_rng.mpr q1
    rw [e3, if_pos hr, if_pos hr] at h
    refine ⟨0, rfl, (jSI_F h).mono (fun r w2 z => ?_)⟩
    obtain ⟨rfl, rfl⟩ := z
    rw [h1.2.1] at hr
    have hL2 := h1.1.1
    obtain ⟨m, hm, rfl⟩ := nI_of (i32_not_lt.mpr hr.1)
    have hmL : m ≤ L := (nI_leI hm (by omega)).mp hr.2
    have hTS : jTS (fun i => if i < m then s i else 300) m := by
      refine ⟨Nat.le_trans hmL hL2, fun i hi => ?_, fun i hi => if_neg (by omega)⟩
      show (if i < m then s i else 300) < 256
      rw [if_pos hi]
      exact h1.1.2.1 i (by omega)
    have hk : ∀ k b, k ≠ 1 → k ≠ 41 → (jset (jT0 (jsetL (jset w 1 false 1 (nI m)) 63 0 (nI m).toInt64) 0) 41 false 2 (nI m)).1 k b = w.1 k b := by
      intro k b k1 k2
      rw [jset_k k2, jT0_k k2]
      exact jset_k k1
    have h41 : ∀ j, j ≠ 0 → j ≠ 2 → (jset (jT0 (jsetL (jset w 1 false 1 (nI m)) 63 0 (nI m).toInt64) 0) 41 false 2 (nI m)).1 41 false j = w.1 41 false j := by
      intro j j1 j2
      unfold jT0
      rw [jset_I, if_neg (fun q => j2 q.2.2), jset_I, if_neg (fun q => j1 q.2.2), jsetL_I, jset_I, if_neg (by omega)]
    refine ⟨?_, fun _ => ?_, D, hc.tape (s := fun i => if i < m then s i else 300) (L := m) rfl (fun k b k1 k2 k3 k4 => hk k b k1 k3) ⟨hTS, ?_, fun i hi => ?_⟩ ⟨hTS, ?_, fun i hi => ?_⟩ (h41 3 (by omega) (by omega)), ?_, ?_⟩
    · rw [jset_I, if_neg (by omega)]
      exact jT0_0
    · show (jsetL _ 63 0 _).2.1 63 0 = _
      rw [jsetL_L, if_pos ⟨rfl, rfl⟩]
    · rw [jset_k (by omega), jT0_k (by omega), jsetL_I, jset_I, if_pos ⟨rfl, rfl, rfl⟩]
    · rw [hk 2 false (by omega) (by omega)]
      show _ = nI (if i < m then s i else 300)
      rw [if_pos hi]
      exact h1.2.2 i (by omega)
    · rw [jset_I, if_pos ⟨rfl, rfl, rfl⟩]
    · rw [hk 42 false (by omega) (by omega)]
      show _ = nI (if i < m then s i else 300)
      rw [if_pos hi]
      exact h0.2.2 i (by omega)
    · rw [hk 51 false (by omega) (by omega)]
      exact hL.up (by omega)
    · rw [hk 51 false (by omega) (by omega)]
      exact hP
  · have h := c_mtrim w1 a
    have hr : ¬ (0 ≤ a ∧ a ≤ w1.1 41 false 2) := fun z => q1 (i32_rng.mp (by rw [hlen]; exact z))
    rw [if_neg hr, if_neg hr, jT0_T1] at h
    exact ⟨1, rfl, jop_1 (val := 0) hI jQu.rf (fun z => absurd z (by decide)) (jMq_no (by decide) h)⟩
theorem jop_feed {n : Nat} {w : JW} (hI : jInv n w) (x1 x2 x3 x4 x5 : Int32) : jOp n ML_feed [(0, 16, 19, 13)] [jR 0 false, jI x1, jI x2, jI x3, jI x4, jI x5, jR 63 false] MX11_feed [jR 41 false, jI x1, jI x2, jI x3, jI x4, jI x5] w := by
  obtain ⟨D, hc, hL, hP⟩ := id hI
  obtain ⟨s, L, h1, h0⟩ := hc.2.2.1
  have hL2 := h1.1.1
  refine ⟨7, 1, _, by decide, by decide, w_feed x1 x2 x3 x4 x5 (x_feed h1.2.1 hL2 x1 x2 x3 x4 x5) (fun v w' q => ⟨_, q.2.1⟩) (fun E w' q => q.2.1), fun v w1 h => ?_⟩
  rcases h with ⟨r, w', ⟨q1, q2, rfl⟩, rfl, rfl⟩ | ⟨⟨q1, -, rfl⟩, rfl⟩
  · cases q2
    have e41 : (jsetL (jfC x1 x2 x3 x4 x5 L w) 63 0 (nI (L + 20)).toInt64).1 41 false 2 = nI L := by
      rw [jsetL_I, jfC_o.2 41 false (by omega) (by omega)]
      exact h0.2.1
    refine ⟨0, rfl, (c_mfeed e41 hL2 x1 x2 x3 x4 x5).mono (fun r w2 z => ?_)⟩
    rcases z with ⟨-, rfl, rfl⟩ | ⟨z, -⟩
    · have e51 : (jfM x1 x2 x3 x4 x5 L (jset (jsetL (jfC x1 x2 x3 x4 x5 L w) 63 0 (nI (L + 20)).toInt64) 41 false 0 0)).1 51 false = w.1 51 false := by
        rw [jfM_o.2.1 51 false (by omega) (by omega), jset_k (by omega), jsetL_I, jfC_o.2 51 false (by omega) (by omega)]
      refine ⟨?_, fun _ => ?_, D, feed_cpl hc h1 h0 q1 x1 x2 x3 x4 x5 _, ?_⟩
      · rw [jfM_o.2.2 0 (by omega), jset_I, if_pos ⟨rfl, rfl, rfl⟩]
      · rw [jfM_o.1]
        show (jsetL _ 63 0 _).2.1 63 0 = _
        rw [jsetL_L, if_pos ⟨rfl, rfl⟩]
      · rw [e51]
        exact ⟨hL.up (by omega), hP⟩
    · exact absurd q1 z
  · refine ⟨1, rfl, (c_mfeed h0.2.1 hL2 x1 x2 x3 x4 x5).mono (fun r w2 z => ?_)⟩
    rcases z with ⟨z, -⟩ | ⟨-, rfl, rfl⟩
    · exact absurd z q1
    · have e : jset (jset w1 41 false 0 0) 41 false 0 1 = jT0 w1 1 := jT0_T1 (a := 0)
      rw [e]
      exact ⟨jT0_0, fun z => absurd z (by decide), hI.qu jQu_T0⟩
theorem jop_cut {n : Nat} {w : JW} (hI : jInv n w) (a y : Int32) : jOp n ML_cut [(0, 10, 13, 24), (0, 10, 17, 19)] [jR 0 false, jI a, jI y, jR 63 false] MX11_cut [jR 41 false, jI a, jI y] w := by
  obtain ⟨D, hc, hL, hP⟩ := id hI
  obtain ⟨⟨hW, hO, hB⟩, hR, ⟨s, L, h1, h0⟩, hg, hd, hn⟩ := id hc
  have h12 := hW.1.2.1
  refine ⟨7, 2, _, by decide, by decide, w_cut a y (x_cut hO hW a y) (fun v w' q => by obtain ⟨p, -, -, -, h, -⟩ := q; exact ⟨_, h⟩) (fun E w' q => q.1.elim (fun z => Or.inl z.2) (fun z => by obtain ⟨p, -, -, -, z⟩ := z; exact Or.inr z)), fun v w1 h => ?_⟩
  rcases h with ⟨r, w', ⟨p, hp, rfl, q1, q2, rfl⟩, rfl, rfl⟩ | ⟨⟨q, rfl⟩, rfl⟩ | ⟨⟨q, rfl⟩, rfl⟩
  · cases q2
    obtain ⟨-, l1, l4⟩ := hW.2.2.1 p hp
    have e24 : w.1 24 (w.2.2 0 6) p = nI (D.1 (140 + p)) := (hO.2.2.1 p hp).2.1
    rw [e24] at q1 ⊢
    have hq0 : 0 ≤ y ∧ y < nI (D.1 (140 + p)) := ⟨Int32.le_trans (by decide) (i32_not_lt.mp q1.1), q1.2⟩
    obtain ⟨c, hcl, rfl⟩ := i32_N hq0 (by omega)
    have hc1 : 1 ≤ c := (nI_leI (a := 1) (b := c) (by omega) (by omega)).mp (i32_not_lt.mp q1.1)
    have hok : jCutOk D (nI p) (nI c) = true := by
      refine decide_eq_true ?_
      rw [nI_clamp (by omega)]
      exact ⟨nI_1le (by omega) hc1, (nI_range (c := c) (n := D.1 (140 + p)) (by omega) hcl).2⟩
    rw [nI_subN (by omega)]
    generalize hv : D.1 (140 + p) - c = v
    generalize hw1 : jsetL (jset w 24 (w.2.2 0 6) p (nI v)) 63 0 (nI v).toInt64 = w1
    have k1 : ∀ k b, k ≠ 24 → w1.1 k b = w.1 k b := by
      intro k b hk
      rw [← hw1]
      exact jset_k hk
    have k2 : w1.2.2 = w.2.2 := by rw [← hw1]; rfl
    have hB2 : jBk w1 (w1.2.2 41 8) D := by
      rw [k2]
      exact hB.kept (fun k g1 g2 => k1 k _ (by omega))
    have h := c_mcut hB2 hW (nI p) (nI c)
    have hr := nI_range (c := p) (n := D.1 1) (by omega) hp
    rw [if_pos hr, if_pos hr, if_pos hok, if_pos hok, nI_clamp (by omega), nI_clamp (by omega), hv, k2] at h
    refine ⟨0, rfl, (jSI_F h).mono (fun r w2 z => ?_)⟩
    obtain ⟨rfl, rfl⟩ := z
    have k3 : ∀ k b, k ≠ 24 → k ≠ 41 → k ≠ 55 → (jset (jT0 w1 0) 55 (w.2.2 41 8) (3 * p + 1) (nI v)).1 k b = w.1 k b := by
      intro k b g1 g2 g3
      rw [jset_k g3, jT0_k g2, k1 k b g1]
    have k4 : ∀ j, j ≠ 0 → (jset (jT0 w1 0) 55 (w.2.2 41 8) (3 * p + 1) (nI v)).1 41 false j = w.1 41 false j := by
      intro j g1
      unfold jT0
      rw [jset_k (by omega), jset_I, if_neg (fun q => g1 q.2.2), k1 41 false (by omega)]
    refine ⟨?_, fun _ => ?_, jCutD D p v, ⟨⟨jCutD_WF hW (by omega) (by omega), ?_, ?_⟩, fun i hi => ?_, ⟨s, L, ?_, ?_⟩, ?_, ?_, ?_⟩, ?_, ?_⟩
    · rw [jset_k (by omega)]
      exact jT0_0
    · show w1.2.1 63 0 = _
      rw [← hw1, jsetL_L, if_pos ⟨rfl, rfl⟩]
    · show jOrg _ (w1.2.2 0 6) _
      rw [k2]
      refine (hO.cut hW (v := v) hp).kept (fun k g1 g2 => ?_)
      rw [jset_k (by omega), jT0_k (by omega), ← hw1]
      rfl
    · show jBk _ (w1.2.2 41 8) _
      rw [k2]
      refine jBk.cut ?_ hW hp
      exact hB.kept (fun k g1 g2 => by rw [jT0_k (by omega), k1 k _ (by omega)])
    · rw [jrow_cong (fun k g1 g2 => k3 k false (by omega) (by omega) (by omega)), k3 51 false (by omega) (by omega) (by omega)]
      exact hR i hi
    · unfold jC1
      rw [k3 1 false (by omega) (by omega) (by omega), k3 2 false (by omega) (by omega) (by omega)]
      exact h1
    · exact h0.kept (k4 2 (by omega)) (k3 42 false (by omega) (by omega) (by omega))
    · rw [k3 0 false (by omega) (by omega) (by omega), k4 3 (by omega)]
      exact hg
    · show w1.2.2 7 4 = !w1.2.2 0 6
      rw [k2]
      exact hd
    · show w1.2.2 41 9 = !w1.2.2 41 8
      rw [k2]
      exact hn
    · rw [k3 51 false (by omega) (by omega) (by omega)]
      exact hL.up (by omega)
    · rw [k3 51 false (by omega) (by omega) (by omega)]
      exact hP
  · have h := c_mcut hB hW a y
    have hr : ¬ (0 ≤ a ∧ a ≤ nI (D.1 1) - 1) := by
      rcases q with ⟨q, -⟩ | ⟨p, -, -, -, q⟩
      · exact fun z => q ((jin_r (by omega)).mpr z)
      · exact absurd q (by decide)
    rw [if_neg hr, if_neg hr] at h
    exact ⟨1, rfl, jop_1 (val := 0) hI jQu.rf (fun z => absurd z (by decide)) (jMq_no (by decide) h)⟩
  · rcases q with ⟨-, q⟩ | ⟨p, hp, rfl, q, -⟩
    · exact absurd q (by decide)
    · have h := c_mcut hB hW (nI p) y
      have hr := nI_range (c := p) (n := D.1 1) (by omega) hp
      obtain ⟨-, l1, l4⟩ := hW.2.2.1 p hp
      have e24 : w1.1 24 (w1.2.2 0 6) p = nI (D.1 (140 + p)) := (hO.2.2.1 p hp).2.1
      have hok : ¬ jCutOk D (nI p) y = true := by
        intro z
        have z := of_decide_eq_true z
        rw [nI_clamp (by omega)] at z
        refine q ⟨i32_not_lt.mpr z.1, ?_⟩
        rw [e24]
        exact ((jin_r (by omega)).mpr ⟨Int32.le_trans (by decide) z.1, z.2⟩).2
      rw [if_pos hr, if_pos hr, if_neg hok, if_neg hok] at h
      exact ⟨2, rfl, jop_1 (val := 0) hI jQu.rf (fun z => absurd z (by decide)) (jMq_no (by decide) h)⟩
