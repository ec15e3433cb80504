/-! the reference's digest -/
def jFold (f : Nat → Int32) (y : Int64) : Nat → Int64
  | 0 => y
  | n + 1 => jFold f y n * 31 + (f n).toInt64
def jDigC (D : JD) (R : Nat → Int32) (c : Nat) (y : Int64) : Int64 := jFold (fun i => nI (D.1 (20 + (6 * c + i)))) (jFold (fun i => jChd D R c (nI i)) y 4) (D.1 (10 + c))
def jDigCs (D : JD) (R : Nat → Int32) (y : Int64) : Nat → Int64
  | 0 => y
  | c + 1 => jDigC D R c (jDigCs D R y c)
def jDig1 (D : JD) (R : Nat → Int32) (len : Int32) : Int64 := jFold (fun i => jCnt D R len (nI i)) 827 14
def jDig2 (D : JD) (R : Nat → Int32) (len : Int32) : Int64 := jFold (fun i => jCave D R (i / 5) (nI (i % 5))) (jDig1 D R len) (5 * D.1 0)
def jDig3 (D : JD) (R : Nat → Int32) (len : Int32) : Int64 := jFold (fun i => jPipe D R (i / 7) (nI (i % 7))) (jDig2 D R len) (7 * D.1 1)
def jDig4 (D : JD) (R : Nat → Int32) (len : Int32) : Int64 := jDigCs D R (jDig3 D R len) (D.1 2)
def jDig (D : JD) (R : Nat → Int32) (len : Int32) : Int64 := jFold (fun i => jHgt D (R 0 + nI i) (R 1)) (jDig4 D R len) 5
theorem c_mdigest {w : JW} {D : JD} (hB0 : jBk w (w.2.2 41 8) D) (hW : jWF D) (hA : jIA 51 false 51) : jF MX11_digest 405 [jR 41 false] w (jL (jDig D (w.1 51 false) (w.1 41 false 2))) (jT0 w 0) := by
  refine jF_of jp_X11_digest rfl (Nat.le_of_ble_eq_true rfl) (fun C hm => ?_)
  have h5 := hW.1.1
  have h12 := hW.1.2.1
  have h6 := hW.1.2.2.1
  refine bk_X11_digest_0 hm ?_
  have hB := hB0.t0 0
  have e0 := hB.1.1
  have e1 := hB.1.2.1
  have e4 := hB.1.2.2.1
  have eR : (jT0 w 0).1 51 false = w.1 51 false := rfl
  have eL : (jT0 w 0).1 41 false 2 = w.1 41 false 2 := rfl
  rw [← eR, ← eL]
  show jW C 0 0 _ 11 _ _ (jT0 w 0)
  generalize jT0 w 0 = w at hB e0 e1 e4 ⊢
  generalize hR : w.1 51 false = R
  generalize hlen : w.1 41 false 2 = len
  have s5 : jW C 0 0 (jQQ C 0 0 (fun v w' => v = jL (jDig D R len) ∧ w' = w)) 215 [jR 41 false, jL (jDig4 D R len), jU, jU, jU] [] w := by
    refine bk_X11_digest_215 hm ?_
    unfold jDig
    refine jfor (P := fun i => i ≤ 5 → jW C 0 0 _ 217 [jR 41 false, jL (jFold (fun i => jHgt D (R 0 + nI i) (R 1)) (jDig4 D R len) i), jU, jI (nI i), jU] [] w) 5 ?_ ?_ (Nat.zero_le _)
    · exact fun _ => bk_X11_digest_217 hm (fun _ => bk_X11_digest_254 hm ⟨rfl, rfl⟩) (fun z => absurd (by decide) z)
    · intro i hi ih _
      refine bk_X11_digest_217 hm (fun z => absurd ((nI_leI (a := 5) (b := i) (by omega) (by omega)).mp z) (by omega)) (fun _ => ?_)
      refine bk_X11_digest_222 hm (vp_in_nI (n := 0) (by omega) (by omega)) (vp_in_nI (n := 1) (by omega) (by omega)) (c_mheight hB hW _ _) (by decide) (bk_X11_digest_245 hm ?_)
      rw [nI_1, hR]
      exact ih (by omega)
  have s4 : jW C 0 0 (jQQ C 0 0 (fun v w' => v = jL (jDig D R len) ∧ w' = w)) 117 [jR 41 false, jL (jDig3 D R len), jU, jU, jU] [] w := by
    refine bk_X11_digest_117 hm ?_
    unfold jDig4 at s5
    refine jfor (P := fun i => i ≤ D.1 2 → jW C 0 0 _ 119 [jR 41 false, jL (jDigCs D R (jDig3 D R len) i), jU, jI (nI i), jU] [] w) (D.1 2) ?_ ?_ (Nat.zero_le _)
    · exact fun _ => bk_X11_digest_119 hm (fun _ => s5) (fun z => absurd (by rw [e4]; exact (nI_leI (by omega) (by omega)).mpr (Nat.le_refl _)) z)
    · intro c hc ih _
      refine bk_X11_digest_119 hm (fun z => absurd ((nI_leI (a := D.1 2) (b := c) (by omega) (by omega)).mp (by rw [← e4]; exact z)) (by omega)) (fun _ => bk_X11_digest_130 hm ?_)
      have ih2 := ih (by omega)
      rw [show jDigCs D R (jDig3 D R len) (c + 1) = jDigC D R c (jDigCs D R (jDig3 D R len) c) from rfl] at ih2
      generalize jDigCs D R (jDig3 D R len) c = y at ih2 ⊢
      unfold jDigC at ih2
      obtain ⟨s1, s6, -⟩ := hW.2.2.2.1 c hc
      obtain ⟨b1, b2⟩ := hB.2.2.2.1 c hc
      have size : w.1 58 (w.2.2 41 8) (7 * nI c).toNatClampNeg = nI (D.1 (10 + c)) := by rw [mx7, nI_clamp (by omega), b1]
      have v7 : vp_in (7 * nI c) 42 := by rw [mx7]; exact vp_in_nI (by omega) (by omega)
      have notes : jW C 0 0 (jQQ C 0 0 (fun v w' => v = jL (jDig D R len) ∧ w' = w)) 160 [jR 41 false, jL (jFold (fun i => jChd D R c (nI i)) y 4), jU, jI (nI c), jU] [] w := by
        refine bk_X11_digest_160 hm ?_
        generalize jFold (fun i => jChd D R c (nI i)) y 4 = y2 at ih2 ⊢
        refine jfor (P := fun i => i ≤ D.1 (10 + c) → jW C 0 0 _ 163 [jR 41 false, jL (jFold (fun i => nI (D.1 (20 + (6 * c + i)))) y2 i), jU, jI (nI c), jI (nI (1 + i))] [] w) (D.1 (10 + c)) ?_ ?_ (Nat.zero_le _)
        · intro _
          refine bk_X11_digest_163 hm v7 (fun _ => bk_X11_digest_209 hm ?_) (fun z => absurd (by rw [size]; exact (nI_ltI (by omega) (by omega)).mpr (by omega)) z)
          rw [nI_1]
          exact ih2
        · intro i hi ih _
          refine bk_X11_digest_163 hm v7 (fun z => absurd ((nI_ltI (a := D.1 (10 + c)) (b := 1 + i) (by omega) (by omega)).mp (by rw [← size]; exact z)) (by omega)) (fun _ => ?_)
          have ci : ((7 : Int32) * nI c + nI (1 + i)) = nI (7 * c + (1 + i)) := by rw [mx7, nI_add]
          refine bk_X11_digest_180 hm (by rw [ci]; exact vp_in_nI (by omega) (by omega)) ?_
          rw [ci, nI_clamp (by omega), b2 i hi, nI_1]
          exact ih (by omega)
      refine jfor (P := fun i => i ≤ 4 → jW C 0 0 _ 133 [jR 41 false, jL (jFold (fun i => jChd D R c (nI i)) y i), jU, jI (nI c), jI (nI i)] [] w) 4 ?_ ?_ (Nat.zero_le _)
      · exact fun _ => bk_X11_digest_133 hm (fun _ => notes) (fun z => absurd (by decide) z)
      · intro i hi ih _
        refine bk_X11_digest_133 hm (fun z => absurd ((nI_leI (a := 4) (b := i) (by omega) (by omega)).mp z) (by omega)) (fun _ => ?_)
        refine bk_X11_digest_139 hm (c_mchordTold hB hW hA hc (nI i)) (by decide) (bk_X11_digest_151 hm ?_)
        rw [nI_1, hR]
        exact ih (by omega)
  have s3 : jW C 0 0 (jQQ C 0 0 (fun v w' => v = jL (jDig D R len) ∧ w' = w)) 75 [jR 41 false, jL (jDig2 D R len), jU, jU, jU] [] w := by
    refine bk_X11_digest_75 hm ?_
    unfold jDig3 at s4
    have m7 : (7 : Int32) * w.1 53 (w.2.2 41 8) 1 = nI (7 * D.1 1) := by rw [e1, mx7]
    refine jfor (P := fun i => i ≤ 7 * D.1 1 → jW C 0 0 _ 77 [jR 41 false, jL (jFold (fun i => jPipe D R (i / 7) (nI (i % 7))) (jDig2 D R len) i), jU, jI (nI i), jU] [] w) (7 * D.1 1) ?_ ?_ (Nat.zero_le _)
    · exact fun _ => bk_X11_digest_77 hm (fun _ => s4) (fun z => absurd (by rw [m7]; exact (nI_leI (by omega) (by omega)).mpr (Nat.le_refl _)) z)
    · intro i hi ih _
      refine bk_X11_digest_77 hm (fun z => absurd ((nI_leI (a := 7 * D.1 1) (b := i) (by omega) (by omega)).mp (by rw [← m7]; exact z)) (by omega)) (fun _ => ?_)
      have d7 : nI i / 7 = nI (i / 7) := pk_div (d := 7) (by omega) (by omega) (by omega)
      have r7 : nI i - nI i / 7 * 7 = nI (i % 7) := pk_rem (d := 7) (by omega) (by omega) (by omega)
      refine bk_X11_digest_91 hm (by rw [r7, d7]; exact c_mpipeTold hB hW hA (p := i / 7) (by omega) (nI_pos' (by omega)) (nI_le (b := 6) (by omega) (by omega))) (by decide) (bk_X11_digest_108 hm ?_)
      rw [nI_1, hR]
      exact ih (by omega)
  have s2 : jW C 0 0 (jQQ C 0 0 (fun v w' => v = jL (jDig D R len) ∧ w' = w)) 36 [jR 41 false, jL (jDig1 D R len), jU, jU, jU] [] w := by
    refine bk_X11_digest_36 hm ?_
    unfold jDig2 at s3
    have m5 : (5 : Int32) * w.1 53 (w.2.2 41 8) 0 = nI (5 * D.1 0) := by rw [e0, mx5]
    refine jfor (P := fun i => i ≤ 5 * D.1 0 → jW C 0 0 _ 38 [jR 41 false, jL (jFold (fun i => jCave D R (i / 5) (nI (i % 5))) (jDig1 D R len) i), jU, jI (nI i), jU] [] w) (5 * D.1 0) ?_ ?_ (Nat.zero_le _)
    · exact fun _ => bk_X11_digest_38 hm (fun _ => s3) (fun z => absurd (by rw [m5]; exact (nI_leI (by omega) (by omega)).mpr (Nat.le_refl _)) z)
    · intro i hi ih _
      refine bk_X11_digest_38 hm (fun z => absurd ((nI_leI (a := 5 * D.1 0) (b := i) (by omega) (by omega)).mp (by rw [← m5]; exact z)) (by omega)) (fun _ => ?_)
      have d5 : nI i / 5 = nI (i / 5) := pk_div (d := 5) (by omega) (by omega) (by omega)
      have r5 : nI i - nI i / 5 * 5 = nI (i % 5) := pk_rem (d := 5) (by omega) (by omega) (by omega)
      refine bk_X11_digest_51 hm (by rw [r5, d5]; exact c_mcaveTold hB hW hA (c := i / 5) (by omega) (nI_pos' (by omega)) (nI_le (b := 4) (by omega) (by omega))) (by decide) (bk_X11_digest_66 hm ?_)
      rw [nI_1, hR]
      exact ih (by omega)
  unfold jDig1 at s2
  refine jfor (P := fun i => i ≤ 14 → jW C 0 0 (jQQ C 0 0 (fun v w' => v = jL (jDig D R len) ∧ w' = w)) 11 [jR 41 false, jL (jFold (fun i => jCnt D R len (nI i)) 827 i), jU, jI (nI i), jU] [] w) 14 ?_ ?_ (Nat.zero_le _)
  · exact fun _ => bk_X11_digest_11 hm (fun _ => s2) (fun z => absurd (by decide) z)
  · intro i hi ih _
    refine bk_X11_digest_11 hm (fun z => absurd ((nI_leI (a := 14) (b := i) (by omega) (by omega)).mp z) (by omega)) (fun _ => ?_)
    refine bk_X11_digest_17 hm (c_mcounted hB hW hA (nI i)) (by decide) (bk_X11_digest_27 hm ?_)
    rw [nI_1, hR, hlen]
    exact ih (by omega)
