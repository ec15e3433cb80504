/-! what the reference tells: counts, caves, pipes, chords -/
/-- the reference, its thrown set -/
def jT0 (w : JW) (t : Int32) : JW := jset w 41 false 0 t
theorem jT0_T0 (w : JW) (a b : Int32) : jT0 (jT0 w a) b = jT0 w b := jset_jset
theorem jT0_other {w : JW} {t : Int32} {k : Nat} {b : Bool} (h : k ≠ 41) : (jT0 w t).1 k b = w.1 k b := by
  funext i
  exact (jset_I).trans (if_neg (fun q => h q.1))
theorem jBk.t0 {w : JW} {D : JD} (h : jBk w (w.2.2 41 8) D) (t : Int32) : jBk (jT0 w t) ((jT0 w t).2.2 41 8) D := h.kept (fun k h1 _ => jT0_other (by omega))
theorem i32_in {x : Int32} {n : Nat} (hn : n ≤ 2000) (h0 : 0 ≤ x) (h1 : x ≤ nI n - 1) : ∃ c, c < n ∧ x = nI c := by
  cases n with
  | zero =>
    exact absurd (Int32.le_trans h0 h1) (by decide)
  | succ m =>
    have e : nI (m + 1) - 1 = nI m := by
      rw [← nI_add m 1]
      exact Int32.add_sub_cancel _ _
    rw [e] at h1
    rw [Int32.le_iff_toInt_le, i32_0] at h0
    rw [Int32.le_iff_toInt_le, nI_toInt (by omega)] at h1
    refine ⟨x.toInt.toNat, by omega, ?_⟩
    rw [← Int32.toInt_inj, nI_toInt (by omega)]
    omega
theorem nI_range {c n : Nat} (hn : n ≤ 2000) (h : c < n) : 0 ≤ nI c ∧ nI c ≤ nI n - 1 := by
  cases n with
  | zero => omega
  | succ m =>
    have e : nI (m + 1) - 1 = nI m := by
      rw [← nI_add m 1]
      exact Int32.add_sub_cancel _ _
    rw [e, Int32.le_iff_toInt_le, Int32.le_iff_toInt_le, nI_toInt (by omega), nI_toInt (by omega), i32_0]
    omega
theorem jz_ite (P : Prop) [Decidable P] : narrow .boolean (.int (if P then 1 else 0)) = .int (if P then 1 else 0) := by split <;> rfl
theorem ite_ne0 {P : Prop} [Decidable P] : (if P then (1 : Int32) else 0) = 0 ↔ ¬ P := by
  by_cases h : P
  · rw [if_pos h]; exact ⟨fun q => absurd q (by decide), fun q => absurd h q⟩
  · rw [if_neg h]; exact ⟨fun _ => h, fun _ => rfl⟩
theorem c_no (w : JW) (t : Int32) : jF MX11_no 0 [jR 41 false, jI t] w (jI 0) (jT0 w t) := by
  refine jF_of jp_X11_no rfl (Nat.le_of_ble_eq_true rfl) (fun C hm => ?_)
  exact bk_X11_no_0 hm ⟨rfl, rfl⟩
theorem c_isCave {w : JW} {D : JD} (hB : jBk w (w.2.2 41 8) D) (x : Int32) : jF MX11_isCave 1 [jR 41 false, jI x] w (jI (if 0 ≤ x ∧ x ≤ nI (D.1 0) - 1 then 1 else 0)) w := by
  refine jF_of jp_X11_isCave rfl (Nat.le_of_ble_eq_true rfl) (fun C hm => ?_)
  exact bk_X11_isCave_0 hm (c_isIn w x 0 _) (by decide) (by rw [hB.1.1]; exact bk_X11_isCave_14 hm (jz_ite _) ⟨rfl, rfl⟩)
theorem c_isPipe {w : JW} {D : JD} (hB : jBk w (w.2.2 41 8) D) (x : Int32) : jF MX11_isPipe 1 [jR 41 false, jI x] w (jI (if 0 ≤ x ∧ x ≤ nI (D.1 1) - 1 then 1 else 0)) w := by
  refine jF_of jp_X11_isPipe rfl (Nat.le_of_ble_eq_true rfl) (fun C hm => ?_)
  exact bk_X11_isPipe_0 hm (c_isIn w x 0 _) (by decide) (by rw [hB.1.2.1]; exact bk_X11_isPipe_14 hm (jz_ite _) ⟨rfl, rfl⟩)
theorem c_isChord {w : JW} {D : JD} (hB : jBk w (w.2.2 41 8) D) (x : Int32) : jF MX11_isChord 1 [jR 41 false, jI x] w (jI (if 0 ≤ x ∧ x ≤ nI (D.1 2) - 1 then 1 else 0)) w := by
  refine jF_of jp_X11_isChord rfl (Nat.le_of_ble_eq_true rfl) (fun C hm => ?_)
  exact bk_X11_isChord_0 hm (c_isIn w x 0 _) (by decide) (by rw [hB.1.2.2.1]; exact bk_X11_isChord_14 hm (jz_ite _) ⟨rfl, rfl⟩)
/-- how many pipes sound in a row -/
def jSnd (D : JD) (R : Nat → Int32) : Int32 := nI (jct (fun p => decide (0 < R (21 + p))) (D.1 1))
def jChm (D : JD) (R : Nat → Int32) : Int32 := nI (jct (fun c => jRings D R c) (D.1 2))
def jSlt (D : JD) (R : Nat → Int32) : Int32 := jsum (fun p => R (9 + p)) (D.1 1)
theorem c_msounding {w : JW} {D : JD} (hB : jBk w (w.2.2 41 8) D) (hW : jWF D) {k : Nat} (hA : jIA k false 51) : jF MX11_sounding 0 [jR 41 false, jR k false] w (jI (jSnd D (w.1 k false))) w := by
  refine jF_of jp_X11_sounding rfl (Nat.le_of_ble_eq_true rfl) (fun C hm => ?_)
  have h12 := hW.1.2.1
  have e := hB.1.2.1
  refine bk_X11_sounding_0 hm ?_
  unfold jSnd
  refine jfor (P := fun i => i ≤ D.1 1 → jW C 0 0 _ 4 [jR 41 false, jR k false, jI (nI (jct (fun p => decide (0 < w.1 k false (21 + p))) i)), jI (nI i)] [] w) (D.1 1) ?_ ?_ (Nat.zero_le _)
  · intro _
    exact bk_X11_sounding_4 hm (fun _ => bk_X11_sounding_38 hm ⟨rfl, rfl⟩) (fun z => absurd (by rw [e]; exact (nI_leI (by omega) (by omega)).mpr (Nat.le_refl _)) z)
  · intro i hi ih _
    have ih2 := ih (by omega)
    rw [jct] at ih2
    refine bk_X11_sounding_4 hm (fun z => absurd ((nI_leI (a := D.1 1) (b := i) (by omega) (by omega)).mp (by rw [← e]; exact z)) (by omega)) (fun _ => ?_)
    refine bk_X11_sounding_15 hm hA (by rw [xa21]; exact vp_in_nI (by omega) (by omega)) (fun z => bk_X11_sounding_29 hm (bk_X11_sounding_30 hm ?_)) (fun z => bk_X11_sounding_25 hm (bk_X11_sounding_30 hm ?_)) <;> rw [xa21, nI_clamp (by omega)] at z
    · rw [if_neg (by simpa using i32_le0.mp z)] at ih2
      rw [nI_1, show nI (jct (fun p => decide (0 < w.1 k false (21 + p))) i) + 0 = nI (jct (fun p => decide (0 < w.1 k false (21 + p))) i) from Int32.add_zero _]
      exact ih2
    · rw [if_pos (decide_eq_true (Classical.not_not.mp (fun q => z (i32_le0.mpr q))))] at ih2
      rw [nI_1, nI_1]
      exact ih2
theorem c_msilt {w : JW} {D : JD} (hB : jBk w (w.2.2 41 8) D) (hW : jWF D) {k : Nat} (hA : jIA k false 51) : jF MX11_silt 0 [jR 41 false, jR k false] w (jI (jSlt D (w.1 k false))) w := by
  refine jF_of jp_X11_silt rfl (Nat.le_of_ble_eq_true rfl) (fun C hm => ?_)
  have h12 := hW.1.2.1
  have e := hB.1.2.1
  refine bk_X11_silt_0 hm ?_
  unfold jSlt
  refine jfor (P := fun i => i ≤ D.1 1 → jW C 0 0 _ 4 [jR 41 false, jR k false, jI (jsum (fun p => w.1 k false (9 + p)) i), jI (nI i)] [] w) (D.1 1) ?_ ?_ (Nat.zero_le _)
  · intro _
    exact bk_X11_silt_4 hm (fun _ => bk_X11_silt_30 hm ⟨rfl, rfl⟩) (fun z => absurd (by rw [e]; exact (nI_leI (by omega) (by omega)).mpr (Nat.le_refl _)) z)
  · intro i hi ih _
    have ih2 := ih (by omega)
    rw [jsum] at ih2
    refine bk_X11_silt_4 hm (fun z => absurd ((nI_leI (a := D.1 1) (b := i) (by omega) (by omega)).mp (by rw [← e]; exact z)) (by omega)) (fun _ => ?_)
    refine bk_X11_silt_15 hm hA (by rw [xa9]; exact vp_in_nI (by omega) (by omega)) ?_
    rw [nI_1, xa9, nI_clamp (by omega)]
    exact ih2
theorem c_mchiming {w : JW} {D : JD} (hB : jBk w (w.2.2 41 8) D) (hW : jWF D) (hA : jIA 51 false 51) : jF MX11_chiming 1 [jR 41 false] w (jI (jChm D (w.1 51 false))) w := by
  refine jF_of jp_X11_chiming rfl (Nat.le_of_ble_eq_true rfl) (fun C hm => ?_)
  have h6 := hW.1.2.2.1
  have e := hB.1.2.2.1
  refine bk_X11_chiming_0 hm ?_
  unfold jChm
  refine jfor (P := fun i => i ≤ D.1 2 → jW C 0 0 _ 4 [jR 41 false, jI (nI (jct (fun c => jRings D (w.1 51 false) c) i)), jI (nI i)] [] w) (D.1 2) ?_ ?_ (Nat.zero_le _)
  · intro _
    exact bk_X11_chiming_4 hm (fun _ => bk_X11_chiming_41 hm ⟨rfl, rfl⟩) (fun z => absurd (by rw [e]; exact (nI_leI (by omega) (by omega)).mpr (Nat.le_refl _)) z)
  · intro i hi ih _
    have ih2 := ih (by omega)
    rw [jct] at ih2
    refine bk_X11_chiming_4 hm (fun z => absurd ((nI_leI (a := D.1 2) (b := i) (by omega) (by omega)).mp (by rw [← e]; exact z)) (by omega)) (fun _ => ?_)
    refine bk_X11_chiming_15 hm (c_mchimes hB hW hA hi) (by decide) (bk_X11_chiming_25 hm (fun z => bk_X11_chiming_32 hm (bk_X11_chiming_33 hm ?_)) (fun z => bk_X11_chiming_28 hm (bk_X11_chiming_33 hm ?_))) <;> rw [ite_ne0] at z
    · rw [if_neg z] at ih2
      rw [nI_1, Int32.add_zero]
      exact ih2
    · rw [if_pos (Classical.not_not.mp z)] at ih2
      rw [nI_1, nI_1]
      exact ih2
/-- a count told: D, a row R, the tape's length -/
def jCnt (D : JD) (R : Nat → Int32) (len x : Int32) : Int32 :=
  if x = 0 then R 0 else if x = 1 then R 1 else if x = 2 then nI (D.1 0) else if x = 3 then nI (D.1 1) else if x = 4 then nI (D.1 2) else if x = 5 then nI (D.1 3) else if x = 6 then nI (D.1 4)
  else if x = 7 then nI (D.1 5) else if x = 8 then jSnd D R else if x = 9 then jChm D R else if x = 10 then R 2 else if x = 11 then R 3 else if x = 12 then jSlt D R else len
theorem c_mcounted {w : JW} {D : JD} (hB : jBk w (w.2.2 41 8) D) (hW : jWF D) (hA : jIA 51 false 51) (x : Int32) : jF MX11_counted 2 [jR 41 false, jI x] w (jI (jCnt D (w.1 51 false) (w.1 41 false 2) x)) w := by
  refine jF_of jp_X11_counted rfl (Nat.le_of_ble_eq_true rfl) (fun C hm => ?_)
  have e := hB.1
  refine bk_X11_counted_0 hm ?_ ?_ ?_ ?_ ?_ ?_ ?_ ?_ ?_ ?_ ?_ ?_ ?_ ?_
  · intro h; subst h; exact bk_X11_counted_68 hm (vp_in_nI (n := 0) (by omega) (by omega)) ⟨rfl, rfl⟩
  · intro h; subst h; exact bk_X11_counted_68 hm (vp_in_nI (n := 1) (by omega) (by omega)) ⟨rfl, rfl⟩
  · intro h; subst h; exact bk_X11_counted_75 hm ⟨congrArg jI e.1, rfl⟩
  · intro h; subst h; exact bk_X11_counted_83 hm ⟨congrArg jI e.2.1, rfl⟩
  · intro h; subst h; exact bk_X11_counted_91 hm ⟨congrArg jI e.2.2.1, rfl⟩
  · intro h; subst h; exact bk_X11_counted_99 hm ⟨congrArg jI e.2.2.2.1, rfl⟩
  · intro h; subst h; exact bk_X11_counted_107 hm ⟨congrArg jI e.2.2.2.2.1, rfl⟩
  · intro h; subst h; exact bk_X11_counted_115 hm ⟨congrArg jI e.2.2.2.2.2, rfl⟩
  · intro h; subst h; exact bk_X11_counted_123 hm (c_msounding hB hW hA) (by decide) (bk_X11_counted_131 hm ⟨rfl, rfl⟩)
  · intro h; subst h; exact bk_X11_counted_132 hm (c_mchiming hB hW hA) (by decide) (bk_X11_counted_136 hm ⟨rfl, rfl⟩)
  · intro h; subst h; exact bk_X11_counted_137 hm (vp_in_nI (n := 2) (by omega) (by omega)) ⟨rfl, rfl⟩
  · intro h; subst h; exact bk_X11_counted_144 hm (vp_in_nI (n := 3) (by omega) (by omega)) ⟨rfl, rfl⟩
  · intro h; subst h; exact bk_X11_counted_151 hm (c_msilt hB hW hA) (by decide) (bk_X11_counted_159 hm ⟨rfl, rfl⟩)
  · intro h0 h1 h2 h3 h4 h5 h6 h7 h8 h9 h10 h11 h12
    refine bk_X11_counted_160 hm ⟨congrArg jI ?_, rfl⟩
    unfold jCnt
    rw [if_neg h0, if_neg h1, if_neg h2, if_neg h3, if_neg h4, if_neg h5, if_neg h6, if_neg h7, if_neg h8, if_neg h9, if_neg h10, if_neg h11, if_neg h12]
theorem c_mcount {w : JW} {D : JD} (hB : jBk w (w.2.2 41 8) D) (hW : jWF D) (hA : jIA 51 false 51) (x : Int32) : jF MX11_count 3 [jR 41 false, jI x] w (jI (if 0 ≤ x ∧ x ≤ 13 then jCnt D (w.1 51 false) (w.1 41 false 2) x else 0)) (jT0 w (if 0 ≤ x ∧ x ≤ 13 then 0 else 1)) := by
  refine jF_of jp_X11_count rfl (Nat.le_of_ble_eq_true rfl) (fun C hm => ?_)
  refine bk_X11_count_0 hm (c_isIn _ x 0 13) (by decide) (bk_X11_count_12 hm (fun z => ?_) (fun z => ?_)) <;> rw [ite_ne0] at z
  · rw [if_neg z, if_neg z]
    exact bk_X11_count_23 hm (c_no _ 1) (by decide) (bk_X11_count_28 hm ⟨rfl, jT0_T0 w 0 1⟩)
  · rw [if_pos (Classical.not_not.mp z), if_pos (Classical.not_not.mp z)]
    exact bk_X11_count_15 hm (c_mcounted (hB.t0 0) hW hA x) (by decide) (bk_X11_count_20 hm (bk_X11_count_28 hm ⟨rfl, rfl⟩))
theorem c_mpipesOf {w : JW} {D : JD} (hB : jBk w (w.2.2 41 8) D) (hW : jWF D) {c : Nat} (hc : c < D.1 0) : jF MX11_pipesOf 0 [jR 41 false, jI (nI c)] w (jI (nI (jct (fun p => decide (D.1 (100 + p) = c)) (D.1 1)))) w := by
  refine jF_of jp_X11_pipesOf rfl (Nat.le_of_ble_eq_true rfl) (fun C hm => ?_)
  have h12 := hW.1.2.1
  have h5 := hW.1.1
  have e := hB.1.2.1
  refine bk_X11_pipesOf_0 hm ?_
  refine jfor (P := fun i => i ≤ D.1 1 → jW C 0 0 _ 4 [jR 41 false, jI (nI c), jI (nI (jct (fun p => decide (D.1 (100 + p) = c)) i)), jI (nI i)] [] w) (D.1 1) ?_ ?_ (Nat.zero_le _)
  · intro _
    exact bk_X11_pipesOf_4 hm (fun _ => bk_X11_pipesOf_44 hm ⟨rfl, rfl⟩) (fun z => absurd (by rw [e]; exact (nI_leI (by omega) (by omega)).mpr (Nat.le_refl _)) z)
  · intro i hi ih _
    have ih2 := ih (by omega)
    rw [jct] at ih2
    have hd := (hW.2.2.1 i hi).1
    have b1 := (hB.2.2.1 i hi).1
    refine bk_X11_pipesOf_4 hm (fun z => absurd ((nI_leI (a := D.1 1) (b := i) (by omega) (by omega)).mp (by rw [← e]; exact z)) (by omega)) (fun _ => ?_)
    refine bk_X11_pipesOf_15 hm (by rw [mx3]; exact vp_in_nI (by omega) (by omega)) (fun z => bk_X11_pipesOf_35 hm (bk_X11_pipesOf_36 hm ?_)) (fun z => bk_X11_pipesOf_31 hm (bk_X11_pipesOf_36 hm ?_)) <;> rw [mx3, nI_clamp (by omega), b1] at z
    · rw [if_neg (by intro q; exact z (congrArg nI (of_decide_eq_true q)))] at ih2
      rw [nI_1, Int32.add_zero]
      exact ih2
    · rw [if_pos (decide_eq_true ((nI_eq (by omega) (by omega)).mp z))] at ih2
      rw [nI_1, nI_1]
      exact ih2
/-- a cave told -/
def jCave (D : JD) (R : Nat → Int32) (c : Nat) (x : Int32) : Int32 :=
  if x = 0 then D.2.1 0 c else if x = 1 then D.2.1 1 c else if x = 2 then R (4 + c) else if x = 3 then nI (jct (fun p => decide (D.1 (100 + p) = c)) (D.1 1)) else if jShut D R c then 1 else 0
theorem i32_04 {x : Int32} {n : Nat} (hn : n ≤ 1999) (h0 : 0 ≤ x) (h1 : x ≤ nI n) : ∃ c, c ≤ n ∧ x = nI c := by
  obtain ⟨c, hc, e⟩ := i32_in (n := n + 1) (Nat.succ_le_succ hn) h0 (by rw [nI_pred]; exact h1)
  exact ⟨c, by omega, e⟩
theorem c_mcaveTold {w : JW} {D : JD} (hB : jBk w (w.2.2 41 8) D) (hW : jWF D) (hA : jIA 51 false 51) {c : Nat} (hc : c < D.1 0) {x : Int32} (h0 : 0 ≤ x) (h4 : x ≤ 4) : jF MX11_caveTold 404 [jR 41 false, jI (nI c), jI x] w (jI (jCave D (w.1 51 false) c x)) w := by
  refine jF_of jp_X11_caveTold rfl (Nat.le_of_ble_eq_true rfl) (fun C hm => ?_)
  have h5 := hW.1.1
  have b := hB.2.1 c hc
  refine bk_X11_caveTold_0 hm ?_ ?_ ?_ ?_
  · intro h; subst h
    refine bk_X11_caveTold_28 hm (by rw [xa4]; exact vp_in_nI (by omega) (by omega)) ⟨?_, rfl⟩
    rw [xa4, nI_clamp (by omega)]
    rfl
  · intro h; subst h
    exact bk_X11_caveTold_37 hm (c_mpipesOf hB hW hc) (by decide) (bk_X11_caveTold_42 hm ⟨rfl, rfl⟩)
  · intro h; subst h
    refine bk_X11_caveTold_43 hm (c_mshut hB hW hA hc) (by decide) (bk_X11_caveTold_52 hm (fun z => bk_X11_caveTold_59 hm (bk_X11_caveTold_60 hm ⟨?_, rfl⟩)) (fun z => bk_X11_caveTold_55 hm (bk_X11_caveTold_60 hm ⟨?_, rfl⟩))) <;> rw [ite_ne0] at z
    · exact congrArg jI (if_neg z).symm
    · exact congrArg jI (if_pos (Classical.not_not.mp z)).symm
  · intro n2 n3 n4
    obtain ⟨j, hj, rfl⟩ := i32_04 (n := 4) (by omega) h0 h4
    have j2 : j ≠ 2 := fun q => n2 (by rw [q]; rfl)
    have j3 : j ≠ 3 := fun q => n3 (by rw [q]; rfl)
    have j4 : j ≠ 4 := fun q => n4 (by rw [q]; rfl)
    refine bk_X11_caveTold_61 hm (by rw [mx2, nI_add]; exact vp_in_nI (by omega) (by omega)) ⟨?_, rfl⟩
    rw [mx2, nI_add, nI_clamp (by omega)]
    have : j = 0 ∨ j = 1 := by omega
    rcases this with rfl | rfl
    · exact congrArg jI b.1
    · exact congrArg jI b.2

/-- a pipe told -/
def jPipe (D : JD) (R : Nat → Int32) (p : Nat) (x : Int32) : Int32 :=
  if x = 0 then nI (D.1 (100 + p)) else if x = 1 then nI (D.1 (140 + p)) else if x = 2 then D.2.1 4 p else if x = 3 then R (9 + p) else if x = 4 then jNeed D R p else if x = 5 then R (21 + p) else R (33 + p)
theorem c_mpipeTold {w : JW} {D : JD} (hB : jBk w (w.2.2 41 8) D) (hW : jWF D) (hA : jIA 51 false 51) {p : Nat} (hp : p < D.1 1) {x : Int32} (h0 : 0 ≤ x) (h6 : x ≤ 6) : jF MX11_pipeTold 2 [jR 41 false, jI (nI p), jI x] w (jI (jPipe D (w.1 51 false) p x)) w := by
  refine jF_of jp_X11_pipeTold rfl (Nat.le_of_ble_eq_true rfl) (fun C hm => ?_)
  have h12 := hW.1.2.1
  obtain ⟨b1, b2, b3⟩ := hB.2.2.1 p hp
  refine bk_X11_pipeTold_0 hm ?_ ?_ ?_ ?_ ?_
  · intro h; subst h
    refine bk_X11_pipeTold_32 hm (by rw [xa9]; exact vp_in_nI (by omega) (by omega)) ⟨?_, rfl⟩
    rw [xa9, nI_clamp (by omega)]
    rfl
  · intro h; subst h
    exact bk_X11_pipeTold_42 hm (c_mneed hB hW hA hp) (by decide) (bk_X11_pipeTold_51 hm ⟨rfl, rfl⟩)
  · intro h; subst h
    refine bk_X11_pipeTold_52 hm (by rw [xa21]; exact vp_in_nI (by omega) (by omega)) ⟨?_, rfl⟩
    rw [xa21, nI_clamp (by omega)]
    rfl
  · intro h; subst h
    refine bk_X11_pipeTold_62 hm (by rw [xa33]; exact vp_in_nI (by omega) (by omega)) ⟨?_, rfl⟩
    rw [xa33, nI_clamp (by omega)]
    rfl
  · intro n3 n4 n5 n6
    obtain ⟨j, hj, rfl⟩ := i32_04 (n := 6) (by omega) h0 h6
    have j3 : j ≠ 3 := fun q => n3 (by rw [q]; rfl)
    have j4 : j ≠ 4 := fun q => n4 (by rw [q]; rfl)
    have j5 : j ≠ 5 := fun q => n5 (by rw [q]; rfl)
    have j6 : j ≠ 6 := fun q => n6 (by rw [q]; rfl)
    refine bk_X11_pipeTold_72 hm (by rw [mx3, nI_add]; exact vp_in_nI (by omega) (by omega)) ⟨?_, rfl⟩
    rw [mx3, nI_add, nI_clamp (by omega)]
    have : j = 0 ∨ j = 1 ∨ j = 2 := by omega
    rcases this with rfl | rfl | rfl
    · exact congrArg jI b1
    · exact congrArg jI b2
    · exact congrArg jI b3
/-- how wide a chord is: its longest pipe less its shortest -/
def jMinL (D : JD) (c : Nat) : Nat → Int32
  | 0 => 40
  | n + 1 => if nI (D.1 (140 + D.1 (20 + (6 * c + n)))) < jMinL D c n then nI (D.1 (140 + D.1 (20 + (6 * c + n)))) else jMinL D c n
def jMaxL (D : JD) (c : Nat) : Nat → Int32
  | 0 => 1
  | n + 1 => if jMaxL D c n < nI (D.1 (140 + D.1 (20 + (6 * c + n)))) then nI (D.1 (140 + D.1 (20 + (6 * c + n)))) else jMaxL D c n
def jWide (D : JD) (c : Nat) : Int32 := jMaxL D c (D.1 (10 + c)) - jMinL D c (D.1 (10 + c))
theorem c_mwide {w : JW} {D : JD} (hB : jBk w (w.2.2 41 8) D) (hW : jWF D) {c : Nat} (hc : c < D.1 2) : jF MX11_wide 1 [jR 41 false, jI (nI c)] w (jI (jWide D c)) w := by
  refine jF_of jp_X11_wide rfl (Nat.le_of_ble_eq_true rfl) (fun C hm => ?_)
  have h6 := hW.1.2.2.1
  have h12 := hW.1.2.1
  obtain ⟨s1, s6, hq⟩ := hW.2.2.2.1 c hc
  obtain ⟨b1, b2⟩ := hB.2.2.2.1 c hc
  have c0 : (nI (7 * c)).toNatClampNeg = 7 * c := nI_clamp (by omega)
  have size : w.1 58 (w.2.2 41 8) (7 * nI c).toNatClampNeg = nI (D.1 (10 + c)) := by rw [mx7, c0, b1]
  have v7 : vp_in (7 * nI c) 42 := by rw [mx7]; exact vp_in_nI (by omega) (by omega)
  refine bk_X11_wide_0 hm ?_
  unfold jWide
  refine jfor (P := fun i => i ≤ D.1 (10 + c) → jW C 0 0 _ 8 [jR 41 false, jI (nI c), jI (jMinL D c i), jI (jMaxL D c i), jI (nI (1 + i))] [] w) (D.1 (10 + c)) ?_ ?_ (Nat.zero_le _)
  · intro _
    exact bk_X11_wide_8 hm v7 (fun _ => bk_X11_wide_79 hm ⟨rfl, rfl⟩) (fun z => absurd (by rw [size]; exact (nI_ltI (by omega) (by omega)).mpr (by omega)) z)
  · intro i hi ih _
    refine bk_X11_wide_8 hm v7 (fun z => absurd ((nI_ltI (a := D.1 (10 + c)) (b := 1 + i) (by omega) (by omega)).mp (by rw [← size]; exact z)) (by omega)) (fun _ => ?_)
    have ih2 := ih (by omega)
    rw [jMinL, jMaxL] at ih2
    have n1 := b2 i hi
    have n2 := hq i hi
    have ci : ((7 : Int32) * nI c + nI (1 + i)).toNatClampNeg = 7 * c + (1 + i) := by rw [mx7, nI_add, nI_clamp (by omega)]
    have cv : w.1 58 (w.2.2 41 8) ((7 : Int32) * nI c + nI (1 + i)).toNatClampNeg = nI (D.1 (20 + (6 * c + i))) := by rw [ci, n1]
    have vi : vp_in ((7 : Int32) * nI c + nI (1 + i)) 42 := by rw [mx7, nI_add]; exact vp_in_nI (by omega) (by omega)
    refine bk_X11_wide_25 hm vi (by rw [cv]; exact c_mlength hB hW n2) (by decide) ?_
    refine bk_X11_wide_45 hm (by decide) vi (by rw [cv]; exact c_mlength hB hW n2) (by decide) ?_
    refine bk_X11_wide_69 hm (by decide) ?_
    rw [nI_1]
    exact ih2
/-- a chord told -/
def jChd (D : JD) (R : Nat → Int32) (c : Nat) (x : Int32) : Int32 :=
  if x = 0 then nI (D.1 (10 + c)) else if x = 1 then (if jRings D R c then 1 else 0) else if x = 2 then jWide D c else R (45 + c)
theorem c_mchordTold {w : JW} {D : JD} (hB : jBk w (w.2.2 41 8) D) (hW : jWF D) (hA : jIA 51 false 51) {c : Nat} (hc : c < D.1 2) (x : Int32) : jF MX11_chordTold 2 [jR 41 false, jI (nI c), jI x] w (jI (jChd D (w.1 51 false) c x)) w := by
  refine jF_of jp_X11_chordTold rfl (Nat.le_of_ble_eq_true rfl) (fun C hm => ?_)
  have h6 := hW.1.2.2.1
  have b1 := (hB.2.2.2.1 c hc).1
  refine bk_X11_chordTold_0 hm ?_ ?_ ?_ ?_
  · intro h; subst h
    refine bk_X11_chordTold_28 hm (by rw [mx7]; exact vp_in_nI (by omega) (by omega)) ⟨?_, rfl⟩
    rw [mx7, nI_clamp (by omega), b1]
    rfl
  · intro h; subst h
    refine bk_X11_chordTold_41 hm (c_mchimes hB hW hA hc) (by decide) (bk_X11_chordTold_50 hm (fun z => bk_X11_chordTold_57 hm (bk_X11_chordTold_58 hm ⟨?_, rfl⟩)) (fun z => bk_X11_chordTold_53 hm (bk_X11_chordTold_58 hm ⟨?_, rfl⟩))) <;> rw [ite_ne0] at z
    · exact congrArg jI (if_neg z).symm
    · exact congrArg jI (if_pos (Classical.not_not.mp z)).symm
  · intro h; subst h
    exact bk_X11_chordTold_59 hm (c_mwide hB hW hc) (by decide) (bk_X11_chordTold_64 hm ⟨rfl, rfl⟩)
  · intro n0 n1 n2
    refine bk_X11_chordTold_65 hm (by rw [xa45]; exact vp_in_nI (by omega) (by omega)) ⟨?_, rfl⟩
    rw [xa45, nI_clamp (by omega)]
    unfold jChd
    rw [if_neg n0, if_neg n1, if_neg n2]
