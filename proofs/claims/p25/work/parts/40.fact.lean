/-! what the class tells: counts, caves, pipes, chords -/
theorem jgm_17 {w : JW} {t : Bool} {R f : Nat → Int32} {x : Int32} : ∀ j, j < 12 → (jgm w t R f x).1 17 t j = R (21 + j) := fun j hj => jgm_p (jpos_17 (i := j) (by omega))
theorem c_chordsSounding {w : JW} {D : JD} {R f : Nat → Int32} {x : Int32} (hO : jOrg w (w.2.2 0 6) D) (hW : jWF D) : jF MX9_chordsSounding 3 [jR 0 false] (jgm w false R f x) (jI (jChm D R)) (jgm w false R f x) := by
  refine jF_of jp_X9_chordsSounding rfl (Nat.le_of_ble_eq_true rfl) (fun C hm => ?_)
  have h6 := hW.1.2.2.1
  have hG := jgm_org (t := false) (R := R) (f := f) (x := x) hO
  have e : (jgm w false R f x).1 20 ((jgm w false R f x).2.2 0 6) 11 = nI (D.1 2) := hG.1.2.2.1
  refine bk_X9_chordsSounding_0 hm ?_
  unfold jChm
  refine jfor (P := fun i => i ≤ D.1 2 → jW C 0 0 _ 4 [jR 0 false, jI (nI (jct (fun c => jRings D R c) i)), jI (nI i)] [] (jgm w false R f x)) (D.1 2) ?_ ?_ (Nat.zero_le _)
  · intro _
    exact bk_X9_chordsSounding_4 hm (fun _ => bk_X9_chordsSounding_39 hm ⟨rfl, rfl⟩) (fun z => absurd (by rw [e]; exact (nI_leI (by omega) (by omega)).mpr (Nat.le_refl _)) z)
  · intro i hi ih _
    have ih2 := ih (by omega)
    rw [jct] at ih2
    refine bk_X9_chordsSounding_4 hm (fun z => absurd ((nI_leI (a := D.1 2) (b := i) (by omega) (by omega)).mp (by rw [← e]; exact z)) (by omega)) (fun _ => ?_)
    refine bk_X9_chordsSounding_15 hm (c_ringsD hG hW jgm_17 hi) (by decide) (bk_X9_chordsSounding_27 hm (fun z => bk_X9_chordsSounding_33 hm ?_) (fun z => bk_X9_chordsSounding_30 hm (bk_X9_chordsSounding_33 hm ?_))) <;> rw [ite_ne0] at z
    · rw [if_neg z] at ih2
      rw [nI_1]
      exact ih2
    · rw [if_pos (Classical.not_not.mp z)] at ih2
      rw [nI_1, nI_1]
      exact ih2
theorem c_countFact {w : JW} {D : JD} {R f : Nat → Int32} {x : Int32} (hO : jOrg w (w.2.2 0 6) D) (hW : jWF D) (y : Int32) : jF MX9_countFact 4 [jR 0 false, jI y] (jgm w false R f x) (jI (jCnt D R (w.1 1 false 1) y)) (jgm w false R f x) := by
  refine jF_of jp_X9_countFact rfl (Nat.le_of_ble_eq_true rfl) (fun C hm => ?_)
  have hG := jgm_org (t := false) (R := R) (f := f) (x := x) hO
  have e := hG.1
  have h12 := hW.1.2.1
  refine bk_X9_countFact_0 hm ?_ ?_ ?_ ?_ ?_ ?_ ?_ ?_ ?_ ?_ ?_ ?_ ?_ ?_
  · intro h; subst h; exact bk_X9_countFact_68 hm ⟨congrArg jI (jgm_p (show jpos 14 5 = some 0 from rfl)), rfl⟩
  · intro h; subst h; exact bk_X9_countFact_76 hm ⟨congrArg jI (jgm_p (show jpos 14 6 = some 1 from rfl)), rfl⟩
  · intro h; subst h; exact bk_X9_countFact_84 hm ⟨congrArg jI e.1, rfl⟩
  · intro h; subst h; exact bk_X9_countFact_92 hm ⟨congrArg jI e.2.1, rfl⟩
  · intro h; subst h; exact bk_X9_countFact_100 hm ⟨congrArg jI e.2.2.1, rfl⟩
  · intro h; subst h; exact bk_X9_countFact_108 hm ⟨congrArg jI e.2.2.2.1, rfl⟩
  · intro h; subst h; exact bk_X9_countFact_119 hm ⟨congrArg jI e.2.2.2.2.1, rfl⟩
  · intro h; subst h; exact bk_X9_countFact_130 hm ⟨congrArg jI e.2.2.2.2.2, rfl⟩
  · intro h; subst h
    refine bk_X9_countFact_141 hm (by rw [show (jgm w false R f x).1 20 ((jgm w false R f x).2.2 0 6) 10 = nI (D.1 1) from e.2.1]; exact c_pipesSounding _ false (by omega)) (by decide) (bk_X9_countFact_155 hm ⟨congrArg jI ?_, rfl⟩)
    exact congrArg nI (jct_cong (fun k hk => by rw [jgm_17 k (by omega)]))
  · intro h; subst h; exact bk_X9_countFact_156 hm (c_chordsSounding hO hW) (by decide) (bk_X9_countFact_160 hm ⟨rfl, rfl⟩)
  · intro h; subst h; exact bk_X9_countFact_161 hm ⟨congrArg jI (jgm_p (show jpos 14 7 = some 2 from rfl)), rfl⟩
  · intro h; subst h; exact bk_X9_countFact_169 hm ⟨congrArg jI (jgm_p (show jpos 14 8 = some 3 from rfl)), rfl⟩
  · intro h; subst h
    refine bk_X9_countFact_177 hm (by rw [show (jgm w false R f x).1 20 ((jgm w false R f x).2.2 0 6) 10 = nI (D.1 1) from e.2.1]; exact c_siltIn _ false (by omega)) (by decide) (bk_X9_countFact_191 hm ⟨congrArg jI ?_, rfl⟩)
    exact jsum_cong (fun k hk => jgm_p (jpos_16 (i := k) (by omega)))
  · intro h0 h1 h2 h3 h4 h5 h6 h7 h8 h9 h10 h11 h12
    refine bk_X9_countFact_192 hm ⟨congrArg jI ?_, rfl⟩
    unfold jCnt
    rw [if_neg h0, if_neg h1, if_neg h2, if_neg h3, if_neg h4, if_neg h5, if_neg h6, if_neg h7, if_neg h8, if_neg h9, if_neg h10, if_neg h11, if_neg h12]
    rw [jgm_k (by omega)]
