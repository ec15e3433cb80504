/-! the reference foresees and advises -/
theorem in_nat1 {x : Int32} {n : Nat} (hn : n ≤ 1999) (h : 1 ≤ x ∧ x ≤ nI n) : x.toNatClampNeg ≤ n ∧ x = nI x.toNatClampNeg := by
  obtain ⟨c, hc, rfl⟩ := i32_04 hn (Int32.le_trans (by decide) h.1) h.2
  rw [nI_clamp (by omega)]
  exact ⟨hc, rfl⟩
/-- a sum of the hours ahead -/
def jFor (D : JD) (R : Nat → Int32) (n : Nat) (y : Int32) : Int32 :=
  if y = 0 then jHours D n R 2 - R 2 else if y = 1 then jHours D n R 3 - R 3 else if y = 2 then jSnd D (jHours D n R) else jSlt D (jHours D n R)
theorem c_mforesee {w : JW} {D : JD} (hB : jBk w (w.2.2 41 8) D) (hW : jWF D) (hA : jIA 51 false 51) (hA2 : jIA 52 false 51) {R : Nat → Int32} (hR : ∀ i, i < 51 → R i = w.1 51 false i) (x y : Int32) : jSI MX11_foresee 407 [jR 41 false, jI x, jI y] w
    (fun r w2 => r = (if (1 ≤ x ∧ x ≤ 120) ∧ (0 ≤ y ∧ y ≤ 3) then jFor D R x.toNatClampNeg y else 0) ∧ ∃ f, w2 = jfn (jT0 w (if 1 ≤ x ∧ x ≤ 120 then (if 0 ≤ y ∧ y ≤ 3 then 0 else 2) else 1)) 52 false f) := by
  refine jSI_of jp_X11_foresee rfl (Nat.le_of_ble_eq_true rfl) (fun C hm => ?_)
  have h12 := hW.1.2.1
  have kept : ∀ t, jT0 (jT0 w 0) t = jfn (jT0 w t) 52 false ((jT0 w t).1 52 false) := fun t => by rw [jT0_T0, jfn_self]
  refine bk_X11_foresee_0 hm (c_isIn _ x 1 120) (by decide) (bk_X11_foresee_12 hm (fun z => ?_) (fun z => ?_)) <;> rw [ite_ne0] at z
  · have z := Classical.not_not.mp z
    rw [if_pos z]
    refine bk_X11_foresee_21 hm (c_isIn _ y 0 3) (by decide) (bk_X11_foresee_27 hm (fun z2 => ?_) (fun z2 => ?_)) <;> rw [ite_ne0] at z2
    · have z2 := Classical.not_not.mp z2
      rw [if_pos ⟨z, z2⟩, if_pos z2]
      obtain ⟨hc, he⟩ := in_nat1 (n := 120) (by omega) z
      generalize x.toNatClampNeg = n at hc he
      subst he
      refine bk_X11_foresee_36 hm (c_mlook (jT0 w 0) hA hA2 (f := R) (fun i hi => (hR i hi).trans (by rw [jT0_other (by omega)]))) (by decide) ?_
      refine bk_X11_foresee_40 hm (c_mpassAll (hB.t0 0) hW (Or.inr rfl) hA2 R (by omega)) (by decide) ?_
      have e51 : ∀ i, i < 51 → (jfn (jT0 w 0) 52 false (jHours D n R)).1 51 false i = R i := fun i hi => by
        rw [jfn_other (by omega), jT0_other (by omega), hR i hi]
      refine bk_X11_foresee_49 hm ?_ ?_ ?_ ?_
      · intro h; subst h
        refine bk_X11_foresee_76 hm (vp_in_nI (n := 2) (by omega) (by omega)) (vp_in_nI (n := 2) (by omega) (by omega)) ⟨_, rfl, ?_, _, rfl⟩
        rw [jfn_row, e51 2 (by omega)]
        rfl
      · intro h; subst h
        refine bk_X11_foresee_90 hm (vp_in_nI (n := 3) (by omega) (by omega)) (vp_in_nI (n := 3) (by omega) (by omega)) ⟨_, rfl, ?_, _, rfl⟩
        rw [jfn_row, e51 3 (by omega)]
        rfl
      · intro h; subst h
        refine bk_X11_foresee_104 hm (c_msounding (jfn52_t (hB.t0 0)) hW hA2) (by decide) (bk_X11_foresee_112 hm ⟨_, rfl, ?_, _, rfl⟩)
        rw [jfn_row]
        rfl
      · intro n0 n1 n2
        refine bk_X11_foresee_113 hm (c_msilt (jfn52_t (hB.t0 0)) hW hA2) (by decide) (bk_X11_foresee_121 hm ⟨_, rfl, ?_, _, rfl⟩)
        rw [jfn_row]
        unfold jFor
        rw [if_neg n0, if_neg n1, if_neg n2]
    · rw [if_neg (fun q => z2 q.2), if_neg z2]
      exact bk_X11_foresee_30 hm (c_no _ 2) (by decide) (bk_X11_foresee_35 hm ⟨_, rfl, rfl, _, kept 2⟩)
  · rw [if_neg (fun q => z q.1), if_neg z]
    exact bk_X11_foresee_15 hm (c_no _ 1) (by decide) (bk_X11_foresee_20 hm ⟨_, rfl, rfl, _, kept 1⟩)
/-- which tide is best -/
def jAdv (D : JD) (R : Nat → Int32) (n : Nat) (i : Nat) : Int32 := jHours D n (upd R 1 (nI i)) 2 - 2 * jHours D n (upd R 1 (nI i)) 3
def jAdvise (D : JD) (R : Nat → Int32) (n : Nat) : Nat → Int32 × Int32
  | 0 => (-1, 0)
  | i + 1 => if (jAdvise D R n i).1 < 0 ∨ (jAdvise D R n i).2 < jAdv D R n i then (nI i, jAdv D R n i) else jAdvise D R n i
theorem c_madvise {w : JW} {D : JD} (hB : jBk w (w.2.2 41 8) D) (hW : jWF D) (hA : jIA 51 false 51) (hA2 : jIA 52 false 51) {R : Nat → Int32} (hR : ∀ i, i < 51 → R i = w.1 51 false i) (x : Int32) : jSI MX11_advise 407 [jR 41 false, jI x] w
    (fun r w2 => r = (if 1 ≤ x ∧ x ≤ 72 then (jAdvise D R x.toNatClampNeg 10).1 else 0) ∧ ∃ f, w2 = jfn (jT0 w (if 1 ≤ x ∧ x ≤ 72 then 0 else 1)) 52 false f) := by
  refine jSI_of jp_X11_advise rfl (Nat.le_of_ble_eq_true rfl) (fun C hm => ?_)
  have kept : ∀ t, jT0 (jT0 w 0) t = jfn (jT0 w t) 52 false ((jT0 w t).1 52 false) := fun t => by rw [jT0_T0, jfn_self]
  refine bk_X11_advise_0 hm (c_isIn _ x 1 72) (by decide) (bk_X11_advise_12 hm (fun z => ?_) (fun z => ?_)) <;> rw [ite_ne0] at z
  · have z := Classical.not_not.mp z
    rw [if_pos z, if_pos z]
    obtain ⟨hc, he⟩ := in_nat1 (n := 72) (by omega) z
    generalize x.toNatClampNeg = n at hc he
    subst he
    refine bk_X11_advise_21 hm ?_
    have fin : ∀ g : Nat → Int32, jW C 0 0 (jQQ C 0 0 (fun v w2 => ∃ r, v = jI r ∧ (r = (jAdvise D R n 10).1 ∧ ∃ f, w2 = jfn (jT0 w 0) 52 false f))) 28 [jR 41 false, jI (nI n), jI (jAdvise D R n 10).1, jI (jAdvise D R n 10).2, jI (nI 10), jU] [] (jfn (jT0 w 0) 52 false g) := by
      intro g
      exact bk_X11_advise_28 hm (fun _ => bk_X11_advise_98 hm ⟨_, rfl, rfl, _, rfl⟩) (fun z2 => absurd (by decide) z2)
    have key := jfor (P := fun i => i ≤ 10 → ∀ g : Nat → Int32, jW C 0 0 (jQQ C 0 0 (fun v w2 => ∃ r, v = jI r ∧ (r = (jAdvise D R n 10).1 ∧ ∃ f, w2 = jfn (jT0 w 0) 52 false f))) 28 [jR 41 false, jI (nI n), jI (jAdvise D R n i).1, jI (jAdvise D R n i).2, jI (nI i), jU] [] (jfn (jT0 w 0) 52 false g)) 10 ?_ ?_
    · have k0 := key (by omega) ((jT0 w 0).1 52 false)
      rw [jfn_self] at k0
      exact k0
    · exact fun _ => fin
    · intro i hi ih _ g
      refine bk_X11_advise_28 hm (fun z2 => absurd ((nI_ltI (a := 9) (b := i) (by omega) (by omega)).mp z2) (by omega)) (fun _ => ?_)
      refine bk_X11_advise_35 hm (c_mlook (jfn (jT0 w 0) 52 false g) hA hA2 (f := R) (fun j hj => (hR j hj).trans (by rw [jfn_other (by omega), jT0_other (by omega)]))) (by decide) ?_
      rw [jfn_fn]
      refine bk_X11_advise_39 hm (vp_in_nI (n := 1) (by omega) (by omega)) (by rw [jset_jfn]; exact c_mpassAll (hB.t0 0) hW (Or.inr rfl) hA2 _ (by omega)) (by decide) ?_
      have ih2 := ih (by omega) (jHours D n (upd R 1 (nI i)))
      rw [show jAdvise D R n (i + 1) = if (jAdvise D R n i).1 < 0 ∨ (jAdvise D R n i).2 < jAdv D R n i then (nI i, jAdv D R n i) else jAdvise D R n i from rfl] at ih2
      have up : ((jAdvise D R n i).1 < 0 ∨ (jAdvise D R n i).2 < jAdv D R n i) → jW C 0 0 (jQQ C 0 0 (fun v w2 => ∃ r, v = jI r ∧ (r = (jAdvise D R n 10).1 ∧ ∃ f, w2 = jfn (jT0 w 0) 52 false f))) 86 [jR 41 false, jI (nI n), jU, jU, jI (nI i), jI (jAdv D R n i)] [] (jfn (jT0 w 0) 52 false (jHours D n (upd R 1 (nI i)))) := by
        intro h
        rw [if_pos h] at ih2
        refine bk_X11_advise_86 hm (bk_X11_advise_92 hm ?_)
        rw [nI_1]
        exact ih2
      have e2 : (jfn (jT0 w 0) 52 false (jHours D n (upd R 1 (nI i)))).1 52 false 2 - 2 * (jfn (jT0 w 0) 52 false (jHours D n (upd R 1 (nI i)))).1 52 false 3 = jAdv D R n i := by
        rw [jfn_row]
        rfl
      refine bk_X11_advise_56 hm (vp_in_nI (n := 2) (by omega) (by omega)) (vp_in_nI (n := 3) (by omega) (by omega)) (fun z2 => ?_) (fun z2 => ?_) <;> rw [e2]
      · exact up (Or.inl z2)
      · refine bk_X11_advise_77 hm (fun z3 => up (Or.inr z3)) (fun z3 => bk_X11_advise_83 hm (bk_X11_advise_92 hm ?_))
        rw [if_neg (fun h => h.elim z2 z3)] at ih2
        rw [nI_1]
        exact ih2
  · rw [if_neg z, if_neg z]
    exact bk_X11_advise_15 hm (c_no _ 1) (by decide) (bk_X11_advise_20 hm ⟨_, rfl, rfl, _, kept 1⟩)
/-- which pipe is best cleaned -/
def jCln (D : JD) (R : Nat → Int32) (n : Nat) (p : Nat) : Int32 := jHours D n (upd R (9 + p) 0) 2
def jBest (D : JD) (R : Nat → Int32) (n : Nat) : Nat → Int32 × Int32
  | 0 => (jHours D n R 2, -1)
  | p + 1 => if (jBest D R n p).1 < jCln D R n p then (jCln D R n p, nI p) else jBest D R n p
theorem c_mbest {w : JW} {D : JD} (hB : jBk w (w.2.2 41 8) D) (hW : jWF D) (hA : jIA 51 false 51) (hA2 : jIA 52 false 51) {R : Nat → Int32} (hR : ∀ i, i < 51 → R i = w.1 51 false i) (x : Int32) : jSI MX11_best 407 [jR 41 false, jI x] w
    (fun r w2 => r = (if 1 ≤ x ∧ x ≤ 72 then (jBest D R x.toNatClampNeg (D.1 1)).2 else 0) ∧ ∃ f, w2 = jfn (jT0 w (if 1 ≤ x ∧ x ≤ 72 then 0 else 1)) 52 false f) := by
  refine jSI_of jp_X11_best rfl (Nat.le_of_ble_eq_true rfl) (fun C hm => ?_)
  have h12 := hW.1.2.1
  have kept : ∀ t, jT0 (jT0 w 0) t = jfn (jT0 w t) 52 false ((jT0 w t).1 52 false) := fun t => by rw [jT0_T0, jfn_self]
  refine bk_X11_best_0 hm (c_isIn _ x 1 72) (by decide) (bk_X11_best_12 hm (fun z => ?_) (fun z => ?_)) <;> rw [ite_ne0] at z
  · have z := Classical.not_not.mp z
    rw [if_pos z, if_pos z]
    obtain ⟨hc, he⟩ := in_nat1 (n := 72) (by omega) z
    generalize x.toNatClampNeg = n at hc he
    subst he
    refine bk_X11_best_21 hm (c_mlook (jT0 w 0) hA hA2 (f := R) (fun i hi => (hR i hi).trans (by rw [jT0_other (by omega)]))) (by decide) ?_
    refine bk_X11_best_25 hm (c_mpassAll (hB.t0 0) hW (Or.inr rfl) hA2 R (by omega)) (by decide) (bk_X11_best_34 hm (vp_in_nI (n := 2) (by omega) (by omega)) ?_)
    have e53 : ∀ g : Nat → Int32, (jfn (jT0 w 0) 52 false g).1 53 ((jfn (jT0 w 0) 52 false g).2.2 41 8) 1 = nI (D.1 1) := fun g => (jfn52_t (f := g) (hB.t0 0)).1.2.1
    have key := jfor (P := fun i => i ≤ D.1 1 → ∀ g : Nat → Int32, jW C 0 0 (jQQ C 0 0 (fun v w2 => ∃ r, v = jI r ∧ (r = (jBest D R n (D.1 1)).2 ∧ ∃ f, w2 = jfn (jT0 w 0) 52 false f))) 46 [jR 41 false, jI (nI n), jI (jBest D R n i).1, jI (jBest D R n i).2, jI (nI i)] [] (jfn (jT0 w 0) 52 false g)) (D.1 1) ?_ ?_
    · have k0 := key (by omega) (jHours D n R)
      rw [jfn_row]
      exact k0
    · exact fun _ g => bk_X11_best_46 hm (fun _ => bk_X11_best_111 hm ⟨_, rfl, rfl, _, rfl⟩) (fun z2 => absurd (by rw [e53]; exact (nI_leI (by omega) (by omega)).mpr (Nat.le_refl _)) z2)
    · intro i hi ih _ g
      refine bk_X11_best_46 hm (fun z2 => absurd ((nI_leI (a := D.1 1) (b := i) (by omega) (by omega)).mp (by rw [← e53 g]; exact z2)) (by omega)) (fun _ => ?_)
      refine bk_X11_best_58 hm (c_mlook (jfn (jT0 w 0) 52 false g) hA hA2 (f := R) (fun j hj => (hR j hj).trans (by rw [jfn_other (by omega), jT0_other (by omega)]))) (by decide) ?_
      rw [jfn_fn]
      have c9 : ((9 : Int32) + nI i).toNatClampNeg = 9 + i := by rw [xa9, nI_clamp (by omega)]
      refine bk_X11_best_62 hm (by rw [xa9]; exact vp_in_nI (by omega) (by omega)) (by rw [c9, jset_jfn]; exact c_mpassAll (hB.t0 0) hW (Or.inr rfl) hA2 _ (by omega)) (by decide) ?_
      have ih2 := ih (by omega) (jHours D n (upd R (9 + i) 0))
      rw [jBest] at ih2
      refine bk_X11_best_82 hm (vp_in_nI (n := 2) (by omega) (by omega)) (fun z2 => bk_X11_best_95 hm (vp_in_nI (n := 2) (by omega) (by omega)) (bk_X11_best_105 hm ?_)) (fun z2 => bk_X11_best_92 hm (bk_X11_best_105 hm ?_)) <;> rw [jfn_row] at z2
      · rw [if_pos (show (jBest D R n i).1 < jCln D R n i from z2)] at ih2
        rw [nI_1, jfn_row]
        exact ih2
      · rw [if_neg (show ¬ (jBest D R n i).1 < jCln D R n i from z2)] at ih2
        rw [nI_1]
        exact ih2
  · rw [if_neg z, if_neg z]
    exact bk_X11_best_15 hm (c_no _ 1) (by decide) (bk_X11_best_20 hm ⟨_, rfl, rfl, _, kept 1⟩)
