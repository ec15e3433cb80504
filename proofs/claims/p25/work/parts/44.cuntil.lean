/-! the class looks ahead: until, foresee, best (behind their tests of the arguments) -/
theorem jgm_run {w : JW} {D : JD} {R : Nat → Int32} (hO : jOrg w (w.2.2 0 6) D) (hW : jWF D) (f : Nat → Int32) (x : Int32) {n : Nat} (hn : n < 2 ^ 31) (S g : Nat → Int32) (y : Int32) : jSV MX4_run 6 [jR 11 false, jR 20 ((jgm w true S g y).2.2 0 6), jR 14 true, jI (nI n)] (jgm w true R f x) (fun w' => ∃ f x, w' = jgm w true (jHours D n R) f x) := c_run hO hW R f x hn
theorem c_until_ok {w : JW} {D : JD} {R S f : Nat → Int32} {x : Int32} {C : JC} (hm : jok C MX9_until 7 0 0) (hO : jOrg w (w.2.2 0 6) D) (hW : jWF D) (hR : ∀ i, i < 51 → R i = jrow w false i) {p : Nat} (hp : p < D.1 1) :
    jW C 0 0 (jQQ C 0 0 (fun v w2 => ∃ r, v = jI r ∧ (r = jUnt D R p 151 0 ∧ ∃ S f x, w2 = jgm w true S f x))) 18 [jR 0 false, jI (nI p), jU] [] (jgm w true S f x) := by
  have h12 := hW.1.2.1
  refine bk_X9_until_18 hm (c_again hR) (by decide) (bk_X9_until_29 hm ?_)
  have key : ∀ n i, n + i = 151 → ∀ f x, jW C 0 0 (jQQ C 0 0 (fun v w2 => ∃ r, v = jI r ∧ (r = jUnt D R p n i ∧ ∃ S f x, w2 = jgm w true S f x))) 31 [jR 0 false, jI (nI p), jI (nI i)] [] (jgm w true (jHours D i R) f x) := by
    intro n
    induction n with
    | zero =>
      intro i hi f x
      refine bk_X9_until_31 hm (fun _ => bk_X9_until_73 hm ⟨_, rfl, rfl, _, _, _, rfl⟩) (fun z2 => absurd ?_ z2)
      exact (nI_ltI (a := 150) (b := i) (by omega) (by omega)).mpr (by omega)
    | succ n ih =>
      intro i hi f x
      refine bk_X9_until_31 hm (fun z2 => absurd ((nI_ltI (a := 150) (b := i) (by omega) (by omega)).mp z2) (by omega)) (fun _ => ?_)
      refine bk_X9_until_38 hm (c_sounds _ true (by omega)) (by decide) (bk_X9_until_46 hm (fun z2 => ?_) (fun z2 => ?_)) <;> rw [ite_ne0, jgm_17 p (by omega)] at z2
      · refine bq_X9_until_51 hm (jgm_run hO hW f x (n := 1) (by omega) _ _ _) (by decide) (fun w2 hp2 => ?_)
        obtain ⟨f2, x2, rfl⟩ := hp2
        refine bk_X9_until_67 hm ?_
        rw [nI_1, jUnt, if_neg z2]
        exact ih (i + 1) (by omega) f2 x2
      · rw [jUnt, if_pos (Classical.not_not.mp z2)]
        exact bk_X9_until_49 hm ⟨_, rfl, rfl, _, _, _, rfl⟩
  exact key 151 0 (by omega) f x
theorem jgm_now {w : JW} {S R f : Nat → Int32} {x : Int32} (hR : ∀ i, i < 51 → R i = jrow w false i) {j p : Nat} (hp : jpos 14 j = some p) (h4 : p < 4) : (jgm w true S f x).1 14 false j = R p := by
  unfold jgm
  rw [jgar_k (by omega) (by omega), jmom_b (by decide), hR p (by omega)]
  unfold jpos at hp
  simp at hp
  obtain ⟨h5, rfl⟩ := hp
  unfold jrow
  rw [if_pos h4, show 5 + (j - 5) = j by omega]
theorem c_foresee_ok {w : JW} {D : JD} {R S f : Nat → Int32} {x : Int32} {C : JC} (hm : jok C MX9_foresee 7 0 0) (hO : jOrg w (w.2.2 0 6) D) (hW : jWF D) (hR : ∀ i, i < 51 → R i = jrow w false i) {n : Nat} (hn : n < 2 ^ 31) (y : Int32) :
    jW C 0 0 (jQQ C 0 0 (fun v w2 => ∃ r, v = jI r ∧ (r = jFor D R n y ∧ ∃ S f x, w2 = jgm w true S f x))) 40 [jR 0 false, jI (nI n), jI y] [] (jgm w true S f x) := by
  have h12 := hW.1.2.1
  refine bk_X9_foresee_40 hm (c_again hR) (by decide) ?_
  refine bq_X9_foresee_51 hm (jgm_run hO hW f x hn _ _ _) (by decide) (fun w2 hp2 => ?_)
  obtain ⟨f2, x2, rfl⟩ := hp2
  have hG := jgm_org (t := true) (R := jHours D n R) (f := f2) (x := x2) hO
  have e10 : (jgm w true (jHours D n R) f2 x2).1 20 ((jgm w true (jHours D n R) f2 x2).2.2 0 6) 10 = nI (D.1 1) := hG.1.2.1
  refine bk_X9_foresee_67 hm ?_ ?_ ?_ ?_
  · intro h; subst h
    refine bk_X9_foresee_96 hm ⟨_, rfl, ?_, _, _, _, rfl⟩
    rw [jgm_now hR (show jpos 14 7 = some 2 from rfl) (by omega), jgm_p (show jpos 14 7 = some 2 from rfl)]
    rfl
  · intro h; subst h
    refine bk_X9_foresee_112 hm ⟨_, rfl, ?_, _, _, _, rfl⟩
    rw [jgm_now hR (show jpos 14 8 = some 3 from rfl) (by omega), jgm_p (show jpos 14 8 = some 3 from rfl)]
    rfl
  · intro h; subst h
    refine bk_X9_foresee_128 hm (by rw [e10]; exact c_pipesSounding _ true (by omega)) (by decide) (bk_X9_foresee_142 hm ⟨_, rfl, ?_, _, _, _, rfl⟩)
    exact congrArg nI (jct_cong (fun k hk => by rw [jgm_17 k (by omega)]))
  · intro n0 n1 n2
    refine bk_X9_foresee_143 hm (by rw [e10]; exact c_siltIn _ true (by omega)) (by decide) (bk_X9_foresee_157 hm ⟨_, rfl, ?_, _, _, _, rfl⟩)
    unfold jFor
    rw [if_neg n0, if_neg n1, if_neg n2]
    exact jsum_cong (fun k hk => jgm_p (jpos_16 (i := k) (by omega)))
theorem c_best_ok {w : JW} {D : JD} {R S f : Nat → Int32} {x : Int32} {C : JC} (hm : jok C MX9_best 7 0 0) (hO : jOrg w (w.2.2 0 6) D) (hW : jWF D) (hR : ∀ i, i < 51 → R i = jrow w false i) {n : Nat} (hn : n < 2 ^ 31) :
    jW C 0 0 (jQQ C 0 0 (fun v w2 => ∃ r, v = jI r ∧ (r = (jBest D R n (D.1 1)).2 ∧ ∃ S f x, w2 = jgm w true S f x))) 21 [jR 0 false, jI (nI n), jU, jU, jU] [] (jgm w true S f x) := by
  have h12 := hW.1.2.1
  have e10 : ∀ T f2 x2, (jgm w true T f2 x2).1 20 ((jgm w true T f2 x2).2.2 0 6) 10 = nI (D.1 1) := fun T f2 x2 => (jgm_org (t := true) (R := T) (f := f2) (x := x2) hO).1.2.1
  refine bk_X9_best_21 hm (c_again hR) (by decide) ?_
  refine bq_X9_best_32 hm (jgm_run hO hW f x hn _ _ _) (by decide) (fun w2 hp2 => ?_)
  obtain ⟨f2, x2, rfl⟩ := hp2
  refine bk_X9_best_48 hm ?_
  have key := jfor (P := fun i => i ≤ D.1 1 → ∀ T f x, jW C 0 0 (jQQ C 0 0 (fun v w2 => ∃ r, v = jI r ∧ (r = (jBest D R n (D.1 1)).2 ∧ ∃ S f x, w2 = jgm w true S f x))) 61 [jR 0 false, jI (nI n), jI (jBest D R n i).1, jI (jBest D R n i).2, jI (nI i)] [] (jgm w true T f x)) (D.1 1) ?_ ?_
  · have k0 := key (by omega) (jHours D n R) f2 x2
    rw [jgm_p (show jpos 14 7 = some 2 from rfl)]
    exact k0
  · exact fun _ T f x => bk_X9_best_61 hm (fun _ => bk_X9_best_141 hm ⟨_, rfl, rfl, _, _, _, rfl⟩) (fun z2 => absurd (by rw [e10]; exact (nI_leI (by omega) (by omega)).mpr (Nat.le_refl _)) z2)
  · intro i hi ih _ T f x
    refine bk_X9_best_61 hm (fun z2 => absurd ((nI_leI (a := D.1 1) (b := i) (by omega) (by omega)).mp (by rw [← e10 T f x]; exact z2)) (by omega)) (fun _ => ?_)
    refine bk_X9_best_73 hm (c_again hR) (by decide) ?_
    refine bk_X9_best_84 hm (c_putN (ja_16 true) (jgm w true R f x) (j := i) 0 (by omega)) (by decide) ?_
    rw [jgm_set (jpos_16 (i := i) (by omega))]
    refine bq_X9_best_97 hm (jgm_run hO hW f x hn _ _ _) (by decide) (fun w2 hp2 => ?_)
    obtain ⟨f3, x3, rfl⟩ := hp2
    have ih2 := ih (by omega) (jHours D n (upd R (9 + i) 0)) f3 x3
    rw [show jBest D R n (i + 1) = if (jBest D R n i).1 < jCln D R n i then (jCln D R n i, nI i) else jBest D R n i from rfl] at ih2
    have e7 : (jgm w true (jHours D n (upd R (9 + i) 0)) f3 x3).1 14 true 7 = jCln D R n i := jgm_p (show jpos 14 7 = some 2 from rfl)
    refine bk_X9_best_113 hm (fun z2 => bk_X9_best_135 hm ?_) (fun z2 => bk_X9_best_124 hm (bk_X9_best_135 hm ?_)) <;> rw [e7] at z2
    · rw [if_neg (fun q => i32_not_lt.mpr z2 q)] at ih2
      rw [nI_1]
      exact ih2
    · rw [if_pos (i32_not_le.mp z2)] at ih2
      rw [nI_1, e7]
      exact ih2
