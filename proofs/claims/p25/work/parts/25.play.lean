/-! the class's hours -/
theorem jgm_hour {w : JW} {t : Bool} {R f : Nat → Int32} {x : Int32} : (jgm w t R f x).1 14 t 5 = R 0 := jgm_p (jpos_14 (i := 0) (by omega))
theorem jgm_tide {w : JW} {t : Bool} {R f : Nat → Int32} {x : Int32} : (jgm w t R f x).1 14 t 6 = R 1 := jgm_p (jpos_14 (i := 1) (by omega))
theorem jgm_heard {w : JW} {t : Bool} {R f : Nat → Int32} {x : Int32} : (jgm w t R f x).1 14 t 7 = R 2 := jgm_p (jpos_14 (i := 2) (by omega))
theorem jgm_cross {w : JW} {t : Bool} {R f : Nat → Int32} {x : Int32} : (jgm w t R f x).1 14 t 8 = R 3 := jgm_p (jpos_14 (i := 3) (by omega))
theorem jhgt_cong {f1 f2 e1 e2 h1 h2 : Nat → Int32} {hour acc : Int32} {n : Nat} (h : ∀ i, i < n → f1 i = f2 i ∧ e1 i = e2 i ∧ h1 i = h2 i) : jhgt f1 e1 h1 hour acc n = jhgt f2 e2 h2 hour acc n := by
  induction n with
  | zero => rfl
  | succ n ih =>
    obtain ⟨a1, a2, a3⟩ := h n (by omega)
    rw [jhgt, jhgt, ih (fun i hi => h i (by omega)), a1, a2, a3]
theorem c_hgtD {w : JW} {o : Bool} {D : JD} (hD : jOrg w o D) (hW : jWF D) (hour tide : Int32) : jF MX8_heightIn 1 [jR 28 o, jI hour, jI tide] w (jI (jHgt D hour tide)) w := by
  have h := c_heightIn w o hour tide hD.1.2.2.2.1 hW.1.2.2.2.1 (fun i hi => by rw [(hD.2.2.2.2.1 i hi).2.1]; exact hW.2.2.2.2.1 i hi)
  have e : jhgt (w.1 31 o) (w.1 30 o) (w.1 29 o) hour (2 * tide) (D.1 3) = jHgt D hour tide := jhgt_cong (fun i hi => ⟨(hD.2.2.2.2.1 i hi).2.2, (hD.2.2.2.2.1 i hi).2.1, (hD.2.2.2.2.1 i hi).1⟩)
  rw [e] at h
  exact h
theorem c_stillD {w : JW} {o : Bool} {D : JD} (hD : jOrg w o D) (hW : jWF D) (hour : Int32) : jF MX8_isStill 1 [jR 28 o, jI hour] w (jI (if jStill D hour then 1 else 0)) w := by
  have h := c_isStill w o hour hD.1.2.2.2.2.1 hW.1.2.2.2.2.1
  have e : jany (fun i => jq1 (w.1 32 o i) (w.1 33 o i) (hour - hour / 24 * 24)) (D.1 4) = jStill D hour := jany_cong (fun i hi => by rw [(hD.2.2.2.2.2.1 i hi).1, (hD.2.2.2.2.2.1 i hi).2])
  rw [e] at h
  exact h
theorem c_needD {w : JW} {o : Bool} {D : JD} (hD : jOrg w o D) (hW : jWF D) {p : Nat} (hp : p < D.1 1) (silt : Int32) : jF MX3_needOf 1 [jR 20 o, jI (nI p), jI silt] w (jI (nI (D.1 (140 + p)) / 2 + silt * (1 + D.2.1 4 p))) w := by
  have h := c_needOf w o (p := p) silt (by have := hW.1.2.1; omega)
  rw [(hD.2.2.1 p hp).2.1, (hD.2.2.1 p hp).2.2] at h
  exact h
theorem c_ringsD {w : JW} {o t : Bool} {D : JD} (hD : jOrg w o D) (hW : jWF D) {R : Nat → Int32} (hR : ∀ j, j < 12 → w.1 17 t j = R (21 + j)) {c : Nat} (hc : c < D.1 2) : jF MX3_chordSounds 2 [jR 20 o, jI (nI c), jR 14 t] w (jI (if jRings D R c then 1 else 0)) w := by
  obtain ⟨h1, h2⟩ := hD.2.2.2.1 c hc
  obtain ⟨w1, w2, w3⟩ := hW.2.2.2.1 c hc
  have h12 := hW.1.2.1
  have h := c_chordSounds w o t (c := c) (s := D.1 (10 + c)) (q := fun p => D.1 (20 + (6 * c + p))) (by have := hW.1.2.2.1; omega) ⟨h1, w2, fun p hp => ⟨h2 p hp, Nat.lt_of_lt_of_le (w3 p hp) h12⟩⟩
  have e : jall (fun p => decide (0 < w.1 17 t (D.1 (20 + (6 * c + p))))) (D.1 (10 + c)) = jRings D R c := jall_cong (fun p hp => by rw [hR _ (by have := w3 p hp; omega)])
  rw [e] at h
  exact h
theorem ite_bool {b : Bool} {x : Int32} (h : x = if b then 1 else 0) : (x = 0 ↔ b = false) ∧ (¬ x = 0 ↔ b = true) := by
  subst h
  cases b <;> decide
theorem jz_bool (b : Bool) : narrow .boolean (.int (if b then 1 else 0)) = .int (if b then 1 else 0) := by cases b <;> rfl
theorem c_isShut {w : JW} {o t : Bool} {D : JD} (hD : jOrg w o D) (hW : jWF D) (R f : Nat → Int32) (x : Int32) {c : Nat} (hc : c < D.1 0) :
    jSI MX4_isShut 4 [jR 11 false, jR 20 o, jR 14 t, jI (nI c)] (jgm w t R f x) (fun r w' => r = (if jShut D R c then 1 else 0) ∧ ∃ f x, w' = jgm w t R f x) := by
  refine jSI_of jp_X4_isShut rfl (Nat.le_of_ble_eq_true rfl) (fun C hm => ?_)
  have hcn := hW.1.1
  have h16 := hW.1.2.2.2.2.2
  have hD2 : ∀ f x, jOrg (jgm w t R f x) o D := fun f x => jgm_org hD
  refine bk_X4_isShut_0 hm (by rw [jgm_hour]; exact c_stillD (hD2 f x) hW (R 0)) (by decide) ?_
  cases hs : jStill D (R 0) with
  | true =>
    refine bk_X4_isShut_11 hm (fun q => absurd q (by decide)) (fun _ => bk_X4_isShut_14 hm ⟨_, rfl, ?_, f, x, rfl⟩)
    unfold jShut
    rw [hs]
    rfl
  | false =>
    refine bk_X4_isShut_11 hm (fun _ => ?_) (fun q => absurd rfl q)
    refine bk_X4_isShut_16 hm ?_
    let q : Nat → Bool := fun j => decide (D.2.1 12 j = 15) && (decide (D.1 (120 + j) = c) && D.2.2 j R)
    have hq : jShut D R c = jany q (D.1 5) := by
      unfold jShut
      rw [hs]
      rfl
    refine jfor (P := fun j => j ≤ D.1 5 → jany q j = false → ∀ f x, jW C 0 0 (jQQ C 0 0 (fun v w' => ∃ r, v = jI r ∧ r = (if jShut D R c then 1 else 0) ∧ ∃ f x, w' = jgm w t R f x)) 25 [jR 11 false, jU, jR 14 t, jI (nI c), jR 34 o, jI (nI j)] [] (jgm w t R f x)) (D.1 5) ?_ ?_ (Nat.zero_le _) rfl f x
    · intro _ ha f x
      refine bk_X4_isShut_25 hm (fun _ => bk_X4_isShut_87 hm ⟨_, rfl, ?_, f, x, rfl⟩) (fun z => absurd (by rw [(hD2 f x).1.2.2.2.2.2]; exact (nI_leI (by omega) (by omega)).mpr (Nat.le_refl _)) z)
      rw [hq, ha]
      rfl
    · intro j hj ih _ ha f x
      have hno : q j = false → ∀ f x, jW C 0 0 (jQQ C 0 0 (fun v w' => ∃ r, v = jI r ∧ r = (if jShut D R c then 1 else 0) ∧ ∃ f x, w' = jgm w t R f x)) 81 [jR 11 false, jU, jR 14 t, jI (nI c), jR 34 o, jI (nI j)] [] (jgm w t R f x) := by
        intro z f x
        refine bk_X4_isShut_81 hm ?_
        rw [nI_1]
        exact ih (by omega) (by rw [jany, ha, z]; rfl) f x
      obtain ⟨d1, d2, -⟩ := (hD2 f x).2.2.2.2.2.2 j hj
      refine bk_X4_isShut_25 hm (fun z => absurd ((nI_leI (a := D.1 5) (b := j) (by omega) (by omega)).mp (by rw [← (hD2 f x).1.2.2.2.2.2]; exact z)) (by omega)) (fun _ => ?_)
      refine bk_X4_isShut_35 hm (c_atN (ja_35 o) _ (by omega)) (by decide) ?_
      rw [d1]
      refine bk_X4_isShut_45 hm (fun z => hno ?_ f x) (fun z => ?_)
      · show (decide (D.2.1 12 j = 15) && (decide (D.1 (120 + j) = c) && D.2.2 j R)) = false
        simp [z]
      · refine bk_X4_isShut_50 hm (c_atN (ja_36 o) _ (by omega)) (by decide) ?_
        rw [d2]
        have ht : D.1 (120 + j) < 2 ^ 31 := by
          rcases hW.2.2.2.2.2 j hj with h | h
          · have := h.2; omega
          · have := h.2; have := hW.1.2.1; omega
        refine bk_X4_isShut_60 hm (fun z2 => hno ?_ f x) (fun z2 => ?_)
        · have n : ¬ D.1 (120 + j) = c := fun e => z2 (by rw [e])
          show (decide (D.2.1 12 j = 15) && (decide (D.1 (120 + j) = c) && D.2.2 j R)) = false
          simp [n]
        · have e2 : D.1 (120 + j) = c := (nI_eq ht (by omega)).mp z2
          refine bq_X4_isShut_64 hm (c_holdsD (hD2 f x) hW jgm_row hj) (by decide) (fun r w2 hp => ?_)
          obtain ⟨hr, f2, x2, rfl⟩ := hp
          rw [jgm_gar]
          refine bk_X4_isShut_76 hm (fun z3 => hno ?_ f2 x2) (fun z3 => bk_X4_isShut_79 hm ⟨_, rfl, ?_, f2, x2, rfl⟩)
          · have n := (ite_bool hr).1.mp z3
            show (decide (D.2.1 12 j = 15) && (decide (D.1 (120 + j) = c) && D.2.2 j R)) = false
            simp [n]
          · have y := (ite_bool hr).2.mp z3
            rw [hq, jany_of (f := q) hj]
            · rfl
            · show (decide (D.2.1 12 j = 15) && (decide (D.1 (120 + j) = c) && D.2.2 j R)) = true
              simp [z, e2, y]
theorem jIter_keep {F : Nat → (Nat → Int32) → Nat → Int32} {i : Nat} (h : ∀ n R, F n R i = R i) : ∀ (n : Nat) (R : Nat → Int32), jIter F n R i = R i := by
  intro n
  induction n with
  | zero => intro R; rfl
  | succ n ih => intro R; rw [jIter, h, ih]
theorem jPress1_keep {D : JD} {i : Nat} (hi : i < 4) (n : Nat) (R : Nat → Int32) : jPress1 D n R i = R i := by
  unfold jPress1 upd
  rw [if_neg (by omega)]
theorem c_pressCaves {w : JW} {o t : Bool} {D : JD} (hD : jOrg w o D) (hW : jWF D) (R f : Nat → Int32) (x : Int32) :
    jSV MX4_pressCaves 5 [jR 11 false, jR 20 o, jR 14 t] (jgm w t R f x) (fun w' => ∃ f x, w' = jgm w t (jIter (jPress1 D) (D.1 0) R) f x) := by
  refine jSV_of jp_X4_pressCaves rfl (Nat.le_of_ble_eq_true rfl) (fun C hm => ?_)
  have hcn := hW.1.1
  have hD2 : ∀ R f x, jOrg (jgm w t R f x) o D := fun R f x => jgm_org hD
  refine bk_X4_pressCaves_0 hm (by rw [jgm_hour, jgm_tide]; exact c_hgtD (hD2 R f x) hW (R 0) (R 1)) (by decide) (bk_X4_pressCaves_15 hm ?_)
  refine jfor (P := fun i => i ≤ D.1 0 → ∀ f x, jW C 0 0 (jQQ C 0 0 (fun v w' => v = jU ∧ ∃ f x, w' = jgm w t (jIter (jPress1 D) (D.1 0) R) f x)) 19 [jR 11 false, jR 20 o, jR 14 t, jI (jHgt D (R 0) (R 1)), jI (nI i), jU, jU] [] (jgm w t (jIter (jPress1 D) i R) f x)) (D.1 0) ?_ ?_ (Nat.zero_le _) f x
  · intro _ f x
    exact bk_X4_pressCaves_19 hm (fun _ => bk_X4_pressCaves_113 hm ⟨rfl, f, x, rfl⟩) (fun z => absurd (by rw [(hD2 _ f x).1.1]; exact (nI_leI (by omega) (by omega)).mpr (Nat.le_refl _)) z)
  · intro i hi ih _ f x
    refine bk_X4_pressCaves_19 hm (fun z => absurd ((nI_leI (a := D.1 0) (b := i) (by omega) (by omega)).mp (by rw [← (hD2 _ f x).1.1]; exact z)) (by omega)) (fun _ => ?_)
    have hR0 : ∀ k, k < 4 → jIter (jPress1 D) i R k = R k := fun k hk => jIter_keep (fun n R => jPress1_keep hk n R) i R
    generalize hRi : jIter (jPress1 D) i R = Ri at hR0
    have ih2 := ih (by omega)
    rw [jIter, hRi] at ih2
    have hdeep : (jgm w t Ri f x).1 22 o i = D.2.1 1 i := ((hD2 Ri f x).2.1 i hi).2
    refine bk_X4_pressCaves_28 hm (c_atN (ja_22 o) _ (by omega)) (by decide) ?_
    rw [hdeep]
    refine bq_X4_pressCaves_37 hm (c_isShut hD hW Ri f x hi) (by decide) (fun r w2 hp => ?_)
    obtain ⟨hr, f2, x2, rfl⟩ := hp
    have e1 := ite_bool hr
    refine bk_X4_pressCaves_47 hm (fun z => ?_) (fun z => ?_)
    · have hs := e1.2.mp z
      refine bk_X4_pressCaves_55 hm (c_putN (ja_15 t) _ 0 (by omega)) (by decide) (bk_X4_pressCaves_65 hm (bk_X4_pressCaves_107 hm ?_))
      rw [jgm_set (jpos_15 (by omega)), nI_1]
      have := ih2 f2 x2
      unfold jPress1 at this
      rw [if_pos hs] at this
      exact this
    · have hs := e1.1.mp z
      refine bk_X4_pressCaves_50 hm (fun z2 => ?_) (fun z2 => absurd z2 (hW.2.1 i hi))
      refine bk_X4_pressCaves_68 hm (c_atN (ja_15 t) _ (by omega)) (by decide) ?_
      refine bk_X4_pressCaves_77 hm (c_atN (ja_21 o) _ (by omega)) (by decide) ?_
      rw [jgm_p (jpos_15 (by omega)), ((hD2 Ri f2 x2).2.1 i hi).1]
      refine bk_X4_pressCaves_99 hm z2 (c_putN (ja_15 t) _ _ (by omega)) (by decide) (bk_X4_pressCaves_107 hm ?_)
      rw [jgm_set (jpos_15 (by omega)), nI_1]
      have := ih2 f2 x2
      unfold jPress1 at this
      rw [hs, hR0 0 (by omega), hR0 1 (by omega)] at this
      exact this
theorem c_soundPipes {w : JW} {o t : Bool} {D : JD} (hD : jOrg w o D) (hW : jWF D) (R f : Nat → Int32) (x : Int32) :
    jF MX4_soundPipes 2 [jR 11 false, jR 20 o, jR 14 t] (jgm w t R f x) jU (jgm w t (jIter (jBlow1 D) (D.1 1) R) f x) := by
  refine jF_of jp_X4_soundPipes rfl (Nat.le_of_ble_eq_true rfl) (fun C hm => ?_)
  have hpn := hW.1.2.1
  have hcn := hW.1.1
  have hD2 : ∀ R, jOrg (jgm w t R f x) o D := fun R => jgm_org hD
  refine bk_X4_soundPipes_0 hm ?_
  refine jfor (P := fun i => i ≤ D.1 1 → jW C 0 0 (jQQ C 0 0 (fun v w' => v = jU ∧ w' = jgm w t (jIter (jBlow1 D) (D.1 1) R) f x)) 2 [jU, jR 20 o, jR 14 t, jI (nI i), jU, jU] [] (jgm w t (jIter (jBlow1 D) i R) f x)) (D.1 1) ?_ ?_ (Nat.zero_le _)
  · intro _
    exact bk_X4_soundPipes_2 hm (fun _ => bk_X4_soundPipes_93 hm ⟨rfl, rfl⟩) (fun z => absurd (by rw [(hD2 _).1.2.1]; exact (nI_leI (by omega) (by omega)).mpr (Nat.le_refl _)) z)
  · intro i hi ih _
    refine bk_X4_soundPipes_2 hm (fun z => absurd ((nI_leI (a := D.1 1) (b := i) (by omega) (by omega)).mp (by rw [← (hD2 _).1.2.1]; exact z)) (by omega)) (fun _ => ?_)
    generalize hRi : jIter (jBlow1 D) i R = Ri
    have ih2 := ih (by omega)
    rw [jIter, hRi] at ih2
    obtain ⟨hh, -, -⟩ := hW.2.2.1 i hi
    refine bk_X4_soundPipes_10 hm (c_atN (ja_23 o) _ (by omega)) (by decide) ?_
    rw [((hD2 Ri).2.2.1 i hi).1]
    refine bk_X4_soundPipes_22 hm (c_atN (ja_15 t) _ (by omega)) (by decide) ?_
    rw [jgm_p (jpos_15 (by omega))]
    refine bk_X4_soundPipes_25 hm (c_atN (ja_16 t) _ (by omega)) (by decide) ?_
    rw [jgm_p (jpos_16 (by omega))]
    refine bk_X4_soundPipes_37 hm (c_needD (hD2 Ri) hW hi _) (by decide) ?_
    refine bk_X4_soundPipes_40 hm (by decide) (c_putN (ja_17 t) _ _ (by omega)) (by decide) ?_
    rw [jgm_set (jpos_17 (by omega))]
    refine bk_X4_soundPipes_61 hm (c_sounds _ t (by omega)) (by decide) ?_
    rw [jgm_p (jpos_17 (by omega))]
    have eL : upd Ri (21 + i) (jLoud D Ri i) (21 + i) = jLoud D Ri i := if_pos rfl
    have eL2 : (if 0 < Ri (4 + D.1 (100 + i)) - (nI (D.1 (140 + i)) / 2 + Ri (9 + i) * (1 + D.2.1 4 i)) + 1 then Ri (4 + D.1 (100 + i)) - (nI (D.1 (140 + i)) / 2 + Ri (9 + i) * (1 + D.2.1 4 i)) + 1 else 0) = jLoud D Ri i := rfl
    rw [eL2, eL]
    have e33 : upd Ri (21 + i) (jLoud D Ri i) (33 + i) = Ri (33 + i) := if_neg (by omega)
    unfold jBlow1 at ih2
    refine bk_X4_soundPipes_66 hm (fun z => ?_) (fun z => ?_)
    · refine bk_X4_soundPipes_87 hm ?_
      rw [nI_1]
      by_cases y : 0 < jLoud D Ri i
      · rw [if_pos y] at z; exact absurd z (by decide)
      · rw [if_neg y, Int32.add_zero] at ih2
        have e : upd (upd Ri (21 + i) (jLoud D Ri i)) (33 + i) (Ri (33 + i)) = upd Ri (21 + i) (jLoud D Ri i) := by
          funext j
          show (if j = 33 + i then Ri (33 + i) else upd Ri (21 + i) (jLoud D Ri i) j) = _
          by_cases q : j = 33 + i
          · rw [if_pos q, q, e33]
          · rw [if_neg q]
        rw [e] at ih2
        exact ih2
    · refine bk_X4_soundPipes_69 hm (c_atN (ja_18 t) _ (by omega)) (by decide) ?_
      rw [jgm_p (jpos_18 (by omega)), e33]
      refine bk_X4_soundPipes_82 hm (c_putN (ja_18 t) _ _ (by omega)) (by decide) (bk_X4_soundPipes_87 hm ?_)
      rw [jgm_set (jpos_18 (by omega)), nI_1]
      by_cases y : 0 < jLoud D Ri i
      · rw [if_pos y] at ih2
        exact ih2
      · rw [if_neg y] at z; exact absurd rfl z
theorem i32_6 {x : Int32} : x < 6 ↔ ¬ 6 ≤ x := by
  rw [Int32.lt_iff_toInt_lt, Int32.le_iff_toInt_le]
  omega
theorem i32_1le {x : Int32} : x < 1 ↔ ¬ 1 ≤ x := by
  rw [Int32.lt_iff_toInt_lt, Int32.le_iff_toInt_le]
  omega
theorem upd_id {R : Nat → Int32} {i : Nat} : upd R i (R i) = R := by
  funext j
  unfold upd
  by_cases h : j = i
  · rw [if_pos h, h]
  · rw [if_neg h]
theorem c_siltPipes {w : JW} {o t : Bool} {D : JD} (hD : jOrg w o D) (hW : jWF D) (R f : Nat → Int32) (x : Int32) :
    jF MX4_siltPipes 2 [jR 11 false, jR 20 o, jR 14 t] (jgm w t R f x) jU (jgm w t (jIter (jSettle1 D) (D.1 1) R) f x) := by
  refine jF_of jp_X4_siltPipes rfl (Nat.le_of_ble_eq_true rfl) (fun C hm => ?_)
  have hpn := hW.1.2.1
  have hcn := hW.1.1
  have hD2 : ∀ R, jOrg (jgm w t R f x) o D := fun R => jgm_org hD
  refine bk_X4_siltPipes_0 hm ?_
  refine jfor (P := fun i => i ≤ D.1 1 → jW C 0 0 (jQQ C 0 0 (fun v w' => v = jU ∧ w' = jgm w t (jIter (jSettle1 D) (D.1 1) R) f x)) 2 [jU, jR 20 o, jR 14 t, jI (nI i), jU] [] (jgm w t (jIter (jSettle1 D) i R) f x)) (D.1 1) ?_ ?_ (Nat.zero_le _)
  · intro _
    exact bk_X4_siltPipes_2 hm (fun _ => bk_X4_siltPipes_111 hm ⟨rfl, rfl⟩) (fun z => absurd (by rw [(hD2 _).1.2.1]; exact (nI_leI (by omega) (by omega)).mpr (Nat.le_refl _)) z)
  · intro i hi ih _
    refine bk_X4_siltPipes_2 hm (fun z => absurd ((nI_leI (a := D.1 1) (b := i) (by omega) (by omega)).mp (by rw [← (hD2 _).1.2.1]; exact z)) (by omega)) (fun _ => ?_)
    generalize hRi : jIter (jSettle1 D) i R = Ri
    have ih2 := ih (by omega)
    rw [jIter, hRi] at ih2
    unfold jSettle1 jSilt at ih2
    obtain ⟨hh, -, -⟩ := hW.2.2.1 i hi
    have same : jSilt D Ri i = Ri (9 + i) → jW C 0 0 (jQQ C 0 0 (fun v w' => v = jU ∧ w' = jgm w t (jIter (jSettle1 D) (D.1 1) R) f x)) 105 [jU, jR 20 o, jR 14 t, jI (nI i), jU] [] (jgm w t Ri f x) := by
      intro e
      refine bk_X4_siltPipes_105 hm ?_
      rw [nI_1]
      have e2 : upd Ri (9 + i) (jSilt D Ri i) = Ri := by rw [e]; exact upd_id
      unfold jSilt at e2
      rw [e2] at ih2
      exact ih2
    refine bk_X4_siltPipes_10 hm (c_atN (ja_16 t) _ (by omega)) (by decide) ?_
    rw [jgm_p (jpos_16 (by omega))]
    refine bk_X4_siltPipes_18 hm (c_atN (ja_17 t) _ (by omega)) (by decide) ?_
    rw [jgm_p (jpos_17 (by omega))]
    refine bk_X4_siltPipes_28 hm (fun z => ?_) (fun z => ?_)
    · have n6 : ¬ 6 ≤ Ri (21 + i) := i32_6.mp z
      refine bk_X4_siltPipes_52 hm (c_sounds _ t (by omega)) (by decide) ?_
      rw [jgm_p (jpos_17 (by omega))]
      refine bk_X4_siltPipes_57 hm (fun z2 => same ?_) (fun z2 => ?_)
      · unfold jSilt
        rw [if_neg n6, if_neg]
        rintro ⟨q, -⟩
        rw [if_neg q] at z2
        exact z2 rfl
      · have n0 : ¬ 0 < Ri (21 + i) := by
          intro q
          rw [if_pos q] at z2
          exact absurd z2 (by decide)
        refine bk_X4_siltPipes_60 hm (c_atN (ja_23 o) _ (by omega)) (by decide) ?_
        rw [((hD2 Ri).2.2.1 i hi).1]
        refine bk_X4_siltPipes_72 hm (c_atN (ja_15 t) _ (by omega)) (by decide) ?_
        rw [jgm_p (jpos_15 (by omega))]
        refine bk_X4_siltPipes_75 hm (fun z3 => same ?_) (fun z3 => ?_)
        · unfold jSilt
          rw [if_neg n6, if_neg (fun q => i32_1le.mp z3 q.2)]
        · refine bk_X4_siltPipes_79 hm (c_atN (ja_25 o) _ (by omega)) (by decide) ?_
          rw [((hD2 Ri).2.2.1 i hi).2.2]
          refine bk_X4_siltPipes_98 hm (by decide) (c_putN (ja_16 t) _ _ (by omega)) (by decide) (bk_X4_siltPipes_105 hm ?_)
          rw [jgm_set (jpos_16 (by omega)), nI_1]
          rw [if_neg n6, if_pos ⟨n0, Classical.not_not.mp (fun q => z3 (i32_1le.mpr q))⟩] at ih2
          exact ih2
    · refine bk_X4_siltPipes_33 hm (by decide) (c_putN (ja_16 t) _ _ (by omega)) (by decide) (bk_X4_siltPipes_49 hm (bk_X4_siltPipes_105 hm ?_))
      rw [jgm_set (jpos_16 (by omega)), nI_1]
      rw [if_pos (Classical.not_not.mp (fun q => z (i32_6.mpr q)))] at ih2
      exact ih2
theorem c_cleanByOrders {w : JW} {o t : Bool} {D : JD} (hD : jOrg w o D) (hW : jWF D) (R f : Nat → Int32) (x : Int32) :
    jSV MX4_cleanByOrders 4 [jR 11 false, jR 20 o, jR 14 t] (jgm w t R f x) (fun w' => ∃ f x, w' = jgm w t (jIter (jClean1 D) (D.1 5) R) f x) := by
  refine jSV_of jp_X4_cleanByOrders rfl (Nat.le_of_ble_eq_true rfl) (fun C hm => ?_)
  have h16 := hW.1.2.2.2.2.2
  have hpn := hW.1.2.1
  have hD2 : ∀ R f x, jOrg (jgm w t R f x) o D := fun R f x => jgm_org hD
  refine bk_X4_cleanByOrders_0 hm ?_
  refine jfor (P := fun i => i ≤ D.1 5 → ∀ f x, jW C 0 0 (jQQ C 0 0 (fun v w' => v = jU ∧ ∃ f x, w' = jgm w t (jIter (jClean1 D) (D.1 5) R) f x)) 8 [jR 11 false, jU, jR 14 t, jR 34 o, jI (nI i)] [] (jgm w t (jIter (jClean1 D) i R) f x)) (D.1 5) ?_ ?_ (Nat.zero_le _) f x
  · intro _ f x
    exact bk_X4_cleanByOrders_8 hm (fun _ => bk_X4_cleanByOrders_68 hm ⟨rfl, f, x, rfl⟩) (fun z => absurd (by rw [(hD2 _ f x).1.2.2.2.2.2]; exact (nI_leI (by omega) (by omega)).mpr (Nat.le_refl _)) z)
  · intro i hi ih _ f x
    refine bk_X4_cleanByOrders_8 hm (fun z => absurd ((nI_leI (a := D.1 5) (b := i) (by omega) (by omega)).mp (by rw [← (hD2 _ f x).1.2.2.2.2.2]; exact z)) (by omega)) (fun _ => ?_)
    generalize hRi : jIter (jClean1 D) i R = Ri
    have ih2 := ih (by omega)
    rw [jIter, hRi] at ih2
    unfold jClean1 at ih2
    obtain ⟨d1, d2, -⟩ := (hD2 Ri f x).2.2.2.2.2.2 i hi
    have same : ¬ (D.2.1 12 i = 16 ∧ D.2.2 i Ri = true) → ∀ f x, jW C 0 0 (jQQ C 0 0 (fun v w' => v = jU ∧ ∃ f x, w' = jgm w t (jIter (jClean1 D) (D.1 5) R) f x)) 62 [jR 11 false, jU, jR 14 t, jR 34 o, jI (nI i)] [] (jgm w t Ri f x) := by
      intro z f x
      refine bk_X4_cleanByOrders_62 hm ?_
      rw [nI_1]
      rw [if_neg z] at ih2
      exact ih2 f x
    refine bk_X4_cleanByOrders_17 hm (c_atN (ja_35 o) _ (by omega)) (by decide) ?_
    rw [d1]
    refine bk_X4_cleanByOrders_26 hm (fun z => same (fun q => z q.1) f x) (fun z => ?_)
    refine bq_X4_cleanByOrders_31 hm (c_holdsD (hD2 Ri f x) hW jgm_row hi) (by decide) (fun r w2 hp => ?_)
    obtain ⟨hr, f2, x2, rfl⟩ := hp
    rw [jgm_gar]
    refine bk_X4_cleanByOrders_42 hm (fun z3 => same (fun q => ?_) f2 x2) (fun z3 => ?_)
    · have n := (ite_bool hr).1.mp z3
      rw [n] at q
      exact absurd q.2 (by decide)
    · have y := (ite_bool hr).2.mp z3
      have ht : D.1 (120 + i) < D.1 1 := by
        rcases hW.2.2.2.2.2 i hi with h | h
        · rw [h.1] at z; exact absurd z (by decide)
        · exact h.2
      refine bk_X4_cleanByOrders_45 hm (c_atN (ja_36 o) _ (by omega)) (by decide) ?_
      rw [((hD2 Ri f2 x2).2.2.2.2.2.2 i hi).2.1]
      refine bk_X4_cleanByOrders_58 hm (c_putN (ja_16 t) _ _ (by omega)) (by decide) (bk_X4_cleanByOrders_62 hm ?_)
      rw [jgm_set (jpos_16 (by omega)), nI_1]
      rw [if_pos ⟨z, y⟩] at ih2
      exact ih2 f2 x2
