/-! chords, and hours that go by -/
theorem i32_21 {x : Int32} : 21 < x ↔ ¬ x ≤ 21 := by
  rw [Int32.lt_iff_toInt_lt, Int32.le_iff_toInt_le]
  omega
theorem c_soundChords {w : JW} {o t : Bool} {D : JD} (hD : jOrg w o D) (hW : jWF D) (R f : Nat → Int32) (x : Int32) :
    jF MX4_soundChords 3 [jR 11 false, jR 20 o, jR 14 t] (jgm w t R f x) jU (jgm w t (jIter (jChord1 D) (D.1 2) R) f x) := by
  refine jF_of jp_X4_soundChords rfl (Nat.le_of_ble_eq_true rfl) (fun C hm => ?_)
  have hcn := hW.1.2.2.1
  have hpn := hW.1.2.1
  have hD2 : ∀ R, jOrg (jgm w t R f x) o D := fun R => jgm_org hD
  refine bk_X4_soundChords_0 hm (c_hourOfDay _ t) (by decide) ?_
  rw [jgm_hour]
  -- whether it is day
  let L : Prop := 6 ≤ R 0 - R 0 / 24 * 24 ∧ R 0 - R 0 / 24 * 24 ≤ 21
  have main : ∀ l : Int32, (l = 0 ↔ ¬ L) → jW C 0 0 (jQQ C 0 0 (fun v w' => v = jU ∧ w' = jgm w t (jIter (jChord1 D) (D.1 2) R) f x)) 22 [jU, jR 20 o, jR 14 t, jU, jU, jU, jU] [jI l] (jgm w t R f x) := by
    intro l hl
    refine bk_X4_soundChords_22 hm ?_
    refine jfor (P := fun i => i ≤ D.1 2 → jW C 0 0 (jQQ C 0 0 (fun v w' => v = jU ∧ w' = jgm w t (jIter (jChord1 D) (D.1 2) R) f x)) 27 [jU, jR 20 o, jR 14 t, jU, jI l, jI (nI i), jU] [] (jgm w t (jIter (jChord1 D) i R) f x)) (D.1 2) ?_ ?_ (Nat.zero_le _)
    · intro _
      exact bk_X4_soundChords_27 hm (fun _ => bk_X4_soundChords_120 hm ⟨rfl, rfl⟩) (fun z => absurd (by rw [(hD2 _).1.2.2.1]; exact (nI_leI (by omega) (by omega)).mpr (Nat.le_refl _)) z)
    · intro i hi ih _
      refine bk_X4_soundChords_27 hm (fun z => absurd ((nI_leI (a := D.1 2) (b := i) (by omega) (by omega)).mp (by rw [← (hD2 _).1.2.2.1]; exact z)) (by omega)) (fun _ => ?_)
      have hR0 : jIter (jChord1 D) i R 0 = R 0 := by
        refine jIter_keep (fun n R => ?_) i R
        unfold jChord1
        split
        · unfold upd
          rw [if_neg (by omega), if_neg (by omega), if_neg (by omega)]
        · rfl
      generalize hRi : jIter (jChord1 D) i R = Ri at hR0
      have ih2 := ih (by omega)
      rw [jIter, hRi] at ih2
      unfold jChord1 at ih2
      rw [hR0] at ih2
      refine bk_X4_soundChords_36 hm (c_ringsD (hD2 Ri) hW (fun j hj => jgm_p (jpos_17 hj)) hi) (by decide) ?_
      cases hr : jRings D Ri i with
      | false =>
        rw [hr] at ih2
        refine bk_X4_soundChords_43 hm (fun _ => bk_X4_soundChords_114 hm ?_) (fun z => absurd rfl z)
        rw [nI_1]
        exact ih2
      | true =>
        rw [hr, if_pos rfl] at ih2
        refine bk_X4_soundChords_43 hm (fun z => absurd z (by decide)) (fun _ => ?_)
        refine bk_X4_soundChords_46 hm (c_sizeOf _ o (by omega)) (by decide) ?_
        rw [((hD2 Ri).2.2.2.1 i hi).1]
        have tail : ∀ (a b : Int32), jW C 0 0 (jQQ C 0 0 (fun v w' => v = jU ∧ w' = jgm w t (jIter (jChord1 D) (D.1 2) R) f x)) 27 [jU, jR 20 o, jR 14 t, jU, jI l, jI (nI (i + 1)), jU] [] (jgm w t (upd (upd (upd Ri 2 (Ri 2 + a)) 3 (Ri 3 + b)) (45 + i) (Ri (45 + i) + 1)) f x) → jW C 0 0 (jQQ C 0 0 (fun v w' => v = jU ∧ w' = jgm w t (jIter (jChord1 D) (D.1 2) R) f x)) 90 [jU, jR 20 o, jR 14 t, jU, jI l, jI (nI i), jU] [jI b, jI (Ri 3), jR 14 t] (jgm w t (upd Ri 2 (Ri 2 + a)) f x) := by
          intro a b h
          refine bk_X4_soundChords_90 hm (d2 := 0) (r := Ri (45 + i)) (w2 := jgm w t (upd (upd Ri 2 (Ri 2 + a)) 3 (Ri 3 + b)) f x) ?_ (by decide) ?_
          · have e8 : jset (jgm w t (upd Ri 2 (Ri 2 + a)) f x) 14 t 8 (Ri 3 + b) = jgm w t (upd (upd Ri 2 (Ri 2 + a)) 3 (Ri 3 + b)) f x := jgm_set (jpos_14 (i := 3) (by omega))
            rw [e8]
            have := c_atN (ja_19 t) (jgm w t (upd (upd Ri 2 (Ri 2 + a)) 3 (Ri 3 + b)) f x) (j := i) (by omega)
            rw [jgm_p (jpos_19 (by omega))] at this
            have e9 : upd (upd Ri 2 (Ri 2 + a)) 3 (Ri 3 + b) (45 + i) = Ri (45 + i) := by
              unfold upd
              rw [if_neg (by omega), if_neg (by omega)]
            rw [e9] at this
            exact this
          · refine bk_X4_soundChords_109 hm (c_putN (ja_19 t) _ _ (by omega)) (by decide) (bk_X4_soundChords_114 hm ?_)
            rw [jgm_set (jpos_19 (by omega)), nI_1]
            exact h
        have e7 : ∀ a, jset (jgm w t Ri f x) 14 t 7 (Ri 2 + a) = jgm w t (upd Ri 2 (Ri 2 + a)) f x := fun a => jgm_set (jpos_14 (i := 2) (by omega))
        have e3 : ∀ a, (jgm w t (upd Ri 2 (Ri 2 + a)) f x).1 14 t 8 = Ri 3 := fun a => jgm_cross.trans (if_neg (by omega))
        refine bk_X4_soundChords_52 hm (fun z => ?_) (fun z => ?_)
        · have nL : ¬ L := hl.mp z
          rw [jgm_heard]
          refine bk_X4_soundChords_69 hm (bk_X4_soundChords_70 hm (fun _ => ?_) (fun z2 => absurd z z2))
          rw [e7, e3]
          refine bk_X4_soundChords_88 hm (tail 0 _ ?_)
          rw [if_neg nL, if_neg nL] at ih2
          exact ih2
        · have yL : L := Classical.not_not.mp (fun q => z (hl.mpr q))
          rw [jgm_heard]
          refine bk_X4_soundChords_64 hm (bk_X4_soundChords_70 hm (fun z2 => absurd z2 z) (fun _ => ?_))
          rw [e7, e3]
          refine bk_X4_soundChords_84 hm (tail _ 0 ?_)
          rw [if_pos yL, if_pos yL] at ih2
          exact ih2
  refine bk_X4_soundChords_4 hm (fun z => bk_X4_soundChords_21 hm (main 0 ⟨fun _ q => i32_6.mp z q.1, fun _ => rfl⟩)) (fun z => bk_X4_soundChords_11 hm (fun z2 => bk_X4_soundChords_21 hm (main 0 ⟨fun _ q => i32_21.mp z2 q.2, fun _ => rfl⟩)) (fun z2 => bk_X4_soundChords_17 hm (main 1 ⟨fun q => absurd q (by decide), fun q => absurd ⟨Classical.not_not.mp (fun y => z (i32_6.mpr y)), Classical.not_not.mp (fun y => z2 (i32_21.mpr y))⟩ q⟩)))
/-- hours go by over the moment t -/
theorem c_run {w : JW} {o t : Bool} {D : JD} (hD : jOrg w o D) (hW : jWF D) (R f : Nat → Int32) (x : Int32) {n : Nat} (hn : n < 2 ^ 31) :
    jSV MX4_run 6 [jR 11 false, jR 20 o, jR 14 t, jI (nI n)] (jgm w t R f x) (fun w' => ∃ f x, w' = jgm w t (jHours D n R) f x) := by
  refine jSV_of jp_X4_run rfl (Nat.le_of_ble_eq_true rfl) (fun C hm => ?_)
  refine bk_X4_run_0 hm ?_
  refine jfor (P := fun i => i ≤ n → ∀ f x, jW C 0 0 (jQQ C 0 0 (fun v w' => v = jU ∧ ∃ f x, w' = jgm w t (jHours D n R) f x)) 3 [jR 11 false, jR 20 o, jR 14 t, jI (nI n), jI (nI i)] [] (jgm w t (jHours D i R) f x)) n ?_ ?_ (Nat.zero_le _) f x
  · intro _ f x
    exact bk_X4_run_3 hm (fun _ => bk_X4_run_55 hm ⟨rfl, f, x, rfl⟩) (fun z => absurd ((nI_leI hn hn).mpr (Nat.le_refl _)) z)
  · intro i hi ih _ f x
    refine bk_X4_run_3 hm (fun z => absurd ((nI_leI (a := n) (b := i) hn (by omega)).mp z) (by omega)) (fun _ => ?_)
    have ih2 := ih (by omega)
    rw [jHours] at ih2
    generalize jHours D i R = Ri at ih2 ⊢
    unfold jHour at ih2
    refine bq_X4_run_9 hm (c_pressCaves hD hW Ri f x) (by decide) (fun w2 hp => ?_)
    obtain ⟨f2, x2, rfl⟩ := hp
    refine bk_X4_run_15 hm (c_soundPipes hD hW _ f2 x2) (by decide) ?_
    refine bk_X4_run_21 hm (c_siltPipes hD hW _ f2 x2) (by decide) ?_
    refine bq_X4_run_27 hm (c_cleanByOrders hD hW _ f2 x2) (by decide) (fun w3 hp => ?_)
    obtain ⟨f3, x3, rfl⟩ := hp
    refine bk_X4_run_33 hm (c_soundChords hD hW _ f3 x3) (by decide) ?_
    refine bk_X4_run_39 hm ?_
    rw [jgm_hour, jgm_set (jpos_14 (i := 0) (by omega)), nI_1]
    exact ih2 f3 x3
