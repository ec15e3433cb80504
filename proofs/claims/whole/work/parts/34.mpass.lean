/-! the reference's hours -/
theorem i32_0lt (x : Int32) : (if 0 < x then x else 0) ≤ 0 ↔ ¬ 0 < (if 0 < x then x else 0) := i32_le0
theorem c_mblow {w : JW} {D : JD} (hB : jBk w (w.2.2 41 8) D) (hW : jWF D) {k : Nat} (hA : jIA k false 51) {p : Nat} (hp : p < D.1 1) : jF MX11_blow 2 [jR 41 false, jR k false, jI (nI p)] w jU (jfn w k false (jBlow1 D p (w.1 k false))) := by
  refine jF_of jp_X11_blow rfl (Nat.le_of_ble_eq_true rfl) (fun C hm => ?_)
  have h12 := hW.1.2.1
  have h5 := hW.1.1
  obtain ⟨hh, -, -⟩ := hW.2.2.1 p hp
  have b1 := (hB.2.2.1 p hp).1
  have c0 : (nI (3 * p)).toNatClampNeg = 3 * p := nI_clamp (by omega)
  have ch : (4 : Int32) + w.1 55 (w.2.2 41 8) (3 * nI p).toNatClampNeg = nI (4 + D.1 (100 + p)) := by rw [mx3, c0, b1, xa4]
  refine bk_X11_blow_0 hm (by rw [mx3]; exact vp_in_nI (by omega) (by omega)) hA (by rw [ch]; exact vp_in_nI (by omega) (by omega)) (c_mneed hB hW hA hp) (by decide) ?_
  rw [ch, nI_clamp (by omega)]
  have e1 : (if 0 < (w.1 k false (4 + D.1 (100 + p)) - jNeed D (w.1 k false) p) + 1 then (w.1 k false (4 + D.1 (100 + p)) - jNeed D (w.1 k false) p) + 1 else 0) = jLoud D (w.1 k false) p := rfl
  have k33 : ((33 : Int32) + nI p).toNatClampNeg = 33 + p := by rw [xa33, nI_clamp (by omega)]
  have k21 : ((21 : Int32) + nI p).toNatClampNeg = 21 + p := by rw [xa21, nI_clamp (by omega)]
  have e33 : (jset w k false (21 + p) (jLoud D (w.1 k false) p)).1 k false (33 + p) = w.1 k false (33 + p) := by
    rw [jset_I, if_neg (fun q => absurd q.2.2 (by omega))]
  have fin : ∀ v : Int32, v = (if 0 < jLoud D (w.1 k false) p then 1 else 0) → jW C 0 0 (jQQ C 0 0 (fun v w' => v = jU ∧ w' = jfn w k false (jBlow1 D p (w.1 k false)))) 52 [jU, jU, jU, jU] [jI v, jI (w.1 k false (33 + p)), jI (33 + nI p), jR k false] (jset w k false (21 + p) (jLoud D (w.1 k false) p)) := by
    intro v hv
    refine bk_X11_blow_52 hm hA (by rw [xa33]; exact vp_in_nI (by omega) (by omega)) ⟨rfl, ?_⟩
    rw [k33, jset_fn, jset_fn, jfn_fn, jfn_row, hv]
    rfl
  refine bk_X11_blow_22 hm (by decide) hA (by rw [xa21]; exact vp_in_nI (by omega) (by omega)) (by rw [xa33]; exact vp_in_nI (by omega) (by omega)) (fun z => ?_) (fun z => ?_) <;> rw [e1] at z <;> rw [e1, k21, k33, e33]
  · exact bk_X11_blow_51 hm (fin 0 (by rw [if_neg (i32_le0.mp z)]))
  · exact bk_X11_blow_47 hm (fin 1 (by rw [if_pos (Classical.not_not.mp (fun q => z (i32_le0.mpr q)))]))
/-- the louds are not below zero -/
def jLpos (R : Nat → Int32) : Prop := ∀ p, p < 12 → 0 ≤ R (21 + p)
theorem i32_eq0 {x : Int32} (h : 0 ≤ x) : x = 0 ↔ ¬ 0 < x := by
  rw [← Int32.toInt_inj, Int32.lt_iff_toInt_lt]
  rw [Int32.le_iff_toInt_le] at h
  rw [i32_0] at h ⊢
  omega
theorem i32_pos1 {x : Int32} : ¬ x ≤ 0 ↔ 1 ≤ x := by
  rw [Int32.le_iff_toInt_le, Int32.le_iff_toInt_le, i32_0, i32_1]
  omega
theorem c_msettle {w : JW} {D : JD} (hB : jBk w (w.2.2 41 8) D) (hW : jWF D) {k : Nat} (hA : jIA k false 51) {p : Nat} (hp : p < D.1 1) (hL : 0 ≤ w.1 k false (21 + p)) : jF MX11_settle 1 [jR 41 false, jR k false, jI (nI p)] w jU (jfn w k false (jSettle1 D p (w.1 k false))) := by
  refine jF_of jp_X11_settle rfl (Nat.le_of_ble_eq_true rfl) (fun C hm => ?_)
  have h12 := hW.1.2.1
  have h5 := hW.1.1
  obtain ⟨hh, -, -⟩ := hW.2.2.1 p hp
  have b1 := (hB.2.2.1 p hp).1
  have c0 : (nI (3 * p)).toNatClampNeg = 3 * p := nI_clamp (by omega)
  have ch : (4 : Int32) + w.1 55 (w.2.2 41 8) (3 * nI p).toNatClampNeg = nI (4 + D.1 (100 + p)) := by rw [mx3, c0, b1, xa4]
  have k21 : ((21 : Int32) + nI p).toNatClampNeg = 21 + p := by rw [xa21, nI_clamp (by omega)]
  have k9 : ((9 : Int32) + nI p).toNatClampNeg = 9 + p := by rw [xa9, nI_clamp (by omega)]
  have v9 : vp_in (9 + nI p) 51 := by rw [xa9]; exact vp_in_nI (by omega) (by omega)
  have fin : ∀ v : Int32, v = jSilt D (w.1 k false) p → jW C 0 0 (jQQ C 0 0 (fun v w' => v = jU ∧ w' = jfn w k false (jSettle1 D p (w.1 k false)))) 70 [jU, jR k false, jI (nI p), jU, jI v] [] w := by
    intro v hv
    refine bk_X11_settle_70 hm hA v9 ⟨rfl, ?_⟩
    rw [k9, jset_fn, hv]
    rfl
  have low : ∀ v : Int32, ¬ 6 ≤ w.1 k false (21 + p) → v = jSilt D (w.1 k false) p → jW C 0 0 (jQQ C 0 0 (fun v w' => v = jU ∧ w' = jfn w k false (jSettle1 D p (w.1 k false)))) 54 [jU, jR k false, jI (nI p), jI (w.1 k false (21 + p)), jI v] [] w := by
    intro v n6 hv
    exact bk_X11_settle_54 hm (fun _ => fin v hv) (fun z => absurd (i32_6.mpr n6) z)
  refine bk_X11_settle_0 hm hA (by rw [xa21]; exact vp_in_nI (by omega) (by omega)) v9 (fun z => ?_) (fun z => ?_) <;> rw [k21] at z <;> rw [k21, k9]
  · have y : 0 < w.1 k false (21 + p) := Classical.not_not.mp (fun q => z ((i32_eq0 hL).mpr q))
    refine bk_X11_settle_54 hm (fun z2 => fin _ ?_) (fun z2 => bk_X11_settle_60 hm (by decide) (fin _ ?_))
    · unfold jSilt
      rw [if_neg (i32_6.mp z2), if_neg (fun q => q.1 y)]
    · unfold jSilt
      rw [if_pos (Classical.not_not.mp (fun q => z2 (i32_6.mpr q)))]
  · have y : ¬ 0 < w.1 k false (21 + p) := (i32_eq0 hL).mp z
    have n6 : ¬ 6 ≤ w.1 k false (21 + p) := by rw [z]; decide
    refine bk_X11_settle_19 hm (by rw [mx3]; exact vp_in_nI (by omega) (by omega)) hA (by rw [ch]; exact vp_in_nI (by omega) (by omega)) (fun z2 => ?_) (fun z2 => ?_) <;> rw [ch, nI_clamp (by omega)] at z2
    · refine low _ n6 ?_
      unfold jSilt
      rw [if_neg n6, if_neg (fun q => i32_pos1.mpr q.2 z2)]
    · refine bk_X11_settle_37 hm (c_mreed hB hW hp) (by decide) (bk_X11_settle_48 hm (by decide) (low _ n6 ?_))
      unfold jSilt
      have yz : ¬ 0 < w.1 k false (21 + p) ∧ 1 ≤ w.1 k false (4 + D.1 (100 + p)) := ⟨y, i32_pos1.mp z2⟩
      rw [if_neg n6, if_pos yz]
theorem c_mchimes {w : JW} {D : JD} (hB : jBk w (w.2.2 41 8) D) (hW : jWF D) {k : Nat} (hA : jIA k false 51) {c : Nat} (hc : c < D.1 2) : jF MX11_chimes 0 [jR 41 false, jR k false, jI (nI c)] w (jI (if jRings D (w.1 k false) c then 1 else 0)) w := by
  refine jF_of jp_X11_chimes rfl (Nat.le_of_ble_eq_true rfl) (fun C hm => ?_)
  have h6 := hW.1.2.2.1
  have h12 := hW.1.2.1
  obtain ⟨s1, s6, hq⟩ := hW.2.2.2.1 c hc
  obtain ⟨b1, b2⟩ := hB.2.2.2.1 c hc
  have c0 : (nI (7 * c)).toNatClampNeg = 7 * c := nI_clamp (by omega)
  have size : w.1 58 (w.2.2 41 8) (7 * nI c).toNatClampNeg = nI (D.1 (10 + c)) := by rw [mx7, c0, b1]
  have v7 : vp_in (7 * nI c) 42 := by rw [mx7]; exact vp_in_nI (by omega) (by omega)
  refine bk_X11_chimes_0 hm ?_
  unfold jRings
  have key := jfor (P := fun i => i ≤ D.1 (10 + c) → jW C 0 0 (jQQ C 0 0 (fun v w' => v = jI (if jall (fun p => decide (0 < w.1 k false (21 + D.1 (20 + (6 * c + p))))) (D.1 (10 + c)) then 1 else 0) ∧ w' = w)) 5 [jR 41 false, jR k false, jI (nI c), jI (if jall (fun p => decide (0 < w.1 k false (21 + D.1 (20 + (6 * c + p))))) i then 1 else 0), jI (nI (1 + i))] [] w) (D.1 (10 + c)) ?_ ?_
  · exact key (Nat.zero_le _)
  · intro _
    exact bk_X11_chimes_5 hm v7 (fun _ => bk_X11_chimes_59 hm (jz_bool _) ⟨rfl, rfl⟩) (fun z => absurd (by rw [size]; exact (nI_ltI (by omega) (by omega)).mpr (by omega)) z)
  · intro i hi ih _
    refine bk_X11_chimes_5 hm v7 (fun z => absurd ((nI_ltI (a := D.1 (10 + c)) (b := 1 + i) (by omega) (by omega)).mp (by rw [← size]; exact z)) (by omega)) (fun _ => ?_)
    have ih2 := ih (by omega)
    rw [jall] at ih2
    have n1 := b2 i hi
    have n2 := hq i hi
    have ci : ((7 : Int32) * nI c + nI (1 + i)).toNatClampNeg = 7 * c + (1 + i) := by rw [mx7, nI_add, nI_clamp (by omega)]
    have cn : (21 : Int32) + w.1 58 (w.2.2 41 8) ((7 : Int32) * nI c + nI (1 + i)).toNatClampNeg = nI (21 + D.1 (20 + (6 * c + i))) := by rw [ci, n1, xa21]
    have tail : ∀ v : Bool, decide (0 < w.1 k false (21 + D.1 (20 + (6 * c + i)))) = v → jW C 0 0 (jQQ C 0 0 (fun v w' => v = jI (if jall (fun p => decide (0 < w.1 k false (21 + D.1 (20 + (6 * c + p))))) (D.1 (10 + c)) then 1 else 0) ∧ w' = w)) 51 [jR 41 false, jR k false, jI (nI c), jU, jI (nI (1 + i))] [jI (if v then 1 else 0), jI (if jall (fun p => decide (0 < w.1 k false (21 + D.1 (20 + (6 * c + p))))) i then 1 else 0)] w := by
      intro v hv
      refine bk_X11_chimes_51 hm ?_
      rw [and_bool, ← hv, nI_1]
      exact ih2
    refine bk_X11_chimes_22 hm (by rw [mx7, nI_add]; exact vp_in_nI (by omega) (by omega)) hA (by rw [cn]; exact vp_in_nI (by omega) (by omega)) (fun z => ?_) (fun z => ?_) <;> rw [cn, nI_clamp (by omega)] at z
    · exact bk_X11_chimes_50 hm (tail false (decide_eq_false (i32_le0.mp z)))
    · exact bk_X11_chimes_46 hm (tail true (decide_eq_true (Classical.not_not.mp (fun q => z (i32_le0.mpr q)))))
theorem c_isIn (w : JW) (v lo hi : Int32) : jF MX11_isIn 0 [jI v, jI lo, jI hi] w (jI (if lo ≤ v ∧ v ≤ hi then 1 else 0)) w := by
  refine jF_of jp_X11_isIn rfl (Nat.le_of_ble_eq_true rfl) (fun C hm => ?_)
  refine bk_X11_isIn_0 hm (fun z => bk_X11_isIn_14 hm (bk_X11_isIn_15 hm rfl ⟨?_, rfl⟩)) (fun z => bk_X11_isIn_5 hm (fun z2 => bk_X11_isIn_14 hm (bk_X11_isIn_15 hm rfl ⟨?_, rfl⟩)) (fun z2 => bk_X11_isIn_10 hm (bk_X11_isIn_15 hm rfl ⟨?_, rfl⟩)))
  · rw [if_neg (fun q => i32_not_lt.mpr q.1 z)]
  · rw [if_neg (fun q => i32_not_lt.mpr q.2 z2)]
  · rw [if_pos ⟨i32_not_lt.mp z, i32_not_lt.mp z2⟩]
theorem c_mchime {w : JW} {D : JD} (hB : jBk w (w.2.2 41 8) D) (hW : jWF D) {k : Nat} (hk : k ≠ 58) (hA : jIA k false 51) {c : Nat} (hc : c < D.1 2) : jF MX11_chime 1 [jR 41 false, jR k false, jI (nI c)] w jU (jfn w k false (jChord1 D c (w.1 k false))) := by
  refine jF_of jp_X11_chime rfl (Nat.le_of_ble_eq_true rfl) (fun C hm => ?_)
  have h6 := hW.1.2.2.1
  obtain ⟨b1, -⟩ := hB.2.2.2.1 c hc
  have c0 : (nI (7 * c)).toNatClampNeg = 7 * c := nI_clamp (by omega)
  have v7 : vp_in (7 * nI c) 42 := by rw [mx7]; exact vp_in_nI (by omega) (by omega)
  have k45 : ((45 : Int32) + nI c).toNatClampNeg = 45 + c := by rw [xa45, nI_clamp (by omega)]
  have v45 : vp_in (45 + nI c) 51 := by rw [xa45]; exact vp_in_nI (by omega) (by omega)
  refine bk_X11_chime_0 hm (c_mchimes hB hW hA hc) (by decide) ?_
  unfold jChord1
  cases hr : jRings D (w.1 k false) c with
  | false =>
    refine bk_X11_chime_6 hm (fun z => absurd rfl z) (fun _ => bk_X11_chime_9 hm ⟨rfl, ?_⟩)
    exact jfn_self.symm
  | true =>
    refine bk_X11_chime_6 hm (fun _ => ?_) (fun z => absurd z (by decide))
    have e0 : (jset w k false (45 + c) (w.1 k false (45 + c) + 1)).1 k false 0 = w.1 k false 0 := by
      rw [jset_I, if_neg (fun q => absurd q.2.2 (by omega))]
    refine bk_X11_chime_10 hm (d2 := 0) hA v45 v45 (vp_in_nI (n := 0) (by omega) (by omega)) (by rw [k45, e0]; exact c_isIn _ _ _ _) (by decide) ?_
    have fin : ∀ (i : Nat), i = 2 ∨ i = 3 → (if i = 2 then (6 ≤ w.1 k false 0 - w.1 k false 0 / 24 * 24 ∧ w.1 k false 0 - w.1 k false 0 / 24 * 24 ≤ 21) else ¬ (6 ≤ w.1 k false 0 - w.1 k false 0 / 24 * 24 ∧ w.1 k false 0 - w.1 k false 0 / 24 * 24 ≤ 21)) → jW C 0 0 (jQQ C 0 0 (fun v w' => v = jU ∧ w' = jfn w k false (if true = true then upd (upd (upd (w.1 k false) 2 (w.1 k false 2 + (if 6 ≤ w.1 k false 0 - w.1 k false 0 / 24 * 24 ∧ w.1 k false 0 - w.1 k false 0 / 24 * 24 ≤ 21 then nI (D.1 (10 + c)) else 0))) 3 (w.1 k false 3 + (if 6 ≤ w.1 k false 0 - w.1 k false 0 / 24 * 24 ∧ w.1 k false 0 - w.1 k false 0 / 24 * 24 ≤ 21 then 0 else nI (D.1 (10 + c))))) (45 + c) (w.1 k false (45 + c) + 1) else w.1 k false))) 42 [jR 41 false, jU, jI (nI c)] [jI (nI i), jR k false] (jset w k false (45 + c) (w.1 k false (45 + c) + 1)) := by
      intro i hi hl
      have vi : vp_in (nI i) 51 := vp_in_nI (by omega) (by omega)
      refine bk_X11_chime_42 hm hA vi v7 vi ⟨rfl, ?_⟩
      rw [nI_clamp (by omega), mx7, c0]
      have e2 : (jset w k false (45 + c) (w.1 k false (45 + c) + 1)).1 k false i = w.1 k false i := by
        rw [jset_I, if_neg (fun q => absurd q.2.2 (by omega))]
      have e3 : (jset w k false (45 + c) (w.1 k false (45 + c) + 1)).1 58 ((jset w k false (45 + c) (w.1 k false (45 + c) + 1)).2.2 41 8) (7 * c) = nI (D.1 (10 + c)) := by
        rw [jset_I, if_neg (fun q => hk q.1.symm)]
        exact b1
      rw [e2, e3, jset_fn, jset_fn, jfn_fn, jfn_row, if_pos rfl]
      congr 1
      funext j
      unfold upd
      rcases hi with rfl | rfl
      · rw [if_pos rfl] at hl
        rw [if_pos hl, if_pos hl]
        by_cases j2 : j = 2
        · rw [if_pos j2, if_neg (by omega), if_neg (by omega), if_pos j2]
        · rw [if_neg j2]
          by_cases j4 : j = 45 + c
          · rw [if_pos j4, if_pos j4]
          · rw [if_neg j4, if_neg j4]
            by_cases j3 : j = 3
            · rw [if_pos j3, j3, Int32.add_zero]
            · rw [if_neg j3, if_neg j2]
      · rw [if_neg (by decide)] at hl
        rw [if_neg hl, if_neg hl]
        by_cases j3 : j = 3
        · rw [if_pos j3, if_neg (by omega), if_pos j3]
        · rw [if_neg j3]
          by_cases j4 : j = 45 + c
          · rw [if_pos j4, if_pos j4]
          · rw [if_neg j4, if_neg j4, if_neg j3]
            by_cases j2 : j = 2
            · rw [if_pos j2, j2, Int32.add_zero]
            · rw [if_neg j2]
    by_cases hl : 6 ≤ w.1 k false 0 - w.1 k false 0 / 24 * 24 ∧ w.1 k false 0 - w.1 k false 0 / 24 * 24 ≤ 21
    · have f2 := fin 2 (Or.inl rfl) (by rw [if_pos rfl]; exact hl)
      exact bk_X11_chime_34 hm (fun z => absurd z (by rw [if_pos hl]; decide)) (fun _ => bk_X11_chime_37 hm f2)
    · have f3 := fin 3 (Or.inr rfl) (by rw [if_neg (by decide)]; exact hl)
      exact bk_X11_chime_34 hm (fun _ => bk_X11_chime_41 hm f3) (fun z => absurd (if_neg hl) z)
theorem jfn_bk {w : JW} {k : Nat} {b : Bool} {D : JD} {R : Nat → Int32} (hk : k = 51 ∨ k = 52) (h : jBk w b D) : jBk (jfn w k false R) b D := h.kept (fun k2 h1 h2 => jfn_other (by omega))
/-- an hour of the reference, over the row k -/
theorem c_mpass {w : JW} {D : JD} (hB : jBk w (w.2.2 41 8) D) (hW : jWF D) {k : Nat} (hk : k = 51 ∨ k = 52) (hA : jIA k false 51) (R : Nat → Int32) : jF MX11_pass 405 [jR 41 false, jR k false] (jfn w k false R) jU (jfn w k false (jHour D R)) := by
  refine jF_of jp_X11_pass rfl (Nat.le_of_ble_eq_true rfl) (fun C hm => ?_)
  have h5 := hW.1.1
  have h12 := hW.1.2.1
  have h6 := hW.1.2.2.1
  have h16 := hW.1.2.2.2.2.2
  have hB2 : ∀ R, jBk (jfn w k false R) ((jfn w k false R).2.2 41 8) D := fun R => jfn_bk hk hB
  have nc : ∀ R, (jfn w k false R).1 53 ((jfn w k false R).2.2 41 8) 0 = nI (D.1 0) := fun R => (hB2 R).1.1
  have np : ∀ R, (jfn w k false R).1 53 ((jfn w k false R).2.2 41 8) 1 = nI (D.1 1) := fun R => (hB2 R).1.2.1
  have nh : ∀ R, (jfn w k false R).1 53 ((jfn w k false R).2.2 41 8) 4 = nI (D.1 2) := fun R => (hB2 R).1.2.2.1
  have no : ∀ R, (jfn w k false R).1 53 ((jfn w k false R).2.2 41 8) 5 = nI (D.1 5) := fun R => (hB2 R).1.2.2.2.2.2
  have row : ∀ R, (jfn w k false R).1 k false = R := fun R => jfn_row
  unfold jHour
  -- chords and the hour
  have s5 : ∀ R4 : Nat → Int32, jW C 0 0 (jQQ C 0 0 (fun v w' => v = jU ∧ w' = jfn w k false (upd (jIter (jChord1 D) (D.1 2) R4) 0 (jIter (jChord1 D) (D.1 2) R4 0 + 1)))) 164 [jR 41 false, jR k false, jU] [] (jfn w k false R4) := by
    intro R4
    refine bk_X11_pass_164 hm ?_
    refine jfor (P := fun i => i ≤ D.1 2 → jW C 0 0 (jQQ C 0 0 (fun v w' => v = jU ∧ w' = jfn w k false (upd (jIter (jChord1 D) (D.1 2) R4) 0 (jIter (jChord1 D) (D.1 2) R4 0 + 1)))) 166 [jR 41 false, jR k false, jI (nI i)] [] (jfn w k false (jIter (jChord1 D) i R4))) (D.1 2) ?_ ?_ (Nat.zero_le _)
    · intro _
      refine bk_X11_pass_166 hm (fun _ => ?_) (fun z => absurd (by rw [nh]; exact (nI_leI (by omega) (by omega)).mpr (Nat.le_refl _)) z)
      refine bk_X11_pass_189 hm hA (vp_in_nI (n := 0) (by omega) (by omega)) (vp_in_nI (n := 0) (by omega) (by omega)) ⟨rfl, ?_⟩
      rw [row, jset_jfn]
    · intro i hi ih _
      refine bk_X11_pass_166 hm (fun z => absurd ((nI_leI (a := D.1 2) (b := i) (by omega) (by omega)).mp (by rw [← nh]; exact z)) (by omega)) (fun _ => ?_)
      refine bk_X11_pass_177 hm (c_mchime (hB2 _) hW (by omega) hA hi) (by decide) (bk_X11_pass_183 hm ?_)
      rw [nI_1, row, jfn_fn]
      exact ih (by omega)
  -- orders of clean
  have s4 : ∀ R3 : Nat → Int32, jW C 0 0 (jQQ C 0 0 (fun v w' => v = jU ∧ w' = jfn w k false (upd (jIter (jChord1 D) (D.1 2) (jIter (jClean1 D) (D.1 5) R3)) 0 (jIter (jChord1 D) (D.1 2) (jIter (jClean1 D) (D.1 5) R3) 0 + 1)))) 75 [jR 41 false, jR k false, jU] [] (jfn w k false R3) := by
    intro R3
    refine bk_X11_pass_75 hm ?_
    refine jfor (P := fun i => i ≤ D.1 5 → jW C 0 0 (jQQ C 0 0 (fun v w' => v = jU ∧ w' = jfn w k false (upd (jIter (jChord1 D) (D.1 2) (jIter (jClean1 D) (D.1 5) R3)) 0 (jIter (jChord1 D) (D.1 2) (jIter (jClean1 D) (D.1 5) R3) 0 + 1)))) 77 [jR 41 false, jR k false, jI (nI (3 * i))] [] (jfn w k false (jIter (jClean1 D) i R3))) (D.1 5) ?_ ?_ (Nat.zero_le _)
    · intro _
      exact bk_X11_pass_77 hm (fun _ => s5 _) (fun z => absurd (by rw [no, mx3]; exact (nI_leI (by omega) (by omega)).mpr (Nat.le_refl _)) z)
    · intro i hi ih _
      refine bk_X11_pass_77 hm (fun z => absurd ((nI_leI (a := 3 * D.1 5) (b := 3 * i) (by omega) (by omega)).mp (by rw [← mx3, ← no]; exact z)) (by omega)) (fun _ => ?_)
      have ih2 := ih (by omega)
      rw [jIter] at ih2
      generalize jIter (jClean1 D) i R3 = Ri at ih2 ⊢
      unfold jClean1 at ih2
      obtain ⟨b1, b2, b3⟩ := (hB2 Ri).2.2.2.2.2.2 i hi
      have c2 : (nI (3 * i) + 2).toNatClampNeg = 3 * i + 2 := by rw [ax2, nI_clamp (by omega)]
      have c1 : (nI (3 * i) + 1).toNatClampNeg = 3 * i + 1 := by rw [nI_1, nI_clamp (by omega)]
      have c0 : (nI (3 * i)).toNatClampNeg = 3 * i := nI_clamp (by omega)
      have v2 : vp_in (nI (3 * i) + 2) 48 := by rw [ax2]; exact vp_in_nI (by omega) (by omega)
      have v1 : vp_in (nI (3 * i) + 1) 48 := by rw [nI_1]; exact vp_in_nI (by omega) (by omega)
      have nxt : nI (3 * i) + 3 = nI (3 * (i + 1)) := by rw [ax3]; rfl
      have same : ¬ (D.2.1 12 i = 16 ∧ D.2.2 i Ri = true) → jW C 0 0 (jQQ C 0 0 (fun v w' => v = jU ∧ w' = jfn w k false (upd (jIter (jChord1 D) (D.1 2) (jIter (jClean1 D) (D.1 5) R3)) 0 (jIter (jChord1 D) (D.1 2) (jIter (jClean1 D) (D.1 5) R3) 0 + 1)))) 158 [jR 41 false, jR k false, jI (nI (3 * i))] [] (jfn w k false Ri) := by
        intro z
        refine bk_X11_pass_158 hm ?_
        rw [nxt]
        rw [if_neg z] at ih2
        exact ih2
      have does : D.2.1 12 i = 16 → D.2.2 i Ri = true → jW C 0 0 (jQQ C 0 0 (fun v w' => v = jU ∧ w' = jfn w k false (upd (jIter (jChord1 D) (D.1 2) (jIter (jClean1 D) (D.1 5) R3)) 0 (jIter (jChord1 D) (D.1 2) (jIter (jClean1 D) (D.1 5) R3) 0 + 1)))) 141 [jR 41 false, jR k false, jI (nI (3 * i))] [] (jfn w k false Ri) := by
        intro z y
        have ht : D.1 (120 + i) < D.1 1 := by
          rcases hW.2.2.2.2.2 i hi with h | h
          · rw [h.1] at z; exact absurd z (by decide)
          · exact h.2
        have e9 : (9 : Int32) + (jfn w k false Ri).1 59 ((jfn w k false Ri).2.2 41 8) (nI (3 * i) + 1).toNatClampNeg = nI (9 + D.1 (120 + i)) := by rw [c1, b2, xa9]
        refine bk_X11_pass_141 hm v1 hA (by rw [e9]; exact vp_in_nI (by omega) (by omega)) (bk_X11_pass_158 hm ?_)
        rw [nxt, e9, nI_clamp (by omega), jset_jfn]
        rw [if_pos ⟨z, y⟩] at ih2
        exact ih2
      refine bk_X11_pass_90 hm (vp_in_nI (by omega) (by omega)) (fun z => ?_) (fun z => ?_) <;> rw [c0, b1] at z
      · refine bk_X11_pass_107 hm v2 (fun z2 => ?_) (fun z2 => ?_) <;> rw [c2] at z2
        · rcases b3 with ⟨-, -, y⟩ | ⟨v, n, y1, y2, y3, y4⟩
          · exact does z (y Ri)
          · rw [y1] at z2
            have := congrArg Int32.toInt z2
            rw [nI_toInt (by have := jTr_lt y3; omega), show ((-1 : Int32)).toInt = -1 by decide] at this
            omega
        · rcases b3 with ⟨y, -, -⟩ | ⟨v, n, y1, y2, y3, y4⟩
          · exact absurd y z2
          · refine bk_X11_pass_122 hm (d2 := n) (r := if D.2.2 i Ri then 1 else 0) (w2 := jfn w k false Ri) v2 ?_ (by omega) ?_
            · rw [c2, y1]
              have h := c_mholdsD (w := jfn w k false Ri) hW hA y2 y3 y4
              rw [row] at h
              exact h
            · cases ht : D.2.2 i Ri with
              | true => exact bk_X11_pass_138 hm (fun q => absurd q (by decide)) (fun _ => does z ht)
              | false => exact bk_X11_pass_138 hm (fun _ => same (fun q => by rw [ht] at q; exact absurd q.2 (by decide))) (fun q => absurd rfl q)
      · exact bk_X11_pass_104 hm (same (fun q => z q.1))
  -- silt, over louds that are not below zero
  have hle : ∀ (F : Nat → (Nat → Int32) → Nat → Int32) (i n : Nat) (R : Nat → Int32), (∀ m R, m < n → F m R i = R i) → jIter F n R i = R i := by
    intro F i n
    induction n with
    | zero => intro R _; rfl
    | succ n ih => intro R h; rw [jIter, h n _ (by omega), ih R (fun m R hm => h m R (by omega))]
  have s3 : ∀ R2 : Nat → Int32, (∀ p, p < D.1 1 → 0 ≤ R2 (21 + p)) → jW C 0 0 (jQQ C 0 0 (fun v w' => v = jU ∧ w' = jfn w k false (upd (jIter (jChord1 D) (D.1 2) (jIter (jClean1 D) (D.1 5) (jIter (jSettle1 D) (D.1 1) R2))) 0 (jIter (jChord1 D) (D.1 2) (jIter (jClean1 D) (D.1 5) (jIter (jSettle1 D) (D.1 1) R2)) 0 + 1)))) 50 [jR 41 false, jR k false, jU] [] (jfn w k false R2) := by
    intro R2 hL
    refine bk_X11_pass_50 hm ?_
    refine jfor (P := fun i => i ≤ D.1 1 → jW C 0 0 (jQQ C 0 0 (fun v w' => v = jU ∧ w' = jfn w k false (upd (jIter (jChord1 D) (D.1 2) (jIter (jClean1 D) (D.1 5) (jIter (jSettle1 D) (D.1 1) R2))) 0 (jIter (jChord1 D) (D.1 2) (jIter (jClean1 D) (D.1 5) (jIter (jSettle1 D) (D.1 1) R2)) 0 + 1)))) 52 [jR 41 false, jR k false, jI (nI i)] [] (jfn w k false (jIter (jSettle1 D) i R2))) (D.1 1) ?_ ?_ (Nat.zero_le _)
    · intro _
      exact bk_X11_pass_52 hm (fun _ => s4 _) (fun z => absurd (by rw [np]; exact (nI_leI (by omega) (by omega)).mpr (Nat.le_refl _)) z)
    · intro i hi ih _
      refine bk_X11_pass_52 hm (fun z => absurd ((nI_leI (a := D.1 1) (b := i) (by omega) (by omega)).mp (by rw [← np]; exact z)) (by omega)) (fun _ => ?_)
      refine bk_X11_pass_63 hm (c_msettle (hB2 _) hW hA hi ?_) (by decide) (bk_X11_pass_69 hm ?_)
      · rw [row]
        have : jIter (jSettle1 D) i R2 (21 + i) = R2 (21 + i) := hle _ _ _ _ (fun m R hm => by unfold jSettle1 upd; rw [if_neg (by omega)])
        rw [this]
        exact hL i hi
      · rw [nI_1, row, jfn_fn]
        exact ih (by omega)
  have s2 : ∀ R1 : Nat → Int32, jW C 0 0 (jQQ C 0 0 (fun v w' => v = jU ∧ w' = jfn w k false (upd (jIter (jChord1 D) (D.1 2) (jIter (jClean1 D) (D.1 5) (jIter (jSettle1 D) (D.1 1) (jIter (jBlow1 D) (D.1 1) R1)))) 0 (jIter (jChord1 D) (D.1 2) (jIter (jClean1 D) (D.1 5) (jIter (jSettle1 D) (D.1 1) (jIter (jBlow1 D) (D.1 1) R1))) 0 + 1)))) 25 [jR 41 false, jR k false, jU] [] (jfn w k false R1) := by
    intro R1
    refine bk_X11_pass_25 hm ?_
    refine jfor (P := fun i => i ≤ D.1 1 → jW C 0 0 (jQQ C 0 0 (fun v w' => v = jU ∧ w' = jfn w k false (upd (jIter (jChord1 D) (D.1 2) (jIter (jClean1 D) (D.1 5) (jIter (jSettle1 D) (D.1 1) (jIter (jBlow1 D) (D.1 1) R1)))) 0 (jIter (jChord1 D) (D.1 2) (jIter (jClean1 D) (D.1 5) (jIter (jSettle1 D) (D.1 1) (jIter (jBlow1 D) (D.1 1) R1))) 0 + 1)))) 27 [jR 41 false, jR k false, jI (nI i)] [] (jfn w k false (jIter (jBlow1 D) i R1))) (D.1 1) ?_ ?_ (Nat.zero_le _)
    · intro _
      refine bk_X11_pass_27 hm (fun _ => s3 _ (fun p hp => ?_)) (fun z => absurd (by rw [np]; exact (nI_leI (by omega) (by omega)).mpr (Nat.le_refl _)) z)
      have key : ∀ n, p < n → n ≤ 12 → 0 ≤ jIter (jBlow1 D) n R1 (21 + p) := by
        intro n
        induction n with
        | zero => intro h; omega
        | succ n ih =>
          intro h h2
          rw [jIter]
          unfold jBlow1 upd
          rw [if_neg (by omega)]
          by_cases e : p = n
          · rw [if_pos (by omega)]
            unfold jLoud
            split
            · rename_i q
              rw [Int32.le_iff_toInt_le]
              rw [Int32.lt_iff_toInt_lt] at q
              omega
            · decide
          · rw [if_neg (by omega)]
            exact ih (by omega) (by omega)
      exact key _ hp h12
    · intro i hi ih _
      refine bk_X11_pass_27 hm (fun z => absurd ((nI_leI (a := D.1 1) (b := i) (by omega) (by omega)).mp (by rw [← np]; exact z)) (by omega)) (fun _ => ?_)
      refine bk_X11_pass_38 hm (c_mblow (hB2 _) hW hA hi) (by decide) (bk_X11_pass_44 hm ?_)
      rw [nI_1, row, jfn_fn]
      exact ih (by omega)
  refine bk_X11_pass_0 hm ?_
  refine jfor (P := fun i => i ≤ D.1 0 → jW C 0 0 (jQQ C 0 0 (fun v w' => v = jU ∧ w' = jfn w k false (upd (jIter (jChord1 D) (D.1 2) (jIter (jClean1 D) (D.1 5) (jIter (jSettle1 D) (D.1 1) (jIter (jBlow1 D) (D.1 1) (jIter (jPress1 D) (D.1 0) R))))) 0 (jIter (jChord1 D) (D.1 2) (jIter (jClean1 D) (D.1 5) (jIter (jSettle1 D) (D.1 1) (jIter (jBlow1 D) (D.1 1) (jIter (jPress1 D) (D.1 0) R)))) 0 + 1)))) 2 [jR 41 false, jR k false, jI (nI i)] [] (jfn w k false (jIter (jPress1 D) i R))) (D.1 0) ?_ ?_ (Nat.zero_le _)
  · intro _
    exact bk_X11_pass_2 hm (fun _ => s2 _) (fun z => absurd (by rw [nc]; exact (nI_leI (by omega) (by omega)).mpr (Nat.le_refl _)) z)
  · intro i hi ih _
    refine bk_X11_pass_2 hm (fun z => absurd ((nI_leI (a := D.1 0) (b := i) (by omega) (by omega)).mp (by rw [← nc]; exact z)) (by omega)) (fun _ => ?_)
    refine bk_X11_pass_13 hm (c_mpress (hB2 _) hW hA hi) (by decide) (bk_X11_pass_19 hm ?_)
    rw [nI_1, row, jfn_fn]
    exact ih (by omega)
theorem c_mpassAll {w : JW} {D : JD} (hB : jBk w (w.2.2 41 8) D) (hW : jWF D) {k : Nat} (hk : k = 51 ∨ k = 52) (hA : jIA k false 51) (R : Nat → Int32) {n : Nat} (hn : n < 2 ^ 31) : jF MX11_passAll 406 [jR 41 false, jR k false, jI (nI n)] (jfn w k false R) jU (jfn w k false (jHours D n R)) := by
  refine jF_of jp_X11_passAll rfl (Nat.le_of_ble_eq_true rfl) (fun C hm => ?_)
  refine bk_X11_passAll_0 hm ?_
  refine jfor (P := fun i => i ≤ n → jW C 0 0 _ 2 [jR 41 false, jR k false, jI (nI n), jI (nI i)] [] (jfn w k false (jHours D i R))) n ?_ ?_ (Nat.zero_le _)
  · intro _
    exact bk_X11_passAll_2 hm (fun _ => bk_X11_passAll_18 hm ⟨rfl, rfl⟩) (fun z => absurd ((nI_leI hn hn).mpr (Nat.le_refl _)) z)
  · intro i hi ih _
    refine bk_X11_passAll_2 hm (fun z => absurd ((nI_leI (a := n) (b := i) hn (by omega)).mp z) (by omega)) (fun _ => ?_)
    refine bk_X11_passAll_7 hm (c_mpass hB hW hk hA _) (by decide) (bk_X11_passAll_12 hm ?_)
    rw [nI_1]
    exact ih (by omega)
