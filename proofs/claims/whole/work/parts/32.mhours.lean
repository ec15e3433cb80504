/-! the reference's hours -/
theorem mx2 (i : Nat) : (2 : Int32) * nI i = nI (2 * i) := pk_mul 2 i
theorem mx3 (i : Nat) : (3 : Int32) * nI i = nI (3 * i) := pk_mul 3 i
theorem mx5 (i : Nat) : (5 : Int32) * nI i = nI (5 * i) := pk_mul 5 i
theorem mx7 (i : Nat) : (7 : Int32) * nI i = nI (7 * i) := pk_mul 7 i
theorem ax2 (i : Nat) : nI i + (2 : Int32) = nI (i + 2) := nI_add i 2
theorem ax3 (i : Nat) : nI i + (3 : Int32) = nI (i + 3) := nI_add i 3
theorem xa4 (i : Nat) : (4 : Int32) + nI i = nI (4 + i) := nI_add 4 i
theorem xa9 (i : Nat) : (9 : Int32) + nI i = nI (9 + i) := nI_add 9 i
theorem xa21 (i : Nat) : (21 : Int32) + nI i = nI (21 + i) := nI_add 21 i
theorem xa33 (i : Nat) : (33 : Int32) + nI i = nI (33 + i) := nI_add 33 i
theorem xa45 (i : Nat) : (45 : Int32) + nI i = nI (45 + i) := nI_add 45 i
theorem or_bool (a b : Bool) : ((if a then (1 : Int32) else 0) ||| (if b then 1 else 0)) = if a || b then 1 else 0 := by cases a <;> cases b <;> decide
theorem and_bool (a b : Bool) : ((if a then (1 : Int32) else 0) &&& (if b then 1 else 0)) = if a && b then 1 else 0 := by cases a <;> cases b <;> decide
/-- the reference's book b holds D -/
def jBk (w : JW) (b : Bool) (D : JD) : Prop :=
  (w.1 53 b 0 = nI (D.1 0) ∧ w.1 53 b 1 = nI (D.1 1) ∧ w.1 53 b 4 = nI (D.1 2) ∧ w.1 53 b 2 = nI (D.1 3) ∧ w.1 53 b 3 = nI (D.1 4) ∧ w.1 53 b 5 = nI (D.1 5)) ∧
  (∀ j, j < D.1 0 → w.1 54 b (2 * j) = D.2.1 0 j ∧ w.1 54 b (2 * j + 1) = D.2.1 1 j) ∧ (∀ j, j < D.1 1 → w.1 55 b (3 * j) = nI (D.1 (100 + j)) ∧ w.1 55 b (3 * j + 1) = nI (D.1 (140 + j)) ∧ w.1 55 b (3 * j + 2) = D.2.1 4 j) ∧
  (∀ c, c < D.1 2 → w.1 58 b (7 * c) = nI (D.1 (10 + c)) ∧ ∀ p, p < D.1 (10 + c) → w.1 58 b (7 * c + (1 + p)) = nI (D.1 (20 + (6 * c + p)))) ∧
  (∀ j, j < D.1 3 → w.1 56 b (3 * j) = D.2.1 7 j ∧ w.1 56 b (3 * j + 1) = D.2.1 8 j ∧ w.1 56 b (3 * j + 2) = D.2.1 9 j) ∧ (∀ j, j < D.1 4 → w.1 57 b (2 * j) = D.2.1 10 j ∧ w.1 57 b (2 * j + 1) = D.2.1 11 j) ∧
  (∀ j, j < D.1 5 → w.1 59 b (3 * j) = D.2.1 12 j ∧ w.1 59 b (3 * j + 1) = nI (D.1 (120 + j)) ∧
    ((w.1 59 b (3 * j + 2) = -1 ∧ D.2.1 12 j = 16 ∧ ∀ R, D.2.2 j R = true) ∨ (∃ v n : Nat, w.1 59 b (3 * j + 2) = nI v ∧ n ≤ 402 ∧ jTr (w.1 60 b) (w.1 61 b) (w.1 62 b) (D.1 0) (D.1 1) n true v ∧ ∀ R, jmv (w.1 60 b) (w.1 61 b) (w.1 62 b) R n v = if D.2.2 j R then 1 else 0)))
theorem jBk.kept {w w2 : JW} {b : Bool} {D : JD} (h : jBk w b D) (hk : ∀ k, 53 ≤ k → k ≤ 62 → w2.1 k b = w.1 k b) : jBk w2 b D := by
  unfold jBk
  rw [hk 53 (by omega) (by omega), hk 54 (by omega) (by omega), hk 55 (by omega) (by omega), hk 56 (by omega) (by omega), hk 57 (by omega) (by omega), hk 58 (by omega) (by omega), hk 59 (by omega) (by omega), hk 60 (by omega) (by omega), hk 61 (by omega) (by omega), hk 62 (by omega) (by omega)]
  exact h
theorem c_mheight {w : JW} {D : JD} (hB : jBk w (w.2.2 41 8) D) (hW : jWF D) (hour tide : Int32) : jF MX11_heightOf 0 [jR 41 false, jI hour, jI tide] w (jI (jHgt D hour tide)) w := by
  refine jF_of jp_X11_heightOf rfl (Nat.le_of_ble_eq_true rfl) (fun C hm => ?_)
  have h5 := hW.1.2.2.2.1
  have e2 := hB.1.2.2.2.1
  refine bk_X11_heightOf_0 hm ?_
  unfold jHgt
  refine jfor (P := fun i => i ≤ D.1 3 → jW C 0 0 _ 7 [jR 41 false, jI hour, jU, jI (jhgt (D.2.1 9) (D.2.1 8) (D.2.1 7) hour (2 * tide) i), jI (nI (3 * i)), jU] [] w) (D.1 3) ?_ ?_ (Nat.zero_le _)
  · intro _
    exact bk_X11_heightOf_7 hm (fun _ => bk_X11_heightOf_79 hm ⟨rfl, rfl⟩) (fun z => absurd (by rw [e2, mx3]; exact (nI_leI (by omega) (by omega)).mpr (Nat.le_refl _)) z)
  · intro i hi ih _
    refine bk_X11_heightOf_7 hm (fun z => absurd ((nI_leI (a := 3 * D.1 3) (b := 3 * i) (by omega) (by omega)).mp (by rw [← mx3, ← e2]; exact z)) (by omega)) (fun _ => ?_)
    have ih2 := ih (by omega)
    rw [jhgt] at ih2
    obtain ⟨b1, b2, b3⟩ := hB.2.2.2.2.1 i hi
    have hev := hW.2.2.2.2.1 i hi
    have c2 : (nI (3 * i) + 2).toNatClampNeg = 3 * i + 2 := by rw [ax2, nI_clamp (by omega)]
    have c1 : (nI (3 * i) + 1).toNatClampNeg = 3 * i + 1 := by rw [nI_1, nI_clamp (by omega)]
    have c0 : (nI (3 * i)).toNatClampNeg = 3 * i := nI_clamp (by omega)
    have nxt : nI (3 * i) + 3 = nI (3 * (i + 1)) := by rw [ax3]; rfl
    refine bk_X11_heightOf_21 hm (by rw [ax2]; exact vp_in_nI (by omega) (by omega)) (fun z => ?_) (fun z => ?_) <;> rw [c2, b3] at z
    · rw [if_neg (fun q => i32_lt0 z q.1)] at ih2
      refine bk_X11_heightOf_73 hm ?_
      rw [nxt]
      exact ih2
    · rw [c2, b3]
      have hne : ¬ D.2.1 8 i = 0 := fun q => hev (by rw [q]; decide)
      refine bk_X11_heightOf_42 hm (by rw [nI_1]; exact vp_in_nI (by omega) (by omega)) (by rw [c1, b2]; exact hne) (fun z2 => ?_) (fun z2 => ?_) <;> rw [c1, b2] at z2
      · rw [if_neg (fun q => z2 q.2)] at ih2
        refine bk_X11_heightOf_73 hm ?_
        rw [nxt]
        exact ih2
      · rw [if_pos ⟨i32_nlt0 z, z2⟩] at ih2
        refine bk_X11_heightOf_60 hm (vp_in_nI (by omega) (by omega)) (bk_X11_heightOf_73 hm ?_)
        rw [nxt, c0, b1]
        exact ih2
theorem c_mquiet {w : JW} {D : JD} (hB : jBk w (w.2.2 41 8) D) (hW : jWF D) (hour : Int32) : jF MX11_isQuiet 0 [jR 41 false, jI hour] w (jI (if jStill D hour then 1 else 0)) w := by
  refine jF_of jp_X11_isQuiet rfl (Nat.le_of_ble_eq_true rfl) (fun C hm => ?_)
  have h3 := hW.1.2.2.2.2.1
  have e2 := hB.1.2.2.2.2.1
  refine bk_X11_isQuiet_0 hm ?_
  unfold jStill
  generalize hour - hour / 24 * 24 = od
  refine jfor (P := fun i => i ≤ D.1 4 → jW C 0 0 (jQQ C 0 0 (fun v w' => v = jI (if jany (fun i => jq1 (D.2.1 10 i) (D.2.1 11 i) od) (D.1 4) then 1 else 0) ∧ w' = w)) 10 [jR 41 false, jU, jI od, jI (if jany (fun i => jq1 (D.2.1 10 i) (D.2.1 11 i) od) i then 1 else 0), jI (nI (2 * i)), jU, jU] [] w) (D.1 4) ?_ ?_ (Nat.zero_le _)
  · intro _
    exact bk_X11_isQuiet_10 hm (fun _ => bk_X11_isQuiet_110 hm (jz_bool _) ⟨rfl, rfl⟩) (fun z => absurd (by rw [e2, mx2]; exact (nI_leI (by omega) (by omega)).mpr (Nat.le_refl _)) z)
  · intro i hi ih _
    refine bk_X11_isQuiet_10 hm (fun z => absurd ((nI_leI (a := 2 * D.1 4) (b := 2 * i) (by omega) (by omega)).mp (by rw [← mx2, ← e2]; exact z)) (by omega)) (fun _ => ?_)
    have ih2 := ih (by omega)
    rw [jany] at ih2
    obtain ⟨b1, b2⟩ := hB.2.2.2.2.2.1 i hi
    have c1 : (nI (2 * i) + 1).toNatClampNeg = 2 * i + 1 := by rw [nI_1, nI_clamp (by omega)]
    have c0 : (nI (2 * i)).toNatClampNeg = 2 * i := nI_clamp (by omega)
    have nxt : nI (2 * i) + 2 = nI (2 * (i + 1)) := by rw [ax2]; rfl
    generalize jany (fun i => jq1 (D.2.1 10 i) (D.2.1 11 i) od) i = acc at ih2 ⊢
    have tail : ∀ v : Bool, jq1 (D.2.1 10 i) (D.2.1 11 i) od = v → jW C 0 0 (jQQ C 0 0 (fun v w' => v = jI (if jany (fun i => jq1 (D.2.1 10 i) (D.2.1 11 i) od) (D.1 4) then 1 else 0) ∧ w' = w)) 102 [jR 41 false, jU, jI od, jU, jI (nI (2 * i)), jU, jU] [jI (if v then 1 else 0), jI (if acc then 1 else 0)] w := by
      intro v hv
      refine bk_X11_isQuiet_102 hm ?_
      rw [or_bool, nxt, ← hv]
      exact ih2
    have t1 : jq1 (D.2.1 10 i) (D.2.1 11 i) od = true → _ := fun h => tail true h
    have t0 : jq1 (D.2.1 10 i) (D.2.1 11 i) od = false → _ := fun h => tail false h
    refine bk_X11_isQuiet_24 hm (vp_in_nI (by omega) (by omega)) (by rw [nI_1]; exact vp_in_nI (by omega) (by omega)) (fun z => ?_) (fun z => ?_) <;> rw [c1, c0, b1, b2] at z <;> rw [c1, c0, b1, b2]
    · have hft : ¬ D.2.1 10 i < D.2.1 11 i := i32_not_lt.mpr z
      have q1 : jq1 (D.2.1 10 i) (D.2.1 11 i) od = decide (D.2.1 10 i ≤ od ∨ od < D.2.1 11 i) := if_neg hft
      rw [q1] at t1 t0
      refine bk_X11_isQuiet_78 hm (fun y => bk_X11_isQuiet_97 hm (t1 (decide_eq_true ?_))) (fun y => bk_X11_isQuiet_85 hm (fun y2 => bk_X11_isQuiet_97 hm (t1 (decide_eq_true (Or.inl y2)))) (fun y2 => bk_X11_isQuiet_91 hm (fun y3 => bk_X11_isQuiet_101 hm (t0 (decide_eq_false ?_))) (fun y3 => bk_X11_isQuiet_97 hm (t1 (decide_eq_true (Or.inr (i32_not_le.mp y3)))))))
      · rw [y]
        by_cases y2 : D.2.1 11 i ≤ od
        · exact Or.inl y2
        · exact Or.inr (i32_not_le.mp y2)
      · rintro (q | q)
        · exact y2 q
        · exact i32_not_lt.mpr y3 q
    · have hft : D.2.1 10 i < D.2.1 11 i := i32_not_le.mp z
      have q1 : jq1 (D.2.1 10 i) (D.2.1 11 i) od = decide (D.2.1 10 i ≤ od ∧ od < D.2.1 11 i) := if_pos hft
      rw [q1] at t1 t0
      exact bk_X11_isQuiet_58 hm (fun y => bk_X11_isQuiet_74 hm (t0 (decide_eq_false (fun q => i32_not_lt.mpr q.1 y)))) (fun y => bk_X11_isQuiet_64 hm (fun y2 => bk_X11_isQuiet_74 hm (t0 (decide_eq_false (fun q => i32_not_lt.mpr y2 q.2)))) (fun y2 => bk_X11_isQuiet_70 hm (t1 (decide_eq_true ⟨i32_not_lt.mp y, i32_not_le.mp y2⟩))))
theorem c_mlength {w : JW} {D : JD} (hB : jBk w (w.2.2 41 8) D) (hW : jWF D) {p : Nat} (hp : p < D.1 1) : jF MX11_lengthOf 0 [jR 41 false, jI (nI p)] w (jI (nI (D.1 (140 + p)))) w := by
  refine jF_of jp_X11_lengthOf rfl (Nat.le_of_ble_eq_true rfl) (fun C hm => ?_)
  have h12 := hW.1.2.1
  have c1 : 3 * nI p + 1 = nI (3 * p + 1) := by rw [mx3, nI_1]
  refine bk_X11_lengthOf_0 hm (by rw [c1]; exact vp_in_nI (by omega) (by omega)) ⟨?_, rfl⟩
  rw [c1, nI_clamp (by omega), (hB.2.2.1 p hp).2.1]
theorem c_mreed {w : JW} {D : JD} (hB : jBk w (w.2.2 41 8) D) (hW : jWF D) {p : Nat} (hp : p < D.1 1) : jF MX11_reedOf 0 [jR 41 false, jI (nI p)] w (jI (D.2.1 4 p)) w := by
  refine jF_of jp_X11_reedOf rfl (Nat.le_of_ble_eq_true rfl) (fun C hm => ?_)
  have h12 := hW.1.2.1
  have c1 : 3 * nI p + 2 = nI (3 * p + 2) := by rw [mx3, ax2]
  refine bk_X11_reedOf_0 hm (by rw [c1]; exact vp_in_nI (by omega) (by omega)) ⟨?_, rfl⟩
  rw [c1, nI_clamp (by omega), (hB.2.2.1 p hp).2.2]
theorem c_mneed {w : JW} {D : JD} (hB : jBk w (w.2.2 41 8) D) (hW : jWF D) {k : Nat} (hA : jIA k false 51) {p : Nat} (hp : p < D.1 1) : jF MX11_need 1 [jR 41 false, jR k false, jI (nI p)] w (jI (jNeed D (w.1 k false) p)) w := by
  refine jF_of jp_X11_need rfl (Nat.le_of_ble_eq_true rfl) (fun C hm => ?_)
  have h12 := hW.1.2.1
  refine bk_X11_need_0 hm (c_mlength hB hW hp) (by decide) ?_
  refine bk_X11_need_5 hm hA (by rw [xa9]; exact vp_in_nI (by omega) (by omega)) (c_mreed hB hW hp) (by decide) ?_
  rw [xa9, nI_clamp (by omega)]
  exact bk_X11_need_19 hm ⟨rfl, rfl⟩
/-- a test that an order of the reference has -/
theorem c_mholdsD {w : JW} {D : JD} (hW : jWF D) {k : Nat} (hA : jIA k false 51) {v n j : Nat} (hn : n ≤ 402) (hT : jTr (w.1 60 (w.2.2 41 8)) (w.1 61 (w.2.2 41 8)) (w.1 62 (w.2.2 41 8)) (D.1 0) (D.1 1) n true v) (hv : ∀ R, jmv (w.1 60 (w.2.2 41 8)) (w.1 61 (w.2.2 41 8)) (w.1 62 (w.2.2 41 8)) R n v = if D.2.2 j R then 1 else 0) :
    jF MX11_holds n [jR 41 false, jI (nI v), jR k false] w (jI (if D.2.2 j (w.1 k false) then 1 else 0)) w := by
  have h := c_mholds w k hA hW.1.1 hW.1.2.1 n v hT
  rw [hv] at h
  exact h
