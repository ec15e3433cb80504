
/-! A TURN whole -/
section
variable {C : JC} {cl sl : Nat} {Q : State → Prop} {len : Int32}
theorem l_272 {D : JD} {R : Nat → Int32} {n : Nat} {w : JW} (hm : jok C ML_law 9 cl sl) (h : kOg D R n len w) (hn : n ≤ 1000) {t p x a y b : Nat} {x14 : Int32} (hp : p < 4) (e2 : R 2 = nI (x + a)) (e3 : R 3 = nI (y + b)) (ha : a ≤ 15) (hb : x14 = 0 → b = 0) (hx : x ≤ 5000) (hy : y ≤ 5000) (hb15 : b ≤ 15) (k : ∀ w, kOg D R n len w → jW C cl sl Q 675 [jR 97 false, jR 0 false, jI (nI t), jU, jU, jU, jU, jU, jU, jU, jU, jU, jU, jU, jU, jU, jU, jU, jU, jU, jU] [] w) : jW C cl sl Q 272 [jR 97 false, jR 0 false, jI (nI t), jU, jI (nI p), jU, jU, jU, jU, jU, jU, jI (nI x), jI (nI y), jU, jI (x14), jU, jU, jU, jU, jU, jU] [] w := by
  have k10 : jCnt D R len 10 = nI (x + a) := e2
  have k11 : jCnt D R len 11 = nI (y + b) := e3
  have dx : ¬ 15 < nI (x + a) - nI x := fun z => by
    rw [pk_sub (by omega), show x + a - x = a by omega] at z
    have := (nI_ltI (a := 15) (b := a) (by omega) (by omega)).mp z
    omega
  have fin : ∀ w, kOg D R n len w → jW C cl sl Q 326 [jR 97 false, jR 0 false, jI (nI t), jU, jI (nI p), jU, jU, jU, jU, jU, jU, jU, jU, jU, jU, jU, jU, jU, jU, jU, jU] [] w := fun w h => bk_L_law_326 hm (l_pipes hm hn hp k 4 0 rfl w h)
  refine bq_L_law_272 hm (k_count h 10 (by decide) (by decide)) (by omega) (fun r w h => ?_)
  obtain ⟨rfl, h⟩ := h
  rw [k10]
  refine bk_L_law_278 hm (fun z => absurd ((nI_ltI (by omega) (by omega)).mp z) (by omega)) (fun _ => ?_)
  refine bq_L_law_283 hm (k_count h 11 (by decide) (by decide)) (by omega) (fun r w h => ?_)
  obtain ⟨rfl, h⟩ := h
  rw [k11]
  refine bk_L_law_289 hm (fun z => absurd ((nI_ltI (by omega) (by omega)).mp z) (by omega)) (fun _ => ?_)
  refine bq_L_law_294 hm (k_count h 10 (by decide) (by decide)) (by omega) (fun r w h => ?_)
  obtain ⟨rfl, h⟩ := h
  rw [k10]
  refine bk_L_law_300 hm (fun z => absurd z dx) (fun _ => ?_)
  refine bk_L_law_308 hm (fun _ => fin w h) (fun z => ?_)
  refine bq_L_law_313 hm (k_count h 11 (by decide) (by decide)) (by omega) (fun r w h => ?_)
  obtain ⟨rfl, h⟩ := h
  rw [k11, hb z]
  exact bk_L_law_319 hm (fun _ => fin w h) (fun z => absurd rfl z)
theorem l_pass {D : JD} {R : Nat → Int32} {n : Nat} {w : JW} (hm : jok C ML_law 9 cl sl) (h : kOg D R n len w) (hn : n ≤ 900) {t p x y : Nat} (hp : p < 4) (e2 : R 2 = nI x) (e3 : R 3 = nI y) (hx : x ≤ 5000) (hy : y ≤ 5000) (k : ∀ D R n2 w, n2 ≤ n + 3 → kOg D R n2 len w → jW C cl sl Q 675 [jR 97 false, jR 0 false, jI (nI t), jU, jU, jU, jU, jU, jU, jU, jU, jU, jU, jU, jU, jU, jU, jU, jU, jU, jU] [] w) : jW C cl sl Q 239 [jR 97 false, jR 0 false, jI (nI t), jU, jI (nI p), jU, jU, jI (jSlt D (jHours D 3 R)), jU, jU, jU, jI (nI x), jI (nI y), jU, jU, jU, jU, jU, jU, jU, jU] [] w := by
  obtain ⟨a, b, f2, f3, la, lb⟩ := (kHours h.2.2.1 h.2.1 h.2.2.2.2.1 3).2 x y e2 e3
  refine bq_L_law_239 hm (k_pass h) (by omega) (fun r w h => ?_)
  obtain ⟨rfl, h⟩ := h
  refine bq_L_law_247 hm (k_count h 10 (by decide) (by decide)) (by omega) (fun r w h => ?_)
  obtain ⟨rfl, h⟩ := h
  have k10 : jCnt D (jHours D 3 R) len 10 = jHours D 3 R 2 := rfl
  rw [k10, e2]
  refine bk_L_law_253 hm (fun z => absurd rfl z) (fun _ => ?_)
  refine bq_L_law_259 hm (k_count h 12 (by decide) (by decide)) (by omega) (fun r w h => ?_)
  obtain ⟨rfl, h⟩ := h
  refine bk_L_law_265 hm (fun _ => ?_) (fun z => absurd rfl z)
  exact l_272 hm h (by omega) hp f2 f3 la (fun z => absurd z (by decide)) hx hy lb (fun w hk => k D _ _ w (Nat.le_refl _) hk)
theorem l_turn {D : JD} {R : Nat → Int32} {n : Nat} {w : JW} (hm : jok C ML_law 9 cl sl) (hxs : (jS C).2.2.2.1.2.1 ≤ 260) (h : kOg D R n len w) (hn : n ≤ 900) {t : Nat} (ht : t < 20) (k : ∀ D R n2 w, n2 ≤ n + 3 → kOg D R n2 len w → jW C cl sl Q 675 [jR 97 false, jR 0 false, jI (nI t), jU, jU, jU, jU, jU, jU, jU, jU, jU, jU, jU, jU, jU, jU, jU, jU, jU, jU] [] w) : jW C cl sl Q 13 [jR 97 false, jR 0 false, jI (nI t), jU, jU, jU, jU, jU, jU, jU, jU, jU, jU, jU, jU, jU, jU, jU, jU, jU, jU] [] w := by
  obtain ⟨x, e2, hx⟩ := h.2.2.2.2.1.2.2.2.1
  obtain ⟨y, e3, hy⟩ := h.2.2.2.2.1.2.2.2.2
  have e97 : jcv (jad C) (jR 97 false) = Value.ref (jS C).2.2.2.1.1 := congrArg Value.ref hm.adS.2.1
  refine bk_L_law_13 hm ?_
  rw [show (11 : Int32) + nI t = nI (11 + t) from nI_add 11 t]
  refine jr_pureS (as := [jR (jS C).2.2.2.1.1 false, jI (nI (11 + t))]) (st := []) hm (t_cell (xs := (jS C).2.2.2.1) (o := (jS C).2.2.2.2) (k := 11 + t) (by omega) hxs) (by omega) jw_410 jw_411 jw_46 jw_412 jn_L_cell rfl (by simp only [List.map_cons, List.map_nil, e97]; rfl) (Nat.le_of_ble_eq_true rfl) rfl dL_law_18 ?_
  generalize kcl (jS C).2.2.2.1 (11 + t) = v
  refine bk_L_law_21 hm (c_below (v >>> (2 &&& 31)) (n := 4) (by omega) (by omega)) (by omega) ?_
  generalize v >>> (2 &&& 31) = v2
  have hp := kbl_lt v2 (n := 4) (by omega)
  generalize kbl v2 4 = p at hp ⊢
  refine bq_L_law_29 hm (k_digest h) (by omega) (fun r w h => ?_)
  obtain ⟨rfl, h⟩ := h
  refine bq_L_law_35 hm (k_foresee h) (by omega) (fun r w h => ?_)
  obtain ⟨rfl, h⟩ := h
  refine bq_L_law_43 hm (k_until h hp) (by omega) (fun r w h => ?_)
  obtain ⟨rfl, h⟩ := h
  refine bq_L_law_51 hm (k_advise h (by omega)) (by omega) (fun r w h => ?_)
  obtain ⟨⟨j, hj, rfl⟩, h⟩ := h
  refine bq_L_law_58 hm (k_best h) (by omega) (fun r w h => ?_)
  obtain ⟨hbest, h⟩ := h
  refine bq_L_law_65 hm (k_digest h) (by omega) (fun r2 w h => ?_)
  obtain ⟨rfl, h⟩ := h
  refine bk_L_law_71 hm (fun z => absurd ((lg_cmp_eq _ _).mpr rfl) z) (fun _ => ?_)
  have hu := kUnt D R p 151 0
  have hu0 := kUnt0 D R p
  generalize jUnt D R p 151 0 = u at hu hu0 ⊢
  have u1 : ¬ u < -1 := by
    rcases hu with rfl | ⟨i, -, hi, rfl⟩
    · decide
    · exact fun z => absurd (Int32.lt_trans z (show (-1 : Int32) < 0 by decide)) (nI_pos (by omega))
  have u2 : ¬ 150 < u := by
    rcases hu with rfl | ⟨i, -, hi, rfl⟩
    · decide
    · exact fun z => absurd ((nI_ltI (a := 150) (b := i) (by omega) (by omega)).mp z) (by omega)
  have b1 : ¬ r < -1 := by
    rcases hbest with rfl | ⟨i, hi, rfl⟩
    · decide
    · exact fun z => absurd (Int32.lt_trans z (show (-1 : Int32) < 0 by decide)) (nI_pos (by omega))
  have b2 : r ≤ 3 := by
    rcases hbest with rfl | ⟨i, hi, rfl⟩
    · decide
    · exact nI_le (b := 3) (by omega) (by omega)
  have asked : ∀ w, kOg D R n len w → jW C cl sl Q 145 [jR 97 false, jR 0 false, jI (nI t), jI (v2), jI (nI p), jU, jU, jI (jSlt D (jHours D 3 R)), jU, jU, jU, jU, jU, jU, jU, jU, jU, jU, jU, jU, jU] [] w := by
    intro w h
    have k10 : jCnt D R len 10 = nI x := e2
    have k11 : jCnt D R len 11 = nI y := e3
    refine bq_L_law_145 hm (k_count h 10 (by decide) (by decide)) (by omega) (fun r w h => ?_)
    obtain ⟨rfl, h⟩ := h
    refine bq_L_law_151 hm (k_count h 11 (by decide) (by decide)) (by omega) (fun r w h => ?_)
    obtain ⟨rfl, h⟩ := h
    rw [k10, k11]
    refine bk_L_law_159 hm (c_below (v2 >>> (2 &&& 31)) (n := 6) (by omega) (by omega)) (by omega) ?_
    generalize nI (kbl (v2 >>> (2 &&& 31)) 6) = what
    refine bk_L_law_169 hm (fun _ => ?_) (fun _ => ?_)
    · refine bk_L_law_195 hm (fun _ => ?_) (fun _ => ?_)
      · refine bk_L_law_211 hm (fun _ => l_pass hm h hn hp e2 e3 (by omega) (by omega) k) (fun _ => ?_)
        refine bq_L_law_217 hm (k_pipe h hp 1 (by decide) (by decide)) (by omega) (fun r w h => ?_)
        obtain ⟨rfl, h⟩ := h
        have h40 := h.2.2.1.2.2.2.1 p hp
        have p1 : jPipe D R p 1 = nI (D.1 (140 + p)) := rfl
        rw [p1]
        refine bk_L_law_224 hm (fun _ => l_pass hm h hn hp e2 e3 (by omega) (by omega) k) (fun z => ?_)
        have h2 : 2 ≤ D.1 (140 + p) := Nat.not_lt.mp (fun q => z (nI_le (b := 1) (by omega) (by omega)))
        refine bq_L_law_228 hm (k_cut h hp h2) (by omega) (fun r w h => ?_)
        obtain ⟨D2, h⟩ := h
        exact bk_L_law_235 hm (l_272 (a := 0) (b := 0) hm h (by omega) hp e2 e3 (by omega) (fun _ => rfl) (by omega) (by omega) (by omega) (fun w hk => k _ _ _ w (by omega) hk))
      · refine bq_L_law_201 hm (k_clean h hp) (by omega) (fun r w h => ?_)
        exact bk_L_law_207 hm (l_272 (a := 0) (b := 0) hm h (by omega) hp ((pk_un (by omega)).trans e2) ((pk_un (by omega)).trans e3) (by omega) (fun _ => rfl) (by omega) (by omega) (by omega) (fun w hk => k _ _ _ w (by omega) hk))
    · refine bk_L_law_179 hm (c_below (v2 >>> (5 &&& 31)) (n := 10) (by omega) (by omega)) (by omega) ?_
      have ht := kbl_lt (v2 >>> (5 &&& 31)) (n := 10) (by omega)
      refine bq_L_law_188 hm (k_setTide h (by omega)) (by omega) (fun r w h => ?_)
      exact bk_L_law_191 hm (l_272 (a := 0) (b := 0) hm h (by omega) hp ((pk_un (by omega)).trans e2) ((pk_un (by omega)).trans e3) (by omega) (fun _ => rfl) (by omega) (by omega) (by omega) (fun w hk => k _ _ _ w (by omega) hk))
  have same : ∀ z : Int32, ((0 < R (21 + p) → z = 1) ∧ (¬ 0 < R (21 + p) → z = 0)) → jW C cl sl Q 101 [jR 97 false, jR 0 false, jI (nI t), jI (v2), jI (nI p), jU, jU, jI (jSlt D (jHours D 3 R)), jU, jI (nI j), jI (r), jU, jU, jU, jU, jU, jU, jU, jU, jU, jU] [jI z] w := by
    intro z hz
    refine bq_L_law_101 hm (k_pipe h hp 5 (by decide) (by decide)) (by omega) (fun r w h => ?_)
    obtain ⟨rfl, h⟩ := h
    have p5 : jPipe D R p 5 = R (21 + p) := rfl
    rw [p5]
    have rest : jW C cl sl Q 119 [jR 97 false, jR 0 false, jI (nI t), jI (v2), jI (nI p), jU, jU, jI (jSlt D (jHours D 3 R)), jU, jI (nI j), jI (r), jU, jU, jU, jU, jU, jU, jU, jU, jU, jU] [] w := bk_L_law_119 hm (fun z => absurd z (nI_pos (by omega))) (fun _ => bk_L_law_124 hm (fun z => absurd ((nI_ltI (a := 9) (b := j) (by omega) (by omega)).mp z) (by omega)) (fun _ => bk_L_law_131 hm (fun z => absurd z b1) (fun _ => bk_L_law_137 hm (fun _ => asked w h) (fun z => absurd b2 z))))
    refine bk_L_law_108 hm (fun q => bk_L_law_115 hm (bk_L_law_116 hm (fun z2 => absurd (hz.2 (i32_le0.mp q)) z2) (fun _ => rest))) (fun q => bk_L_law_111 hm (bk_L_law_116 hm (fun z2 => absurd (hz.1 (Classical.not_not.mp (fun q2 => q (i32_le0.mpr q2)))) z2) (fun _ => rest)))
  refine bk_L_law_77 hm (fun z => absurd z u1) (fun _ => bk_L_law_83 hm (fun z => absurd z u2) (fun _ => bk_L_law_91 hm (fun z => bk_L_law_100 hm (same 0 ⟨fun q => absurd (hu0.mpr q) z, fun _ => rfl⟩)) (fun z => bk_L_law_96 hm (same 1 ⟨fun _ => rfl, fun q => absurd (hu0.mp z) q⟩))))
/-- all twenty turns -/
theorem l_turns (hm : jok C ML_law 9 cl sl) (hxs : (jS C).2.2.2.1.2.1 ≤ 260) (hE : ∀ w, jW C cl sl Q 681 [jU, jU, jU, jU, jU, jU, jU, jU, jU, jU, jU, jU, jU, jU, jU, jU, jU, jU, jU, jU, jU] [] w) : ∀ m t, m + t = 20 → ∀ (D : JD) (R : Nat → Int32) (n : Nat) (w : JW), n ≤ 3 * t → kOg D R n len w → jW C cl sl Q 7 [jR 97 false, jR 0 false, jI (nI t), jU, jU, jU, jU, jU, jU, jU, jU, jU, jU, jU, jU, jU, jU, jU, jU, jU, jU] [] w := by
  intro m
  induction m with
  | zero =>
    intro t ht D R n w hn h
    exact bk_L_law_7 hm (fun _ => hE w) (fun z => absurd (nI_le (a := 20) (b := t) (by omega) (by omega)) z)
  | succ m ih =>
    intro t ht D R n w hn h
    refine bk_L_law_7 hm (fun z => absurd ((nI_leI (a := 20) (b := t) (by omega) (by omega)).mp z) (by omega)) (fun _ => ?_)
    refine l_turn hm hxs h (by omega) (by omega) (fun D2 R2 n2 w2 l2 h2 => bk_L_law_675 hm ?_)
    rw [nI_1]
    exact ih (t + 1) (by omega) D2 R2 n2 w2 (by omega) h2
theorem l_law (hm : jok C ML_law 9 cl sl) (hxs : (jS C).2.2.2.1.2.1 ≤ 260) (hE : ∀ w, jW C cl sl Q 681 [jU, jU, jU, jU, jU, jU, jU, jU, jU, jU, jU, jU, jU, jU, jU, jU, jU, jU, jU, jU, jU] [] w) {D : JD} {R : Nat → Int32} {w : JW} (h : kOg D R 0 len w) : jW C cl sl Q 5 [jR 97 false, jR 0 false, jU, jU, jU, jU, jU, jU, jU, jU, jU, jU, jU, jU, jU, jU, jU, jU, jU, jU, jU] [] w := bk_L_law_5 hm (l_turns hm hxs hE 20 0 rfl D R 0 w (by omega) h)
end

