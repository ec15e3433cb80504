/-! quiet steps: the operations that change nothing that lasts -/
def jQu (w w2 : JW) : Prop := w2.2.2 = w.2.2 ∧ (∀ k b, k ≠ 12 → k ≠ 13 → ¬ (14 ≤ k ∧ k ≤ 19 ∧ b = true) → k ≠ 41 → k ≠ 52 → w2.1 k b = w.1 k b) ∧ w2.1 41 false 2 = w.1 41 false 2 ∧ w2.1 41 false 3 = w.1 41 false 3
theorem jQu.rf {w : JW} : jQu w w := ⟨rfl, fun _ _ _ _ _ _ _ => rfl, rfl, rfl⟩
theorem jQu.trans {w w2 w3 : JW} (h : jQu w w2) (h2 : jQu w2 w3) : jQu w w3 := ⟨h2.1.trans h.1, fun k b k1 k2 k3 k4 k5 => (h2.2.1 k b k1 k2 k3 k4 k5).trans (h.2.1 k b k1 k2 k3 k4 k5), h2.2.2.1.trans h.2.2.1, h2.2.2.2.trans h.2.2.2⟩
theorem jQu_L {w : JW} {k j : Nat} {y : Int64} : jQu w (jsetL w k j y) := ⟨rfl, fun _ _ _ _ _ _ _ => rfl, rfl, rfl⟩
theorem jQu_T0 {w : JW} {t : Int32} : jQu w (jT0 w t) := by
  unfold jT0
  refine ⟨rfl, fun k b k1 k2 k3 k4 k5 => jset_k k4, ?_, ?_⟩
  · rw [jset_I, if_neg (by omega)]
  · rw [jset_I, if_neg (by omega)]
theorem jQu_52 {w : JW} {f : Nat → Int32} : jQu w (jfn w 52 false f) := by
  refine ⟨rfl, fun k b k1 k2 k3 k4 k5 => ?_, ?_, ?_⟩
  · funext j
    rw [jfn_I, if_neg (fun q => k5 q.1)]
  · rw [jfn_I, if_neg (by omega)]
  · rw [jfn_I, if_neg (by omega)]
theorem jgm_b {w : JW} {t b : Bool} {R f : Nat → Int32} {x : Int32} {k : Nat} (h : b ≠ t) (h1 : k ≠ 12) (h2 : k ≠ 13) : (jgm w t R f x).1 k b = w.1 k b := by
  unfold jgm
  rw [jgar_k h1 h2]
  funext j
  exact if_neg h
theorem jQu_true {w : JW} {S f : Nat → Int32} {x : Int32} : jQu w (jgm w true S f x) := by
  refine ⟨rfl, fun k b k1 k2 k3 k4 k5 => ?_, ?_, ?_⟩
  · by_cases e : b = true
    · subst e
      have k6 : ¬ (14 ≤ k ∧ k ≤ 19) := fun z => k3 ⟨z.1, z.2, rfl⟩
      exact jgm_k (by omega)
    · exact jgm_b e k1 k2
  · rw [jgm_k (by omega)]
  · rw [jgm_k (by omega)]
theorem jQu_gar {w : JW} {f : Nat → Int32} {x : Int32} : jQu w (jgar w f x) := by
  refine ⟨rfl, fun k b k1 k2 k3 k4 k5 => jgar_k k1 k2, ?_, ?_⟩
  · rw [jgar_k (by omega) (by omega)]
  · rw [jgar_k (by omega) (by omega)]
theorem jCpl.qu {D : JD} {w w2 : JW} (h : jCpl D w) (hq : jQu w w2) : jCpl D w2 := by
  refine h.row hq.1 (fun k b k1 k2 k3 k4 => hq.2.1 k b (by omega) (by omega) (by omega) k2 k4) hq.2.2 (fun i hi => ?_)
  rw [jrow_cong (fun k k1 k2 => hq.2.1 k false (by omega) (by omega) (fun z => absurd z.2.2 (by decide)) (by omega) (by omega)), hq.2.1 51 false (by omega) (by omega) (by omega) (by omega) (by omega)]
  exact h.2.1 i hi
theorem jCpl.len {D : JD} {w : JW} (h : jCpl D w) : w.1 1 false 1 = w.1 41 false 2 := by
  obtain ⟨-, -, ⟨s, L, h1, h0⟩, -⟩ := h
  rw [h1.2.1, h0.2.1]
theorem jgm_self (w : JW) (t : Bool) : ∃ f x, jgm w t (jrow w t) f x = w := by
  obtain ⟨f, x, e⟩ := jgar_self w
  refine ⟨f, x, ?_⟩
  unfold jgm
  rw [jmom_self]
  exact e.symm
/-- the class's world, its moment told by the row 51 -/
theorem jCpl.gm {D : JD} {w : JW} (h : jCpl D w) : ∃ f x, jgm w false (w.1 51 false) f x = w := by
  obtain ⟨f, x, e⟩ := jgm_self w false
  refine ⟨f, x, ?_⟩
  rw [← jgm_congr (R := jrow w false) (S := w.1 51 false) (fun i hi => h.2.1 i hi)]
  exact e
theorem jCpl.quF {D : JD} {w : JW} (h : jCpl D w) (f : Nat → Int32) (x : Int32) : jQu w (jgm w false (w.1 51 false) f x) := by
  rw [← jgm_congr (R := jrow w false) (S := w.1 51 false) (fun i hi => h.2.1 i hi)]
  unfold jgm
  rw [jmom_self]
  exact jQu_gar
/-- THE INVARIANT of the law's loop -/
def jInv (n : Nat) (w : JW) : Prop := ∃ D, jCpl D w ∧ jLow (w.1 51 false) (4320 * n) ∧ ∀ p, p < 12 → 0 ≤ w.1 51 false (21 + p)
theorem jLow.up {R : Nat → Int32} {m m2 : Nat} (h : jLow R m) (h2 : m ≤ m2) : jLow R m2 := by
  obtain ⟨a, b, h3, h4, h5, h6⟩ := h
  exact ⟨a, b, h3, h4, Nat.le_trans h5 h2, Nat.le_trans h6 h2⟩
theorem jInv.qu {n : Nat} {w w2 : JW} (h : jInv n w) (hq : jQu w w2) : jInv (n + 1) w2 := by
  obtain ⟨D, h1, h2, h3⟩ := h
  refine ⟨D, h1.qu hq, ?_⟩
  rw [hq.2.1 51 false (by omega) (by omega) (by omega) (by omega) (by omega)]
  exact ⟨h2.up (by omega), h3⟩
/-- one operation of the law behind a wrapper: the same is thrown, the same is answered, and the two stay coupled -/
def jOp (n : Nat) (Mw : JM) (hh : List (Nat × Nat × Nat × Nat)) (as : List JV) (M : JM) (am : List JV) (w : JW) : Prop :=
  ∃ (dw dm : Nat) (P : JV → JW → Prop), dw ≤ 9 ∧ dm ≤ 410 ∧ jSW Mw hh dw 1 6 as w P ∧ ∀ v w1, P v w1 → ∃ k : Int32, v = jI k ∧ jSI M dm am w1 (fun r w2 => w2.1 41 false 0 = k ∧ (k = 0 → w2.2.1 63 0 = r.toInt64) ∧ jInv (n + 1) w2)
/-- what the reference's questions say -/
def jMq (M : JM) (dm : Nat) (am : List JV) (w1 : JW) (k val : Int32) : Prop := jSI M dm am w1 (fun r w2 => (k = 0 → r = val) ∧ w2.1 41 false 0 = k ∧ w2.2.1 63 0 = w1.2.1 63 0 ∧ jQu w1 w2)
theorem jMq_F {M : JM} {dm : Nat} {am : List JV} {w1 : JW} {c : Prop} {h : Decidable c} {val r0 : Int32} (hm : jF M dm am w1 (jI (if c then val else r0)) (jT0 w1 (if c then 0 else 1))) : jMq M dm am w1 (if c then 0 else 1) val := by
  refine (jSI_F hm).mono (fun r w2 q => ?_)
  obtain ⟨rfl, rfl⟩ := q
  refine ⟨fun z => ?_, ?_, rfl, jQu_T0⟩
  · by_cases hc : c
    · exact if_pos hc
    · rw [if_neg hc] at z
      exact absurd z (by decide)
  · unfold jT0
    rw [jset_I, if_pos ⟨rfl, rfl, rfl⟩]
theorem jop_1 {n : Nat} {w : JW} {M : JM} {am : List JV} {dm : Nat} {k val : Int32} {w1 : JW} (hI : jInv n w) (hq : jQu w w1) (hv : k = 0 → w1.2.1 63 0 = val.toInt64) (hm : jMq M dm am w1 k val) : jSI M dm am w1 (fun r w2 => w2.1 41 false 0 = k ∧ (k = 0 → w2.2.1 63 0 = r.toInt64) ∧ jInv (n + 1) w2) := by
  refine hm.mono (fun r w2 q => ?_)
  obtain ⟨a1, a2, a3, a4⟩ := q
  exact ⟨a2, fun z => by rw [a3, hv z, a1 z], hI.qu (hq.trans a4)⟩
theorem jop_q {n : Nat} {w : JW} {Mw M : JM} {hh : List (Nat × Nat × Nat × Nat)} {as am : List JV} {dw dm : Nat} {P0 : JV → JW → Prop} {PX : String → JW → Prop} {X : String} {c : Prop} [hd : Decidable c] {val : Int32} (hI : jInv n w) (hdw : dw ≤ 9) (hdm : dm ≤ 410) (hs : jSW Mw hh dw 1 6 as w (jWr P0 PX X)) (h0 : ∀ v w', P0 v w' → c ∧ v = jI val ∧ jQu w w') (hx : ∀ w', PX X w' → ¬ c ∧ jQu w w') (hm : ∀ w1, jQu w w1 → jMq M dm am w1 (if c then 0 else 1) val) : jOp n Mw hh as M am w := by
  refine ⟨dw, dm, _, hdw, hdm, hs, fun v w1 h => ?_⟩
  rcases h with ⟨r, w', p0, rfl, rfl⟩ | ⟨px, rfl⟩
  · obtain ⟨hc, hr, hq⟩ := h0 _ _ p0
    have e : r = val := by
      cases hr
      rfl
    subst e
    have h1 := hm _ (hq.trans (jQu_L (k := 63) (j := 0) (y := r.toInt64)))
    rw [if_pos hc] at h1
    exact ⟨0, rfl, jop_1 hI (hq.trans jQu_L) (fun _ => by rw [jsetL_L, if_pos ⟨rfl, rfl⟩]) h1⟩
  · obtain ⟨hc, hq⟩ := hx _ px
    have h1 := hm _ hq
    rw [if_neg hc] at h1
    exact ⟨1, rfl, jop_1 hI hq (fun z => absurd z (by decide)) h1⟩
theorem i32_ls {y a b : Int32} (h : b.toInt = a.toInt + 1) : y < b ↔ y ≤ a := by
  rw [Int32.lt_iff_toInt_lt, Int32.le_iff_toInt_le, h]
  omega
theorem i32_r2 {y a b : Int32} (h : b.toInt = a.toInt + 1) : (¬ y < 0 ∧ y < b) ↔ (0 ≤ y ∧ y ≤ a) := by rw [i32_ls h, i32_not_lt]
theorem i32_r3 {y a c : Int32} (_ : True) : (¬ y < a ∧ y ≤ c) ↔ (a ≤ y ∧ y ≤ c) := by rw [i32_not_lt]
theorem jin_r {x : Int32} {n : Nat} (hn : n ≤ 2000) : (0 ≤ x ∧ x < nI n) ↔ (0 ≤ x ∧ x ≤ nI n - 1) := by
  constructor
  · intro h
    obtain ⟨p, hp, rfl⟩ := i32_N h (by omega)
    exact nI_range hn hp
  · intro h
    obtain ⟨h1, h2⟩ := in_nat hn h
    refine ⟨h.1, ?_⟩
    rw [h2]
    exact (nI_ltI (by omega) (by omega)).mpr h1
theorem jop_count {n : Nat} {w : JW} (hI : jInv n w) (y : Int32) : jOp n ML_count [(0, 9, 12, 24)] [jR 0 false, jI y, jR 63 false] MX11_count [jR 41 false, jI y] w := by
  obtain ⟨D, hc, hL, hP⟩ := id hI
  have hWO := hc.1
  obtain ⟨hW, hO, -⟩ := hWO
  obtain ⟨f, x, e⟩ := hc.gm
  have hx := x_count (R := w.1 51 false) (f := f) (x := x) hO hW y
  rw [e] at hx
  refine jop_q (c := 0 ≤ y ∧ y ≤ 13) (val := jCnt D (w.1 51 false) (w.1 1 false 1) y) (dm := 3) hI (by decide) (by decide) (w_count y hx (fun v w' q => ⟨_, q.2.1⟩) (fun E w' q => q.2.1)) (fun v w' q => ?_) (fun w' q => ?_) (fun w1 hq => ?_)
  · obtain ⟨q1, q2, rfl⟩ := q
    exact ⟨(i32_r2 (a := 13) (b := 14) (by decide)).mp q1, q2, jQu.rf⟩
  · obtain ⟨q1, -, rfl⟩ := q
    exact ⟨fun z => q1 ((i32_r2 (a := 13) (b := 14) (by decide)).mpr z), jQu.rf⟩
  · have h := c_mcount (w := w1) (hc.qu hq).1.2.2 hW ja_51 y
    rw [hq.2.1 51 false (by omega) (by omega) (by omega) (by omega) (by omega), hq.2.2.1, ← hc.len] at h
    exact jMq_F h
theorem jQu.r51 {w w1 : JW} (h : jQu w w1) : w1.1 51 false = w.1 51 false := h.2.1 51 false (by omega) (by omega) (by omega) (by omega) (by omega)
theorem jop_height {n : Nat} {w : JW} (hI : jInv n w) (y : Int32) : jOp n ML_height [(0, 9, 12, 19)] [jR 0 false, jI y, jR 63 false] MX11_height [jR 41 false, jI y] w := by
  obtain ⟨D, hc, hL, hP⟩ := id hI
  have hWO := hc.1
  obtain ⟨hW, hO, -⟩ := hWO
  have hx := x_height hO hW y
  refine jop_q (c := 0 ≤ y ∧ y ≤ 9999) (val := jHgt D y (w.1 14 false 6)) (dm := 1) hI (by decide) (by decide) (w_height y hx (fun v w' q => ⟨_, q.2.1⟩) (fun E w' q => q.2.1)) (fun v w' q => ?_) (fun w' q => ?_) (fun w1 hq => ?_)
  · obtain ⟨q1, q2, rfl⟩ := q
    exact ⟨i32_rng.mpr q1, q2, jQu.rf⟩
  · obtain ⟨q1, -, rfl⟩ := q
    exact ⟨fun z => q1 (i32_rng.mp z), jQu.rf⟩
  · have h := c_mheightAt (w := w1) (hc.qu hq).1.2.2 hW ja_51 y
    rw [hq.r51, ← jhgt_01 hc] at h
    exact jMq_F h
/-- a boolean operation -/
def jOpZ (n : Nat) (Mw : JM) (hh : List (Nat × Nat × Nat × Nat)) (as : List JV) (M : JM) (am : List JV) (w : JW) : Prop :=
  ∃ (dw dm : Nat) (P : JV → JW → Prop), dw ≤ 9 ∧ dm ≤ 410 ∧ jSW Mw hh dw 1 6 as w P ∧ ∀ v w1, P v w1 → ∃ k : Int32, v = jI k ∧ jSI M dm am w1 (fun r w2 => (r = 0 ∨ r = 1) ∧ w2.1 41 false 0 = k ∧ (k = 0 → w2.2.1 63 0 = r.toInt64) ∧ jInv (n + 1) w2)
theorem jop_isSilent {n : Nat} {w : JW} (hI : jInv n w) (y : Int32) : jOpZ n ML_isSilent [(0, 16, 19, 19)] [jR 0 false, jI y, jR 63 false] MX11_isSilent [jR 41 false, jI y] w := by
  obtain ⟨D, hc, hL, hP⟩ := id hI
  have hWO := hc.1
  obtain ⟨hW, hO, -⟩ := hWO
  have hx := x_isSilent hO hW y
  have h01 : ∀ c : Prop, ∀ h : Decidable c, (if c then (1 : Int32) else 0) = 0 ∨ (if c then (1 : Int32) else 0) = 1 := by
    intro c h
    by_cases hc : c
    · exact Or.inr (if_pos hc)
    · exact Or.inl (if_neg hc)
  refine ⟨7, 1, _, by decide, by decide, w_isSilent y hx (fun v w' q => ⟨_, q.2.1, h01 _ _⟩) (fun E w' q => q.2.1), fun v w1 h => ?_⟩
  have hM : ∀ w1, jQu w w1 → jSI MX11_isSilent 1 [jR 41 false, jI y] w1 (fun r w2 => r = (if (0 ≤ y ∧ y ≤ 9999) ∧ jStill D y = true then 1 else 0) ∧ w2 = jT0 w1 (if 0 ≤ y ∧ y ≤ 9999 then 0 else 1)) := fun w1 hq => jSI_F (c_misSilent (w := w1) (hc.qu hq).1.2.2 hW y)
  rcases h with ⟨r, w', ⟨q1, q2, q3⟩, rfl, rfl⟩ | ⟨⟨q1, -, rfl⟩, rfl⟩
  · subst q3
    have e : r = if jStill D y = true then 1 else 0 := by
      cases q2
      rfl
    subst e
    have hq : jQu w' (jsetL w' 63 0 (if jStill D y = true then (1 : Int32) else 0).toInt64) := jQu_L
    refine ⟨0, rfl, (hM _ hq).mono (fun r w2 z => ?_)⟩
    obtain ⟨z1, rfl⟩ := z
    have hcc : 0 ≤ y ∧ y ≤ 9999 := i32_rng.mpr q1
    have e2 : r = if jStill D y = true then 1 else 0 := by
      rw [z1]
      by_cases hs : jStill D y = true
      · rw [if_pos ⟨hcc, hs⟩, if_pos hs]
      · rw [if_neg (fun z => hs z.2), if_neg hs]
    refine ⟨by rw [e2]; exact h01 _ _, ?_, fun _ => ?_, hI.qu (hq.trans jQu_T0)⟩
    · unfold jT0
      rw [jset_I, if_pos ⟨rfl, rfl, rfl⟩, if_pos hcc]
    · rw [e2]
      show (jsetL w' 63 0 _).2.1 63 0 = _
      rw [jsetL_L, if_pos ⟨rfl, rfl⟩]
  · refine ⟨1, rfl, (hM _ jQu.rf).mono (fun r w2 z => ?_)⟩
    obtain ⟨z1, rfl⟩ := z
    have hcc : ¬ (0 ≤ y ∧ y ≤ 9999) := fun z => q1 (i32_rng.mp z)
    refine ⟨by rw [z1]; exact h01 _ _, ?_, fun z => absurd z (by decide), hI.qu jQu_T0⟩
    unfold jT0
    rw [jset_I, if_pos ⟨rfl, rfl, rfl⟩, if_neg hcc]
theorem jop_cave {n : Nat} {w : JW} (hI : jInv n w) (a y : Int32) : jOp n ML_cave [(0, 10, 13, 24)] [jR 0 false, jI a, jI y, jR 63 false] MX11_cave [jR 41 false, jI a, jI y] w := by
  obtain ⟨D, hc, hL, hP⟩ := id hI
  have hWO := hc.1
  obtain ⟨hW, hO, -⟩ := hWO
  have hn := hW.1.1
  obtain ⟨f, x, e⟩ := hc.gm
  have hx := x_cave (R := w.1 51 false) (f := f) (x0 := x) hO hW a y
  rw [e] at hx
  refine jop_q (c := (0 ≤ a ∧ a ≤ nI (D.1 0) - 1) ∧ (0 ≤ y ∧ y ≤ 4)) (val := jCave D (w.1 51 false) a.toNatClampNeg y) (dm := 405) hI (by decide) (by decide) (w_cave a y hx (fun v w' q => by obtain ⟨c, -, -, -, r, h, -⟩ := q; exact ⟨r, h⟩) (fun E w' q => q.2.1)) (fun v w' q => ?_) (fun w' q => ?_) (fun w1 hq => ?_)
  · obtain ⟨c, q1, rfl, q2, r, q3, q4, f2, x2, rfl⟩ := q
    refine ⟨⟨nI_range (by omega) q1, (i32_r2 (a := 4) (b := 5) (by decide)).mp q2⟩, ?_, hc.quF f2 x2⟩
    rw [q3, q4, nI_clamp (by omega)]
  · obtain ⟨q1, -, rfl⟩ := q
    exact ⟨fun z => q1 ⟨(jin_r (by omega)).mpr z.1, (i32_r2 (a := 4) (b := 5) (by decide)).mpr z.2⟩, jQu.rf⟩
  · have h := c_mcave (w := w1) (hc.qu hq).1.2.2 hW ja_51 a y
    rw [hq.r51] at h
    exact jMq_F h
theorem jop_pipe {n : Nat} {w : JW} (hI : jInv n w) (a y : Int32) : jOp n ML_pipe [(0, 10, 13, 24)] [jR 0 false, jI a, jI y, jR 63 false] MX11_pipe [jR 41 false, jI a, jI y] w := by
  obtain ⟨D, hc, hL, hP⟩ := id hI
  have hWO := hc.1
  obtain ⟨hW, hO, -⟩ := hWO
  have hn := hW.1.2.1
  obtain ⟨f, x, e⟩ := hc.gm
  have hx := x_pipe (R := w.1 51 false) (f := f) (x0 := x) hO hW a y
  rw [e] at hx
  refine jop_q (c := (0 ≤ a ∧ a ≤ nI (D.1 1) - 1) ∧ (0 ≤ y ∧ y ≤ 6)) (val := jPipe D (w.1 51 false) a.toNatClampNeg y) (dm := 3) hI (by decide) (by decide) (w_pipe a y hx (fun v w' q => by obtain ⟨c, -, -, -, h, -⟩ := q; exact ⟨_, h⟩) (fun E w' q => q.2.1)) (fun v w' q => ?_) (fun w' q => ?_) (fun w1 hq => ?_)
  · obtain ⟨c, q1, rfl, q2, q3, rfl⟩ := q
    refine ⟨⟨nI_range (by omega) q1, (i32_r2 (a := 6) (b := 7) (by decide)).mp q2⟩, ?_, jQu.rf⟩
    rw [q3, nI_clamp (by omega)]
  · obtain ⟨q1, -, rfl⟩ := q
    exact ⟨fun z => q1 ⟨(jin_r (by omega)).mpr z.1, (i32_r2 (a := 6) (b := 7) (by decide)).mpr z.2⟩, jQu.rf⟩
  · have h := c_mpipe (w := w1) (hc.qu hq).1.2.2 hW ja_51 a y
    rw [hq.r51] at h
    exact jMq_F h
theorem jop_chord {n : Nat} {w : JW} (hI : jInv n w) (a y : Int32) : jOp n ML_chord [(0, 10, 13, 24)] [jR 0 false, jI a, jI y, jR 63 false] MX11_chord [jR 41 false, jI a, jI y] w := by
  obtain ⟨D, hc, hL, hP⟩ := id hI
  have hWO := hc.1
  obtain ⟨hW, hO, -⟩ := hWO
  have hn := hW.1.2.2.1
  obtain ⟨f, x, e⟩ := hc.gm
  have hx := x_chord (R := w.1 51 false) (f := f) (x0 := x) hO hW a y
  rw [e] at hx
  refine jop_q (c := (0 ≤ a ∧ a ≤ nI (D.1 2) - 1) ∧ (0 ≤ y ∧ y ≤ 3)) (val := jChd D (w.1 51 false) a.toNatClampNeg y) (dm := 3) hI (by decide) (by decide) (w_chord a y hx (fun v w' q => by obtain ⟨c, -, -, -, h, -⟩ := q; exact ⟨_, h⟩) (fun E w' q => q.2.1)) (fun v w' q => ?_) (fun w' q => ?_) (fun w1 hq => ?_)
  · obtain ⟨c, q1, rfl, q2, q3, rfl⟩ := q
    refine ⟨⟨nI_range (by omega) q1, (i32_r2 (a := 3) (b := 4) (by decide)).mp q2⟩, ?_, jQu.rf⟩
    rw [q3, nI_clamp (by omega)]
  · obtain ⟨q1, -, rfl⟩ := q
    exact ⟨fun z => q1 ⟨(jin_r (by omega)).mpr z.1, (i32_r2 (a := 3) (b := 4) (by decide)).mpr z.2⟩, jQu.rf⟩
  · have h := c_mchord (w := w1) (hc.qu hq).1.2.2 hW ja_51 a y
    rw [hq.r51] at h
    exact jMq_F h
theorem jop_note {n : Nat} {w : JW} (hI : jInv n w) (a y : Int32) : jOp n ML_note [(0, 10, 13, 24)] [jR 0 false, jI a, jI y, jR 63 false] MX11_note [jR 41 false, jI a, jI y] w := by
  obtain ⟨D, hc, hL, hP⟩ := id hI
  have hWO := hc.1
  obtain ⟨hW, hO, -⟩ := hWO
  have hn := hW.1.2.2.1
  have hx := x_note hO hW a y
  refine jop_q (c := jNin D a y = true) (val := jNote D a y) (dm := 2) hI (by decide) (by decide) (w_note a y hx (fun v w' q => by obtain ⟨c, q, -, -, -, -, h, -⟩ := q; exact ⟨_, h⟩) (fun E w' q => q.2.1)) (fun v w' q => ?_) (fun w' q => ?_) (fun w1 hq => ?_)
  · obtain ⟨c, p, q1, q2, rfl, rfl, q3, rfl⟩ := q
    have h6 := (hW.2.2.2.1 c q1).2.1
    refine ⟨?_, ?_, jQu.rf⟩
    · refine decide_eq_true ⟨nI_range (by omega) q1, ?_⟩
      rw [nI_clamp (by omega)]
      exact nI_range (by omega) q2
    · unfold jNote
      rw [q3, nI_clamp (by omega), nI_clamp (by omega)]
  · obtain ⟨q1, -, rfl⟩ := q
    refine ⟨fun z => q1 ?_, jQu.rf⟩
    obtain ⟨z1, z2⟩ := of_decide_eq_true z
    obtain ⟨h1, h2⟩ := in_nat (by omega) z1
    have h6 := (hW.2.2.2.1 _ h1).2.1
    exact ⟨a.toNatClampNeg, h1, h2, z2.1, ((jin_r (by omega)).mpr z2).2⟩
  · exact jMq_F (c_mnote (w := w1) (hc.qu hq).1.2.2 hW a y)
theorem jop_apart {n : Nat} {w : JW} (hI : jInv n w) (a y : Int32) : jOp n ML_apart [(0, 10, 13, 24)] [jR 0 false, jI a, jI y, jR 63 false] MX11_apart [jR 41 false, jI a, jI y] w := by
  obtain ⟨D, hc, hL, hP⟩ := id hI
  have hWO := hc.1
  obtain ⟨hW, hO, -⟩ := hWO
  have hn := hW.1.2.1
  have hx := x_apart hO hW a y
  refine jop_q (c := (0 ≤ a ∧ a ≤ nI (D.1 1) - 1) ∧ (0 ≤ y ∧ y ≤ nI (D.1 1) - 1)) (val := jApart D a y) (dm := 2) hI (by decide) (by decide) (w_apart a y hx (fun v w' q => by obtain ⟨c, q, -, -, -, -, h, -⟩ := q; exact ⟨_, h⟩) (fun E w' q => q.2.1)) (fun v w' q => ?_) (fun w' q => ?_) (fun w1 hq => ?_)
  · obtain ⟨c, p, q1, q2, rfl, rfl, q3, rfl⟩ := q
    refine ⟨⟨nI_range (by omega) q1, nI_range (by omega) q2⟩, ?_, jQu.rf⟩
    unfold jApart
    rw [q3, nI_clamp (by omega), nI_clamp (by omega)]
  · obtain ⟨q1, -, rfl⟩ := q
    exact ⟨fun z => q1 ⟨(jin_r (by omega)).mpr z.1, (jin_r (by omega)).mpr z.2⟩, jQu.rf⟩
  · exact jMq_F (c_mapart (w := w1) (hc.qu hq).1.2.2 hW a y)
/-! looking ahead -/
theorem jMq_S {M : JM} {dm : Nat} {am : List JV} {w1 : JW} {c : Prop} {h : Decidable c} {val r0 : Int32} (hm : jSI M dm am w1 (fun r w2 => r = (if c then val else r0) ∧ ∃ f, w2 = jfn (jT0 w1 (if c then 0 else 1)) 52 false f)) : jMq M dm am w1 (if c then 0 else 1) val := by
  refine hm.mono (fun r w2 q => ?_)
  obtain ⟨rfl, f, rfl⟩ := q
  refine ⟨fun z => ?_, ?_, rfl, jQu_T0.trans jQu_52⟩
  · by_cases hc : c
    · exact if_pos hc
    · rw [if_neg hc] at z
      exact absurd z (by decide)
  · rw [jfn_I, if_neg (by omega)]
    unfold jT0
    rw [jset_I, if_pos ⟨rfl, rfl, rfl⟩]
theorem jop_until {n : Nat} {w : JW} (hI : jInv n w) (a : Int32) : jOp n ML_until [(0, 9, 12, 24)] [jR 0 false, jI a, jR 63 false] MX11_until [jR 41 false, jI a] w := by
  obtain ⟨D, hc, hL, hP⟩ := id hI
  have hWO := hc.1
  obtain ⟨hW, hO, -⟩ := hWO
  have hn := hW.1.2.1
  obtain ⟨f, x, e⟩ := jgm_self w true
  have hx := x_until (R := w.1 51 false) (S := jrow w true) (f := f) (x0 := x) hO hW (fun i hi => (hc.2.1 i hi).symm) a
  rw [e] at hx
  refine jop_q (c := 0 ≤ a ∧ a ≤ nI (D.1 1) - 1) (val := jUnt D (w.1 51 false) a.toNatClampNeg 151 0) (dm := 407) hI (by decide) (by decide) (w_until a hx (fun v w' q => by obtain ⟨p, -, -, r, h, -⟩ := q; exact ⟨r, h⟩) (fun E w' q => q.2.1)) (fun v w' q => ?_) (fun w' q => ?_) (fun w1 hq => ?_)
  · obtain ⟨p, q1, rfl, r, q3, q4, S2, f2, x2, rfl⟩ := q
    refine ⟨nI_range (by omega) q1, ?_, jQu_true⟩
    rw [q3, q4, nI_clamp (by omega)]
  · obtain ⟨q1, -, rfl⟩ := q
    exact ⟨fun z => q1 ((jin_r (by omega)).mpr z), jQu.rf⟩
  · exact jMq_S (c_muntil (w := w1) (hc.qu hq).1.2.2 hW ja_51 ja_52 (fun i _ => by rw [hq.r51]) a)
theorem nI_1le {k : Nat} (hk : k < 2 ^ 31) (h : 1 ≤ k) : (1 : Int32) ≤ nI k := (nI_leI (a := 1) (b := k) (by omega) hk).mpr h
theorem jop_best {n : Nat} {w : JW} (hI : jInv n w) (a : Int32) : jOp n ML_best [(0, 9, 12, 19)] [jR 0 false, jI a, jR 63 false] MX11_best [jR 41 false, jI a] w := by
  obtain ⟨D, hc, hL, hP⟩ := id hI
  have hWO := hc.1
  obtain ⟨hW, hO, -⟩ := hWO
  obtain ⟨f, x, e⟩ := jgm_self w true
  have hx := x_best (R := w.1 51 false) (S := jrow w true) (f := f) (x0 := x) hO hW (fun i hi => (hc.2.1 i hi).symm) a
  rw [e] at hx
  refine jop_q (c := 1 ≤ a ∧ a ≤ 72) (val := (jBest D (w.1 51 false) a.toNatClampNeg (D.1 1)).2) (dm := 407) hI (by decide) (by decide) (w_best a hx (fun v w' q => by obtain ⟨p, -, -, -, r, h, -⟩ := q; exact ⟨r, h⟩) (fun E w' q => q.2.1)) (fun v w' q => ?_) (fun w' q => ?_) (fun w1 hq => ?_)
  · obtain ⟨k, q1, rfl, q2, r, q3, q4, S2, f2, x2, rfl⟩ := q
    refine ⟨⟨nI_1le (by omega) q2, (nI_leI (a := k) (b := 72) (by omega) (by omega)).mpr q1⟩, ?_, jQu_true⟩
    rw [q3, q4, nI_clamp (by omega)]
  · obtain ⟨q1, -, rfl⟩ := q
    exact ⟨fun z => q1 ((i32_r3 trivial).mpr z), jQu.rf⟩
  · exact jMq_S (c_mbest (w := w1) (hc.qu hq).1.2.2 hW ja_51 ja_52 (fun i _ => by rw [hq.r51]) a)
theorem jop_advise {n : Nat} {w : JW} (hn5 : n ≤ 512) (hI : jInv n w) (a : Int32) : jOp n ML_advise [(0, 9, 12, 19)] [jR 0 false, jI a, jR 63 false] MX11_advise [jR 41 false, jI a] w := by
  obtain ⟨D, hc, hL, hP⟩ := id hI
  have hWO := hc.1
  obtain ⟨hW, hO, -⟩ := hWO
  obtain ⟨f, x, e⟩ := jgm_self w true
  have hx := x_advise (R := w.1 51 false) (S := jrow w true) (f := f) (x0 := x) hO hW (fun i hi => (hc.2.1 i hi).symm) hL (by omega) a
  rw [e] at hx
  refine jop_q (c := 1 ≤ a ∧ a ≤ 72) (val := (jAdvise D (w.1 51 false) a.toNatClampNeg 10).1) (dm := 407) hI (by decide) (by decide) (w_advise a hx (fun v w' q => by obtain ⟨p, -, -, -, r, h, -⟩ := q; exact ⟨r, h⟩) (fun E w' q => q.2.1)) (fun v w' q => ?_) (fun w' q => ?_) (fun w1 hq => ?_)
  · obtain ⟨k, q1, rfl, q2, r, q3, q4, S2, f2, x2, rfl⟩ := q
    refine ⟨⟨nI_1le (by omega) q2, (nI_leI (a := k) (b := 72) (by omega) (by omega)).mpr q1⟩, ?_, jQu_true⟩
    rw [q3, q4, nI_clamp (by omega)]
  · obtain ⟨q1, -, rfl⟩ := q
    exact ⟨fun z => q1 ((i32_r3 trivial).mpr z), jQu.rf⟩
  · exact jMq_S (c_madvise (w := w1) (hc.qu hq).1.2.2 hW ja_51 ja_52 (fun i _ => by rw [hq.r51]) a)
theorem jop_foresee {n : Nat} {w : JW} (hI : jInv n w) (a y : Int32) : jOp n ML_foresee [(0, 10, 13, 19), (0, 10, 17, 24)] [jR 0 false, jI a, jI y, jR 63 false] MX11_foresee [jR 41 false, jI a, jI y] w := by
  obtain ⟨D, hc, hL, hP⟩ := id hI
  have hWO := hc.1
  obtain ⟨hW, hO, -⟩ := hWO
  obtain ⟨f, x, e⟩ := jgm_self w true
  have hx := x_foresee (R := w.1 51 false) (S := jrow w true) (f := f) (x0 := x) hO hW (fun i hi => (hc.2.1 i hi).symm) a y
  rw [e] at hx
  have hM : ∀ w1, jQu w w1 → jMq MX11_foresee 407 [jR 41 false, jI a, jI y] w1 (if 1 ≤ a ∧ a ≤ 120 then (if 0 ≤ y ∧ y ≤ 3 then 0 else 2) else 1) (jFor D (w.1 51 false) a.toNatClampNeg y) := by
    intro w1 hq
    refine (c_mforesee (w := w1) (R := w.1 51 false) (hc.qu hq).1.2.2 hW ja_51 ja_52 (fun i _ => by rw [hq.r51]) a y).mono (fun r w2 q => ?_)
    obtain ⟨rfl, f, rfl⟩ := q
    refine ⟨fun z => ?_, ?_, rfl, jQu_T0.trans jQu_52⟩
    · by_cases h1 : 1 ≤ a ∧ a ≤ 120
      · rw [if_pos h1] at z
        by_cases h2 : 0 ≤ y ∧ y ≤ 3
        · exact if_pos ⟨h1, h2⟩
        · rw [if_neg h2] at z
          exact absurd z (by decide)
      · rw [if_neg h1] at z
        exact absurd z (by decide)
    · rw [jfn_I, if_neg (by omega)]
      unfold jT0
      rw [jset_I, if_pos ⟨rfl, rfl, rfl⟩]
  refine ⟨8, 407, _, by decide, by decide, w_foresee a y hx (fun v w' q => by obtain ⟨p, -, -, -, -, r, h, -⟩ := q; exact ⟨r, h⟩) (fun E w' q => q.1.elim (fun z => Or.inl z.2) (fun z => Or.inr z.2.2)), fun v w1 h => ?_⟩
  rcases h with ⟨r, w', q, rfl, rfl⟩ | ⟨q, rfl⟩ | ⟨q, rfl⟩
  · obtain ⟨k, q1, rfl, q2, q5, r2, q3, q4, S2, f2, x2, rfl⟩ := q
    cases q3
    have h1 : 1 ≤ nI k ∧ nI k ≤ 120 := ⟨nI_1le (by omega) q2, (nI_leI (a := k) (b := 120) (by omega) (by omega)).mpr q1⟩
    have h2 : 0 ≤ y ∧ y ≤ 3 := (i32_r2 (a := 3) (b := 4) (by decide)).mp q5
    have hq : jQu w (jsetL (jgm w true S2 f2 x2) 63 0 r.toInt64) := jQu_true.trans jQu_L
    have h3 := hM _ hq
    rw [if_pos h1, if_pos h2] at h3
    refine ⟨0, rfl, jop_1 hI hq (fun _ => ?_) h3⟩
    rw [jsetL_L, if_pos ⟨rfl, rfl⟩, q4, nI_clamp (by omega)]
  · obtain ⟨q1, rfl⟩ := q
    have h1 : ¬ (1 ≤ a ∧ a ≤ 120) := by
      rcases q1 with ⟨q1, -⟩ | ⟨-, -, q1⟩
      · exact fun z => q1 ((i32_r3 trivial).mpr z)
      · exact absurd q1 (by decide)
    have h3 := hM _ jQu.rf
    rw [if_neg h1] at h3
    exact ⟨1, rfl, jop_1 hI jQu.rf (fun z => absurd z (by decide)) h3⟩
  · obtain ⟨q1, rfl⟩ := q
    have h1 : (1 ≤ a ∧ a ≤ 120) ∧ ¬ (0 ≤ y ∧ y ≤ 3) := by
      rcases q1 with ⟨-, q1⟩ | ⟨q1, q2, -⟩
      · exact absurd q1 (by decide)
      · exact ⟨(i32_r3 trivial).mp q1, fun z => q2 ((i32_r2 (a := 3) (b := 4) (by decide)).mpr z)⟩
    have h3 := hM _ jQu.rf
    rw [if_pos h1.1, if_neg h1.2] at h3
    exact ⟨2, rfl, jop_1 hI jQu.rf (fun z => absurd z (by decide)) h3⟩
