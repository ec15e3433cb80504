/-! the sounding hours' sums stay small; the class's advice -/
def jLow (R : Nat → Int32) (m : Nat) : Prop := ∃ a b : Nat, R 2 = nI a ∧ R 3 = nI b ∧ a ≤ m ∧ b ≤ m
theorem jIter_kp {F : Nat → (Nat → Int32) → Nat → Int32} {i : Nat} (h : ∀ p R, F p R i = R i) (n : Nat) (R : Nat → Int32) : jIter F n R i = R i := by
  induction n with
  | zero => rfl
  | succ n ih => rw [jIter, h, ih]
theorem jPress1_kp {D : JD} {i : Nat} (hi : i < 4) (p : Nat) (R : Nat → Int32) : jPress1 D p R i = R i := pk_un (by omega)
theorem jBlow1_kp {D : JD} {i : Nat} (hi : i < 4) (p : Nat) (R : Nat → Int32) : jBlow1 D p R i = R i := (pk_un (by omega)).trans (pk_un (by omega))
theorem jSettle1_kp {D : JD} {i : Nat} (hi : i < 4) (p : Nat) (R : Nat → Int32) : jSettle1 D p R i = R i := pk_un (by omega)
theorem jClean1_kp {D : JD} {i : Nat} (hi : i < 4) (p : Nat) (R : Nat → Int32) : jClean1 D p R i = R i := by
  unfold jClean1
  split
  · exact pk_un (by omega)
  · rfl
theorem jChord1_low {D : JD} (hW : jWF D) {c : Nat} (hc : c < D.1 2) {R : Nat → Int32} {m : Nat} (h : jLow R m) : jLow (jChord1 D c R) (m + 6) := by
  obtain ⟨a, b, ha, hb, h1, h2⟩ := h
  have hs := (hW.2.2.2.1 c hc).2.1
  unfold jChord1
  split
  · have e2 : ∀ x y z : Int32, upd (upd (upd R 2 x) 3 y) (45 + c) z 2 = x := fun x y z => (pk_un (by omega)).trans ((pk_un (by omega)).trans pk_us)
    have e3 : ∀ x y z : Int32, upd (upd (upd R 2 x) 3 y) (45 + c) z 3 = y := fun x y z => (pk_un (by omega)).trans pk_us
    unfold jLow
    rw [e2, e3, ha, hb]
    split
    · exact ⟨a + D.1 (10 + c), b, nI_add _ _, Int32.add_zero _, by omega, by omega⟩
    · exact ⟨a, b + D.1 (10 + c), Int32.add_zero _, nI_add _ _, by omega, by omega⟩
  · exact ⟨a, b, ha, hb, by omega, by omega⟩
theorem jHour_low {D : JD} (hW : jWF D) {R : Nat → Int32} {m : Nat} (h : jLow R m) : jLow (jHour D R) (m + 36) := by
  have h6 := hW.1.2.2.1
  have key : ∀ n, n ≤ D.1 2 → jLow (jIter (jChord1 D) n (jIter (jClean1 D) (D.1 5) (jIter (jSettle1 D) (D.1 1) (jIter (jBlow1 D) (D.1 1) (jIter (jPress1 D) (D.1 0) R))))) (m + 6 * n) := by
    intro n
    induction n with
    | zero =>
      intro _
      show jLow (jIter (jClean1 D) (D.1 5) (jIter (jSettle1 D) (D.1 1) (jIter (jBlow1 D) (D.1 1) (jIter (jPress1 D) (D.1 0) R)))) m
      unfold jLow
      rw [jIter_kp (jClean1_kp (by omega)), jIter_kp (jSettle1_kp (by omega)), jIter_kp (jBlow1_kp (by omega)), jIter_kp (jPress1_kp (by omega)), jIter_kp (jClean1_kp (by omega)), jIter_kp (jSettle1_kp (by omega)), jIter_kp (jBlow1_kp (by omega)), jIter_kp (jPress1_kp (by omega))]
      exact h
    | succ n ih =>
      intro hn
      have := jChord1_low hW (c := n) (by omega) (ih (by omega))
      exact this
  obtain ⟨a, b, ha, hb, h1, h2⟩ := key (D.1 2) (Nat.le_refl _)
  exact ⟨a, b, (pk_un (by omega)).trans ha, (pk_un (by omega)).trans hb, by omega, by omega⟩
theorem jHours_low {D : JD} (hW : jWF D) {R : Nat → Int32} {m : Nat} (h : jLow R m) (n : Nat) : jLow (jHours D n R) (m + 36 * n) := by
  induction n with
  | zero => exact h
  | succ n ih =>
    have := jHour_low hW ih
    exact this
theorem jdiff {p q r s : Nat} (hp : p < 2 ^ 24) (hq : q < 2 ^ 24) (hr : r < 2 ^ 24) (hs : s < 2 ^ 24) : ((nI p - 2 * nI q) - (nI r - 2 * nI s)).toInt = ((p : Int) - 2 * q) - (r - 2 * s) := by
  have e : (nI p - 2 * nI q) - (nI r - 2 * nI s) = nI (p + 2 * s) - nI (2 * q + r) := by
    rw [mx2, mx2, ← nI_add, ← nI_add]
    grind
  rw [e, pk_sub_toInt (by omega) (by omega)]
  omega
theorem jGain_eq (D : JD) (R : Nat → Int32) (n i : Nat) : jGain D R n (nI i) = jAdv D R n i - (R 2 - 2 * R 3) := by
  unfold jGain jAdv
  grind
theorem jAdv_low {D : JD} (hW : jWF D) {R : Nat → Int32} {m n : Nat} (h : jLow R m) (i : Nat) : ∃ p q : Nat, jAdv D R n i = nI p - 2 * nI q ∧ p ≤ m + 36 * n ∧ q ≤ m + 36 * n := by
  have h2 : jLow (upd R 1 (nI i)) m := by
    obtain ⟨a, b, ha, hb, h1, h2⟩ := h
    exact ⟨a, b, (pk_un (by omega)).trans ha, (pk_un (by omega)).trans hb, h1, h2⟩
  obtain ⟨p, q, hp, hq, h3, h4⟩ := jHours_low hW h2 n
  refine ⟨p, q, ?_, h3, h4⟩
  unfold jAdv
  rw [hp, hq]
theorem jAdvise_1 (D : JD) (R : Nat → Int32) (n : Nat) : jAdvise D R n 1 = (nI 0, jAdv D R n 0) := by
  rw [show jAdvise D R n 1 = if (jAdvise D R n 0).1 < 0 ∨ (jAdvise D R n 0).2 < jAdv D R n 0 then (nI 0, jAdv D R n 0) else jAdvise D R n 0 from rfl, if_pos (Or.inl (by show (-1 : Int32) < 0; decide))]
theorem jAdvise_low {D : JD} (hW : jWF D) {R : Nat → Int32} {m n : Nat} (h : jLow R m) (i : Nat) : i ≤ 10 → (∃ j : Nat, j ≤ i ∧ (jAdvise D R n (i + 1)).1 = nI j) ∧ ∃ p q : Nat, (jAdvise D R n (i + 1)).2 = nI p - 2 * nI q ∧ p ≤ m + 36 * n ∧ q ≤ m + 36 * n := by
  induction i with
  | zero =>
    intro _
    rw [jAdvise_1]
    exact ⟨⟨0, Nat.le_refl _, rfl⟩, jAdv_low hW h 0⟩
  | succ i ih =>
    intro hi
    obtain ⟨⟨j, hj, e1⟩, e2⟩ := ih (by omega)
    rw [show jAdvise D R n (i + 1 + 1) = if (jAdvise D R n (i + 1)).1 < 0 ∨ (jAdvise D R n (i + 1)).2 < jAdv D R n (i + 1) then (nI (i + 1), jAdv D R n (i + 1)) else jAdvise D R n (i + 1) from rfl]
    split
    · exact ⟨⟨i + 1, Nat.le_refl _, rfl⟩, jAdv_low hW h (i + 1)⟩
    · exact ⟨⟨j, by omega, e1⟩, e2⟩
theorem c_advise_ok {w : JW} {D : JD} {R S f : Nat → Int32} {x : Int32} {C : JC} (hm : jok C MX9_advise 8 0 0) (hO : jOrg w (w.2.2 0 6) D) (hW : jWF D) (hR : ∀ i, i < 51 → R i = jrow w false i) {m : Nat} (hL : jLow R m) (hm20 : m ≤ 2 ^ 23) {n : Nat} (hn : n ≤ 72) :
    jW C 0 0 (jQQ C 0 0 (fun v w2 => ∃ r, v = jI r ∧ (r = (jAdvise D R n 10).1 ∧ ∃ S f x, w2 = jgm w true S f x))) 21 [jR 0 false, jI (nI n), jU, jU, jU, jU] [] (jgm w true S f x) := by
  obtain ⟨r2, r3, er2, er3, l2, l3⟩ := hL
  have hL : jLow R m := ⟨r2, r3, er2, er3, l2, l3⟩
  refine bq_X9_advise_21 hm (c_gain hO hW hR 0 (by omega)) (by decide) (fun r w2 hp => ?_)
  obtain ⟨rfl, S2, f2, x2, rfl⟩ := hp
  refine bk_X9_advise_29 hm ?_
  have key : ∀ k i, k + (i + 1) = 10 → ∀ S f x, jW C 0 0 (jQQ C 0 0 (fun v w2 => ∃ r, v = jI r ∧ (r = (jAdvise D R n 10).1 ∧ ∃ S f x, w2 = jgm w true S f x))) 33 [jR 0 false, jI (nI n), jI (jAdvise D R n (i + 1)).1, jI ((jAdvise D R n (i + 1)).2 - (R 2 - 2 * R 3)), jI (nI (i + 1)), jU] [] (jgm w true S f x) := by
    intro k
    induction k with
    | zero =>
      intro i hi S f x
      have e : i = 9 := by omega
      subst e
      exact bk_X9_advise_33 hm (fun _ => bk_X9_advise_67 hm ⟨_, rfl, rfl, _, _, _, rfl⟩) (fun z => absurd ((nI_ltI (a := 9) (b := 10) (by omega) (by omega)).mpr (by omega)) z)
    | succ k ih =>
      intro i hi S f x
      refine bk_X9_advise_33 hm (fun z => absurd ((nI_ltI (a := 9) (b := i + 1) (by omega) (by omega)).mp z) (by omega)) (fun _ => ?_)
      refine bq_X9_advise_40 hm (c_gain hO hW hR (nI (i + 1)) (by omega)) (by decide) (fun r w2 hp => ?_)
      obtain ⟨rfl, S3, f3, x3, rfl⟩ := hp
      obtain ⟨⟨j, hj, e1⟩, p, q, e2, hp2, hq2⟩ := jAdvise_low hW (n := n) hL i (by omega)
      obtain ⟨p3, q3, e3, hp3, hq3⟩ := jAdv_low hW (n := n) hL (i + 1)
      have ih2 := ih (i + 1) (by omega) S3 f3 x3
      rw [show jAdvise D R n (i + 1 + 1) = if (jAdvise D R n (i + 1)).1 < 0 ∨ (jAdvise D R n (i + 1)).2 < jAdv D R n (i + 1) then (nI (i + 1), jAdv D R n (i + 1)) else jAdvise D R n (i + 1) from rfl] at ih2
      have n1 : ¬ (jAdvise D R n (i + 1)).1 < 0 := by rw [e1]; exact nI_pos (by omega)
      have i1 : (jAdvise D R n (i + 1)).2.toInt = (p : Int) - 2 * q := by rw [e2, mx2, pk_sub_toInt (by omega) (by omega)]; omega
      have i3 : (jAdv D R n (i + 1)).toInt = (p3 : Int) - 2 * q3 := by rw [e3, mx2, pk_sub_toInt (by omega) (by omega)]; omega
      have d1 : ((jAdvise D R n (i + 1)).2 - (R 2 - 2 * R 3)).toInt = ((p : Int) - 2 * q) - (r2 - 2 * r3) := by rw [e2, er2, er3]; exact jdiff (by omega) (by omega) (by omega) (by omega)
      have d3 : (jAdv D R n (i + 1) - (R 2 - 2 * R 3)).toInt = ((p3 : Int) - 2 * q3) - (r2 - 2 * r3) := by rw [e3, er2, er3]; exact jdiff (by omega) (by omega) (by omega) (by omega)
      rw [jGain_eq]
      refine bk_X9_advise_47 hm (fun z => bk_X9_advise_61 hm ?_) (fun z => bk_X9_advise_55 hm (bk_X9_advise_61 hm ?_)) <;> rw [Int32.le_iff_toInt_le, d1, d3] at z
      · rw [if_neg (fun h => h.elim n1 (fun q => by rw [Int32.lt_iff_toInt_lt, i1, i3] at q; omega))] at ih2
        rw [nI_1]
        exact ih2
      · rw [if_pos (Or.inr (by rw [Int32.lt_iff_toInt_lt, i1, i3]; omega))] at ih2
        rw [nI_1]
        exact ih2
  have k0 := key 9 0 (by omega) S2 f2 x2
  rw [jAdvise_1] at k0
  rw [show jGain D R n 0 = jAdv D R n 0 - (R 2 - 2 * R 3) from jGain_eq D R n 0]
  exact k0
