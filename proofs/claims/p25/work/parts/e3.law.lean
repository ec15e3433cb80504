
/-! THE LAW's turns -/
theorem c_below {w : JW} (v : Int32) {n : Nat} (h0 : 0 < n) (hn : n < 2 ^ 31) : jF ML_below 0 [jI v, jI (nI n)] w (jI (nI (kbl v n))) w := by
  refine jF_of jp_L_below rfl (Nat.le_of_ble_eq_true rfl) (fun C hm => ?_)
  refine bk_L_below_0 hm (fun z => ?_) ⟨?_, rfl⟩
  · have := (nI_eq (a := n) (b := 0) hn (by omega)).mp z
    omega
  · rw [pk_and v (m := 2147483647) 31 (by decide), pk_rem (Nat.mod_lt _ (Nat.two_pow_pos 31)) h0 hn]
    rfl
theorem jall_and (f : Nat → Bool) (k : Nat) : (if jall f k = true then (1 : Int32) else 0) &&& (if f k = true then 1 else 0) = if jall f (k + 1) = true then 1 else 0 := by
  rw [jall]
  cases jall f k <;> cases f k <;> decide
theorem jct_1 (f : Nat → Bool) (k : Nat) : nI (jct f k) + (if f k = true then 1 else 0) = nI (jct f (k + 1)) := by
  rw [jct]
  cases f k
  · exact Int32.add_zero _
  · exact nI_add _ 1
section
variable {C : JC} {cl sl : Nat} {Q : State → Prop} {D : JD} {R : Nat → Int32} {n : Nat} {len : Int32} {w : JW}
theorem l_end (hm : jok C ML_law 9 cl sl) (h : kOg D R n len w) {t p : Nat} (hp : p < 4) (k : ∀ w, kOg D R n len w → jW C cl sl Q 675 [jR 97 false, jR 0 false, jI (nI t), jU, jU, jU, jU, jU, jU, jU, jU, jU, jU, jU, jU, jU, jU, jU, jU, jU, jU] [] w) : jW C cl sl Q 634 [jR 97 false, jR 0 false, jI (nI t), jU, jI (nI p), jU, jU, jU, jU, jU, jU, jU, jU, jU, jU, jU, jU, jI (jChm D R), jU, jU, jU] [] w := by
  refine bq_L_law_634 hm (k_count h 9 (by decide) (by decide)) (by omega) (fun r w h => ?_)
  obtain ⟨rfl, h⟩ := h
  refine bk_L_law_640 hm (fun z => absurd rfl z) (fun _ => ?_)
  refine bq_L_law_645 hm (k_apart h hp hp) (by omega) (fun r w h => ?_)
  obtain ⟨rfl, h⟩ := h
  have e0 : ∀ a, jEu 40 a a = 0 := fun a => by
    show (if a = a then 0 else _) = 0
    exact if_pos rfl
  refine bk_L_law_653 hm (fun z => absurd (by rw [e0]; rfl) z) (fun _ => ?_)
  refine bq_L_law_656 hm (k_apart (p := 0) h (by omega) hp) (by omega) (fun r w h => ?_)
  obtain ⟨rfl, h⟩ := h
  refine bq_L_law_663 hm (k_apart (q := 0) h hp (by omega)) (by omega) (fun r w h => ?_)
  obtain ⟨rfl, h⟩ := h
  exact bk_L_law_670 hm (fun _ => k w h) (fun z => absurd (by rw [jEu_comm]) z)
theorem l_notes (hm : jok C ML_law 9 cl sl) {t p c : Nat} (hc : c < 2) (k : ∀ w, kOg D R n len w → jW C cl sl Q 591 [jR 97 false, jR 0 false, jI (nI t), jU, jI (nI p), jU, jU, jU, jU, jU, jU, jU, jU, jU, jU, jU, jU, jI (nI (jct (fun c => jRings D R c) c)), jI (nI c), jI (if jRings D R c = true then 1 else 0), jU] [] w) : ∀ m i, m + i = D.1 (10 + c) → ∀ w, kOg D R n len w → jW C cl sl Q 547 [jR 97 false, jR 0 false, jI (nI t), jU, jI (nI p), jU, jU, jU, jU, jU, jU, jU, jU, jU, jU, jU, jU, jI (nI (jct (fun c => jRings D R c) c)), jI (nI c), jI (if jall (fun p => decide (0 < R (21 + D.1 (20 + (6 * c + p))))) i = true then 1 else 0), jI (nI i)] [] w := by
  intro m
  induction m with
  | zero =>
    intro i hi w h
    have h6 := (h.2.1.2.2.2.1 c (by rw [h.2.2.1.1.2.2.1]; exact hc)).2.1
    refine bq_L_law_547 hm (k_chord h hc 0 (by decide) (by decide)) (by omega) (fun r w h => ?_)
    obtain ⟨rfl, h⟩ := h
    refine bk_L_law_556 hm (fun _ => ?_) (fun z => absurd (nI_le (a := D.1 (10 + c)) (b := i) (by omega) (by omega)) z)
    have e : i = D.1 (10 + c) := by omega
    subst e
    exact k w h
  | succ m ih =>
    intro i hi w h
    have h6 := (h.2.1.2.2.2.1 c (by rw [h.2.2.1.1.2.2.1]; exact hc)).2
    have h4 := h.four
    refine bq_L_law_547 hm (k_chord h hc 0 (by decide) (by decide)) (by omega) (fun r w h => ?_)
    obtain ⟨rfl, h⟩ := h
    refine bk_L_law_556 hm (fun z => absurd ((nI_leI (a := D.1 (10 + c)) (b := i) (by omega) (by omega)).mp z) (by omega)) (fun _ => ?_)
    refine bq_L_law_559 hm (k_note h hc (q := i) (by omega)) (by omega) (fun r w h => ?_)
    obtain ⟨rfl, h⟩ := h
    refine bq_L_law_570 hm (k_pipe h (p := D.1 (20 + (6 * c + i))) (by have := h6.2 i (by omega); omega) 5 (by decide) (by decide)) (by omega) (fun r w h => ?_)
    obtain ⟨rfl, h⟩ := h
    have goon := ih (i + 1) (by omega) w h
    rw [← jall_and] at goon
    have e5 : jPipe D R (D.1 (20 + (6 * c + i))) 5 = R (21 + D.1 (20 + (6 * c + i))) := rfl
    rw [e5]
    refine bk_L_law_574 hm (fun z => bk_L_law_581 hm (bk_L_law_582 hm ?_)) (fun z => bk_L_law_577 hm (bk_L_law_582 hm ?_))
    · rw [show (if decide (0 < R (21 + D.1 (20 + (6 * c + i)))) = true then (1 : Int32) else 0) = 0 from if_neg (fun q => (i32_le0.mp z) (of_decide_eq_true q))] at goon
      rw [nI_1]
      exact goon
    · rw [show (if decide (0 < R (21 + D.1 (20 + (6 * c + i)))) = true then (1 : Int32) else 0) = 1 from if_pos (decide_eq_true (Classical.not_not.mp (fun q => z (i32_le0.mpr q))))] at goon
      rw [nI_1]
      exact goon
theorem l_chords (hm : jok C ML_law 9 cl sl) {t p : Nat} (hp : p < 4) (k : ∀ w, kOg D R n len w → jW C cl sl Q 675 [jR 97 false, jR 0 false, jI (nI t), jU, jU, jU, jU, jU, jU, jU, jU, jU, jU, jU, jU, jU, jU, jU, jU, jU, jU] [] w) : ∀ m c, m + c = 2 → ∀ w, kOg D R n len w → jW C cl sl Q 535 [jR 97 false, jR 0 false, jI (nI t), jU, jI (nI p), jU, jU, jU, jU, jU, jU, jU, jU, jU, jU, jU, jU, jI (nI (jct (fun c => jRings D R c) c)), jI (nI c), jU, jU] [] w := by
  intro m
  induction m with
  | zero =>
    intro c hc w h
    have e : c = 2 := by omega
    subst e
    refine bk_L_law_535 hm (fun _ => ?_) (fun z => absurd (nI_le (a := 2) (b := 2) (by omega) (by omega)) z)
    have hh := l_end hm h hp k
    unfold jChm at hh
    rw [h.2.2.1.1.2.2.1] at hh
    exact hh
  | succ m ih =>
    intro c hc w h
    refine bk_L_law_535 hm (fun z => absurd ((nI_leI (a := 2) (b := c) (by omega) (by omega)).mp z) (by omega)) (fun _ => bk_L_law_541 hm ?_)
    refine l_notes hm (c := c) (by omega) (fun w h => ?_) (D.1 (10 + c)) 0 rfl w h
    have goon := fun w h => ih (c + 1) (by omega) w h
    have e1 := jct_1 (fun c => jRings D R c) c
    have ch := fun w (h : kOg D R n len w) => k_chord h (c := c) (by omega) 1 (by decide) (by decide)
    have er : jChd D R c 1 = if jRings D R c = true then 1 else 0 := rfl
    rw [← e1] at goon
    cases hR : jRings D R c with
    | true =>
      rw [hR] at goon er
      refine bk_L_law_591 hm (fun z => absurd z (by decide)) (fun _ => bk_L_law_598 hm ?_)
      refine bq_L_law_603 hm (ch w h) (by omega) (fun r w h => ?_)
      obtain ⟨rfl, h⟩ := h
      refine bk_L_law_613 hm (fun z => absurd z (by decide)) (fun _ => bk_L_law_618 hm (bk_L_law_623 hm (fun _ => bk_L_law_628 hm ?_) (fun z => absurd er z)))
      rw [nI_1 c]
      exact goon w h
    | false =>
      rw [hR] at goon er
      refine bk_L_law_591 hm (fun _ => bk_L_law_602 hm ?_) (fun z => absurd rfl z)
      refine bq_L_law_603 hm (ch w h) (by omega) (fun r w h => ?_)
      obtain ⟨rfl, h⟩ := h
      refine bk_L_law_613 hm (fun _ => bk_L_law_622 hm (bk_L_law_623 hm (fun _ => bk_L_law_628 hm ?_) (fun z => absurd er z))) (fun z => absurd rfl z)
      rw [nI_1 c]
      exact goon w h
theorem l_487 (hm : jok C ML_law 9 cl sl) (h : kOg D R n len w) {t p : Nat} (hp : p < 4) (k : ∀ w, kOg D R n len w → jW C cl sl Q 675 [jR 97 false, jR 0 false, jI (nI t), jU, jU, jU, jU, jU, jU, jU, jU, jU, jU, jU, jU, jU, jU, jU, jU, jU, jU] [] w) : jW C cl sl Q 487 [jR 97 false, jR 0 false, jI (nI t), jU, jI (nI p), jU, jU, jU, jU, jU, jU, jU, jU, jU, jU, jI (jSnd D R), jI (jSlt D R), jU, jU, jU, jU] [] w := by
  obtain ⟨p0, q0, b0⟩ := h.2.2.2.2.1.1.2.2.2 0 (by omega)
  obtain ⟨p1, q1, b1⟩ := h.2.2.2.2.1.1.2.2.2 1 (by omega)
  refine bq_L_law_487 hm (k_count h 8 (by decide) (by decide)) (by omega) (fun r w h => ?_)
  obtain ⟨rfl, h⟩ := h
  refine bk_L_law_493 hm (fun z => absurd rfl z) (fun _ => ?_)
  refine bq_L_law_498 hm (k_count h 12 (by decide) (by decide)) (by omega) (fun r w h => ?_)
  obtain ⟨rfl, h⟩ := h
  refine bk_L_law_504 hm (fun z => absurd rfl z) (fun _ => ?_)
  refine bq_L_law_509 hm (k_cave (c := 0) h (by omega) 2 (by decide) (by decide)) (by omega) (fun r w h => ?_)
  obtain ⟨rfl, h⟩ := h
  have c0 : jCave D R 0 2 = nI p0 := q0
  have c1 : jCave D R 1 2 = nI p1 := q1
  rw [c0]
  refine bk_L_law_515 hm (fun z => absurd z (nI_pos (by omega))) (fun _ => ?_)
  refine bq_L_law_518 hm (k_cave (c := 1) h (by omega) 2 (by decide) (by decide)) (by omega) (fun r w h => ?_)
  obtain ⟨rfl, h⟩ := h
  rw [c1]
  refine bk_L_law_524 hm (fun _ => bk_L_law_529 hm ?_) (fun z => absurd (nI_pos' (by omega)) z)
  exact l_chords hm hp k 2 0 rfl w h
theorem l_pipes (hm : jok C ML_law 9 cl sl) (hn : n ≤ 1000) {t p : Nat} (hp : p < 4) (k : ∀ w, kOg D R n len w → jW C cl sl Q 675 [jR 97 false, jR 0 false, jI (nI t), jU, jU, jU, jU, jU, jU, jU, jU, jU, jU, jU, jU, jU, jU, jU, jU, jU, jU] [] w) : ∀ m q, m + q = 4 → ∀ w, kOg D R n len w → jW C cl sl Q 335 [jR 97 false, jR 0 false, jI (nI t), jU, jI (nI p), jU, jU, jU, jU, jU, jU, jU, jU, jU, jU, jI (nI (jct (fun p => decide (0 < R (21 + p))) q)), jI (jsum (fun p => R (9 + p)) q), jI (nI q), jU, jU, jU] [] w := by
  intro m
  induction m with
  | zero =>
    intro q hq w h
    have e : q = 4 := by omega
    subst e
    refine bk_L_law_335 hm (fun _ => ?_) (fun z => absurd (nI_le (a := 4) (b := 4) (by omega) (by omega)) z)
    have hh := l_487 hm h hp k
    unfold jSnd jSlt at hh
    rw [h.four] at hh
    exact hh
  | succ m ih =>
    intro q hq w h
    have h4 := h.four
    obtain ⟨s, es, hs⟩ := h.2.2.2.2.1.1.2.2.1 q (by omega)
    obtain ⟨a, b, eb, hb, ea, hab⟩ := h.2.2.2.2.1.2.2.1 q (by omega)
    obtain ⟨g, eg, hg⟩ := h.2.2.2.2.1.2.1 q (by omega)
    have e0 := h.2.2.2.2.1.1.1
    have pi : ∀ w, kOg D R n len w → ∀ y : Int32, ¬ y < 0 → y < 7 → jSI MX9_pipe 8 [jR 0 false, jI (nI q), jI y] w (fun r w2 => r = jPipe D R q y ∧ kOg D R n len w2) := fun w h y y0 y1 => k_pipe h (by omega) y y0 y1
    have p5 : jPipe D R q 5 = nI a := ea
    have p3 : jPipe D R q 3 = nI s := es
    have p6 : jPipe D R q 6 = nI g := eg
    have goon := fun w h => ih (q + 1) (by omega) w h
    rw [← jct_1] at goon
    refine bk_L_law_335 hm (fun z => absurd ((nI_leI (a := 4) (b := q) (by omega) (by omega)).mp z) (by omega)) (fun _ => ?_)
    refine bq_L_law_341 hm (pi w h 5 (by decide) (by decide)) (by omega) (fun r w h => ?_)
    obtain ⟨rfl, h⟩ := h
    have tail : ∀ (x : Int32), (if decide (0 < R (21 + q)) = true then 1 else 0) = x → jW C cl sl Q 358 [jR 97 false, jR 0 false, jI (nI t), jU, jI (nI p), jU, jU, jU, jU, jU, jU, jU, jU, jU, jU, jU, jI (jsum (fun p => R (9 + p)) q), jI (nI q), jU, jU, jU] [jI x, jI (nI (jct (fun p => decide (0 < R (21 + p))) q))] w := by
      intro x hx
      refine bq_L_law_358 hm (pi w h 3 (by decide) (by decide)) (by omega) (fun r w h => ?_)
      obtain ⟨rfl, h⟩ := h
      refine bq_L_law_370 hm (pi w h 3 (by decide) (by decide)) (by omega) (fun r w h => ?_)
      obtain ⟨rfl, h⟩ := h
      have e16 : jsum (fun p => R (9 + p)) q + jPipe D R q 3 = jsum (fun p => R (9 + p)) (q + 1) := rfl
      rw [e16, p3]
      refine bk_L_law_380 hm (fun z => absurd z (nI_pos (by omega))) (fun _ => ?_)
      refine bq_L_law_383 hm (pi w h 3 (by decide) (by decide)) (by omega) (fun r w h => ?_)
      obtain ⟨rfl, h⟩ := h
      rw [p3]
      refine bk_L_law_390 hm (fun z => absurd ((nI_ltI (a := 20) (b := s) (by omega) (by omega)).mp z) (by omega)) (fun _ => ?_)
      refine bq_L_law_395 hm (pi w h 5 (by decide) (by decide)) (by omega) (fun r w h => ?_)
      obtain ⟨rfl, h⟩ := h
      rw [p5]
      refine bk_L_law_402 hm (fun z => absurd z (nI_pos (by omega))) (fun _ => ?_)
      refine bq_L_law_405 hm (pi w h 5 (by decide) (by decide)) (by omega) (fun r w h => ?_)
      obtain ⟨rfl, h⟩ := h
      have hc := k_cave (c := q / 2) h (by omega) 2 (by decide) (by decide)
      rw [show nI (q / 2) = nI q / 2 from (pk_div (d := 2) (by omega) (by omega) (by omega)).symm] at hc
      refine bq_L_law_412 hm hc (by omega) (fun r w h => ?_)
      obtain ⟨rfl, h⟩ := h
      have c2 : jCave D R (q / 2) 2 = nI b := eb
      rw [c2, p5]
      refine bk_L_law_421 hm (fun z => absurd ((nI_ltI (a := b + 1) (b := a) (by omega) (by omega)).mp (by rw [← nI_1]; exact z)) (by omega)) (fun _ => ?_)
      refine bq_L_law_426 hm (pi w h 4 (by decide) (by decide)) (by omega) (fun r w h => ?_)
      obtain ⟨rfl, h⟩ := h
      refine bq_L_law_433 hm (pi w h 1 (by decide) (by decide)) (by omega) (fun r w h => ?_)
      obtain ⟨rfl, h⟩ := h
      refine bq_L_law_440 hm (pi w h 2 (by decide) (by decide)) (by omega) (fun r w h => ?_)
      obtain ⟨rfl, h⟩ := h
      refine bq_L_law_450 hm (pi w h 3 (by decide) (by decide)) (by omega) (fun r w h => ?_)
      obtain ⟨rfl, h⟩ := h
      have e4 : jPipe D R q 4 = jPipe D R q 1 / 2 + (1 + jPipe D R q 2) * jPipe D R q 3 := by
        show jNeed D R q = nI (D.1 (140 + q)) / 2 + (1 + D.2.1 4 q) * R (9 + q)
        unfold jNeed
        rw [Int32.mul_comm]
      refine bk_L_law_458 hm (fun z => absurd e4 z) (fun _ => ?_)
      refine bq_L_law_463 hm (pi w h 6 (by decide) (by decide)) (by omega) (fun r w h => ?_)
      obtain ⟨rfl, h⟩ := h
      refine bq_L_law_471 hm (k_count h 0 (by decide) (by decide)) (by omega) (fun r w h => ?_)
      obtain ⟨rfl, h⟩ := h
      have k0 : jCnt D R len 0 = nI n := e0
      rw [p6, k0]
      refine bk_L_law_476 hm (fun _ => bk_L_law_481 hm ?_) (fun z => absurd (nI_le hg (by omega)) z)
      rw [nI_1]
      have g2 := goon w h
      rw [hx] at g2
      exact g2
    rw [p5]
    refine bk_L_law_350 hm (fun z => bk_L_law_357 hm (tail 0 (if_neg (fun y => ?_)))) (fun z => bk_L_law_353 hm (tail 1 (if_pos (decide_eq_true ?_))))
    · exact (i32_le0.mp z) (by rw [← ea]; exact of_decide_eq_true y)
    · rw [ea]
      exact Classical.not_not.mp (fun y => z (i32_le0.mpr y))
end

