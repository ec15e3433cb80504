/-! a pipe is cut: what the organ is thereafter -/
def jCutD (D : JD) (p v : Nat) : JD := (fun i => if i = 140 + p then v else D.1 i, D.2)
theorem jCutD_no {D : JD} {p v i : Nat} (h : i ≠ 140 + p) : (jCutD D p v).1 i = D.1 i := if_neg h
theorem jCutD_at {D : JD} {p v : Nat} : (jCutD D p v).1 (140 + p) = v := if_pos rfl
theorem jCutD_WF {D : JD} (hW : jWF D) {p v : Nat} (hv : 1 ≤ v) (hv4 : v ≤ 40) : jWF (jCutD D p v) := by
  obtain ⟨⟨a0, a1, a2, a3, a4, a5⟩, b, c, d, e, g⟩ := hW
  unfold jWF
  rw [jCutD_no (i := 0) (by omega), jCutD_no (i := 1) (by omega), jCutD_no (i := 2) (by omega), jCutD_no (i := 3) (by omega), jCutD_no (i := 4) (by omega), jCutD_no (i := 5) (by omega)]
  refine ⟨⟨a0, a1, a2, a3, a4, a5⟩, b, fun j hj => ?_, fun k hk => ?_, e, fun j hj => ?_⟩
  · rw [jCutD_no (i := 100 + j) (by omega)]
    obtain ⟨c1, c2, c3⟩ := c j hj
    by_cases h : j = p
    · subst h
      rw [jCutD_at]
      exact ⟨c1, hv, hv4⟩
    · rw [jCutD_no (i := 140 + j) (by omega)]
      exact ⟨c1, c2, c3⟩
  · rw [jCutD_no (i := 10 + k) (by omega)]
    obtain ⟨d1, d2, d3⟩ := d k hk
    refine ⟨d1, d2, fun q hq => ?_⟩
    rw [jCutD_no (by omega)]
    exact d3 q hq
  · rw [jCutD_no (i := 120 + j) (by omega)]
    exact g j hj
theorem jOrg.cut {w : JW} {o : Bool} {D : JD} (h : jOrg w o D) (hW : jWF D) {p v : Nat} (hp : p < D.1 1) : jOrg (jset w 24 o p (nI v)) o (jCutD D p v) := by
  have h6 := hW.1.2.2.1
  have h12 := hW.1.2.1
  have h16 := hW.1.2.2.2.2.2
  obtain ⟨a, b, c, d, e, f, g⟩ := h
  unfold jOrg
  rw [jCutD_no (i := 0) (by omega), jCutD_no (i := 1) (by omega), jCutD_no (i := 2) (by omega), jCutD_no (i := 3) (by omega), jCutD_no (i := 4) (by omega), jCutD_no (i := 5) (by omega)]
  refine ⟨a, b, fun j hj => ?_, fun k hk => ?_, e, f, fun j hj => ?_⟩
  · rw [jCutD_no (i := 100 + j) (by omega)]
    obtain ⟨c1, c2, c3⟩ := c j hj
    refine ⟨c1, ?_, c3⟩
    rw [jset_I]
    by_cases h : j = p
    · subst h
      rw [if_pos ⟨rfl, rfl, rfl⟩, jCutD_at]
    · rw [if_neg (fun q => h q.2.2), jCutD_no (i := 140 + j) (by omega)]
      exact c2
  · have s6 := (hW.2.2.2.1 k hk).2.1
    rw [jCutD_no (i := 10 + k) (by omega)]
    refine ⟨(d k hk).1, fun q hq => ?_⟩
    rw [jCutD_no (i := 20 + (6 * k + q)) (by omega)]
    exact (d k hk).2 q hq
  · rw [jCutD_no (i := 120 + j) (by omega)]
    exact g j hj
theorem jBk.cut {w : JW} {o : Bool} {D : JD} (h : jBk w o D) (hW : jWF D) {p v : Nat} (hp : p < D.1 1) : jBk (jset w 55 o (3 * p + 1) (nI v)) o (jCutD D p v) := by
  have h6 := hW.1.2.2.1
  have h12 := hW.1.2.1
  have h16 := hW.1.2.2.2.2.2
  obtain ⟨a, b, c, d, e, f, g⟩ := h
  unfold jBk
  rw [jCutD_no (i := 0) (by omega), jCutD_no (i := 1) (by omega), jCutD_no (i := 2) (by omega), jCutD_no (i := 3) (by omega), jCutD_no (i := 4) (by omega), jCutD_no (i := 5) (by omega)]
  refine ⟨a, b, fun j hj => ?_, fun k hk => ?_, e, f, fun j hj => ?_⟩
  · rw [jCutD_no (i := 100 + j) (by omega)]
    obtain ⟨c1, c2, c3⟩ := c j hj
    rw [jset_I, jset_I, jset_I, if_neg (fun q => absurd q.2.2 (by omega)), if_neg (c := _ ∧ _ ∧ 3 * j + 2 = _) (fun q => absurd q.2.2 (by omega))]
    refine ⟨c1, ?_, c3⟩
    by_cases h : j = p
    · subst h
      rw [if_pos ⟨rfl, rfl, rfl⟩, jCutD_at]
    · rw [if_neg (fun q => absurd q.2.2 (by omega)), jCutD_no (i := 140 + j) (by omega)]
      exact c2
  · have s6 := (hW.2.2.2.1 k hk).2.1
    rw [jCutD_no (i := 10 + k) (by omega)]
    refine ⟨(d k hk).1, fun q hq => ?_⟩
    rw [jCutD_no (i := 20 + (6 * k + q)) (by omega)]
    exact (d k hk).2 q hq
  · rw [jCutD_no (i := 120 + j) (by omega)]
    exact g j hj
