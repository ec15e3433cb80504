/-! the reference's questions and its small changes -/
theorem in_nat {x : Int32} {n : Nat} (hn : n ≤ 2000) (h : 0 ≤ x ∧ x ≤ nI n - 1) : x.toNatClampNeg < n ∧ x = nI x.toNatClampNeg := by
  obtain ⟨c, hc, rfl⟩ := i32_in hn h.1 h.2
  rw [nI_clamp (by omega)]
  exact ⟨hc, rfl⟩
/-- a note told: its place is inside its chord -/
def jNin (D : JD) (x y : Int32) : Bool := decide ((0 ≤ x ∧ x ≤ nI (D.1 2) - 1) ∧ (0 ≤ y ∧ y ≤ nI (D.1 (10 + x.toNatClampNeg)) - 1))
def jNote (D : JD) (x y : Int32) : Int32 := nI (D.1 (20 + (6 * x.toNatClampNeg + y.toNatClampNeg)))
