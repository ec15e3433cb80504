/-! the reference's hours -/
theorem i32_0lt (x : Int32) : (if 0 < x then x else 0) ≤ 0 ↔ ¬ 0 < (if 0 < x then x else 0) := i32_le0
/-- the louds are not below zero -/
def jLpos (R : Nat → Int32) : Prop := ∀ p, p < 12 → 0 ≤ R (21 + p)
theorem i32_eq0 {x : Int32} (h : 0 ≤ x) : x = 0 ↔ ¬ 0 < x := by
  rw [← Int32.toInt_inj, Int32.lt_iff_toInt_lt]
  rw [Int32.le_iff_toInt_le] at h
  rw [i32_0] at h ⊢
  omega
theorem i32_pos1 {x : Int32} : ¬ x ≤ 0 ↔ 1 ≤ x := by
  rw [Int32.le_iff_toInt_le, Int32.le_iff_toInt_le, i32_0, i32_1]
  omega
theorem jfn_bk {w : JW} {k : Nat} {b : Bool} {D : JD} {R : Nat → Int32} (hk : k = 51 ∨ k = 52) (h : jBk w b D) : jBk (jfn w k false R) b D := h.kept (fun k2 h1 h2 => jfn_other (by omega))
