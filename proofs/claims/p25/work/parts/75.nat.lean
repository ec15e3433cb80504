theorem i32_nat {a b : Nat} {K : Int32} (h : nI a ≤ K) (h2 : K ≤ nI b) (hb : b < 2 ^ 31) (ha : a < 2 ^ 31) : ∃ k : Nat, a ≤ k ∧ k ≤ b ∧ K = nI k := by
  have h0 : ¬ K < 0 := by
    intro q
    rw [Int32.lt_iff_toInt_lt, i32_0] at q
    rw [Int32.le_iff_toInt_le, nI_toInt ha] at h
    omega
  obtain ⟨k, hk, rfl⟩ := nI_of h0
  exact ⟨k, (nI_leI ha hk).mp h, (nI_leI hk hb).mp h2, rfl⟩
