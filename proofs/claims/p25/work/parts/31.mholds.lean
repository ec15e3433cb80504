/-! the reference's tests: holds -/
theorem i32_01 (x : Int32) (h : x = 0 ∨ x = 1) : narrow .boolean (.int x) = .int x := by rcases h with rfl | rfl <;> rfl
theorem jjn_01 (o x y : Int32) (h : o = 42 ∨ o = 43 ∨ o = 44 ∨ o = 45 ∨ o = 46) : jjn o x y = 0 ∨ jjn o x y = 1 := by
  have key : ∀ (c : Prop) [Decidable c], (if c then (1 : Int32) else 0) = 0 ∨ (if c then (1 : Int32) else 0) = 1 := by
    intro c _
    by_cases h : c
    · rw [if_pos h]; exact Or.inr rfl
    · rw [if_neg h]; exact Or.inl rfl
  rcases h with rfl | rfl | rfl | rfl | rfl
  · exact key (x < y)
  · exact key (y < x)
  · exact key (x = y)
  · exact key (x ≤ y)
  · exact key (y ≤ x)
theorem and_01 {x y : Int32} (hx : x = 0 ∨ x = 1) (hy : y = 0 ∨ y = 1) : (x &&& y = 0 ∨ x &&& y = 1) ∧ (x ||| y = 0 ∨ x ||| y = 1) := by
  rcases hx with rfl | rfl <;> rcases hy with rfl | rfl <;> decide
theorem jmv_01 {op one two R : Nat → Int32} {nc np : Nat} (hp : np ≤ 12) : ∀ (n i : Nat), jTr op one two nc np n true i → jmv op one two R n i = 0 ∨ jmv op one two R n i = 1 := by
  intro n
  induction n with
  | zero => intro i h; exact h.elim
  | succ n ih =>
    intro i h
    rcases h.2 with ⟨e, a, ha, ea⟩ | ⟨e, a, ea, ta⟩ | ⟨e, a, b, ea, eb, ta, tb⟩ | ⟨e, a, b, ea, eb, ta, tb⟩
    · rw [jmv_leaf e (by decide) (by decide)]
      show (if 0 < jat 12 (fun j => R (21 + j)) (one i) then (1 : Int32) else 0) = 0 ∨ (if 0 < jat 12 (fun j => R (21 + j)) (one i) then (1 : Int32) else 0) = 1
      by_cases z : 0 < jat 12 (fun j => R (21 + j)) (one i)
      · rw [if_pos z]; exact Or.inr rfl
      · rw [if_neg z]; exact Or.inl rfl
    · rw [jmv_not e ea (jTr_lt ta)]
      rcases ih a ta with z | z <;> rw [z] <;> decide
    · rcases e with e | e
      · rw [jmv_bin e (by decide) (by decide) (by decide) (by decide) ea (jTr_lt ta) eb (jTr_lt tb)]
        exact (and_01 (ih a ta) (ih b tb)).1
      · rw [jmv_bin e (by decide) (by decide) (by decide) (by decide) ea (jTr_lt ta) eb (jTr_lt tb)]
        exact (and_01 (ih a ta) (ih b tb)).2
    · rcases e with e | e | e | e | e <;> rw [jmv_bin e (by decide) (by decide) (by decide) (by decide) ea (jTr_lt ta) eb (jTr_lt tb)] <;> exact jjn_01 _ _ _ (by decide)
theorem i32_le0 {x : Int32} : x ≤ 0 ↔ ¬ 0 < x := by
  rw [Int32.le_iff_toInt_le, Int32.lt_iff_toInt_lt]
  omega
