/-! how far apart two pipes are -/
def jEu : Nat → Nat → Nat → Nat
  | 0, _, _ => 0
  | n + 1, a, b => if a = b then 0 else if b < a then 1 + jEu n (a - b) b else 1 + jEu n a (b - a)
theorem jEu_comm (n : Nat) : ∀ a b, jEu n a b = jEu n b a := by
  induction n with
  | zero => exact fun _ _ => rfl
  | succ n ih =>
    intro a b
    unfold jEu
    by_cases e : a = b
    · rw [if_pos e, if_pos e.symm]
    · rw [if_neg e, if_neg (Ne.symm e)]
      by_cases h : b < a
      · rw [if_pos h, if_neg (by omega), ih]
      · rw [if_neg h, if_pos (by omega), ih]
theorem jEu_sub {n a b : Nat} (h : b < a) : jEu (n + 1) a b = 1 + jEu n (a - b) b := by
  rw [jEu, if_neg (by omega), if_pos h]
theorem c_steps (w : JW) {a b : Nat} (ha : 1 ≤ a) (hb : 1 ≤ b) (ha4 : a ≤ 40) (hb4 : b ≤ 40) : jF MX9_stepsBetween 0 [jI (nI a), jI (nI b)] w (jI (nI (jEu 40 a b))) w := by
  refine jF_of jp_X9_stepsBetween rfl (Nat.le_of_ble_eq_true rfl) (fun C hm => ?_)
  refine bk_X9_stepsBetween_0 hm ?_
  have key : ∀ n a b k, 1 ≤ a → 1 ≤ b → a ≤ n → b ≤ n → k + n ≤ 40 → jW C 0 0 (jQQ C 0 0 (fun v w' => v = jI (nI (k + jEu n a b)) ∧ w' = w)) 7 [jU, jU, jI (nI a), jI (nI b), jI (nI k)] [] w := by
    intro n
    induction n with
    | zero => intro a b k h1 h2 h3; omega
    | succ n ih =>
      intro a b k h1 h2 h3 h4 h5
      by_cases e : a = b
      · subst e
        refine bk_X9_stepsBetween_7 hm (fun _ => bk_X9_stepsBetween_41 hm ⟨?_, rfl⟩) (fun z => absurd rfl z)
        rw [jEu, if_pos rfl, Nat.add_zero]
      · refine bk_X9_stepsBetween_7 hm (fun z => absurd ((nI_eq (by omega) (by omega)).mp z) e) (fun _ => ?_)
        refine bk_X9_stepsBetween_12 hm (fun z => absurd ((nI_leI (a := 40) (b := k) (by omega) (by omega)).mp z) (by omega)) (fun _ => ?_)
        by_cases h : b < a
        · refine bk_X9_stepsBetween_19 hm (fun z => absurd ((nI_leI (by omega) (by omega)).mp z) (by omega)) (fun _ => bk_X9_stepsBetween_24 hm (bk_X9_stepsBetween_35 hm ?_))
          rw [jEu_sub h, nI_1, pk_sub (by omega), ← Nat.add_assoc]
          exact ih (a - b) b (k + 1) (by omega) h2 (by omega) (by omega) (by omega)
        · refine bk_X9_stepsBetween_19 hm (fun _ => bk_X9_stepsBetween_31 hm (bk_X9_stepsBetween_35 hm ?_)) (fun z => absurd ((nI_leI (by omega) (by omega)).mpr (by omega)) z)
          rw [jEu_comm, jEu_sub (by omega), jEu_comm, nI_1, pk_sub (by omega), ← Nat.add_assoc]
          exact ih a (b - a) (k + 1) h1 (by omega) (by omega) (by omega) (by omega)
  have k0 := key 40 a b 0 ha hb ha4 hb4 (by omega)
  rw [Nat.zero_add] at k0
  exact k0
def jApart (D : JD) (x y : Int32) : Int32 := nI (jEu 40 (D.1 (140 + x.toNatClampNeg)) (D.1 (140 + y.toNatClampNeg)))
