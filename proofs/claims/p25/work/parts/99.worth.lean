/-! worths tell words apart; the class's tokens are those of the tape -/
theorem jkd_name {s : Nat → Nat} {a : Nat} (h : jkd s a = 30) : s a < 256 ∧ jlet (s a) ∧ jte s a - a ≤ 10 := by
  have h2 := jsym_in (s a)
  unfold jkd at h
  split at h
  · omega
  split at h
  · rename_i h3 h4
    split at h
    · omega
    · exact ⟨by omega, h4, by omega⟩
  split at h
  · split at h <;> omega
  split at h
  · split at h <;> omega
  · omega
theorem jkd_num {s : Nat → Nat} {a : Nat} (h : jkd s a = 31) : s a < 256 ∧ jdig (s a) ∧ jte s a - a ≤ 6 := by
  have h2 := jsym_in (s a)
  have h5 := jkw_le s a (jte s a - a) 30 0 rfl
  unfold jkd at h
  split at h
  · omega
  split at h
  · split at h <;> omega
  split at h
  · rename_i h3 h4 h6
    split at h
    · omega
    · exact ⟨by omega, h6, by omega⟩
  split at h
  · split at h <;> omega
  · omega
theorem jte_word {s : Nat → Nat} {a : Nat} (h : s a < 256) (hl : jlet (s a)) : jte s a = jwe s (a + 1) ∧ ∀ k, a ≤ k → k < jte s a → (jlet (s k) ∨ jdig (s k)) := by
  have e : jte s a = jwe s (a + 1) := by
    unfold jte
    rw [if_neg (by omega), if_neg (by omega), if_pos hl]
  refine ⟨e, fun k h1 h2 => ?_⟩
  rcases Nat.lt_or_eq_of_le h1 with q | q
  · rw [e] at h2
    exact of_decide_eq_true (jskip_all _ _ k q h2)
  · rw [← q]
    exact Or.inl hl
theorem jte_numb {s : Nat → Nat} {a : Nat} (h : s a < 256) (hl : jdig (s a)) : jte s a = jne s (a + 1) ∧ ∀ k, a ≤ k → k < jte s a → jdig (s k) := by
  have e : jte s a = jne s (a + 1) := by
    unfold jte
    rw [if_neg (by omega), if_neg (by omega), if_neg (by omega), if_pos hl]
  refine ⟨e, fun k h1 h2 => ?_⟩
  rcases Nat.lt_or_eq_of_le h1 with q | q
  · rw [e] at h2
    exact of_decide_eq_true (jskip_all _ _ k q h2)
  · rw [← q]
    exact hl
theorem jdg_c : ∀ z : Nat, z < 128 → (jlet z ∨ jdig z) → (if jdig z then jc1 z - 48 else (jc1 z - 97) + 10).toInt64 = Int64.ofNat (jdg z) := by decide +kernel
theorem jwI_nat {s : Nat → Nat} {a B : Nat} (hB : B = 10 ∨ B = 36) : ∀ n, (∀ j, j < n → (jlet (s (a + j)) ∨ jdig (s (a + j)))) → jwI (nI B) s a n = Int64.ofNat (jwo B s a n) := by
  have hb : (nI B).toInt64 = Int64.ofNat B := by rcases hB with rfl | rfl <;> decide
  intro n
  induction n with
  | zero => intro _; rfl
  | succ n ih =>
    intro h
    rw [jwI, jwo, ih (fun j hj => h j (by omega)), hb, Int64.ofNat_add, Int64.ofNat_mul, jdg_c _ (by have := h n (by omega); omega) (h n (by omega))]
theorem jdg_lt {z : Nat} (h : jlet z ∨ jdig z) : jdg z < 36 := by
  unfold jdg
  split <;> omega
theorem jdg_inj {z y : Nat} (h : jlet z ∨ jdig z) (h2 : jlet y ∨ jdig y) (e : jdg z = jdg y) : z = y := by
  unfold jdg at e
  split at e <;> split at e <;> omega
theorem jwo_lt {s : Nat → Nat} {a : Nat} : ∀ n, (∀ j, j < n → (jlet (s (a + j)) ∨ jdig (s (a + j)))) → jwo 36 s a n < 36 ^ n := by
  intro n
  induction n with
  | zero => intro _; exact Nat.one_pos
  | succ n ih =>
    intro h
    have h1 := ih (fun j hj => h j (by omega))
    have h2 := jdg_lt (h n (by omega))
    rw [jwo, Nat.pow_succ]
    omega
theorem jwo_ge {s : Nat → Nat} {a : Nat} (hl : jlet (s a)) : ∀ n, 36 ^ n ≤ jwo 36 s a (n + 1) := by
  intro n
  induction n with
  | zero =>
    show 1 ≤ 0 * 36 + jdg (s a)
    unfold jdg
    rw [if_neg (by omega)]
    omega
  | succ n ih =>
    rw [jwo, Nat.pow_succ]
    omega
theorem jwo_inj {s : Nat → Nat} {a b : Nat} : ∀ n, (∀ j, j < n → (jlet (s (a + j)) ∨ jdig (s (a + j)))) → (∀ j, j < n → (jlet (s (b + j)) ∨ jdig (s (b + j)))) → jwo 36 s a n = jwo 36 s b n → ∀ j, j < n → s (a + j) = s (b + j) := by
  intro n
  induction n with
  | zero => intro _ _ _ j hj; omega
  | succ n ih =>
    intro h1 h2 e j hj
    have d1 := jdg_lt (h1 n (by omega))
    have d2 := jdg_lt (h2 n (by omega))
    rw [jwo, jwo] at e
    have e1 : jwo 36 s a n = jwo 36 s b n := by omega
    have e2 : jdg (s (a + n)) = jdg (s (b + n)) := by omega
    rcases Nat.lt_or_eq_of_le (Nat.lt_succ_iff.mp hj) with q | q
    · exact ih (fun j hj => h1 j (by omega)) (fun j hj => h2 j (by omega)) e1 j q
    · rw [q]
      exact jdg_inj (h1 n (by omega)) (h2 n (by omega)) e2
theorem jwo_len {s : Nat → Nat} {a b n m : Nat} (hn : ∀ j, j < n → (jlet (s (a + j)) ∨ jdig (s (a + j)))) (hb : jlet (s b)) (h : n < m) : jwo 36 s a n < jwo 36 s b m := by
  have h1 := jwo_lt n hn
  have h2 := jwo_ge hb (m - 1)
  rw [show m - 1 + 1 = m by omega] at h2
  have h3 : 36 ^ n ≤ 36 ^ (m - 1) := Nat.pow_le_pow_right (by omega) (by omega)
  omega
theorem jwo_same {s : Nat → Nat} {a b n m : Nat} (hn : ∀ j, j < n → (jlet (s (a + j)) ∨ jdig (s (a + j)))) (hm : ∀ j, j < m → (jlet (s (b + j)) ∨ jdig (s (b + j)))) (ha : jlet (s a)) (hb : jlet (s b)) : jwo 36 s a n = jwo 36 s b m ↔ (n = m ∧ ∀ j, j < n → s (a + j) = s (b + j)) := by
  constructor
  · intro e
    have e2 : n = m := by
      rcases Nat.lt_trichotomy n m with q | q | q
      · have := jwo_len hn hb q
        omega
      · exact q
      · have := jwo_len hm ha q
        omega
    subst e2
    exact ⟨rfl, jwo_inj n hn hm e⟩
  · rintro ⟨rfl, h⟩
    have : ∀ k, k ≤ n → jwo 36 s a k = jwo 36 s b k := by
      intro k
      induction k with
      | zero => intro _; rfl
      | succ k ih =>
        intro hk
        rw [jwo, jwo, ih (by omega), h k (by omega)]
    exact this n (Nat.le_refl _)
theorem jK_name {s : Nat → Nat} {i : Nat} (h : jK s i = 30) : jkd s (jtk s i) = 30 := by
  unfold jK at h
  split at h
  · omega
  · exact h
theorem jK_num {s : Nat → Nat} {i : Nat} (h : jK s i = 31) : jkd s (jtk s i) = 31 := by
  unfold jK at h
  split at h
  · omega
  · exact h
theorem jln_te (s : Nat → Nat) (i : Nat) : jtk s i + jln s i = jte s (jtk s i) := by
  have : jtk s i ≤ jte s (jtk s i) := jte_le
  unfold jln
  omega
/-- a name's signs -/
theorem jK_name2 {s : Nat → Nat} {i : Nat} (h : jK s i = 30) : jlet (s (jtk s i)) ∧ jln s i ≤ 10 ∧ ∀ j, j < jln s i → (jlet (s (jtk s i + j)) ∨ jdig (s (jtk s i + j))) := by
  obtain ⟨h1, h2, h3⟩ := jkd_name (jK_name h)
  have h4 := jln_te s i
  refine ⟨h2, h3, fun j hj => (jte_word h1 h2).2 _ (by omega) (by omega)⟩
theorem jK_num2 {s : Nat → Nat} {i : Nat} (h : jK s i = 31) : jdig (s (jtk s i)) ∧ jln s i ≤ 6 ∧ ∀ j, j < jln s i → jdig (s (jtk s i + j)) := by
  obtain ⟨h1, h2, h3⟩ := jkd_num (jK_num h)
  have h4 := jln_te s i
  refine ⟨h2, h3, fun j hj => (jte_numb h1 h2).2 _ (by omega) (by omega)⟩
theorem jwo10_lt {s : Nat → Nat} {a : Nat} : ∀ n, (∀ j, j < n → jdig (s (a + j))) → jwo 10 s a n < 10 ^ n := by
  intro n
  induction n with
  | zero => intro _; exact Nat.one_pos
  | succ n ih =>
    intro h
    have h1 := ih (fun j hj => h j (by omega))
    have h2 := h n (by omega)
    have h3 : jdg (s (a + n)) < 10 := by
      unfold jdg
      rw [if_pos h2]
      omega
    rw [jwo, Nat.pow_succ]
    omega
theorem jnum_lt {s : Nat → Nat} {i : Nat} (h : jK s i = 31) : jwo 10 s (jtk s i) (jln s i) ≤ 999999 := by
  obtain ⟨h1, h2, h3⟩ := jK_num2 h
  have h4 := jwo10_lt _ h3
  have h5 : 10 ^ jln s i ≤ 10 ^ 6 := Nat.pow_le_pow_right (by omega) h2
  omega
theorem jwT_num {s : Nat → Nat} {i : Nat} (h : jK s i = 31) : (jwT s i).toInt32 = nI (jwo 10 s (jtk s i) (jln s i)) := by
  obtain ⟨h1, h2, h3⟩ := jK_num2 h
  unfold jwT
  rw [if_pos h1, nI_lit, show jte s (jtk s i) - jtk s i = jln s i from rfl, jwI_nat (Or.inl rfl) _ (fun j hj => Or.inr (h3 j hj))]
  exact Int64.toInt32_ofNat
theorem jwT_name {s : Nat → Nat} {i : Nat} (h : jK s i = 30) : jwT s i = Int64.ofNat (jwo 36 s (jtk s i) (jln s i)) ∧ jwo 36 s (jtk s i) (jln s i) < 2 ^ 63 := by
  obtain ⟨h1, h2, h3⟩ := jK_name2 h
  refine ⟨?_, ?_⟩
  · unfold jwT
    rw [if_neg (by omega), nI_lit, show jte s (jtk s i) - jtk s i = jln s i from rfl, jwI_nat (Or.inr rfl) _ h3]
  · have h4 := jwo_lt _ h3
    have h5 : 36 ^ jln s i ≤ 36 ^ 10 := Nat.pow_le_pow_right (by omega) h2
    have h6 : 36 ^ 10 < 2 ^ 63 := by decide
    omega
theorem jsmB_iff {s : Nat → Nat} {i j : Nat} : jsmB s i j = true ↔ (jln s i = jln s j ∧ ∀ k, k < jln s i → s (jtk s i + k) = s (jtk s j + k)) := by
  unfold jsmB
  simp only [Bool.and_eq_true, decide_eq_true_eq, List.all_eq_true, List.mem_range]
theorem i64_inj {x y : Nat} (hx : x < 2 ^ 63) (hy : y < 2 ^ 63) (h : Int64.ofNat x = Int64.ofNat y) : x = y := by
  have := congrArg Int64.toInt h
  rw [Int64.toInt_ofNat_of_lt hx, Int64.toInt_ofNat_of_lt hy] at this
  omega
theorem jSc.TK {s : Nat → Nat} {w w2 : JW} (h : jSc s w w2 (jntk s + 1)) : jTK (jTT s) w2 := by
  have hN := jntk_le s
  refine ⟨hN, ?_, fun i hi => (h.2 i (Nat.lt_succ_of_le hi)).1, fun i hi e => ?_, fun i j hi hj e1 e2 => ?_⟩
  · rcases jntk_end s with e | e
    · exact Or.inl (by show nI (jK s (jntk s)) = 47; rw [e]; rfl)
    · exact Or.inr (by show nI (jK s (jntk s)) = 48; rw [e]; rfl)
  · have hk := jK_le s i
    have e3 : jK s i = 31 := (nI_eqi (b := 31) (by omega) (by omega)).mp e
    rw [(h.2 i (Nat.lt_succ_of_lt hi)).2.2]
    exact jwT_num e3
  · have hk1 := jK_le s i
    have hk2 := jK_le s j
    have e3 : jK s i = 30 := (nI_eqi (b := 30) (by omega) (by omega)).mp e1
    have e4 : jK s j = 30 := (nI_eqi (b := 30) (by omega) (by omega)).mp e2
    rw [(h.2 i (Nat.lt_succ_of_lt hi)).2.2, (h.2 j (Nat.lt_succ_of_lt hj)).2.2, (jwT_name e3).1, (jwT_name e4).1]
    show _ ↔ jsmB s i j = true
    rw [jsmB_iff, ← jwo_same (jK_name2 e3).2.2 (jK_name2 e4).2.2 (jK_name2 e3).1 (jK_name2 e4).1]
    exact ⟨fun q => i64_inj (jwT_name e3).2 (jwT_name e4).2 q, fun q => by rw [q]⟩
