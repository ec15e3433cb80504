/-! PURE TOKENS: signs s (300 behind the end), the tokens of a tape -/
abbrev jlet (z : Nat) : Prop := 97 ≤ z ∧ z ≤ 122
abbrev jdig (z : Nat) : Prop := 48 ≤ z ∧ z ≤ 57
abbrev jblk (z : Nat) : Prop := z = 32 ∨ z = 10
/-- signs of a tape of L bytes -/
def jTS (s : Nat → Nat) (L : Nat) : Prop := L ≤ 2000 ∧ (∀ i, i < L → s i < 256) ∧ ∀ i, L ≤ i → s i = 300
theorem jTS.in {s : Nat → Nat} {L i : Nat} (h : jTS s L) (hi : s i < 256) : i < L := by
  rcases Nat.lt_or_ge i L with q | q
  · exact q
  · rw [h.2.2 i q] at hi
    omega
/-- a sign as the class sees it; as the reference sees it -/
def jc1 (z : Nat) : Int32 := if z < 256 then nI z else -1
def jc0 (z : Nat) : Int32 := if z < 256 then nI z else 0
def jskip (p : Nat → Bool) : Nat → Nat → Nat
  | 0, i => i
  | n + 1, i => if p i then jskip p n (i + 1) else i
theorem jskip_t {p : Nat → Bool} {n i : Nat} (h : p i = true) : jskip p (n + 1) i = jskip p n (i + 1) := by rw [jskip, if_pos h]
theorem jskip_f {p : Nat → Bool} {n i : Nat} (h : ¬ p i = true) : jskip p n i = i := by
  cases n with
  | zero => rfl
  | succ n => rw [jskip, if_neg h]
theorem jskip_le {p : Nat → Bool} : ∀ n i, i ≤ jskip p n i := by
  intro n
  induction n with
  | zero => intro i; exact Nat.le_refl _
  | succ n ih =>
    intro i
    rw [jskip]
    split
    · exact Nat.le_trans (Nat.le_succ i) (ih (i + 1))
    · exact Nat.le_refl _
theorem jskip_all {p : Nat → Bool} : ∀ n i k, i ≤ k → k < jskip p n i → p k = true := by
  intro n
  induction n with
  | zero =>
    intro i k h1 h2
    rw [jskip] at h2
    omega
  | succ n ih =>
    intro i k h1 h2
    rw [jskip] at h2
    split at h2
    · rename_i hp
      rcases Nat.lt_or_eq_of_le h1 with q | q
      · exact ih (i + 1) k q h2
      · rw [← q]
        exact hp
    · omega
theorem jskip_max {p : Nat → Bool} {L : Nat} (hp : ∀ i, p i = true → i < L) : ∀ n i, i ≤ L → jskip p n i ≤ L := by
  intro n
  induction n with
  | zero => intro i h; exact h
  | succ n ih =>
    intro i h
    rw [jskip]
    split
    · rename_i hq
      exact ih (i + 1) (hp i hq)
    · exact h
def jbb (s : Nat → Nat) (i : Nat) : Nat := jskip (fun k => decide (jblk (s k))) (2000 - i) i
def jwe (s : Nat → Nat) (i : Nat) : Nat := jskip (fun k => decide (jlet (s k) ∨ jdig (s k))) (2000 - i) i
def jne (s : Nat → Nat) (i : Nat) : Nat := jskip (fun k => decide (jdig (s k))) (2000 - i) i
/-- where the token that starts at a ends -/
def jte (s : Nat → Nat) (a : Nat) : Nat := if 256 ≤ s a then a else if s a = 60 ∨ s a = 62 then (if s (a + 1) = 61 then a + 2 else a + 1) else if jlet (s a) then jwe s (a + 1) else if jdig (s a) then jne s (a + 1) else a + 1
/-- the n signs from a on are the text i -/
def jmt (s : Nat → Nat) (a n i : Nat) : Prop := n = jn_len.getD i 0 ∧ ∀ j, j < n → nI (s (a + j)) = jtx i j
def jmtB (s : Nat → Nat) (a n i : Nat) : Bool := decide (n = jn_len.getD i 0) && (List.range n).all (fun j => decide (nI (s (a + j)) = jtx i j))
theorem jmtB_iff {s : Nat → Nat} {a n i : Nat} : jmtB s a n i = true ↔ jmt s a n i := by
  unfold jmtB jmt
  simp only [Bool.and_eq_true, decide_eq_true_eq, List.all_eq_true, List.mem_range]
/-- the keyword that they are, from the k-th on, m of them; 30 if none -/
def jkw (s : Nat → Nat) (a n : Nat) : Nat → Nat → Nat
  | 0, _ => 30
  | m + 1, k => if jmtB s a n (k + 23) then k else jkw s a n m (k + 1)
def jsym (z : Nat) : Nat := if z = 40 then 32 else if z = 41 then 33 else if z = 91 then 34 else if z = 93 then 35 else if z = 59 then 36 else if z = 44 then 37 else if z = 43 then 38 else if z = 45 then 39 else if z = 42 then 40 else if z = 47 then 41 else if z = 60 then 42 else if z = 62 then 43 else if z = 61 then 44 else 48
def jkd (s : Nat → Nat) (a : Nat) : Nat := if 256 ≤ s a then 47 else if jlet (s a) then (if 10 < jte s a - a then 48 else jkw s a (jte s a - a) 30 0) else if jdig (s a) then (if 6 < jte s a - a then 48 else 31) else if jte s a - a = 2 then (if s a = 60 then 45 else 46) else jsym (s a)
def jdg (z : Nat) : Nat := if jdig z then z - 48 else z - 97 + 10
def jwo (B : Nat) (s : Nat → Nat) (a : Nat) : Nat → Nat
  | 0 => 0
  | n + 1 => jwo B s a n * B + jdg (s (a + n))
def jpl (s : Nat → Nat) : Nat → Nat
  | 0 => 0
  | n + 1 => jte s (jbb s (jpl s n))
def jtk (s : Nat → Nat) (n : Nat) : Nat := jbb s (jpl s n)
def jK (s : Nat → Nat) (n : Nat) : Nat := if 400 ≤ n ∧ ¬ jkd s (jtk s n) = 47 then 48 else jkd s (jtk s n)
def jfin (s : Nat → Nat) : Nat → Nat → Nat
  | 0, n => n
  | f + 1, n => if jK s n = 47 ∨ jK s n = 48 then n else jfin s f (n + 1)
def jntk (s : Nat → Nat) : Nat := jfin s 400 0
def jln (s : Nat → Nat) (n : Nat) : Nat := jte s (jtk s n) - jtk s n
def jsmB (s : Nat → Nat) (i j : Nat) : Bool := decide (jln s i = jln s j) && (List.range (jln s i)).all (fun k => decide (s (jtk s i + k) = s (jtk s j + k)))
/-- THE TOKENS of a tape -/
def jTT (s : Nat → Nat) : JTk := (fun i => nI (jK s i), (fun i => nI (jwo 10 s (jtk s i) (jln s i)), (jsmB s, jntk s)))
theorem jbb_le (s : Nat → Nat) (i : Nat) : i ≤ jbb s i := jskip_le _ _
theorem jbb_max {s : Nat → Nat} {L i : Nat} (h : jTS s L) (hi : i ≤ L) : jbb s i ≤ L := jskip_max (fun k hk => h.in (by have := of_decide_eq_true hk; omega)) _ _ hi
theorem jte_le {s : Nat → Nat} {a : Nat} : a ≤ jte s a := by
  have h1 := jskip_le (p := fun k => decide (jlet (s k) ∨ jdig (s k))) (2000 - (a + 1)) (a + 1)
  have h2 := jskip_le (p := fun k => decide (jdig (s k))) (2000 - (a + 1)) (a + 1)
  unfold jte jwe jne
  split
  · omega
  split
  · split <;> omega
  split
  · omega
  split <;> omega
theorem jte_gt {s : Nat → Nat} {a : Nat} (h : s a < 256) : a < jte s a := by
  have h1 := jskip_le (p := fun k => decide (jlet (s k) ∨ jdig (s k))) (2000 - (a + 1)) (a + 1)
  have h2 := jskip_le (p := fun k => decide (jdig (s k))) (2000 - (a + 1)) (a + 1)
  unfold jte jwe jne
  rw [if_neg (by omega)]
  split
  · split <;> omega
  split
  · omega
  split <;> omega
theorem jte_max {s : Nat → Nat} {L a : Nat} (h : jTS s L) (ha : a ≤ L) : jte s a ≤ L := by
  unfold jte
  split
  · exact ha
  · have h0 : a < L := h.in (by omega)
    split
    · split
      · have := h.in (i := a + 1) (by omega)
        omega
      · omega
    split
    · exact jskip_max (fun k hk => h.in (by have := of_decide_eq_true hk; omega)) _ _ h0
    split
    · exact jskip_max (fun k hk => h.in (by have := of_decide_eq_true hk; omega)) _ _ h0
    · exact h0
theorem jpl_max {s : Nat → Nat} {L : Nat} (h : jTS s L) : ∀ n, jpl s n ≤ L := by
  intro n
  induction n with
  | zero => exact Nat.zero_le _
  | succ n ih => exact jte_max h (jbb_max h ih)
theorem jtk_max {s : Nat → Nat} {L : Nat} (h : jTS s L) (n : Nat) : jtk s n ≤ L := jbb_max h (jpl_max h n)
theorem jpl_succ (s : Nat → Nat) (n : Nat) : jpl s (n + 1) = jtk s n + jln s n := by
  have : jtk s n ≤ jte s (jtk s n) := jte_le
  show jte s (jtk s n) = _
  unfold jln
  omega
theorem jK_end {s : Nat → Nat} {n : Nat} (h : 400 ≤ n) : jK s n = 47 ∨ jK s n = 48 := by
  unfold jK
  by_cases q : jkd s (jtk s n) = 47
  · rw [if_neg (fun z => z.2 q)]
    exact Or.inl q
  · rw [if_pos ⟨h, q⟩]
    exact Or.inr rfl
theorem jfin_spec {s : Nat → Nat} : ∀ f n, f + n = 400 → (jfin s f n ≤ 400 ∧ n ≤ jfin s f n ∧ (jK s (jfin s f n) = 47 ∨ jK s (jfin s f n) = 48) ∧ ∀ i, n ≤ i → i < jfin s f n → ¬ (jK s i = 47 ∨ jK s i = 48)) := by
  intro f
  induction f with
  | zero =>
    intro n hn
    refine ⟨by rw [jfin]; omega, Nat.le_refl _, jK_end (by rw [jfin]; omega), fun i h1 h2 => ?_⟩
    rw [jfin] at h2
    omega
  | succ f ih =>
    intro n hn
    rw [jfin]
    split
    · rename_i h
      exact ⟨by omega, Nat.le_refl _, h, fun i h1 h2 => by omega⟩
    · rename_i h
      obtain ⟨a, b, c, d⟩ := ih (n + 1) (by omega)
      refine ⟨a, by omega, c, fun i h1 h2 => ?_⟩
      rcases Nat.lt_or_eq_of_le h1 with q | q
      · exact d i q h2
      · rw [← q]
        exact h
theorem jntk_le (s : Nat → Nat) : jntk s ≤ 400 := (jfin_spec 400 0 rfl).1
theorem jntk_end (s : Nat → Nat) : jK s (jntk s) = 47 ∨ jK s (jntk s) = 48 := (jfin_spec 400 0 rfl).2.2.1
theorem jntk_lt {s : Nat → Nat} {i : Nat} (h : i < jntk s) : ¬ (jK s i = 47 ∨ jK s i = 48) := (jfin_spec 400 0 rfl).2.2.2 i (Nat.zero_le _) h
theorem jntk_of {s : Nat → Nat} {n : Nat} (h : ∀ i, i < n → ¬ (jK s i = 47 ∨ jK s i = 48)) : n ≤ jntk s := by
  rcases Nat.lt_or_ge (jntk s) n with q | q
  · exact absurd (jntk_end s) (h _ q)
  · exact q
theorem jntk_is {s : Nat → Nat} {n : Nat} (h : ∀ i, i < n → ¬ (jK s i = 47 ∨ jK s i = 48)) (h2 : jK s n = 47 ∨ jK s n = 48) : jntk s = n := by
  have h3 := jntk_of h
  rcases Nat.lt_or_eq_of_le h3 with q | q
  · exact absurd h2 (jntk_lt q)
  · exact q.symm
theorem jkw_le (s : Nat → Nat) (a n : Nat) : ∀ m k, m + k = 30 → jkw s a n m k ≤ 30 := by
  intro m
  induction m with
  | zero => intro k _; exact Nat.le_refl _
  | succ m ih =>
    intro k hk
    rw [jkw]
    split
    · omega
    · exact ih (k + 1) (by omega)
theorem jsym_in (z : Nat) : 32 ≤ jsym z ∧ jsym z ≤ 48 := by
  unfold jsym
  repeat (first | (split; · omega) | omega)
theorem jkd_le (s : Nat → Nat) (a : Nat) : jkd s a ≤ 48 := by
  have h1 := jkw_le s a (jte s a - a) 30 0 rfl
  have h2 := jsym_in (s a)
  unfold jkd
  split
  · omega
  split
  · split <;> omega
  split
  · split <;> omega
  split
  · split <;> omega
  · omega
theorem jK_le (s : Nat → Nat) (n : Nat) : jK s n ≤ 48 := by
  unfold jK
  split
  · omega
  · exact jkd_le _ _
