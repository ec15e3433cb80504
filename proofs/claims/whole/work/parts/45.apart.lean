/-! how far apart two pipes are -/
def jEu : Nat → Nat → Nat → Nat
  | 0, _, _ => 0
  | n + 1, a, b => if a = b then 0 else if b < a then 1 + jEu n (a - b) b else 1 + jEu n a (b - a)
theorem jEu_comm (n : Nat) : ∀ a b, jEu n a b = jEu n b a := by
  induction n with
  | zero => exact fun _ _ => rfl
  | succ n ih =>
    intro a b
    unfold jEu
    by_cases e : a = b
    · rw [if_pos e, if_pos e.symm]
    · rw [if_neg e, if_neg (Ne.symm e)]
      by_cases h : b < a
      · rw [if_pos h, if_neg (by omega), ih]
      · rw [if_neg h, if_pos (by omega), ih]
theorem jEu_sub {n a b : Nat} (h : b < a) : jEu (n + 1) a b = 1 + jEu n (a - b) b := by
  rw [jEu, if_neg (by omega), if_pos h]
theorem c_steps (w : JW) {a b : Nat} (ha : 1 ≤ a) (hb : 1 ≤ b) (ha4 : a ≤ 40) (hb4 : b ≤ 40) : jF MX9_stepsBetween 0 [jI (nI a), jI (nI b)] w (jI (nI (jEu 40 a b))) w := by
  refine jF_of jp_X9_stepsBetween rfl (Nat.le_of_ble_eq_true rfl) (fun C hm => ?_)
  refine bk_X9_stepsBetween_0 hm ?_
  have key : ∀ n a b k, 1 ≤ a → 1 ≤ b → a ≤ n → b ≤ n → k + n ≤ 40 → jW C 0 0 (jQQ C 0 0 (fun v w' => v = jI (nI (k + jEu n a b)) ∧ w' = w)) 7 [jU, jU, jI (nI a), jI (nI b), jI (nI k)] [] w := by
    intro n
    induction n with
    | zero => intro a b k h1 h2 h3; omega
    | succ n ih =>
      intro a b k h1 h2 h3 h4 h5
      by_cases e : a = b
      · subst e
        refine bk_X9_stepsBetween_7 hm (fun _ => bk_X9_stepsBetween_41 hm ⟨?_, rfl⟩) (fun z => absurd rfl z)
        rw [jEu, if_pos rfl, Nat.add_zero]
      · refine bk_X9_stepsBetween_7 hm (fun z => absurd ((nI_eq (by omega) (by omega)).mp z) e) (fun _ => ?_)
        refine bk_X9_stepsBetween_12 hm (fun z => absurd ((nI_leI (a := 40) (b := k) (by omega) (by omega)).mp z) (by omega)) (fun _ => ?_)
        by_cases h : b < a
        · refine bk_X9_stepsBetween_19 hm (fun z => absurd ((nI_leI (by omega) (by omega)).mp z) (by omega)) (fun _ => bk_X9_stepsBetween_24 hm (bk_X9_stepsBetween_35 hm ?_))
          rw [jEu_sub h, nI_1, pk_sub (by omega), ← Nat.add_assoc]
          exact ih (a - b) b (k + 1) (by omega) h2 (by omega) (by omega) (by omega)
        · refine bk_X9_stepsBetween_19 hm (fun _ => bk_X9_stepsBetween_31 hm (bk_X9_stepsBetween_35 hm ?_)) (fun z => absurd ((nI_leI (by omega) (by omega)).mpr (by omega)) z)
          rw [jEu_comm, jEu_sub (by omega), jEu_comm, nI_1, pk_sub (by omega), ← Nat.add_assoc]
          exact ih a (b - a) (k + 1) h1 (by omega) (by omega) (by omega) (by omega)
  have k0 := key 40 a b 0 ha hb ha4 hb4 (by omega)
  rw [Nat.zero_add] at k0
  exact k0
def jApart (D : JD) (x y : Int32) : Int32 := nI (jEu 40 (D.1 (140 + x.toNatClampNeg)) (D.1 (140 + y.toNatClampNeg)))
theorem c_mapart {w : JW} {D : JD} (hB : jBk w (w.2.2 41 8) D) (hW : jWF D) (x y : Int32) : jF MX11_apart 2 [jR 41 false, jI x, jI y] w
    (jI (if (0 ≤ x ∧ x ≤ nI (D.1 1) - 1) ∧ (0 ≤ y ∧ y ≤ nI (D.1 1) - 1) then jApart D x y else 0)) (jT0 w (if (0 ≤ x ∧ x ≤ nI (D.1 1) - 1) ∧ (0 ≤ y ∧ y ≤ nI (D.1 1) - 1) then 0 else 1)) := by
  refine jF_of jp_X11_apart rfl (Nat.le_of_ble_eq_true rfl) (fun C hm => ?_)
  have h12 := hW.1.2.1
  refine bk_X11_apart_0 hm (c_isPipe (hB.t0 0) x) (by decide) (bk_X11_apart_10 hm (fun z => ?_) (fun z => ?_)) <;> rw [ite_ne0] at z
  · rw [if_neg (fun q => z q.1), if_neg (fun q => z q.1)]
    exact bk_X11_apart_21 hm (c_no _ 1) (by decide) (bk_X11_apart_26 hm ⟨rfl, jT0_T0 w 0 1⟩)
  · have z := Classical.not_not.mp z
    refine bk_X11_apart_13 hm (c_isPipe (hB.t0 0) y) (by decide) (bk_X11_apart_18 hm (fun z2 => ?_) (fun z2 => ?_)) <;> rw [ite_ne0] at z2
    · have z2 := Classical.not_not.mp z2
      rw [if_pos ⟨z, z2⟩, if_pos ⟨z, z2⟩]
      unfold jApart
      obtain ⟨hc, he⟩ := in_nat (by omega) z
      generalize x.toNatClampNeg = p at hc he
      subst he
      obtain ⟨hc2, he2⟩ := in_nat (by omega) z2
      generalize y.toNatClampNeg = q at hc2 he2
      subst he2
      have lp := hW.2.2.1 p hc
      have lq := hW.2.2.1 q hc2
      refine bk_X11_apart_27 hm (c_mlength (hB.t0 0) hW hc) (by decide) (bk_X11_apart_32 hm (c_mlength (hB.t0 0) hW hc2) (by decide) (bk_X11_apart_37 hm (by decide) (c_mlength (hB.t0 0) hW hc) (by decide) (bk_X11_apart_46 hm (c_mlength (hB.t0 0) hW hc2) (by decide) (bk_X11_apart_51 hm (by decide) ?_))))
      generalize D.1 (140 + p) = a at lp ⊢
      generalize D.1 (140 + q) = b at lq ⊢
      have key : ∀ n a b k, n ≤ 40 → 1 ≤ a → 1 ≤ b → b ≤ a → a ≤ n → jW C 0 0 (jQQ C 0 0 (fun v w' => v = jI (nI (k + jEu n a b)) ∧ w' = jT0 w 0)) 59 [jU, jU, jU, jI (nI a), jI (nI b), jI (nI k), jU] [] (jT0 w 0) := by
        intro n
        induction n with
        | zero => intro a b k h0 h1 h2 h3 h4; omega
        | succ n ih =>
          intro a b k h0 h1 h2 h3 h4
          by_cases e : a = b
          · subst e
            refine bk_X11_apart_59 hm (fun _ => bk_X11_apart_94 hm ⟨?_, rfl⟩) (fun z => absurd rfl z)
            rw [jEu, if_pos rfl, Nat.add_zero]
          · refine bk_X11_apart_59 hm (fun z => absurd ((nI_eq (by omega) (by omega)).mp z) e) (fun _ => bk_X11_apart_65 hm (by decide) ?_)
            rw [jEu_sub (show b < a by omega), pk_sub (by omega), nI_1, ← Nat.add_assoc]
            by_cases h : b < a - b
            · rw [if_pos ((nI_ltI (by omega) (by omega)).mpr h), if_neg (fun q => absurd ((nI_ltI (by omega) (by omega)).mp q) (by omega))]
              exact ih (a - b) b (k + 1) (by omega) (by omega) (by omega) (by omega) (by omega)
            · rw [if_neg (fun q => absurd ((nI_ltI (by omega) (by omega)).mp q) h)]
              by_cases h2 : a - b < b
              · rw [if_pos ((nI_ltI (by omega) (by omega)).mpr h2), jEu_comm]
                exact ih b (a - b) (k + 1) (by omega) (by omega) (by omega) (by omega) (by omega)
              · rw [if_neg (fun q => absurd ((nI_ltI (by omega) (by omega)).mp q) h2), show a - b = b by omega]
                exact ih b b (k + 1) (by omega) (by omega) (by omega) (by omega) (by omega)
      have e1 : (if nI a < nI b then nI b else nI a) = nI (if a < b then b else a) := by
        by_cases h : a < b
        · rw [if_pos ((nI_ltI (by omega) (by omega)).mpr h), if_pos h]
        · rw [if_neg (fun q => absurd ((nI_ltI (by omega) (by omega)).mp q) h), if_neg h]
      have e2 : (if nI b < nI a then nI b else nI a) = nI (if b < a then b else a) := by
        by_cases h : b < a
        · rw [if_pos ((nI_ltI (by omega) (by omega)).mpr h), if_pos h]
        · rw [if_neg (fun q => absurd ((nI_ltI (by omega) (by omega)).mp q) h), if_neg h]
      rw [e1, e2]
      by_cases h : a < b
      · rw [if_pos h, if_neg (by omega), jEu_comm]
        have k0 := key 40 b a 0 (by omega) (by omega) (by omega) (by omega) (by omega)
        rw [Nat.zero_add] at k0
        exact k0
      · rw [if_neg h]
        have k0 := key 40 a b 0 (by omega) (by omega) (by omega) (by omega) (by omega)
        rw [Nat.zero_add] at k0
        by_cases h2 : b < a
        · rw [if_pos h2]
          exact k0
        · rw [if_neg h2]
          have e3 : b = a := by omega
          subst e3
          exact k0
    · rw [if_neg (fun q => z2 q.2), if_neg (fun q => z2 q.2)]
      exact bk_X11_apart_21 hm (c_no _ 1) (by decide) (bk_X11_apart_26 hm ⟨rfl, jT0_T0 w 0 1⟩)
