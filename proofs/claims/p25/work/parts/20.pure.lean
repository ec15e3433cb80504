/-! PURE: reading behind writing, rows, loops -/
theorem jset_I {w : JW} {k : Nat} {b : Bool} {j : Nat} {x : Int32} {k2 : Nat} {b2 : Bool} {j2 : Nat} : (jset w k b j x).1 k2 b2 j2 = if k2 = k ∧ b2 = b ∧ j2 = j then x else w.1 k2 b2 j2 := rfl
theorem jset_L {w : JW} {k : Nat} {b : Bool} {j : Nat} {x : Int32} : (jset w k b j x).2 = w.2 := rfl
theorem jsetL_I {w : JW} {k j : Nat} {x : Int64} : (jsetL w k j x).1 = w.1 := rfl
theorem jsetL_L {w : JW} {k j : Nat} {x : Int64} {k2 j2 : Nat} : (jsetL w k j x).2.1 k2 j2 = if k2 = k ∧ j2 = j then x else w.2.1 k2 j2 := rfl
theorem jsetL_R {w : JW} {k j : Nat} {x : Int64} : (jsetL w k j x).2.2 = w.2.2 := rfl
theorem jsetR_I {w : JW} {k j : Nat} {x : Bool} : (jsetR w k j x).1 = w.1 := rfl
theorem jsetR_L {w : JW} {k j : Nat} {x : Bool} : (jsetR w k j x).2.1 = w.2.1 := rfl
theorem jsetR_R {w : JW} {k j : Nat} {x : Bool} {k2 j2 : Nat} : (jsetR w k j x).2.2 k2 j2 = if k2 = k ∧ j2 = j then x else w.2.2 k2 j2 := rfl
theorem jfn_I {w : JW} {k : Nat} {b : Bool} {f : Nat → Int32} {k2 : Nat} {b2 : Bool} {j2 : Nat} : (jfn w k b f).1 k2 b2 j2 = if k2 = k ∧ b2 = b then f j2 else w.1 k2 b2 j2 := rfl
theorem jfn_L {w : JW} {k : Nat} {b : Bool} {f : Nat → Int32} : (jfn w k b f).2 = w.2 := rfl
theorem jfnL_I {w : JW} {k : Nat} {f : Nat → Int64} : (jfnL w k f).1 = w.1 := rfl
theorem jfnL_L {w : JW} {k : Nat} {f : Nat → Int64} {k2 j2 : Nat} : (jfnL w k f).2.1 k2 j2 = if k2 = k then f j2 else w.2.1 k2 j2 := rfl
theorem jfnL_R {w : JW} {k : Nat} {f : Nat → Int64} : (jfnL w k f).2.2 = w.2.2 := rfl
theorem jw_ext {w w2 : JW} (h1 : ∀ k b j, w.1 k b j = w2.1 k b j) (h2 : w.2 = w2.2) : w = w2 := Prod.ext (funext fun k => funext fun b => funext fun j => h1 k b j) h2
theorem jset_fn {w : JW} {k : Nat} {b : Bool} {j : Nat} {x : Int32} : jset w k b j x = jfn w k b (upd (w.1 k b) j x) := by
  refine jw_ext (fun k2 b2 j2 => ?_) rfl
  rw [jset_I, jfn_I]
  by_cases h : k2 = k ∧ b2 = b
  · rw [if_pos h, h.1, h.2]
    unfold upd
    by_cases h2 : j2 = j
    · rw [if_pos ⟨rfl, rfl, h2⟩, if_pos h2]
    · rw [if_neg (fun q => h2 q.2.2), if_neg h2]
  · rw [if_neg h, if_neg (fun q => h ⟨q.1, q.2.1⟩)]
theorem jfn_row {w : JW} {k : Nat} {b : Bool} {f : Nat → Int32} : (jfn w k b f).1 k b = f := by
  funext j
  rw [jfn_I, if_pos ⟨rfl, rfl⟩]
theorem jfn_fn {w : JW} {k : Nat} {b : Bool} {f g : Nat → Int32} : jfn (jfn w k b f) k b g = jfn w k b g := by
  refine jw_ext (fun k2 b2 j2 => ?_) rfl
  rw [jfn_I, jfn_I, jfn_I]
  by_cases h : k2 = k ∧ b2 = b
  · rw [if_pos h, if_pos h]
  · rw [if_neg h, if_neg h, if_neg h]
theorem jfn_self {w : JW} {k : Nat} {b : Bool} : jfn w k b (w.1 k b) = w := by
  refine jw_ext (fun k2 b2 j2 => ?_) rfl
  rw [jfn_I]
  by_cases h : k2 = k ∧ b2 = b
  · rw [if_pos h, h.1, h.2]
  · rw [if_neg h]
theorem jset_jfn {w : JW} {k : Nat} {b : Bool} {f : Nat → Int32} {j : Nat} {x : Int32} : jset (jfn w k b f) k b j x = jfn w k b (upd f j x) := by
  rw [jset_fn, jfn_fn, jfn_row]
theorem jfn_other {w : JW} {k : Nat} {b : Bool} {f : Nat → Int32} {k2 : Nat} {b2 : Bool} (h : k2 ≠ k) : (jfn w k b f).1 k2 b2 = w.1 k2 b2 := by
  funext j
  rw [jfn_I, if_neg (fun q => h q.1)]
theorem jset_jset {w : JW} {k : Nat} {b : Bool} {j : Nat} {x y : Int32} : jset (jset w k b j x) k b j y = jset w k b j y := by
  refine jw_ext (fun k2 b2 j2 => ?_) rfl
  rw [jset_I, jset_I, jset_I]
  by_cases h : k2 = k ∧ b2 = b ∧ j2 = j
  · rw [if_pos h, if_pos h]
  · rw [if_neg h, if_neg h, if_neg h]
/-- a loop that counts up, from its end -/
theorem jfor {P : Nat → Prop} (N : Nat) (hend : P N) (hstep : ∀ i, i < N → P (i + 1) → P i) : P 0 := by
  have h : ∀ n, n ≤ N → P (N - n) := by
    intro n
    induction n with
    | zero => intro _; exact hend
    | succ n ih =>
      intro hn
      have h2 := hstep (N - (n + 1)) (by omega)
      rw [show N - (n + 1) + 1 = N - n by omega] at h2
      exact h2 (ih (by omega))
  have h0 := h N (Nat.le_refl N)
  rwa [Nat.sub_self] at h0
theorem nI_lit (n : Nat) : (OfNat.ofNat n : Int32) = nI n := rfl
theorem jle_iff {a b : Nat} (ha : a < 2 ^ 31) (hb : b < 2 ^ 31) : nI a ≤ nI b ↔ a ≤ b := nI_leI ha hb
theorem jlt_iff {a b : Nat} (ha : a < 2 ^ 31) (hb : b < 2 ^ 31) : nI a < nI b ↔ a < b := nI_ltI ha hb
/-- what the class's at answers -/
def jat (n : Nat) (f : Nat → Int32) (x : Int32) : Int32 := if x < 0 ∨ nI n ≤ x then 0 else f x.toNatClampNeg
theorem jat_nI {n j : Nat} {f : Nat → Int32} (h : j < n) (hn : n < 2 ^ 31) : jat n f (nI j) = f j := by
  unfold jat
  rw [if_neg, nI_clamp (by omega)]
  rintro (q | q)
  · exact nI_pos (by omega) q
  · have := (nI_leI hn (by omega)).mp q
    omega
def jput (n : Nat) (w : JW) (k : Nat) (b : Bool) (x v : Int32) : JW := if x < 0 ∨ nI n ≤ x then w else jset w k b x.toNatClampNeg v
theorem jput_nI {n j : Nat} {w : JW} {k : Nat} {b : Bool} {v : Int32} (h : j < n) (hn : n < 2 ^ 31) : jput n w k b (nI j) v = jset w k b j v := by
  unfold jput
  rw [if_neg, nI_clamp (by omega)]
  rintro (q | q)
  · exact nI_pos (by omega) q
  · have := (nI_leI hn (by omega)).mp q
    omega
theorem c_at {k : Nat} {b : Bool} {n : Nat} (hA : jIA k b n) (w : JW) (x : Int32) : jF MX9_at 0 [jR k b, jI x] w (jI (jat n (w.1 k b) x)) w := by
  refine jF_of jp_X9_at rfl (Nat.le_of_ble_eq_true rfl) (fun C hm => ?_)
  refine bk_X9_at_0 hm (fun h => ?_) (fun h => ?_)
  · refine bk_X9_at_16 hm (bk_X9_at_17 hm ⟨?_, rfl⟩)
    unfold jat
    rw [if_pos (Or.inl h)]
  · refine bk_X9_at_4 hm hA (fun h2 => ?_) (fun h2 => ?_)
    · refine bk_X9_at_16 hm (bk_X9_at_17 hm ⟨?_, rfl⟩)
      unfold jat
      rw [if_pos (Or.inr (show nI n ≤ x from h2))]
    · have hn := hA.2.1
      have hv : vp_in x n := by
        rcases pk_ix x hn with q1 | q1 | ⟨j, hj, rfl⟩
        · exact absurd q1 h
        · exact absurd q1 h2
        · exact vp_in_nI hj (by omega)
      refine bk_X9_at_10 hm hA hv (bk_X9_at_17 hm ⟨?_, rfl⟩)
      unfold jat
      rw [if_neg (fun q => q.elim h h2)]
theorem c_atN {k : Nat} {b : Bool} {n : Nat} (hA : jIA k b n) (w : JW) {j : Nat} (h : j < n) : jF MX9_at 0 [jR k b, jI (nI j)] w (jI (w.1 k b j)) w := by
  have := c_at hA w (nI j)
  rwa [jat_nI h hA.2.1] at this
theorem c_put {k : Nat} {b : Bool} {n : Nat} (hA : jIA k b n) (w : JW) (x v : Int32) : jF MX9_put 0 [jR k b, jI x, jI v] w jU (jput n w k b x v) := by
  refine jF_of jp_X9_put rfl (Nat.le_of_ble_eq_true rfl) (fun C hm => ?_)
  refine bk_X9_put_0 hm (fun h => ?_) (fun h => ?_)
  · refine bk_X9_put_14 hm ⟨rfl, ?_⟩
    unfold jput
    rw [if_pos (Or.inl h)]
  · refine bk_X9_put_4 hm hA (fun h2 => ?_) (fun h2 => ?_)
    · refine bk_X9_put_14 hm ⟨rfl, ?_⟩
      unfold jput
      rw [if_pos (Or.inr (show nI n ≤ x from h2))]
    · have hn := hA.2.1
      have hv : vp_in x n := by
        rcases pk_ix x hn with q1 | q1 | ⟨j, hj, rfl⟩
        · exact absurd q1 h
        · exact absurd q1 h2
        · exact vp_in_nI hj (by omega)
      refine bk_X9_put_10 hm hA hv (bk_X9_put_14 hm ⟨rfl, ?_⟩)
      unfold jput
      rw [if_neg (fun q => q.elim h h2)]
theorem c_putN {k : Nat} {b : Bool} {n : Nat} (hA : jIA k b n) (w : JW) {j : Nat} (v : Int32) (h : j < n) : jF MX9_put 0 [jR k b, jI (nI j), jI v] w jU (jset w k b j v) := by
  have := c_put hA w (nI j) v
  rwa [jput_nI h hA.2.1] at this
