/-! the reference's hours -/
theorem mx2 (i : Nat) : (2 : Int32) * nI i = nI (2 * i) := pk_mul 2 i
theorem mx3 (i : Nat) : (3 : Int32) * nI i = nI (3 * i) := pk_mul 3 i
theorem mx5 (i : Nat) : (5 : Int32) * nI i = nI (5 * i) := pk_mul 5 i
theorem mx7 (i : Nat) : (7 : Int32) * nI i = nI (7 * i) := pk_mul 7 i
theorem ax2 (i : Nat) : nI i + (2 : Int32) = nI (i + 2) := nI_add i 2
theorem ax3 (i : Nat) : nI i + (3 : Int32) = nI (i + 3) := nI_add i 3
theorem xa4 (i : Nat) : (4 : Int32) + nI i = nI (4 + i) := nI_add 4 i
theorem xa9 (i : Nat) : (9 : Int32) + nI i = nI (9 + i) := nI_add 9 i
theorem xa21 (i : Nat) : (21 : Int32) + nI i = nI (21 + i) := nI_add 21 i
theorem xa33 (i : Nat) : (33 : Int32) + nI i = nI (33 + i) := nI_add 33 i
theorem xa45 (i : Nat) : (45 : Int32) + nI i = nI (45 + i) := nI_add 45 i
theorem or_bool (a b : Bool) : ((if a then (1 : Int32) else 0) ||| (if b then 1 else 0)) = if a || b then 1 else 0 := by cases a <;> cases b <;> decide
theorem and_bool (a b : Bool) : ((if a then (1 : Int32) else 0) &&& (if b then 1 else 0)) = if a && b then 1 else 0 := by cases a <;> cases b <;> decide
/-- the reference's book b holds D -/
def jBk (w : JW) (b : Bool) (D : JD) : Prop :=
  (w.1 53 b 0 = nI (D.1 0) ∧ w.1 53 b 1 = nI (D.1 1) ∧ w.1 53 b 4 = nI (D.1 2) ∧ w.1 53 b 2 = nI (D.1 3) ∧ w.1 53 b 3 = nI (D.1 4) ∧ w.1 53 b 5 = nI (D.1 5)) ∧
  (∀ j, j < D.1 0 → w.1 54 b (2 * j) = D.2.1 0 j ∧ w.1 54 b (2 * j + 1) = D.2.1 1 j) ∧ (∀ j, j < D.1 1 → w.1 55 b (3 * j) = nI (D.1 (100 + j)) ∧ w.1 55 b (3 * j + 1) = nI (D.1 (140 + j)) ∧ w.1 55 b (3 * j + 2) = D.2.1 4 j) ∧
  (∀ c, c < D.1 2 → w.1 58 b (7 * c) = nI (D.1 (10 + c)) ∧ ∀ p, p < D.1 (10 + c) → w.1 58 b (7 * c + (1 + p)) = nI (D.1 (20 + (6 * c + p)))) ∧
  (∀ j, j < D.1 3 → w.1 56 b (3 * j) = D.2.1 7 j ∧ w.1 56 b (3 * j + 1) = D.2.1 8 j ∧ w.1 56 b (3 * j + 2) = D.2.1 9 j) ∧ (∀ j, j < D.1 4 → w.1 57 b (2 * j) = D.2.1 10 j ∧ w.1 57 b (2 * j + 1) = D.2.1 11 j) ∧
  (∀ j, j < D.1 5 → w.1 59 b (3 * j) = D.2.1 12 j ∧ w.1 59 b (3 * j + 1) = nI (D.1 (120 + j)) ∧
    ((w.1 59 b (3 * j + 2) = -1 ∧ D.2.1 12 j = 16 ∧ ∀ R, D.2.2 j R = true) ∨ (∃ v n : Nat, w.1 59 b (3 * j + 2) = nI v ∧ n ≤ 402 ∧ jTr (w.1 60 b) (w.1 61 b) (w.1 62 b) (D.1 0) (D.1 1) n true v ∧ ∀ R, jmv (w.1 60 b) (w.1 61 b) (w.1 62 b) R n v = if D.2.2 j R then 1 else 0)))
theorem jBk.kept {w w2 : JW} {b : Bool} {D : JD} (h : jBk w b D) (hk : ∀ k, 53 ≤ k → k ≤ 62 → w2.1 k b = w.1 k b) : jBk w2 b D := by
  unfold jBk
  rw [hk 53 (by omega) (by omega), hk 54 (by omega) (by omega), hk 55 (by omega) (by omega), hk 56 (by omega) (by omega), hk 57 (by omega) (by omega), hk 58 (by omega) (by omega), hk 59 (by omega) (by omega), hk 60 (by omega) (by omega), hk 61 (by omega) (by omega), hk 62 (by omega) (by omega)]
  exact h
