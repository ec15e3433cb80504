/-! what the reference tells: counts, caves, pipes, chords -/
/-- the reference, its thrown set -/
def jT0 (w : JW) (t : Int32) : JW := jset w 41 false 0 t
theorem jT0_T0 (w : JW) (a b : Int32) : jT0 (jT0 w a) b = jT0 w b := jset_jset
theorem jT0_other {w : JW} {t : Int32} {k : Nat} {b : Bool} (h : k ≠ 41) : (jT0 w t).1 k b = w.1 k b := by
  funext i
  exact (jset_I).trans (if_neg (fun q => h q.1))
theorem jBk.t0 {w : JW} {D : JD} (h : jBk w (w.2.2 41 8) D) (t : Int32) : jBk (jT0 w t) ((jT0 w t).2.2 41 8) D := h.kept (fun k h1 _ => jT0_other (by omega))
theorem i32_in {x : Int32} {n : Nat} (hn : n ≤ 2000) (h0 : 0 ≤ x) (h1 : x ≤ nI n - 1) : ∃ c, c < n ∧ x = nI c := by
  cases n with
  | zero =>
    exact absurd (Int32.le_trans h0 h1) (by decide)
  | succ m =>
    have e : nI (m + 1) - 1 = nI m := by
      rw [← nI_add m 1]
      exact Int32.add_sub_cancel _ _
    rw [e] at h1
    rw [Int32.le_iff_toInt_le, i32_0] at h0
    rw [Int32.le_iff_toInt_le, nI_toInt (by omega)] at h1
    refine ⟨x.toInt.toNat, by omega, ?_⟩
    rw [← Int32.toInt_inj, nI_toInt (by omega)]
    omega
theorem nI_range {c n : Nat} (hn : n ≤ 2000) (h : c < n) : 0 ≤ nI c ∧ nI c ≤ nI n - 1 := by
  cases n with
  | zero => omega
  | succ m =>
    have e : nI (m + 1) - 1 = nI m := by
      rw [← nI_add m 1]
      exact Int32.add_sub_cancel _ _
    rw [e, Int32.le_iff_toInt_le, Int32.le_iff_toInt_le, nI_toInt (by omega), nI_toInt (by omega), i32_0]
    omega
theorem jz_ite (P : Prop) [Decidable P] : narrow .boolean (.int (if P then 1 else 0)) = .int (if P then 1 else 0) := by split <;> rfl
theorem ite_ne0 {P : Prop} [Decidable P] : (if P then (1 : Int32) else 0) = 0 ↔ ¬ P := by
  by_cases h : P
  · rw [if_pos h]; exact ⟨fun q => absurd q (by decide), fun q => absurd h q⟩
  · rw [if_neg h]; exact ⟨fun _ => h, fun _ => rfl⟩
/-- how many pipes sound in a row -/
def jSnd (D : JD) (R : Nat → Int32) : Int32 := nI (jct (fun p => decide (0 < R (21 + p))) (D.1 1))
def jChm (D : JD) (R : Nat → Int32) : Int32 := nI (jct (fun c => jRings D R c) (D.1 2))
def jSlt (D : JD) (R : Nat → Int32) : Int32 := jsum (fun p => R (9 + p)) (D.1 1)
/-- a count told: D, a row R, the tape's length -/
def jCnt (D : JD) (R : Nat → Int32) (len x : Int32) : Int32 :=
  if x = 0 then R 0 else if x = 1 then R 1 else if x = 2 then nI (D.1 0) else if x = 3 then nI (D.1 1) else if x = 4 then nI (D.1 2) else if x = 5 then nI (D.1 3) else if x = 6 then nI (D.1 4)
  else if x = 7 then nI (D.1 5) else if x = 8 then jSnd D R else if x = 9 then jChm D R else if x = 10 then R 2 else if x = 11 then R 3 else if x = 12 then jSlt D R else len
/-- a cave told -/
def jCave (D : JD) (R : Nat → Int32) (c : Nat) (x : Int32) : Int32 :=
  if x = 0 then D.2.1 0 c else if x = 1 then D.2.1 1 c else if x = 2 then R (4 + c) else if x = 3 then nI (jct (fun p => decide (D.1 (100 + p) = c)) (D.1 1)) else if jShut D R c then 1 else 0
theorem i32_04 {x : Int32} {n : Nat} (hn : n ≤ 1999) (h0 : 0 ≤ x) (h1 : x ≤ nI n) : ∃ c, c ≤ n ∧ x = nI c := by
  obtain ⟨c, hc, e⟩ := i32_in (n := n + 1) (Nat.succ_le_succ hn) h0 (by rw [nI_pred]; exact h1)
  exact ⟨c, by omega, e⟩
/-- a pipe told -/
def jPipe (D : JD) (R : Nat → Int32) (p : Nat) (x : Int32) : Int32 :=
  if x = 0 then nI (D.1 (100 + p)) else if x = 1 then nI (D.1 (140 + p)) else if x = 2 then D.2.1 4 p else if x = 3 then R (9 + p) else if x = 4 then jNeed D R p else if x = 5 then R (21 + p) else R (33 + p)
/-- how wide a chord is: its longest pipe less its shortest -/
def jMinL (D : JD) (c : Nat) : Nat → Int32
  | 0 => 40
  | n + 1 => if nI (D.1 (140 + D.1 (20 + (6 * c + n)))) < jMinL D c n then nI (D.1 (140 + D.1 (20 + (6 * c + n)))) else jMinL D c n
def jMaxL (D : JD) (c : Nat) : Nat → Int32
  | 0 => 1
  | n + 1 => if jMaxL D c n < nI (D.1 (140 + D.1 (20 + (6 * c + n)))) then nI (D.1 (140 + D.1 (20 + (6 * c + n)))) else jMaxL D c n
def jWide (D : JD) (c : Nat) : Int32 := jMaxL D c (D.1 (10 + c)) - jMinL D c (D.1 (10 + c))
/-- a chord told -/
def jChd (D : JD) (R : Nat → Int32) (c : Nat) (x : Int32) : Int32 :=
  if x = 0 then nI (D.1 (10 + c)) else if x = 1 then (if jRings D R c then 1 else 0) else if x = 2 then jWide D c else R (45 + c)
