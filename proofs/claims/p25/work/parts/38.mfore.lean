/-! the reference foresees and advises -/
theorem in_nat1 {x : Int32} {n : Nat} (hn : n ≤ 1999) (h : 1 ≤ x ∧ x ≤ nI n) : x.toNatClampNeg ≤ n ∧ x = nI x.toNatClampNeg := by
  obtain ⟨c, hc, rfl⟩ := i32_04 hn (Int32.le_trans (by decide) h.1) h.2
  rw [nI_clamp (by omega)]
  exact ⟨hc, rfl⟩
/-- a sum of the hours ahead -/
def jFor (D : JD) (R : Nat → Int32) (n : Nat) (y : Int32) : Int32 :=
  if y = 0 then jHours D n R 2 - R 2 else if y = 1 then jHours D n R 3 - R 3 else if y = 2 then jSnd D (jHours D n R) else jSlt D (jHours D n R)
/-- which tide is best -/
def jAdv (D : JD) (R : Nat → Int32) (n : Nat) (i : Nat) : Int32 := jHours D n (upd R 1 (nI i)) 2 - 2 * jHours D n (upd R 1 (nI i)) 3
def jAdvise (D : JD) (R : Nat → Int32) (n : Nat) : Nat → Int32 × Int32
  | 0 => (-1, 0)
  | i + 1 => if (jAdvise D R n i).1 < 0 ∨ (jAdvise D R n i).2 < jAdv D R n i then (nI i, jAdv D R n i) else jAdvise D R n i
/-- which pipe is best cleaned -/
def jCln (D : JD) (R : Nat → Int32) (n : Nat) (p : Nat) : Int32 := jHours D n (upd R (9 + p) 0) 2
def jBest (D : JD) (R : Nat → Int32) (n : Nat) : Nat → Int32 × Int32
  | 0 => (jHours D n R 2, -1)
  | p + 1 => if (jBest D R n p).1 < jCln D R n p then (jCln D R n p, nI p) else jBest D R n p
