/-! PURE WORLDS: what the cells of the class and of the reference hold, as plain functions. A reference is (kind, which of the two). -/
abbrev JV : Type := Int32 ⊕ ((Nat × Bool) ⊕ (Int64 ⊕ Unit))
def jI (x : Int32) : JV := Sum.inl x
def jR (k : Nat) (b : Bool) : JV := Sum.inr (Sum.inl (k, b))
def jL (x : Int64) : JV := Sum.inr (Sum.inr (Sum.inl x))
def jU : JV := Sum.inr (Sum.inr (Sum.inr ()))
abbrev JAd : Type := Nat → Bool → Nat
def jcv (ad : JAd) (v : JV) : Value := match v with
  | .inl x => .int x
  | .inr (.inl q) => .ref (ad q.1 q.2)
  | .inr (.inr (.inl x)) => .long x
  | .inr (.inr (.inr _)) => .null
/-- ints of an object's fields or of an array, by kind, which, place; longs; references that change, by kind and place -/
abbrev JW : Type := (Nat → Bool → Nat → Int32) × ((Nat → Nat → Int64) × (Nat → Nat → Bool))
def jE (ad : JAd) (cs : Nat → ClassId) (f : Nat → Int32) (g : Nat → Int64) (q : Nat → Bool) (k : Nat) (b : Bool) : va_E := match k with
  | 0 => .inr (11, [.ref (ad 1 false), .ref (ad 3 false), .ref (ad 7 false), .ref (ad 11 false), .ref (ad 14 false), .ref (ad 14 true), .ref (ad 20 (q 6)), .int (f 7)])
  | 1 => .inr (8, [.ref (ad 2 b), .int (f 1)])
  | 2 => .inl (cs 1, 2000, .inl f)
  | 3 => .inr (9, [.ref (ad 4 b), .ref (ad 5 b), .ref (ad 6 b)])
  | 4 => .inl (cs 0, 401, .inl f)
  | 5 => .inl (cs 0, 401, .inl f)
  | 6 => .inl (cs 2, 401, .inr (.inl g))
  | 7 => .inr (7, [.ref (ad 3 false), .ref (ad 8 b), .ref (ad 9 b), .ref (ad 10 b), .ref (ad 20 (q 4)), .int (f 5), .int (f 6), .int (f 7)])
  | 8 => .inl (cs 0, 5, .inl f)
  | 9 => .inl (cs 0, 12, .inl f)
  | 10 => .inl (cs 0, 6, .inl f)
  | 11 => .inr (6, [.ref (ad 12 false)])
  | 12 => .inr (2, [.ref (ad 13 b), .int (f 1)])
  | 13 => .inl (cs 0, 400, .inl f)
  | 14 => .inr (3, [.ref (ad 15 b), .ref (ad 16 b), .ref (ad 17 b), .ref (ad 18 b), .ref (ad 19 b), .int (f 5), .int (f 6), .int (f 7), .int (f 8)])
  | 15 => .inl (cs 0, 5, .inl f)
  | 16 => .inl (cs 0, 12, .inl f)
  | 17 => .inl (cs 0, 12, .inl f)
  | 18 => .inl (cs 0, 12, .inl f)
  | 19 => .inl (cs 0, 6, .inl f)
  | 20 => .inr (5, [.ref (ad 21 b), .ref (ad 22 b), .ref (ad 23 b), .ref (ad 24 b), .ref (ad 25 b), .ref (ad 26 b), .ref (ad 27 b), .ref (ad 28 b), .ref (ad 34 b), .int (f 9), .int (f 10), .int (f 11)])
  | 21 => .inl (cs 0, 5, .inl f)
  | 22 => .inl (cs 0, 5, .inl f)
  | 23 => .inl (cs 0, 12, .inl f)
  | 24 => .inl (cs 0, 12, .inl f)
  | 25 => .inl (cs 0, 12, .inl f)
  | 26 => .inl (cs 0, 6, .inl f)
  | 27 => .inl (cs 0, 36, .inl f)
  | 28 => .inr (10, [.ref (ad 29 b), .ref (ad 30 b), .ref (ad 31 b), .ref (ad 32 b), .ref (ad 33 b), .int (f 5), .int (f 6)])
  | 29 => .inl (cs 0, 5, .inl f)
  | 30 => .inl (cs 0, 5, .inl f)
  | 31 => .inl (cs 0, 5, .inl f)
  | 32 => .inl (cs 0, 3, .inl f)
  | 33 => .inl (cs 0, 3, .inl f)
  | 34 => .inr (4, [.ref (ad 35 b), .ref (ad 36 b), .ref (ad 37 b), .ref (ad 38 b), .ref (ad 39 b), .ref (ad 40 b), .int (f 6), .int (f 7)])
  | 35 => .inl (cs 0, 16, .inl f)
  | 36 => .inl (cs 0, 16, .inl f)
  | 37 => .inl (cs 0, 16, .inl f)
  | 38 => .inl (cs 0, 16, .inl f)
  | 39 => .inl (cs 0, 400, .inl f)
  | 40 => .inl (cs 0, 400, .inl f)
  | _ => .inl (cs 0, 0, .inl f)
def jO : List (Nat × Bool) := [(0, false), (1, false), (2, false), (3, false), (4, false), (5, false), (6, false), (7, false), (8, false), (9, false), (10, false), (11, false), (12, false), (13, false), (14, false), (14, true), (15, false), (15, true), (16, false), (16, true), (17, false), (17, true), (18, false), (18, true), (19, false), (19, true), (20, false), (20, true), (21, false), (21, true), (22, false), (22, true), (23, false), (23, true), (24, false), (24, true), (25, false), (25, true), (26, false), (26, true), (27, false), (27, true), (28, false), (28, true), (29, false), (29, true), (30, false), (30, true), (31, false), (31, true), (32, false), (32, true), (33, false), (33, true), (34, false), (34, true), (35, false), (35, true), (36, false), (36, true), (37, false), (37, true), (38, false), (38, true), (39, false), (39, true), (40, false), (40, true)]
def jEw (ad : JAd) (cs : Nat → ClassId) (w : JW) (k : Nat) (b : Bool) : va_E := jE ad cs (w.1 k b) (w.2.1 k) (w.2.2 k) k b
def jWs (ad : JAd) (cs : Nat → ClassId) (w : JW) : va_W := jO.map (fun o => (ad o.1 o.2, jEw ad cs w o.1 o.2))
theorem jO_nodup : jO.Nodup := by decide +kernel
theorem jWs_at {ad : JAd} {cs : Nat → ClassId} {w : JW} {k : Nat} {b : Bool} (h : (k, b) ∈ jO) : ∃ i : Nat, jO[i]? = some (k, b) ∧ (jWs ad cs w)[i]? = some (ad k b, jEw ad cs w k b) := by
  obtain ⟨i, hi⟩ := List.getElem?_of_mem h
  exact ⟨i, hi, by simp [jWs, hi]⟩
/-- one cell has changed -/
theorem jWs_set {ad : JAd} {cs : Nat → ClassId} {w w' : JW} {k : Nat} {b : Bool} {i : Nat} (hi : jO[i]? = some (k, b)) (h : ∀ o : Nat × Bool, o ∈ jO → o ≠ (k, b) → jEw ad cs w' o.1 o.2 = jEw ad cs w o.1 o.2) : (jWs ad cs w).set i (ad k b, jEw ad cs w' k b) = jWs ad cs w' := by
  apply List.ext_getElem?
  intro j
  rw [List.getElem?_set]
  by_cases hj : i = j
  · subst hj
    have hlt : i < jO.length := (List.getElem?_eq_some_iff.mp hi).1
    have hl : i < (jWs ad cs w).length := by simp [jWs, hlt]
    rw [if_pos rfl, if_pos hl]
    simp [jWs, hi]
  · rw [if_neg hj]
    simp only [jWs, List.getElem?_map]
    cases hq : jO[j]? with
    | none => rfl
    | some o =>
      have hne : o ≠ (k, b) := by
        intro e
        subst e
        have h1 := (List.getElem?_eq_some_iff.mp hi)
        have h2 := (List.getElem?_eq_some_iff.mp hq)
        obtain ⟨l1, e1⟩ := h1
        obtain ⟨l2, e2⟩ := h2
        exact hj ((List.getElem_inj jO_nodup).mp (e1.trans e2.symm))
      simp only [Option.map_some]
      rw [h o (List.mem_of_getElem? hq) hne]
/-- writing an int; a long; a reference -/
def jset (w : JW) (k : Nat) (b : Bool) (j : Nat) (x : Int32) : JW := (fun k' b' j' => if k' = k ∧ b' = b ∧ j' = j then x else w.1 k' b' j', w.2)
def jsetL (w : JW) (k : Nat) (j : Nat) (x : Int64) : JW := (w.1, fun k' j' => if k' = k ∧ j' = j then x else w.2.1 k' j', w.2.2)
def jsetR (w : JW) (k : Nat) (j : Nat) (x : Bool) : JW := (w.1, w.2.1, fun k' j' => if k' = k ∧ j' = j then x else w.2.2 k' j')
/-- a whole row anew -/
def jfn (w : JW) (k : Nat) (b : Bool) (f : Nat → Int32) : JW := (fun k' b' j' => if k' = k ∧ b' = b then f j' else w.1 k' b' j', w.2)
def jfnL (w : JW) (k : Nat) (f : Nat → Int64) : JW := (w.1, fun k' j' => if k' = k then f j' else w.2.1 k' j', w.2.2)
theorem jset_other {ad : JAd} {cs : Nat → ClassId} {w : JW} {k : Nat} {b : Bool} {j : Nat} {x : Int32} (o : Nat × Bool) (h : o ≠ (k, b)) : jEw ad cs (jset w k b j x) o.1 o.2 = jEw ad cs w o.1 o.2 := by
  have e : (jset w k b j x).1 o.1 o.2 = w.1 o.1 o.2 := by
    funext j'
    show (if o.1 = k ∧ o.2 = b ∧ j' = j then x else w.1 o.1 o.2 j') = _
    rw [if_neg]
    rintro ⟨h1, h2, -⟩
    exact h (Prod.ext h1 h2)
  unfold jEw
  rw [e]
  rfl
theorem jset_self {w : JW} {k : Nat} {b : Bool} {j : Nat} {x : Int32} : (jset w k b j x).1 k b = upd (w.1 k b) j x := by
  funext j'
  show (if k = k ∧ b = b ∧ j' = j then x else w.1 k b j') = if j' = j then x else w.1 k b j'
  by_cases h : j' = j
  · rw [if_pos ⟨rfl, rfl, h⟩, if_pos h]
  · rw [if_neg (fun q => h q.2.2), if_neg h]

