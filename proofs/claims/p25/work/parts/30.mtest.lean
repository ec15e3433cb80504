/-! the reference's tests: nodes -/
def jmap (o : Int32) : Int32 := if o = 43 then 38 else if o = 45 then 39 else if o = 42 then 40 else if o = 47 then 41 else if o = 60 then 42 else if o = 62 then 43 else if o = 61 then 44 else if o = 108 then 45 else if o = 103 then 46 else o
def jmv (op one two R : Nat → Int32) : Nat → Nat → Int32
  | 0, _ => 0
  | n + 1, i => if op i = 35 then one i else if 18 ≤ op i ∧ op i ≤ 24 then jrd R (op i) (one i) else if op i = 110 then -(jmv op one two R n (one i).toNatClampNeg) else if op i = 25 then 1 - jmv op one two R n (one i).toNatClampNeg else jjn (jmap (op i)) (jmv op one two R n (one i).toNatClampNeg) (jmv op one two R n (two i).toNatClampNeg)
/-- a node of a sum (false) or of a test (true), so many levels deep at most -/
def jTr (op one two : Nat → Int32) (nc np : Nat) : Nat → Bool → Nat → Prop
  | 0, _, _ => False
  | n + 1, false, i => i < 401 ∧ (op i = 35 ∨ op i = 18 ∨ op i = 19 ∨ op i = 23 ∨ (op i = 20 ∧ ∃ a : Nat, a < nc ∧ one i = nI a) ∨ ((op i = 21 ∨ op i = 22) ∧ ∃ a : Nat, a < np ∧ one i = nI a) ∨ (op i = 110 ∧ ∃ a : Nat, one i = nI a ∧ jTr op one two nc np n false a) ∨
      ((op i = 28 ∨ op i = 29 ∨ op i = 42 ∨ op i = 43 ∨ op i = 45 ∨ op i = 47) ∧ ∃ a b : Nat, one i = nI a ∧ two i = nI b ∧ jTr op one two nc np n false a ∧ jTr op one two nc np n false b))
  | n + 1, true, i => i < 401 ∧ ((op i = 24 ∧ ∃ a : Nat, a < np ∧ one i = nI a) ∨ (op i = 25 ∧ ∃ a : Nat, one i = nI a ∧ jTr op one two nc np n true a) ∨ ((op i = 26 ∨ op i = 27) ∧ ∃ a b : Nat, one i = nI a ∧ two i = nI b ∧ jTr op one two nc np n true a ∧ jTr op one two nc np n true b) ∨
      ((op i = 60 ∨ op i = 61 ∨ op i = 62 ∨ op i = 103 ∨ op i = 108) ∧ ∃ a b : Nat, one i = nI a ∧ two i = nI b ∧ jTr op one two nc np n false a ∧ jTr op one two nc np n false b))
theorem jTr_lt {op one two : Nat → Int32} {nc np n i : Nat} {t : Bool} (h : jTr op one two nc np n t i) : i < 401 := by
  cases n with
  | zero => exact h.elim
  | succ n => cases t <;> exact h.1
theorem jTr_up {op one two : Nat → Int32} {nc np : Nat} : ∀ {n : Nat} {t : Bool} {i : Nat}, jTr op one two nc np n t i → jTr op one two nc np (n + 1) t i := by
  intro n
  induction n with
  | zero => intro t i h; exact h.elim
  | succ n ih =>
    intro t i h
    cases t with
    | false =>
      refine ⟨h.1, ?_⟩
      rcases h.2 with q | q | q | q | q | q | ⟨q, a, q1, q2⟩ | ⟨q, a, b, q1, q2, q3, q4⟩
      · exact Or.inl q
      · exact Or.inr (Or.inl q)
      · exact Or.inr (Or.inr (Or.inl q))
      · exact Or.inr (Or.inr (Or.inr (Or.inl q)))
      · exact Or.inr (Or.inr (Or.inr (Or.inr (Or.inl q))))
      · exact Or.inr (Or.inr (Or.inr (Or.inr (Or.inr (Or.inl q)))))
      · exact Or.inr (Or.inr (Or.inr (Or.inr (Or.inr (Or.inr (Or.inl ⟨q, a, q1, ih q2⟩))))))
      · exact Or.inr (Or.inr (Or.inr (Or.inr (Or.inr (Or.inr (Or.inr ⟨q, a, b, q1, q2, ih q3, ih q4⟩))))))
    | true =>
      refine ⟨h.1, ?_⟩
      rcases h.2 with q | ⟨q, a, q1, q2⟩ | ⟨q, a, b, q1, q2, q3, q4⟩ | ⟨q, a, b, q1, q2, q3, q4⟩
      · exact Or.inl q
      · exact Or.inr (Or.inl ⟨q, a, q1, ih q2⟩)
      · exact Or.inr (Or.inr (Or.inl ⟨q, a, b, q1, q2, ih q3, ih q4⟩))
      · exact Or.inr (Or.inr (Or.inr ⟨q, a, b, q1, q2, ih q3, ih q4⟩))
theorem i32_divm1 (a : Int32) : a / (-1) = -a := by
  have e : ((-1 : Int32)).toInt = -1 := by decide
  rw [← Int32.toInt_inj, Int32.toInt_div, e, Int32.toInt_neg, Int.tdiv_neg, Int.tdiv_one]
theorem nI_cl {a : Nat} (h : a < 401) : (nI a).toNatClampNeg = a := nI_clamp (by omega)
theorem jmv_leaf {op one two R : Nat → Int32} {n i : Nat} {o : Int32} (e : op i = o) (h : o ≠ 35) (h2 : 18 ≤ o ∧ o ≤ 24) : jmv op one two R (n + 1) i = jrd R o (one i) := by
  rw [jmv, e, if_neg h, if_pos h2]
theorem jmv_neg {op one two R : Nat → Int32} {n i a : Nat} (e : op i = 110) (ea : one i = nI a) (ha : a < 401) : jmv op one two R (n + 1) i = -(jmv op one two R n a) := by
  rw [jmv, e, if_neg (by decide), if_neg (by decide), if_pos rfl, ea, nI_cl ha]
theorem jmv_not {op one two R : Nat → Int32} {n i a : Nat} (e : op i = 25) (ea : one i = nI a) (ha : a < 401) : jmv op one two R (n + 1) i = 1 - (jmv op one two R n a) := by
  rw [jmv, e, if_neg (by decide), if_neg (by decide), if_neg (by decide), if_pos rfl, ea, nI_cl ha]
theorem jmv_bin {op one two R : Nat → Int32} {n i a b : Nat} {o : Int32} (e : op i = o) (h1 : o ≠ 35) (h2 : ¬ (18 ≤ o ∧ o ≤ 24)) (h3 : o ≠ 110) (h4 : o ≠ 25) (ea : one i = nI a) (ha : a < 401) (eb : two i = nI b) (hb : b < 401) : jmv op one two R (n + 1) i = jjn (jmap o) (jmv op one two R n a) (jmv op one two R n b) := by
  rw [jmv, e, if_neg h1, if_neg h2, if_neg h3, if_neg h4, ea, eb, nI_cl ha, nI_cl hb]
