/-! THE GRAMMAR, purely. Tokens: their kinds (as the class has them), the numbers, whether two names are the same, and where the end (or what is no token) stands -/
abbrev JTk : Type := (Nat → Int32) × ((Nat → Int32) × ((Nat → Nat → Bool) × Nat))
/-- the first error that is none of grammar: its number (0: none) and its token -/
abbrev JEr : Type := Nat × Nat
/-- what comes of reading a piece of a test: the token that does not fit, or the token behind, the error, and what the piece is worth -/
abbrev JXR : Type := Nat ⊕ (Nat × (JEr × ((Nat → Int32) → Int32)))
abbrev JEx : Type := Nat → JEr → JXR
def jbl (er : JEr) (c t : Nat) : JEr := if er.1 = 0 then (c, t) else er
/-- the first of n for which p holds, else n -/
def jfst (p : Nat → Bool) : Nat → Nat
  | 0 => 0
  | n + 1 => if jfst p n < n then jfst p n else if p n = true then n else n + 1
theorem jfst_le (p : Nat → Bool) (n : Nat) : jfst p n ≤ n := by
  induction n with
  | zero => exact Nat.le_refl _
  | succ n ih =>
    unfold jfst
    split
    · omega
    · split <;> omega
theorem jfst_spec (p : Nat → Bool) (n : Nat) : (∀ j, j < jfst p n → p j = false) ∧ (jfst p n < n → p (jfst p n) = true) := by
  induction n with
  | zero => exact ⟨fun j h => absurd h (Nat.not_lt_zero j), fun h => absurd h (Nat.lt_irrefl 0)⟩
  | succ n ih =>
    have hl := jfst_le p n
    unfold jfst
    split
    · rename_i h
      exact ⟨ih.1, fun _ => ih.2 h⟩
    · rename_i h
      have e : jfst p n = n := by omega
      rw [e] at ih
      split
      · rename_i hp
        exact ⟨ih.1, fun _ => hp⟩
      · rename_i hp
        refine ⟨fun j hj => ?_, fun h => absurd h (Nat.lt_irrefl _)⟩
        by_cases z : j = n
        · subst z
          simpa using hp
        · exact ih.1 j (by omega)
theorem jfst_is {p : Nat → Bool} {n i : Nat} (hi : i < n) (hp : p i = true) (hb : ∀ j, j < i → p j = false) : jfst p n = i := by
  obtain ⟨h1, h2⟩ := jfst_spec p n
  have hl := jfst_le p n
  by_cases a : jfst p n < i
  · have := hb _ a
    rw [h2 (by omega)] at this
    cases this
  · by_cases b : i < jfst p n
    · have := h1 i b
      rw [hp] at this
      cases this
    · omega
theorem jfst_no {p : Nat → Bool} {n : Nat} (hb : ∀ j, j < n → p j = false) : jfst p n = n := by
  obtain ⟨h1, h2⟩ := jfst_spec p n
  have hl := jfst_le p n
  by_cases a : jfst p n < n
  · have := hb _ a
    rw [h2 a] at this
    cases this
  · omega
/-- names: the token of each, and how many -/
abbrev JNm : Type := (Nat → Nat) × Nat
def jfd (p : Nat → Bool) (n : Nat) : Int32 := if jfst p n < n then nI (jfst p n) else -1
def jnum (T : JTk) (N : JNm) (t : Nat) : Int32 := jfd (fun k => T.2.2.1 (N.1 k) t) N.2
theorem jfd_neg {p : Nat → Bool} {n : Nat} (hn : n < 2 ^ 31) : (jfd p n < 0 ↔ ¬ jfst p n < n) ∧ (0 ≤ jfd p n ↔ jfst p n < n) ∧ (jfd p n = -1 ↔ ¬ jfst p n < n) := by
  unfold jfd
  by_cases h : jfst p n < n
  · rw [if_pos h]
    have a := nI_pos' (n := jfst p n) (by omega)
    have b := nI_pos (n := jfst p n) (by omega)
    refine ⟨⟨fun q => absurd q b, fun q => absurd h q⟩, ⟨fun _ => h, fun _ => a⟩, ⟨fun q => ?_, fun q => absurd h q⟩⟩
    rw [q] at a
    exact absurd a (by decide)
  · rw [if_neg h]
    exact ⟨⟨fun _ => h, fun _ => by decide⟩, ⟨fun q => absurd q (by decide), fun q => absurd q h⟩, ⟨fun _ => h, fun _ => rfl⟩⟩
def jxNamed (T : JTk) (s : Int32) (f : Nat → Int32) : JEx := fun n er => if T.1 (n + 1) = 30 then .inr (n + 2, (if f (n + 1) < 0 then jbl er 3 (n + 1) else er), fun R => jrd R s (f (n + 1))) else .inl (n + 1)
def jxLoop (T : JTk) (p : JEx) (o1 o2 : Int32) : Nat → Nat → JEr → ((Nat → Int32) → Int32) → JXR
  | 0, n, er, V => .inr (n, er, V)
  | k + 1, n, er, V => if T.1 n = o1 ∨ T.1 n = o2 then (match p (n + 1) er with | .inl f => .inl f | .inr q => jxLoop T p o1 o2 k q.1 q.2.1 (fun R => jjn (T.1 n) (V R) (q.2.2 R))) else .inr (n, er, V)
def jxChain (T : JTk) (p : JEx) (o1 o2 : Int32) : JEx := fun n er => match p n er with
  | .inl f => .inl f
  | .inr q => jxLoop T p o1 o2 400 q.1 q.2.1 q.2.2
def jxShut (T : JTk) (p : JEx) (c : Int32) : JEx := fun n er => match p n er with
  | .inl f => .inl f
  | .inr q => if T.1 q.1 = c then .inr (q.1 + 1, q.2) else .inl q.1
def jxMap (p : JEx) (g : Int32 → Int32) : JEx := fun n er => match p n er with
  | .inl f => .inl f
  | .inr q => .inr (q.1, q.2.1, fun R => g (q.2.2 R))
def jxTwo (p q : JEx) (o : Int32) : JEx := fun n er => match p n er with
  | .inl f => .inl f
  | .inr a => match q a.1 a.2.1 with
    | .inl f => .inl f
    | .inr b => .inr (b.1, b.2.1, fun R => jjn o (a.2.2 R) (b.2.2 R))
def jxSum (T : JTk) (p : JEx) : JEx := jxChain T (jxChain T p 40 41) 38 39
def jxTst (T : JTk) (p : JEx) : JEx := jxChain T (jxChain T p 26 26) 27 27
def jxExtB (T : JTk) (deep : Option JEx) : JEx := fun n er => match deep with
  | none => .inl (n + 1)
  | some p => if T.1 (n + 1) = 32 then jxTwo (jxShut T (jxSum T p) 37) (jxShut T (jxSum T p) 33) (T.1 n) (n + 2) er else .inl (n + 1)
/-- a value; deep: what may stand one deeper, if anything may -/
def jxValB (T : JTk) (fc fp : Nat → Int32) (deep : Option JEx) : JEx := fun n er =>
  if T.1 n = 31 then .inr (n + 1, er, fun _ => T.2.1 n)
  else if T.1 n = 18 ∨ T.1 n = 19 ∨ T.1 n = 23 then .inr (n + 1, er, fun R => jrd R (T.1 n) 0)
  else if T.1 n = 20 then jxNamed T 20 fc n er
  else if T.1 n = 21 ∨ T.1 n = 22 then jxNamed T (T.1 n) fp n er
  else if T.1 n = 39 then (match deep with | none => .inl n | some p => jxMap p (fun x => -x) (n + 1) er)
  else if T.1 n = 32 then (match deep with | none => .inl n | some p => jxShut T (jxSum T p) 33 (n + 1) er)
  else if T.1 n = 28 ∨ T.1 n = 29 then jxExtB T deep n er
  else .inl n
def jxVal (T : JTk) (fc fp : Nat → Int32) : Nat → JEx
  | 0 => jxValB T fc fp none
  | r + 1 => jxValB T fc fp (some (jxVal T fc fp r))
def jxCmp (T : JTk) (p : JEx) : JEx := fun n er => match p n er with
  | .inl f => .inl f
  | .inr a => if T.1 a.1 = 42 ∨ T.1 a.1 = 43 ∨ T.1 a.1 = 44 ∨ T.1 a.1 = 45 ∨ T.1 a.1 = 46 then (match p (a.1 + 1) a.2.1 with
    | .inl f => .inl f
    | .inr b => .inr (b.1, b.2.1, fun R => jjn (T.1 a.1) (a.2.2 R) (b.2.2 R))) else .inl a.1
def jxSngB (T : JTk) (fp : Nat → Int32) (sum : JEx) (deep : Option JEx) : JEx := fun n er =>
  if T.1 n = 24 then jxNamed T 24 fp n er
  else if T.1 n = 25 then (match deep with | none => .inl n | some p => jxMap p (fun x => 1 - x) (n + 1) er)
  else if T.1 n = 34 then (match deep with | none => .inl n | some p => jxShut T (jxTst T p) 35 (n + 1) er)
  else jxCmp T sum n er
def jxSng (T : JTk) (fc fp : Nat → Int32) : Nat → JEx
  | 0 => jxSngB T fp (jxSum T (jxVal T fc fp 0)) none
  | r + 1 => jxSngB T fp (jxSum T (jxVal T fc fp (r + 1))) (some (jxSng T fc fp r))
/-- runs of steps: one behind the other; over rows that are the same there -/
theorem jrunS_add {ss xs : Nat → Int32} {rd : Int32 → Int32 → Int32} (b : Nat) : ∀ (a i : Nat) (S U : List Int32), jrunS ss xs rd a i S = some U → jrunS ss xs rd (a + b) i S = jrunS ss xs rd b (i + a) U := by
  intro a
  induction a with
  | zero =>
    intro i S U h
    cases h
    rw [Nat.zero_add, Nat.add_zero]
  | succ a ih =>
    intro i S U h
    rw [show a + 1 + b = (a + b) + 1 by omega, jrunS]
    rw [jrunS] at h
    cases e : jop1 rd (ss i) (xs i) S with
    | none => rw [e] at h; cases h
    | some S2 =>
      rw [e] at h
      rw [show i + (a + 1) = i + 1 + a by omega]
      exact ih (i + 1) S2 U h
theorem jrunS_cong {ss xs ss2 xs2 : Nat → Int32} {rd : Int32 → Int32 → Int32} : ∀ (a i : Nat) (S : List Int32), (∀ j, i ≤ j → j < i + a → ss2 j = ss j ∧ xs2 j = xs j) → jrunS ss2 xs2 rd a i S = jrunS ss xs rd a i S := by
  intro a
  induction a with
  | zero => intro i S _; rfl
  | succ a ih =>
    intro i S h
    obtain ⟨h1, h2⟩ := h i (Nat.le_refl _) (by omega)
    rw [jrunS, jrunS, h1, h2]
    cases jop1 rd (ss i) (xs i) S with
    | none => rfl
    | some S2 => exact ih (i + 1) S2 (fun j q1 q2 => h j (by omega) (by omega))
