/-! the lines of a list, purely -/
abbrev JP : Type := Nat → JEr → Nat ⊕ (Nat × JEr)
def jpK (T : JTk) (k : Int32) : JP := fun n er => if T.1 n = k then .inr (n + 1, er) else .inl n
def jpR (T : JTk) (a b : Int32) : JP := fun n er => if T.1 n = 31 then .inr (n + 1, if a ≤ T.2.1 n ∧ T.2.1 n ≤ b then er else jbl er 5 n) else .inl n
def jpO (T : JTk) (N : JNm) : JP := fun n er => if T.1 n = 30 then .inr (n + 1, if jnum T N n < 0 then jbl er 3 n else er) else .inl n
def jpF (T : JTk) (N : JNm) (m : Nat) : JP := fun n er => if T.1 n = 30 then .inr (n + 1, if jnum T N n < 0 then (if N.2 < m then er else jbl er 4 n) else jbl er 2 n) else .inl n
def jpSq : List JP → JP
  | [], n, er => .inr (n, er)
  | p :: ps, n, er => match p n er with
    | .inl f => .inl f
    | .inr q => jpSq ps q.1 q.2
/-- what was told: the organ, and the tokens of the names of caves, pipes, chords -/
abbrev JLn : Type := JD × ((Nat → Nat) × ((Nat → Nat) × (Nat → Nat)))
abbrev jNc (L : JLn) : JNm := (L.2.1, L.1.1 0)
abbrev jNp (L : JLn) : JNm := (L.2.2.1, L.1.1 1)
abbrev jNh (L : JLn) : JNm := (L.2.2.2, L.1.1 2)
abbrev JLR : Type := Nat ⊕ (Nat × (JEr × JLn))
def updn (f : Nat → Nat) (k x : Nat) : Nat → Nat := fun j => if j = k then x else f j
theorem updn_at {f : Nat → Nat} {k x : Nat} : updn f k x k = x := if_pos rfl
theorem updn_no {f : Nat → Nat} {k x j : Nat} (h : ¬ j = k) : updn f k x j = f j := if_neg h
/-- an int of the organ; a number of it; a test -/
def jsI (D : JD) (k j : Nat) (x : Int32) : JD := (D.1, (fun k2 j2 => if k2 = k ∧ j2 = j then x else D.2.1 k2 j2), D.2.2)
def jsN (D : JD) (i v : Nat) : JD := (updn D.1 i v, D.2)
def jsT (D : JD) (j : Nat) (t : (Nat → Int32) → Bool) : JD := (D.1, D.2.1, fun i => if i = j then t else D.2.2 i)
/-- the index of a name -/
def jfi (T : JTk) (N : JNm) (t : Nat) : Nat := jfst (fun k => T.2.2.1 (N.1 k) t) N.2
def jaCave (L : JLn) (t : Nat) (m d : Int32) : JLn := (jsN (jsI (jsI L.1 0 (L.1.1 0) m) 1 (L.1.1 0) d) 0 (L.1.1 0 + 1), updn L.2.1 (L.1.1 0) t, L.2.2)
def jaPipe (L : JLn) (t c l : Nat) (r : Int32) : JLn := (jsN (jsN (jsN (jsI L.1 4 (L.1.1 1) r) (100 + L.1.1 1) c) (140 + L.1.1 1) l) 1 (L.1.1 1 + 1), L.2.1, updn L.2.2.1 (L.1.1 1) t, L.2.2.2)
def jaSwell (L : JLn) (h e f : Int32) : JLn := (jsN (jsI (jsI (jsI L.1 7 (L.1.1 3) h) 8 (L.1.1 3) e) 9 (L.1.1 3) f) 3 (L.1.1 3 + 1), L.2)
def jaSil (L : JLn) (f t : Int32) : JLn := (jsN (jsI (jsI L.1 10 (L.1.1 4) f) 11 (L.1.1 4) t) 4 (L.1.1 4 + 1), L.2)
/-- a chord's pipes are set while it is read -/
def jaNotes (D : JD) (c : Nat) (f : Nat → Nat) : Nat → JD
  | 0 => D
  | m + 1 => jsN (jaNotes D c f m) (20 + (6 * c + m)) (f m)
def jaChord (L : JLn) (t m : Nat) (f : Nat → Nat) : JLn := (jsN (jsN (jaNotes L.1 (L.1.1 2) f m) (10 + L.1.1 2) m) 2 (L.1.1 2 + 1), L.2.1, L.2.2.1, updn L.2.2.2 (L.1.1 2) t)
def jaOrd (L : JLn) (s : Int32) (t : Nat) (f : (Nat → Int32) → Bool) : JLn := (jsN (jsN (jsT (jsI L.1 12 (L.1.1 5) s) (L.1.1 5) f) (120 + L.1.1 5) t) 5 (L.1.1 5 + 1), L.2)
def jlEnd (r : Nat ⊕ (Nat × JEr)) (L L2 : JLn) : JLR := match r with
  | .inl f => .inl f
  | .inr q => .inr (q.1, q.2, if q.2.1 = 0 then L2 else L)
def jlCave (T : JTk) (L : JLn) (n : Nat) (er : JEr) : JLR := jlEnd (jpSq [jpK T 0, jpF T (jNc L) 5, jpK T 1, jpR T 1 9, jpK T 2, jpR T 1 9] n er) L (jaCave L (n + 1) (T.2.1 (n + 3)) (T.2.1 (n + 5)))
def jlPipe (T : JTk) (L : JLn) (n : Nat) (er : JEr) : JLR := match jpSq [jpK T 3, jpF T (jNp L) 12, jpK T 4, jpO T (jNc L), jpK T 5, jpR T 1 40] n er with
  | .inl f => .inl f
  | .inr q => .inr (if T.1 q.1 = 6 then q.1 + 1 else q.1, q.2, if q.2.1 = 0 then jaPipe L (n + 1) (jfi T (jNc L) (n + 3)) (T.2.1 (n + 5)).toNatClampNeg (if T.1 q.1 = 6 then 1 else 0) else L)
def jlSwell (T : JTk) (L : JLn) (n : Nat) (er : JEr) : JLR := jlEnd (jpSq [jpK T 7, jpK T 8, jpR T 1 30, jpK T 9, jpR T 1 24, jpK T 10, jpR T 0 99] n (if L.1.1 3 < 5 then er else jbl er 4 n)) L (jaSwell L (T.2.1 (n + 2)) (T.2.1 (n + 4)) (T.2.1 (n + 6)))
def jlSil (T : JTk) (L : JLn) (n : Nat) (er : JEr) : JLR := jlEnd (jpSq [jpK T 11, jpK T 10, jpR T 0 23, jpK T 12, jpR T 0 23] n (if L.1.1 4 < 3 then er else jbl er 4 n)) L (jaSil L (T.2.1 (n + 2)) (T.2.1 (n + 4)))
/-- a pipe of a chord; what was read of it: how many, and which -/
abbrev JCh : Type := Nat × (Nat → Nat)
def jhas (c : JCh) (p : Nat) : Bool := jany (fun k => decide (c.2 k = p)) c.1
def jcEr (T : JTk) (N : JNm) (c : JCh) (n : Nat) (er : JEr) : JEr := if ¬ jfi T N n < N.2 then jbl er 3 n else if ¬ c.1 < 6 then jbl er 4 n else if jhas c (jfi T N n) = true then jbl er 5 n else er
def jcTo (T : JTk) (N : JNm) (c : JCh) (n : Nat) (er2 : JEr) : JCh := if er2.1 = 0 then (c.1 + 1, updn c.2 c.1 (jfi T N n)) else c
def jcMore (T : JTk) (N : JNm) : Nat → Nat → JEr → JCh → Nat × (JEr × JCh)
  | 0, n, er, c => (n, er, c)
  | k + 1, n, er, c => if T.1 n = 30 then jcMore T N k (n + 1) (jcEr T N c n er) (jcTo T N c n (jcEr T N c n er)) else (n, er, c)
def jlChord (T : JTk) (L : JLn) (n : Nat) (er : JEr) : JLR := match jpSq [jpK T 13, jpF T (jNh L) 6, jpK T 14] n er with
  | .inl f => .inl f
  | .inr q => if ¬ T.1 q.1 = 30 then .inl q.1 else if ¬ T.1 (q.1 + 1) = 30 then .inl (q.1 + 1) else
    let r := jcMore T (jNp L) 402 q.1 q.2 (0, fun _ => 0)
    .inr (r.1, r.2.1, if r.2.1.1 = 0 then jaChord L (n + 1) r.2.2.1 r.2.2.2 else L)
def jxTest (T : JTk) (L : JLn) : JEx := jxTst T (jxSng T (jnum T (jNc L)) (jnum T (jNp L)) 8)
def jlOrd (T : JTk) (L : JLn) (s : Int32) (t : Nat) (n : Nat) (er : JEr) : JLR := match jxTest T L n er with
  | .inl f => .inl f
  | .inr q => .inr (q.1, q.2.1, if q.2.1.1 = 0 then jaOrd L s t (fun R => decide (¬ q.2.2 R = 0)) else L)
def jlShut (T : JTk) (L : JLn) (n : Nat) (er : JEr) : JLR := match jpSq [jpK T 15, jpO T (jNc L), jpK T 17] n (if L.1.1 5 < 16 then er else jbl er 4 n) with
  | .inl f => .inl f
  | .inr q => jlOrd T L 15 (jfi T (jNc L) (n + 1)) q.1 q.2
def jlClean (T : JTk) (L : JLn) (n : Nat) (er : JEr) : JLR := match jpSq [jpK T 16, jpO T (jNp L)] n (if L.1.1 5 < 16 then er else jbl er 4 n) with
  | .inl f => .inl f
  | .inr q => if T.1 q.1 = 17 then jlOrd T L 16 (jfi T (jNp L) (n + 1)) (q.1 + 1) q.2 else .inr (q.1, q.2, if q.2.1 = 0 then jaOrd L 16 (jfi T (jNp L) (n + 1)) (fun _ => true) else L)
def jlLine (T : JTk) (L : JLn) (n : Nat) (er : JEr) : JLR :=
  if T.1 n = 0 then jlCave T L n er else if T.1 n = 3 then jlPipe T L n er else if T.1 n = 7 then jlSwell T L n er else if T.1 n = 11 then jlSil T L n er
  else if T.1 n = 13 then jlChord T L n er else if T.1 n = 15 then jlShut T L n er else if T.1 n = 16 then jlClean T L n er else .inl n
def jlAll (T : JTk) : Nat → Nat → JEr → JLn → Nat ⊕ (JEr × JLn)
  | 0, n, er, L => if T.1 n = 47 then .inr (er, L) else .inl n
  | k + 1, n, er, L => if T.1 n = 47 then .inr (er, L) else match jlLine T L n er with
    | .inl f => .inl f
    | .inr q => if T.1 q.1 = 36 then jlAll T k (q.1 + 1) q.2.1 q.2.2 else .inl q.1
def jD0 : JD := (fun _ => 0, fun _ _ => 0, fun _ _ => true)
def jL0 : JLn := (jD0, fun _ => 0, fun _ => 0, fun _ => 0)
/-- what teach makes of the tokens: the error and its token, or the organ that was told -/
def jTeach (T : JTk) : JEr × JD := match jlAll T 400 0 (0, 0) jL0 with
  | .inl f => ((1, f), jD0)
  | .inr q => (q.1, q.2.1)
