/-! what an organ is (D), and how an hour goes over a moment's row (R) -/
/-- numbers: 0 caves, 1 pipes, 2 chords, 3 swells, 4 silences, 5 orders, 10+c a chord's pipes, 20+6c+p its notes, 100+p a pipe's cave, 120+j an order's target, 140+p a pipe's length; ints: 0 mouth, 1 deep, 4 reed, 7 high, 8 every, 9 from, 10 and 11 silence, 12 an order's sort; and whether an order's test holds -/
abbrev JD : Type := (Nat → Nat) × ((Nat → Nat → Int32) × (Nat → (Nat → Int32) → Bool))
def jWF (D : JD) : Prop :=
  (D.1 0 ≤ 5 ∧ D.1 1 ≤ 12 ∧ D.1 2 ≤ 6 ∧ D.1 3 ≤ 5 ∧ D.1 4 ≤ 3 ∧ D.1 5 ≤ 16) ∧ (∀ j, j < D.1 0 → ¬ D.2.1 1 j = 0) ∧ (∀ j, j < D.1 1 → D.1 (100 + j) < D.1 0 ∧ 1 ≤ D.1 (140 + j) ∧ D.1 (140 + j) ≤ 40) ∧
  (∀ c, c < D.1 2 → 1 ≤ D.1 (10 + c) ∧ D.1 (10 + c) ≤ 6 ∧ ∀ p, p < D.1 (10 + c) → D.1 (20 + (6 * c + p)) < D.1 1) ∧ (∀ j, j < D.1 3 → ¬ D.2.1 8 j ≤ 0) ∧
  (∀ j, j < D.1 5 → (D.2.1 12 j = 15 ∧ D.1 (120 + j) < D.1 0) ∨ (D.2.1 12 j = 16 ∧ D.1 (120 + j) < D.1 1))
def jHgt (D : JD) (hour tide : Int32) : Int32 := jhgt (D.2.1 9) (D.2.1 8) (D.2.1 7) hour (2 * tide) (D.1 3)
def jStill (D : JD) (hour : Int32) : Bool := jany (fun i => jq1 (D.2.1 10 i) (D.2.1 11 i) (hour - hour / 24 * 24)) (D.1 4)
def jShut (D : JD) (R : Nat → Int32) (c : Nat) : Bool := jStill D (R 0) || jany (fun j => decide (D.2.1 12 j = 15) && (decide (D.1 (120 + j) = c) && D.2.2 j R)) (D.1 5)
def jPress1 (D : JD) (c : Nat) (R : Nat → Int32) : Nat → Int32 := upd R (4 + c) (if jShut D R c then 0 else R (4 + c) / 2 + jHgt D (R 0) (R 1) * D.2.1 0 c / D.2.1 1 c)
def jIter (F : Nat → (Nat → Int32) → Nat → Int32) : Nat → (Nat → Int32) → Nat → Int32
  | 0, R => R
  | n + 1, R => F n (jIter F n R)
def jNeed (D : JD) (R : Nat → Int32) (p : Nat) : Int32 := nI (D.1 (140 + p)) / 2 + R (9 + p) * (1 + D.2.1 4 p)
def jLoud (D : JD) (R : Nat → Int32) (p : Nat) : Int32 := if 0 < R (4 + D.1 (100 + p)) - jNeed D R p + 1 then R (4 + D.1 (100 + p)) - jNeed D R p + 1 else 0
def jBlow1 (D : JD) (p : Nat) (R : Nat → Int32) : Nat → Int32 := upd (upd R (21 + p) (jLoud D R p)) (33 + p) (R (33 + p) + (if 0 < jLoud D R p then 1 else 0))
def jSilt (D : JD) (R : Nat → Int32) (p : Nat) : Int32 :=
  if 6 ≤ R (21 + p) then (if 0 < R (9 + p) - 1 then R (9 + p) - 1 else 0)
  else if ¬ 0 < R (21 + p) ∧ 1 ≤ R (4 + D.1 (100 + p)) then (if R (9 + p) + 1 + D.2.1 4 p < 20 then R (9 + p) + 1 + D.2.1 4 p else 20) else R (9 + p)
def jSettle1 (D : JD) (p : Nat) (R : Nat → Int32) : Nat → Int32 := upd R (9 + p) (jSilt D R p)
def jClean1 (D : JD) (j : Nat) (R : Nat → Int32) : Nat → Int32 := if D.2.1 12 j = 16 ∧ D.2.2 j R = true then upd R (9 + D.1 (120 + j)) 0 else R
def jRings (D : JD) (R : Nat → Int32) (c : Nat) : Bool := jall (fun p => decide (0 < R (21 + D.1 (20 + (6 * c + p))))) (D.1 (10 + c))
def jDay (h : Int32) : Prop := 6 ≤ h - h / 24 * 24 ∧ h - h / 24 * 24 ≤ 21
def jChord1 (D : JD) (c : Nat) (R : Nat → Int32) : Nat → Int32 :=
  if jRings D R c then upd (upd (upd R 2 (R 2 + (if 6 ≤ R 0 - R 0 / 24 * 24 ∧ R 0 - R 0 / 24 * 24 ≤ 21 then nI (D.1 (10 + c)) else 0))) 3 (R 3 + (if 6 ≤ R 0 - R 0 / 24 * 24 ∧ R 0 - R 0 / 24 * 24 ≤ 21 then 0 else nI (D.1 (10 + c))))) (45 + c) (R (45 + c) + 1) else R
def jHour (D : JD) (R : Nat → Int32) : Nat → Int32 :=
  let R1 := jIter (jPress1 D) (D.1 0) R
  let R2 := jIter (jBlow1 D) (D.1 1) R1
  let R3 := jIter (jSettle1 D) (D.1 1) R2
  let R4 := jIter (jClean1 D) (D.1 5) R3
  let R5 := jIter (jChord1 D) (D.1 2) R4
  upd R5 0 (R5 0 + 1)
def jHours (D : JD) : Nat → (Nat → Int32) → Nat → Int32
  | 0, R => R
  | n + 1, R => jHour D (jHours D n R)
theorem jHours_1 (D : JD) (n : Nat) (R : Nat → Int32) : jHours D n (jHour D R) = jHour D (jHours D n R) := by
  induction n with
  | zero => rfl
  | succ n ih => rw [jHours, ih, jHours]
/-- the class's organ o holds D -/
def jOrg (w : JW) (o : Bool) (D : JD) : Prop :=
  (w.1 20 o 9 = nI (D.1 0) ∧ w.1 20 o 10 = nI (D.1 1) ∧ w.1 20 o 11 = nI (D.1 2) ∧ w.1 28 o 5 = nI (D.1 3) ∧ w.1 28 o 6 = nI (D.1 4) ∧ w.1 34 o 6 = nI (D.1 5)) ∧
  (∀ j, j < D.1 0 → w.1 21 o j = D.2.1 0 j ∧ w.1 22 o j = D.2.1 1 j) ∧ (∀ j, j < D.1 1 → w.1 23 o j = nI (D.1 (100 + j)) ∧ w.1 24 o j = nI (D.1 (140 + j)) ∧ w.1 25 o j = D.2.1 4 j) ∧
  (∀ c, c < D.1 2 → w.1 26 o c = nI (D.1 (10 + c)) ∧ ∀ p, p < D.1 (10 + c) → w.1 27 o (6 * c + p) = nI (D.1 (20 + (6 * c + p)))) ∧
  (∀ j, j < D.1 3 → w.1 29 o j = D.2.1 7 j ∧ w.1 30 o j = D.2.1 8 j ∧ w.1 31 o j = D.2.1 9 j) ∧ (∀ j, j < D.1 4 → w.1 32 o j = D.2.1 10 j ∧ w.1 33 o j = D.2.1 11 j) ∧
  (∀ j, j < D.1 5 → w.1 35 o j = D.2.1 12 j ∧ w.1 36 o j = nI (D.1 (120 + j)) ∧ ∃ a e : Nat, w.1 37 o j = nI a ∧ w.1 38 o j = nI e ∧ a ≤ e ∧ e ≤ 400 ∧
    ((a = e ∧ ∀ R, D.2.2 j R = true) ∨ (a ≠ e ∧ ∀ R, ∃ v S, jrunS (w.1 39 o) (w.1 40 o) (jrd R) (e - a) a [] = some (v :: S) ∧ D.2.2 j R = decide (v ≠ 0))))
theorem jOrg.kept {w w2 : JW} {o : Bool} {D : JD} (h : jOrg w o D) (hk : ∀ k, 20 ≤ k → k ≤ 40 → w2.1 k o = w.1 k o) : jOrg w2 o D := by
  unfold jOrg
  rw [hk 20 (by omega) (by omega), hk 21 (by omega) (by omega), hk 22 (by omega) (by omega), hk 23 (by omega) (by omega), hk 24 (by omega) (by omega), hk 25 (by omega) (by omega), hk 26 (by omega) (by omega), hk 27 (by omega) (by omega), hk 28 (by omega) (by omega), hk 29 (by omega) (by omega), hk 30 (by omega) (by omega), hk 31 (by omega) (by omega), hk 32 (by omega) (by omega), hk 33 (by omega) (by omega), hk 34 (by omega) (by omega), hk 35 (by omega) (by omega), hk 36 (by omega) (by omega), hk 37 (by omega) (by omega), hk 38 (by omega) (by omega), hk 39 (by omega) (by omega), hk 40 (by omega) (by omega)]
  exact h
/-- a world in an hour: the moment t holds R, the judge whatever -/
def jgm (w : JW) (t : Bool) (R : Nat → Int32) (f : Nat → Int32) (x : Int32) : JW := jgar (jmom w t R) f x
theorem jgm_k {w : JW} {t b : Bool} {R f : Nat → Int32} {x : Int32} {k : Nat} (h : 19 < k ∨ k < 12) : (jgm w t R f x).1 k b = w.1 k b := by
  unfold jgm
  rw [jgar_k (by omega) (by omega), jmom_k (by omega)]
theorem jgm_p {w : JW} {t : Bool} {R f : Nat → Int32} {x : Int32} {k j p : Nat} (h : jpos k j = some p) : (jgm w t R f x).1 k t j = R p := by
  have hk : k ≠ 12 ∧ k ≠ 13 := by
    constructor <;> (rintro rfl; unfold jpos at h; simp at h)
  unfold jgm
  rw [jgar_k hk.1 hk.2, jmom_at h]
theorem jgar_set {w : JW} {f : Nat → Int32} {x y : Int32} {k : Nat} {b : Bool} {j : Nat} (h : k ≠ 12) (h2 : k ≠ 13) : jset (jgar w f x) k b j y = jgar (jset w k b j y) f x := by
  refine jw_ext (fun k2 b2 j2 => ?_) rfl
  simp only [jgar, jset_I, jfn_I]
  by_cases e : k2 = k ∧ b2 = b ∧ j2 = j
  · rw [if_pos e, if_neg (fun q => h (e.1.symm.trans q.1)), if_neg (fun q => h2 (e.1.symm.trans q.1)), if_pos e]
  · rw [if_neg e]
    by_cases e1 : k2 = 12 ∧ b2 = false ∧ j2 = 1
    · rw [if_pos e1, if_pos e1]
    · rw [if_neg e1, if_neg e1]
      by_cases e3 : k2 = 13 ∧ b2 = false
      · rw [if_pos e3, if_pos e3]
      · rw [if_neg e3, if_neg e3, if_neg e]
theorem jgm_set {w : JW} {t : Bool} {R f : Nat → Int32} {x y : Int32} {k j p : Nat} (h : jpos k j = some p) : jset (jgm w t R f x) k t j y = jgm w t (upd R p y) f x := by
  have hk : k ≠ 12 ∧ k ≠ 13 := by
    constructor <;> (rintro rfl; unfold jpos at h; simp at h)
  unfold jgm
  rw [jgar_set hk.1 hk.2, jmom_set h]
theorem jgm_row {w : JW} {t : Bool} {R f : Nat → Int32} {x : Int32} : ∀ i, i < 51 → R i = jrow (jgm w t R f x) t i := by
  intro i hi
  unfold jrow
  by_cases h1 : i < 4
  · rw [if_pos h1, jgm_p (jpos_14 h1)]
  · rw [if_neg h1]
    by_cases h2 : i < 9
    · rw [if_pos h2, jgm_p (jpos_15 (i := i - 4) (by omega)), show 4 + (i - 4) = i by omega]
    · rw [if_neg h2]
      by_cases h3 : i < 21
      · rw [if_pos h3, jgm_p (jpos_16 (i := i - 9) (by omega)), show 9 + (i - 9) = i by omega]
      · rw [if_neg h3]
        by_cases h4 : i < 33
        · rw [if_pos h4, jgm_p (jpos_17 (i := i - 21) (by omega)), show 21 + (i - 21) = i by omega]
        · rw [if_neg h4]
          by_cases h5 : i < 45
          · rw [if_pos h5, jgm_p (jpos_18 (i := i - 33) (by omega)), show 33 + (i - 33) = i by omega]
          · rw [if_neg h5, if_pos hi, jgm_p (jpos_19 (i := i - 45) (by omega)), show 45 + (i - 45) = i by omega]
theorem jgm_gar {w : JW} {t : Bool} {R f g : Nat → Int32} {x y : Int32} : jgar (jgm w t R f x) g y = jgm w t R g y := jgar_gar
theorem jgm_org {w : JW} {t o : Bool} {R f : Nat → Int32} {x : Int32} {D : JD} (h : jOrg w o D) : jOrg (jgm w t R f x) o D := h.kept (fun k h1 h2 => jgm_k (by omega))
/-- the test of an order, in the words of D -/
theorem c_holdsD {w : JW} {o t : Bool} {D : JD} (hD : jOrg w o D) (hW : jWF D) {R : Nat → Int32} (hR : ∀ i, i < 51 → R i = jrow w t i) {j : Nat} (hj : j < D.1 5) :
    jSI MX0_holds 3 [jR 12 false, jR 34 o, jI (nI j), jR 14 t] w (fun r' w' => r' = (if D.2.2 j R then 1 else 0) ∧ ∃ f x, w' = jgar w f x) := by
  obtain ⟨-, -, a, e, ha, he, hae, h4, hr⟩ := hD.2.2.2.2.2.2 j hj
  have h16 := hW.1.2.2.2.2.2
  refine c_holds w o t R hR (by omega) ha he hae h4 _ ?_
  rcases hr with ⟨h1, h2⟩ | ⟨h1, h2⟩
  · exact Or.inl ⟨h1, by rw [h2 R]; rfl⟩
  · obtain ⟨v, S, h3, h5⟩ := h2 R
    refine Or.inr ⟨h1, v, S, h3, ?_⟩
    rw [h5]
    by_cases z : v = 0
    · simp [z]
    · simp [z]
