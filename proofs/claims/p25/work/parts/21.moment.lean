/-! helpers of the class; its moments -/
theorem i32_1 : (1 : Int32).toInt = 1 := by decide
theorem i32_0 : (0 : Int32).toInt = 0 := by decide
theorem i32_lt1 (x : Int32) : x < 1 ↔ ¬ 0 < x := by
  rw [Int32.lt_iff_toInt_lt, Int32.lt_iff_toInt_lt, i32_1, i32_0]
  omega
/-- a count; a sum -/
def jct (f : Nat → Bool) : Nat → Nat
  | 0 => 0
  | n + 1 => jct f n + (if f n then 1 else 0)
def jsum (f : Nat → Int32) : Nat → Int32
  | 0 => 0
  | n + 1 => jsum f n + f n
theorem jct_le (f : Nat → Bool) (n : Nat) : jct f n ≤ n := by
  induction n with
  | zero => exact Nat.le_refl _
  | succ n ih =>
    unfold jct
    split <;> omega
theorem jct_cong {f g : Nat → Bool} {n : Nat} (h : ∀ k, k < n → f k = g k) : jct f n = jct g n := by
  induction n with
  | zero => rfl
  | succ n ih => rw [jct, jct, ih (fun k hk => h k (by omega)), h n (by omega)]
theorem jsum_cong {f g : Nat → Int32} {n : Nat} (h : ∀ k, k < n → f k = g k) : jsum f n = jsum g n := by
  induction n with
  | zero => rfl
  | succ n ih => rw [jsum, jsum, ih (fun k hk => h k (by omega)), h n (by omega)]
/-- the first n places anew -/
def jpre (n : Nat) (f g : Nat → Int32) : Nat → Int32 := fun j => if j < n then f j else g j
theorem jpre_0 {f g : Nat → Int32} : jpre 0 f g = g := by
  funext j
  exact if_neg (Nat.not_lt_zero j)
theorem jpre_succ {n : Nat} {f g : Nat → Int32} : upd (jpre n f g) n (f n) = jpre (n + 1) f g := by
  funext j
  unfold upd jpre
  by_cases h : j = n
  · rw [if_pos h, if_pos (by omega), h]
  · rw [if_neg h]
    by_cases h2 : j < n
    · rw [if_pos h2, if_pos (by omega)]
    · rw [if_neg h2, if_neg (by omega)]
theorem c_empty {k : Nat} {b : Bool} {n : Nat} (hA : jIA k b n) (w : JW) : jF MX9_empty 0 [jR k b] w jU (jfn w k b (jpre n (fun _ => 0) (w.1 k b))) := by
  refine jF_of jp_X9_empty rfl (Nat.le_of_ble_eq_true rfl) (fun C hm => ?_)
  have hn := hA.2.1
  refine bk_X9_empty_0 hm ?_
  have key := jfor (P := fun i => i ≤ n → jW C 0 0 (jQQ C 0 0 (fun v w' => v = jU ∧ w' = jfn w k b (jpre n (fun _ => 0) (w.1 k b)))) 2 [jR k b, jI (nI i)] [] (jfn w k b (jpre i (fun _ => 0) (w.1 k b)))) n ?_ ?_
  · have h0 := key (Nat.zero_le n)
    rw [jpre_0, jfn_self] at h0
    exact h0
  · intro _
    refine bk_X9_empty_2 hm hA (fun _ => bk_X9_empty_18 hm ⟨rfl, rfl⟩) (fun h => absurd ((nI_leI hn hn).mpr (Nat.le_refl n)) h)
  · intro i hi ih _
    refine bk_X9_empty_2 hm hA (fun h => absurd ((nI_leI hn (by omega)).mp h) (by omega)) (fun _ => ?_)
    refine bk_X9_empty_8 hm hA (vp_in_nI hi hn) ?_
    rw [nI_1, nI_clamp (by omega), jset_jfn]
    have e : upd (jpre i (fun _ => 0) (w.1 k b)) i 0 = jpre (i + 1) (fun _ => 0) (w.1 k b) := jpre_succ (f := fun _ => 0)
    rw [e]
    exact ih (by omega)
theorem c_copy {k0 k1 : Nat} {b0 b1 : Bool} {n : Nat} (hA0 : jIA k0 b0 n) (hA1 : jIA k1 b1 n) (w : JW) : jF MX9_copy 1 [jR k0 b0, jR k1 b1] w jU (jfn w k1 b1 (jpre n (w.1 k0 b0) (w.1 k1 b1))) := by
  refine jF_of jp_X9_copy rfl (Nat.le_of_ble_eq_true rfl) (fun C hm => ?_)
  have hn := hA0.2.1
  refine bk_X9_copy_0 hm ?_
  have key := jfor (P := fun i => i ≤ n → jW C 0 0 (jQQ C 0 0 (fun v w' => v = jU ∧ w' = jfn w k1 b1 (jpre n (w.1 k0 b0) (w.1 k1 b1)))) 2 [jR k0 b0, jR k1 b1, jI (nI i)] [] (jfn w k1 b1 (jpre i (w.1 k0 b0) (w.1 k1 b1)))) n ?_ ?_
  · have h0 := key (Nat.zero_le n)
    rw [jpre_0, jfn_self] at h0
    exact h0
  · intro _
    refine bk_X9_copy_2 hm hA1 (fun _ => bk_X9_copy_22 hm ⟨rfl, rfl⟩) (fun h => absurd ((nI_leI hn hn).mpr (Nat.le_refl n)) h)
  · intro i hi ih _
    refine bk_X9_copy_2 hm hA1 (fun h => absurd ((nI_leI hn (by omega)).mp h) (by omega)) (fun _ => ?_)
    refine bk_X9_copy_8 hm (c_atN hA0 _ hi) (by decide) ?_
    refine bk_X9_copy_15 hm hA1 (vp_in_nI hi hn) ?_
    rw [nI_1, nI_clamp (by omega), jset_jfn]
    have e : (jfn w k1 b1 (jpre i (w.1 k0 b0) (w.1 k1 b1))).1 k0 b0 i = w.1 k0 b0 i := by
      rw [jfn_I]
      by_cases h : k0 = k1 ∧ b0 = b1
      · rw [if_pos h]
        unfold jpre
        rw [if_neg (by omega), h.1, h.2]
      · rw [if_neg h]
    rw [e, jpre_succ]
    exact ih (by omega)
/-- where a place of a moment's cells stands in its row -/
def jpos (k j : Nat) : Option Nat :=
  if k = 14 then (if 5 ≤ j ∧ j < 9 then some (j - 5) else none)
  else if k = 15 then (if j < 5 then some (4 + j) else none)
  else if k = 16 then (if j < 12 then some (9 + j) else none)
  else if k = 17 then (if j < 12 then some (21 + j) else none)
  else if k = 18 then (if j < 12 then some (33 + j) else none)
  else if k = 19 then (if j < 6 then some (45 + j) else none)
  else none
theorem jpos_inj {k j k2 j2 p : Nat} (h : jpos k j = some p) (h2 : jpos k2 j2 = some p) : k = k2 ∧ j = j2 := by
  unfold jpos at h h2
  split at h <;> (try split at h) <;> (try split at h) <;> (try split at h) <;> (try split at h) <;> (try split at h) <;> (try split at h) <;> (try (cases h; done)) <;>
  split at h2 <;> (try split at h2) <;> (try split at h2) <;> (try split at h2) <;> (try split at h2) <;> (try split at h2) <;> (try split at h2) <;> (try (cases h2; done)) <;>
  (simp only [Option.some.injEq] at h h2; omega)
/-- the moment t of the world holds the row R: hour, tide, listeners, complaints, pressures (4), silts (9), louds (21), pipes' hours (33), chords' hours (45) -/
def jmom (w : JW) (t : Bool) (R : Nat → Int32) : JW := (fun k b j => if b = t then (match jpos k j with | some p => R p | none => w.1 k b j) else w.1 k b j, w.2)
def jrow (w : JW) (t : Bool) : Nat → Int32 := fun i => if i < 4 then w.1 14 t (5 + i) else if i < 9 then w.1 15 t (i - 4) else if i < 21 then w.1 16 t (i - 9) else if i < 33 then w.1 17 t (i - 21) else if i < 45 then w.1 18 t (i - 33) else if i < 51 then w.1 19 t (i - 45) else 0
theorem jmom_at {w : JW} {t : Bool} {R : Nat → Int32} {k j p : Nat} (h : jpos k j = some p) : (jmom w t R).1 k t j = R p := by
  show (if t = t then (match jpos k j with | some p => R p | none => w.1 k t j) else w.1 k t j) = R p
  rw [if_pos rfl, h]
theorem jmom_no {w : JW} {t b : Bool} {R : Nat → Int32} {k j : Nat} (h : jpos k j = none) : (jmom w t R).1 k b j = w.1 k b j := by
  show (if b = t then (match jpos k j with | some p => R p | none => w.1 k b j) else w.1 k b j) = _
  rw [h]
  split <;> rfl
theorem jmom_b {w : JW} {t b : Bool} {R : Nat → Int32} {k j : Nat} (h : b ≠ t) : (jmom w t R).1 k b j = w.1 k b j := if_neg h
theorem jmom_k {w : JW} {t b : Bool} {R : Nat → Int32} {k : Nat} (h : k < 14 ∨ 19 < k) : (jmom w t R).1 k b = w.1 k b := by
  funext j
  refine jmom_no ?_
  unfold jpos
  rw [if_neg (by omega), if_neg (by omega), if_neg (by omega), if_neg (by omega), if_neg (by omega), if_neg (by omega)]
theorem jmom_2 {w : JW} {t : Bool} {R : Nat → Int32} : (jmom w t R).2 = w.2 := rfl
theorem jmom_set {w : JW} {t : Bool} {R : Nat → Int32} {k j p : Nat} {x : Int32} (h : jpos k j = some p) : jset (jmom w t R) k t j x = jmom w t (upd R p x) := by
  refine jw_ext (fun k2 b2 j2 => ?_) rfl
  rw [jset_I]
  show _ = (if b2 = t then (match jpos k2 j2 with | some q => upd R p x q | none => w.1 k2 b2 j2) else w.1 k2 b2 j2)
  by_cases hb : b2 = t
  · subst hb
    rw [if_pos rfl]
    by_cases hk : k2 = k ∧ j2 = j
    · obtain ⟨rfl, rfl⟩ := hk
      rw [if_pos ⟨rfl, rfl, rfl⟩, h]
      exact (if_pos rfl).symm
    · rw [if_neg (fun q => hk ⟨q.1, q.2.2⟩)]
      cases h2 : jpos k2 j2 with
      | none => exact jmom_no h2
      | some q =>
        rw [jmom_at h2]
        refine (if_neg (fun e => hk ?_)).symm
        subst e
        exact jpos_inj h2 h
  · rw [if_neg (fun q => hb q.2.1), if_neg hb, jmom_b hb]
theorem jmom_self {w : JW} {t : Bool} : jmom w t (jrow w t) = w := by
  refine jw_ext (fun k b j => ?_) rfl
  by_cases hb : b = t
  · subst hb
    cases h : jpos k j with
    | none => exact jmom_no h
    | some p =>
      rw [jmom_at h]
      unfold jpos at h
      unfold jrow
      split at h
      · subst k; split at h
        · cases h; rw [if_pos (by omega)]; rw [show 5 + (j - 5) = j by omega]
        · cases h
      · split at h
        · subst k; split at h
          · cases h; rw [if_neg (by omega), if_pos (by omega)]; rw [show 4 + j - 4 = j by omega]
          · cases h
        · split at h
          · subst k; split at h
            · cases h; rw [if_neg (by omega), if_neg (by omega), if_pos (by omega)]; rw [show 9 + j - 9 = j by omega]
            · cases h
          · split at h
            · subst k; split at h
              · cases h; rw [if_neg (by omega), if_neg (by omega), if_neg (by omega), if_pos (by omega)]; rw [show 21 + j - 21 = j by omega]
              · cases h
            · split at h
              · subst k; split at h
                · cases h; rw [if_neg (by omega), if_neg (by omega), if_neg (by omega), if_neg (by omega), if_pos (by omega)]; rw [show 33 + j - 33 = j by omega]
                · cases h
              · split at h
                · subst k; split at h
                  · cases h; rw [if_neg (by omega), if_neg (by omega), if_neg (by omega), if_neg (by omega), if_neg (by omega), if_pos (by omega)]; rw [show 45 + j - 45 = j by omega]
                  · cases h
                · cases h
  · exact jmom_b hb
theorem jmom_mom {w : JW} {t : Bool} {R S : Nat → Int32} : jmom (jmom w t R) t S = jmom w t S := by
  refine jw_ext (fun k b j => ?_) rfl
  by_cases hb : b = t
  · subst hb
    cases h : jpos k j with
    | none => rw [jmom_no h, jmom_no h, jmom_no h]
    | some p => rw [jmom_at h, jmom_at h]
  · rw [jmom_b hb, jmom_b hb, jmom_b hb]
theorem jpos_14 {i : Nat} (h : i < 4) : jpos 14 (5 + i) = some i := by
  unfold jpos
  rw [if_pos rfl, if_pos (by omega)]
  congr 1
  omega
theorem jpos_15 {i : Nat} (h : i < 5) : jpos 15 i = some (4 + i) := by
  unfold jpos
  rw [if_neg (by decide), if_pos rfl, if_pos h]
theorem jpos_16 {i : Nat} (h : i < 12) : jpos 16 i = some (9 + i) := by
  unfold jpos
  rw [if_neg (by decide), if_neg (by decide), if_pos rfl, if_pos h]
theorem jpos_17 {i : Nat} (h : i < 12) : jpos 17 i = some (21 + i) := by
  unfold jpos
  rw [if_neg (by decide), if_neg (by decide), if_neg (by decide), if_pos rfl, if_pos h]
theorem jpos_18 {i : Nat} (h : i < 12) : jpos 18 i = some (33 + i) := by
  unfold jpos
  rw [if_neg (by decide), if_neg (by decide), if_neg (by decide), if_neg (by decide), if_pos rfl, if_pos h]
theorem jpos_19 {i : Nat} (h : i < 6) : jpos 19 i = some (45 + i) := by
  unfold jpos
  rw [if_neg (by decide), if_neg (by decide), if_neg (by decide), if_neg (by decide), if_neg (by decide), if_pos rfl, if_pos h]
theorem c_sounds (w : JW) (t : Bool) {p : Nat} (h : p < 12) : jF MX1_sounds 1 [jR 14 t, jI (nI p)] w (jI (if 0 < w.1 17 t p then 1 else 0)) w := by
  refine jF_of jp_X1_sounds rfl (Nat.le_of_ble_eq_true rfl) (fun C hm => ?_)
  refine bk_X1_sounds_0 hm (c_atN (ja_17 t) w h) (by decide) ?_
  refine bk_X1_sounds_8 hm (fun q => bk_X1_sounds_16 hm (bk_X1_sounds_17 hm rfl ⟨?_, rfl⟩)) (fun q => bk_X1_sounds_12 hm (bk_X1_sounds_17 hm rfl ⟨?_, rfl⟩))
  · rw [if_neg ((i32_lt1 _).mp q)]
  · rw [if_pos (Classical.not_not.mp (fun z => q ((i32_lt1 _).mpr z)))]
theorem c_pipesSounding (w : JW) (t : Bool) {n : Nat} (h : n ≤ 12) : jF MX1_pipesSounding 2 [jR 14 t, jI (nI n)] w (jI (nI (jct (fun p => decide (0 < w.1 17 t p)) n))) w := by
  refine jF_of jp_X1_pipesSounding rfl (Nat.le_of_ble_eq_true rfl) (fun C hm => ?_)
  refine bk_X1_pipesSounding_0 hm ?_
  refine jfor (P := fun i => i ≤ n → jW C 0 0 _ 4 [jR 14 t, jI (nI n), jI (nI (jct (fun p => decide (0 < w.1 17 t p)) i)), jI (nI i)] [] w) n ?_ ?_ (Nat.zero_le n)
  · intro _
    exact bk_X1_pipesSounding_4 hm (fun _ => bk_X1_pipesSounding_26 hm ⟨rfl, rfl⟩) (fun q => absurd ((nI_leI (by omega) (by omega)).mpr (Nat.le_refl n)) q)
  · intro i hi ih _
    refine bk_X1_pipesSounding_4 hm (fun q => absurd ((nI_leI (by omega) (by omega)).mp q) (by omega)) (fun _ => ?_)
    refine bk_X1_pipesSounding_9 hm (c_sounds w t (by omega)) (by decide) ?_
    have ih2 := ih (by omega)
    refine bk_X1_pipesSounding_14 hm (fun q => ?_) (fun q => ?_)
    · refine bk_X1_pipesSounding_20 hm ?_
      rw [nI_1]
      by_cases hs : 0 < w.1 17 t i
      · rw [if_pos hs] at q
        exact absurd q (by decide)
      · have e : jct (fun p => decide (0 < w.1 17 t p)) (i + 1) = jct (fun p => decide (0 < w.1 17 t p)) i := by
          rw [jct]
          simp [hs]
        rw [e] at ih2
        exact ih2
    · refine bk_X1_pipesSounding_17 hm (bk_X1_pipesSounding_20 hm ?_)
      rw [nI_1, nI_1]
      by_cases hs : 0 < w.1 17 t i
      · have e : jct (fun p => decide (0 < w.1 17 t p)) (i + 1) = jct (fun p => decide (0 < w.1 17 t p)) i + 1 := by
          rw [jct]
          simp [hs]
        rw [e] at ih2
        exact ih2
      · rw [if_neg hs] at q
        exact absurd rfl q
theorem c_siltIn (w : JW) (t : Bool) {n : Nat} (h : n ≤ 12) : jF MX1_siltIn 1 [jR 14 t, jI (nI n)] w (jI (jsum (fun p => w.1 16 t p) n)) w := by
  refine jF_of jp_X1_siltIn rfl (Nat.le_of_ble_eq_true rfl) (fun C hm => ?_)
  refine bk_X1_siltIn_0 hm ?_
  refine jfor (P := fun i => i ≤ n → jW C 0 0 _ 4 [jR 14 t, jI (nI n), jI (jsum (fun p => w.1 16 t p) i), jI (nI i)] [] w) n ?_ ?_ (Nat.zero_le n)
  · intro _
    exact bk_X1_siltIn_4 hm (fun _ => bk_X1_siltIn_26 hm ⟨rfl, rfl⟩) (fun q => absurd ((nI_leI (by omega) (by omega)).mpr (Nat.le_refl n)) q)
  · intro i hi ih _
    refine bk_X1_siltIn_4 hm (fun q => absurd ((nI_leI (by omega) (by omega)).mp q) (by omega)) (fun _ => ?_)
    refine bk_X1_siltIn_9 hm (c_atN (ja_16 t) w (by omega)) (by decide) ?_
    refine bk_X1_siltIn_18 hm ?_
    rw [nI_1]
    exact ih (by omega)
theorem c_hourOfDay (w : JW) (t : Bool) : jF MX1_hourOfDay 0 [jR 14 t] w (jI (w.1 14 t 5 - w.1 14 t 5 / 24 * 24)) w := by
  refine jF_of jp_X1_hourOfDay rfl (Nat.le_of_ble_eq_true rfl) (fun C hm => ?_)
  exact bk_X1_hourOfDay_0 hm ⟨rfl, rfl⟩
theorem jmom_ext {w w2 : JW} {t : Bool} {R : Nat → Int32} (h2 : w2.2 = w.2) (h14 : ∀ j, w2.1 14 t j = if 5 ≤ j ∧ j < 9 then R (j - 5) else w.1 14 t j) (h15 : ∀ j, w2.1 15 t j = if j < 5 then R (4 + j) else w.1 15 t j) (h16 : ∀ j, w2.1 16 t j = if j < 12 then R (9 + j) else w.1 16 t j) (h17 : ∀ j, w2.1 17 t j = if j < 12 then R (21 + j) else w.1 17 t j) (h18 : ∀ j, w2.1 18 t j = if j < 12 then R (33 + j) else w.1 18 t j) (h19 : ∀ j, w2.1 19 t j = if j < 6 then R (45 + j) else w.1 19 t j)
    (hb : ∀ k b j, b ≠ t → w2.1 k b j = w.1 k b j) (hk : ∀ k j, (k < 14 ∨ 19 < k) → w2.1 k t j = w.1 k t j) : w2 = jmom w t R := by
  refine jw_ext (fun k b j => ?_) h2
  by_cases hbt : b = t
  · subst hbt
    by_cases hkk : k < 14 ∨ 19 < k
    · rw [hk k j hkk, jmom_k hkk]
    · have e : k = 14 ∨ k = 15 ∨ k = 16 ∨ k = 17 ∨ k = 18 ∨ k = 19 := by omega
      rcases e with rfl | rfl | rfl | rfl | rfl | rfl
      · rw [h14]
        by_cases z : 5 ≤ j ∧ j < 9
        · rw [if_pos z]
          have := jmom_at (w := w) (t := b) (R := R) (jpos_14 (i := j - 5) (by omega))
          rw [show 5 + (j - 5) = j by omega] at this
          exact this.symm
        · rw [if_neg z, jmom_no (by unfold jpos; rw [if_pos rfl, if_neg z])]
      · rw [h15]
        by_cases z : j < 5
        · rw [if_pos z, jmom_at (jpos_15 z)]
        · rw [if_neg z, jmom_no (by unfold jpos; rw [if_neg (by decide), if_pos rfl, if_neg z])]
      · rw [h16]
        by_cases z : j < 12
        · rw [if_pos z, jmom_at (jpos_16 z)]
        · rw [if_neg z, jmom_no (by unfold jpos; rw [if_neg (by decide), if_neg (by decide), if_pos rfl, if_neg z])]
      · rw [h17]
        by_cases z : j < 12
        · rw [if_pos z, jmom_at (jpos_17 z)]
        · rw [if_neg z, jmom_no (by unfold jpos; rw [if_neg (by decide), if_neg (by decide), if_neg (by decide), if_pos rfl, if_neg z])]
      · rw [h18]
        by_cases z : j < 12
        · rw [if_pos z, jmom_at (jpos_18 z)]
        · rw [if_neg z, jmom_no (by unfold jpos; rw [if_neg (by decide), if_neg (by decide), if_neg (by decide), if_neg (by decide), if_pos rfl, if_neg z])]
      · rw [h19]
        by_cases z : j < 6
        · rw [if_pos z, jmom_at (jpos_19 z)]
        · rw [if_neg z, jmom_no (by unfold jpos; rw [if_neg (by decide), if_neg (by decide), if_neg (by decide), if_neg (by decide), if_neg (by decide), if_pos rfl, if_neg z])]
  · rw [hb k b j hbt, jmom_b hbt]
theorem jrow_0 {w : JW} {t : Bool} {i : Nat} (h : i < 4) : jrow w t i = w.1 14 t (5 + i) := if_pos h
theorem jrow_15 {w : JW} {t : Bool} {i : Nat} (h : i < 5) : jrow w t (4 + i) = w.1 15 t i := by
  unfold jrow
  rw [if_neg (by omega), if_pos (by omega), show 4 + i - 4 = i by omega]
theorem jrow_16 {w : JW} {t : Bool} {i : Nat} (h : i < 12) : jrow w t (9 + i) = w.1 16 t i := by
  unfold jrow
  rw [if_neg (by omega), if_neg (by omega), if_pos (by omega), show 9 + i - 9 = i by omega]
theorem jrow_17 {w : JW} {t : Bool} {i : Nat} (h : i < 12) : jrow w t (21 + i) = w.1 17 t i := by
  unfold jrow
  rw [if_neg (by omega), if_neg (by omega), if_neg (by omega), if_pos (by omega), show 21 + i - 21 = i by omega]
theorem jrow_18 {w : JW} {t : Bool} {i : Nat} (h : i < 12) : jrow w t (33 + i) = w.1 18 t i := by
  unfold jrow
  rw [if_neg (by omega), if_neg (by omega), if_neg (by omega), if_neg (by omega), if_pos (by omega), show 33 + i - 33 = i by omega]
theorem jrow_19 {w : JW} {t : Bool} {i : Nat} (h : i < 6) : jrow w t (45 + i) = w.1 19 t i := by
  unfold jrow
  rw [if_neg (by omega), if_neg (by omega), if_neg (by omega), if_neg (by omega), if_neg (by omega), if_pos (by omega), show 45 + i - 45 = i by omega]
theorem c_become (w : JW) (t u : Bool) : jF MX1_become 2 [jR 14 t, jR 14 u] w jU (jmom w t (jrow w u)) := by
  refine jF_of jp_X1_become rfl (Nat.le_of_ble_eq_true rfl) (fun C hm => ?_)
  refine bk_X1_become_0 hm (c_copy (ja_15 u) (ja_15 t) w) (by decide) ?_
  refine bk_X1_become_11 hm (c_copy (ja_16 u) (ja_16 t) _) (by decide) ?_
  refine bk_X1_become_22 hm (c_copy (ja_17 u) (ja_17 t) _) (by decide) ?_
  refine bk_X1_become_33 hm (c_copy (ja_18 u) (ja_18 t) _) (by decide) ?_
  refine bk_X1_become_44 hm (c_copy (ja_19 u) (ja_19 t) _) (by decide) ?_
  refine bk_X1_become_55 hm ⟨rfl, ?_⟩
  refine jmom_ext rfl (fun j => ?_) (fun j => ?_) (fun j => ?_) (fun j => ?_) (fun j => ?_) (fun j => ?_) (fun k b j h => ?_) (fun k j h => ?_)
  · by_cases z : 5 ≤ j ∧ j < 9
    · rw [if_pos z, jrow_0 (by omega), show 5 + (j - 5) = j by omega]
      have e : j = 5 ∨ j = 6 ∨ j = 7 ∨ j = 8 := by omega
      rcases e with rfl | rfl | rfl | rfl <;> simp [jset_I, jfn_I]
    · rw [if_neg z]
      have n5 : j ≠ 5 := by omega
      have n6 : j ≠ 6 := by omega
      have n7 : j ≠ 7 := by omega
      have n8 : j ≠ 8 := by omega
      simp [jset_I, jfn_I, n5, n6, n7, n8]
  · by_cases z : j < 5
    · rw [if_pos z, jrow_15 z]; simp [jset_I, jfn_I, jpre, z]
    · rw [if_neg z]; simp [jset_I, jfn_I, jpre, z]
  · by_cases z : j < 12
    · rw [if_pos z, jrow_16 z]; simp [jset_I, jfn_I, jpre, z]
    · rw [if_neg z]; simp [jset_I, jfn_I, jpre, z]
  · by_cases z : j < 12
    · rw [if_pos z, jrow_17 z]; simp [jset_I, jfn_I, jpre, z]
    · rw [if_neg z]; simp [jset_I, jfn_I, jpre, z]
  · by_cases z : j < 12
    · rw [if_pos z, jrow_18 z]; simp [jset_I, jfn_I, jpre, z]
    · rw [if_neg z]; simp [jset_I, jfn_I, jpre, z]
  · by_cases z : j < 6
    · rw [if_pos z, jrow_19 z]; simp [jset_I, jfn_I, jpre, z]
    · rw [if_neg z]; simp [jset_I, jfn_I, jpre, z]
  · simp [jset_I, jfn_I, h]
  · have n4 : k ≠ 14 := by omega
    have n5 : k ≠ 15 := by omega
    have n6 : k ≠ 16 := by omega
    have n7 : k ≠ 17 := by omega
    have n8 : k ≠ 18 := by omega
    have n9 : k ≠ 19 := by omega
    simp [jset_I, jfn_I, n4, n5, n6, n7, n8, n9]
theorem c_mbegin (w : JW) (t : Bool) : jF MX1_begin 1 [jR 14 t] w jU (jmom w t (fun i => if i < 2 then jrow w t i else 0)) := by
  refine jF_of jp_X1_begin rfl (Nat.le_of_ble_eq_true rfl) (fun C hm => ?_)
  refine bk_X1_begin_0 hm (c_empty (ja_15 t) w) (by decide) ?_
  refine bk_X1_begin_7 hm (c_empty (ja_16 t) _) (by decide) ?_
  refine bk_X1_begin_14 hm (c_empty (ja_17 t) _) (by decide) ?_
  refine bk_X1_begin_21 hm (c_empty (ja_18 t) _) (by decide) ?_
  refine bk_X1_begin_28 hm (c_empty (ja_19 t) _) (by decide) ?_
  refine bk_X1_begin_35 hm ⟨rfl, ?_⟩
  refine jmom_ext rfl (fun j => ?_) (fun j => ?_) (fun j => ?_) (fun j => ?_) (fun j => ?_) (fun j => ?_) (fun k b j h => ?_) (fun k j h => ?_)
  · by_cases z : 5 ≤ j ∧ j < 9
    · rw [if_pos z]
      have e : j = 5 ∨ j = 6 ∨ j = 7 ∨ j = 8 := by omega
      rcases e with rfl | rfl | rfl | rfl <;> simp [jset_I, jfn_I, jrow]
    · rw [if_neg z]
      have n7 : j ≠ 7 := by omega
      have n8 : j ≠ 8 := by omega
      simp [jset_I, jfn_I, n7, n8]
  · by_cases z : j < 5
    · rw [if_pos z, if_neg (by omega)]; simp [jset_I, jfn_I, jpre, z]
    · rw [if_neg z]; simp [jset_I, jfn_I, jpre, z]
  · by_cases z : j < 12
    · rw [if_pos z, if_neg (by omega)]; simp [jset_I, jfn_I, jpre, z]
    · rw [if_neg z]; simp [jset_I, jfn_I, jpre, z]
  · by_cases z : j < 12
    · rw [if_pos z, if_neg (by omega)]; simp [jset_I, jfn_I, jpre, z]
    · rw [if_neg z]; simp [jset_I, jfn_I, jpre, z]
  · by_cases z : j < 12
    · rw [if_pos z, if_neg (by omega)]; simp [jset_I, jfn_I, jpre, z]
    · rw [if_neg z]; simp [jset_I, jfn_I, jpre, z]
  · by_cases z : j < 6
    · rw [if_pos z, if_neg (by omega)]; simp [jset_I, jfn_I, jpre, z]
    · rw [if_neg z]; simp [jset_I, jfn_I, jpre, z]
  · simp [jset_I, jfn_I, h]
  · have n4 : k ≠ 14 := by omega
    have n5 : k ≠ 15 := by omega
    have n6 : k ≠ 16 := by omega
    have n7 : k ≠ 17 := by omega
    have n8 : k ≠ 18 := by omega
    have n9 : k ≠ 19 := by omega
    simp [jset_I, jfn_I, n4, n5, n6, n7, n8, n9]
