/-! tests of orders: the class's machine of steps -/
theorem jat_cong {n : Nat} {f g : Nat → Int32} {x : Int32} (hn : n < 2 ^ 31) (h : ∀ j, j < n → f j = g j) : jat n f x = jat n g x := by
  rcases pk_ix x hn with q | q | ⟨j, hj, rfl⟩
  · unfold jat
    rw [if_pos (Or.inl q), if_pos (Or.inl q)]
  · unfold jat
    rw [if_pos (Or.inr q), if_pos (Or.inr q)]
  · rw [jat_nI hj hn, jat_nI hj hn, h j hj]
theorem c_soundsG (w : JW) (t : Bool) (x : Int32) : jF MX1_sounds 1 [jR 14 t, jI x] w (jI (if 0 < jat 12 (w.1 17 t) x then 1 else 0)) w := by
  refine jF_of jp_X1_sounds rfl (Nat.le_of_ble_eq_true rfl) (fun C hm => ?_)
  refine bk_X1_sounds_0 hm (c_at (ja_17 t) w x) (by decide) ?_
  refine bk_X1_sounds_8 hm (fun q => bk_X1_sounds_16 hm (bk_X1_sounds_17 hm rfl ⟨?_, rfl⟩)) (fun q => bk_X1_sounds_12 hm (bk_X1_sounds_17 hm rfl ⟨?_, rfl⟩))
  · rw [if_neg ((i32_lt1 _).mp q)]
  · rw [if_pos (Classical.not_not.mp (fun z => q ((i32_lt1 _).mpr z)))]
/-- what an operand is worth -/
def jrd (R : Nat → Int32) (s x : Int32) : Int32 :=
  if s = 18 then R 0 - R 0 / 24 * 24 else if s = 19 then R 1 else if s = 20 then jat 5 (fun j => R (4 + j)) x else if s = 21 then jat 12 (fun j => R (9 + j)) x
  else if s = 22 then jat 12 (fun j => R (21 + j)) x else if s = 23 then R 2 else if s = 24 then (if 0 < jat 12 (fun j => R (21 + j)) x then 1 else 0) else x
/-- a sign between two values -/
def jjn (s x y : Int32) : Int32 :=
  if s = 26 then x &&& y else if s = 28 then (if y < x then y else x) else if s = 29 then (if x < y then y else x) else if s = 38 then x + y else if s = 39 then x - y else if s = 40 then x * y
  else if s = 41 then (if y = 0 then 0 else x / y) else if s = 42 then (if x < y then 1 else 0) else if s = 43 then (if y < x then 1 else 0) else if s = 44 then (if x = y then 1 else 0)
  else if s = 45 then (if x ≤ y then 1 else 0) else if s = 46 then (if y ≤ x then 1 else 0) else x ||| y
theorem c_reading (w : JW) (t : Bool) (R : Nat → Int32) (hR : ∀ i, i < 51 → R i = jrow w t i) (s x : Int32) : jF MX0_reading 2 [jI s, jI x, jR 14 t] w (jI (jrd R s x)) w := by
  refine jF_of jp_X0_reading rfl (Nat.le_of_ble_eq_true rfl) (fun C hm => ?_)
  have h5 : ∀ j, j < 5 → w.1 15 t j = R (4 + j) := fun j hj => by rw [hR _ (by omega), jrow_15 hj]
  have h16 : ∀ j, j < 12 → w.1 16 t j = R (9 + j) := fun j hj => by rw [hR _ (by omega), jrow_16 hj]
  have h17 : ∀ j, j < 12 → w.1 17 t j = R (21 + j) := fun j hj => by rw [hR _ (by omega), jrow_17 hj]
  have h0 : w.1 14 t 5 = R 0 := by rw [hR 0 (by omega), jrow_0 (by omega)]
  have h1 : w.1 14 t 6 = R 1 := by rw [hR 1 (by omega), jrow_0 (by omega)]
  have h2 : w.1 14 t 7 = R 2 := by rw [hR 2 (by omega), jrow_0 (by omega)]
  refine bk_X0_reading_0 hm (fun e => ?_) (fun e => ?_) (fun e => ?_) (fun e => ?_) (fun e => ?_) (fun e => ?_) (fun e => ?_) (fun n8 n9 n20 n21 n22 n23 n24 => ?_)
  · subst e
    refine bk_X0_reading_44 hm (c_hourOfDay w t) (by decide) (bk_X0_reading_48 hm ⟨?_, rfl⟩)
    rw [h0]; rfl
  · subst e
    exact bk_X0_reading_49 hm ⟨by rw [h1]; rfl, rfl⟩
  · subst e
    refine bk_X0_reading_59 hm (c_at (ja_15 t) w x) (by decide) (bk_X0_reading_67 hm ⟨?_, rfl⟩)
    rw [jat_cong (by decide) h5]; rfl
  · subst e
    refine bk_X0_reading_68 hm (c_at (ja_16 t) w x) (by decide) (bk_X0_reading_76 hm ⟨?_, rfl⟩)
    rw [jat_cong (by decide) h16]; rfl
  · subst e
    refine bk_X0_reading_77 hm (c_at (ja_17 t) w x) (by decide) (bk_X0_reading_85 hm ⟨?_, rfl⟩)
    rw [jat_cong (by decide) h17]; rfl
  · subst e
    exact bk_X0_reading_54 hm ⟨by rw [h2]; rfl, rfl⟩
  · subst e
    have e9 : jrd R 24 x = if 0 < jat 12 (fun j => R (21 + j)) x then 1 else 0 := rfl
    refine bk_X0_reading_86 hm (c_at (ja_17 t) w x) (by decide) ?_
    rw [jat_cong (by decide) h17]
    refine bk_X0_reading_94 hm (fun q => bk_X0_reading_102 hm (bk_X0_reading_103 hm ⟨?_, rfl⟩)) (fun q => bk_X0_reading_98 hm (bk_X0_reading_103 hm ⟨?_, rfl⟩))
    · rw [e9, if_neg ((i32_lt1 _).mp q)]
    · rw [e9, if_pos (Classical.not_not.mp (fun z => q ((i32_lt1 _).mpr z)))]
  · refine bk_X0_reading_104 hm ⟨?_, rfl⟩
    unfold jrd
    rw [if_neg n8, if_neg n9, if_neg n20, if_neg n21, if_neg n22, if_neg n23, if_neg n24]
theorem c_joined (w : JW) (s x y : Int32) : jF MX0_joined 1 [jI s, jI x, jI y] w (jI (jjn s x y)) w := by
  refine jF_of jp_X0_joined rfl (Nat.le_of_ble_eq_true rfl) (fun C hm => ?_)
  refine bk_X0_joined_0 hm (fun e => ?_) (fun e => ?_) (fun e => ?_) (fun e => ?_) (fun e => ?_) (fun e => ?_) (fun e => ?_) (fun e => ?_) (fun e => ?_) (fun e => ?_) (fun e => ?_) (fun e => ?_) (fun n1 n2 n3 n4 n5 n6 n7 n8 n9 n10 n11 n12 => ?_)
  · subst e; exact bk_X0_joined_191 hm ⟨rfl, rfl⟩
  · subst e; exact bk_X0_joined_124 hm (by decide) ⟨rfl, rfl⟩
  · subst e; exact bk_X0_joined_130 hm (by decide) ⟨rfl, rfl⟩
  · subst e; exact bk_X0_joined_100 hm ⟨rfl, rfl⟩
  · subst e; exact bk_X0_joined_104 hm ⟨rfl, rfl⟩
  · subst e; exact bk_X0_joined_108 hm ⟨rfl, rfl⟩
  · subst e
    have e9 : jjn 41 x y = if y = 0 then 0 else x / y := rfl
    exact bk_X0_joined_112 hm (fun q => bk_X0_joined_120 hm q (bk_X0_joined_123 hm ⟨by rw [e9, if_neg q], rfl⟩)) (fun q => bk_X0_joined_116 hm (bk_X0_joined_123 hm ⟨by rw [e9, if_pos q], rfl⟩))
  · subst e
    have e9 : jjn 42 x y = if x < y then 1 else 0 := rfl
    exact bk_X0_joined_136 hm (fun q => bk_X0_joined_145 hm (bk_X0_joined_146 hm ⟨by rw [e9, if_neg (i32_not_lt.mpr q)], rfl⟩)) (fun q => bk_X0_joined_141 hm (bk_X0_joined_146 hm ⟨by rw [e9, if_pos (i32_not_le.mp q)], rfl⟩))
  · subst e
    have e9 : jjn 43 x y = if y < x then 1 else 0 := rfl
    exact bk_X0_joined_147 hm (fun q => bk_X0_joined_156 hm (bk_X0_joined_157 hm ⟨by rw [e9, if_neg (i32_not_lt.mpr q)], rfl⟩)) (fun q => bk_X0_joined_152 hm (bk_X0_joined_157 hm ⟨by rw [e9, if_pos (i32_not_le.mp q)], rfl⟩))
  · subst e
    have e9 : jjn 44 x y = if x = y then 1 else 0 := rfl
    exact bk_X0_joined_158 hm (fun q => bk_X0_joined_167 hm (bk_X0_joined_168 hm ⟨by rw [e9, if_neg q], rfl⟩)) (fun q => bk_X0_joined_163 hm (bk_X0_joined_168 hm ⟨by rw [e9, if_pos q], rfl⟩))
  · subst e
    have e9 : jjn 45 x y = if x ≤ y then 1 else 0 := rfl
    exact bk_X0_joined_169 hm (fun q => bk_X0_joined_178 hm (bk_X0_joined_179 hm ⟨by rw [e9, if_neg (i32_not_le.mpr q)], rfl⟩)) (fun q => bk_X0_joined_174 hm (bk_X0_joined_179 hm ⟨by rw [e9, if_pos (i32_not_lt.mp q)], rfl⟩))
  · subst e
    have e9 : jjn 46 x y = if y ≤ x then 1 else 0 := rfl
    exact bk_X0_joined_180 hm (fun q => bk_X0_joined_189 hm (bk_X0_joined_190 hm ⟨by rw [e9, if_neg (i32_not_le.mpr q)], rfl⟩)) (fun q => bk_X0_joined_185 hm (bk_X0_joined_190 hm ⟨by rw [e9, if_pos (i32_not_lt.mp q)], rfl⟩))
  · refine bk_X0_joined_195 hm ⟨?_, rfl⟩
    unfold jjn
    rw [if_neg n1, if_neg n2, if_neg n3, if_neg n4, if_neg n5, if_neg n6, if_neg n7, if_neg n8, if_neg n9, if_neg n10, if_neg n11, if_neg n12]
def jopd (s : Int32) : Prop := s = 31 ∨ (18 ≤ s ∧ s ≤ 24)
theorem jopd_dec (s : Int32) : jopd s ∨ ¬ jopd s := Classical.em _
theorem c_isOperand (w : JW) (s : Int32) : jF MX0_isOperand 0 [jI s] w (jI (if s = 31 ∨ (18 ≤ s ∧ s ≤ 24) then 1 else 0)) w := by
  refine jF_of jp_X0_isOperand rfl (Nat.le_of_ble_eq_true rfl) (fun C hm => ?_)
  have yes : (s = 31 ∨ (18 ≤ s ∧ s ≤ 24)) → jW C 0 0 (jQQ C 0 0 (fun v w' => v = jI (if s = 31 ∨ (18 ≤ s ∧ s ≤ 24) then 1 else 0) ∧ w' = w)) 18 [jU] [] w := fun q => bk_X0_isOperand_18 hm (bk_X0_isOperand_23 hm rfl ⟨by rw [if_pos q], rfl⟩)
  have no : ¬ (s = 31 ∨ (18 ≤ s ∧ s ≤ 24)) → jW C 0 0 (jQQ C 0 0 (fun v w' => v = jI (if s = 31 ∨ (18 ≤ s ∧ s ≤ 24) then 1 else 0) ∧ w' = w)) 22 [jU] [] w := fun q => bk_X0_isOperand_22 hm (bk_X0_isOperand_23 hm rfl ⟨by rw [if_neg q], rfl⟩)
  refine bk_X0_isOperand_0 hm (fun e => yes (Or.inl e)) (fun e => bk_X0_isOperand_6 hm (fun q => no ?_) (fun q => bk_X0_isOperand_12 hm (fun q2 => no ?_) (fun q2 => yes (Or.inr ⟨i32_not_lt.mp q, i32_not_lt.mp q2⟩))))
  · rintro (z | z)
    · exact e z
    · exact i32_not_lt.mpr z.1 q
  · rintro (z | z)
    · exact e z
    · exact i32_not_lt.mpr z.2 q2
/-- the judge's stack and its top, whatever they hold -/
def jgar (w : JW) (f : Nat → Int32) (x : Int32) : JW := jset (jfn w 13 false f) 12 false 1 x
theorem jgar_top {w : JW} {f : Nat → Int32} {x : Int32} : (jgar w f x).1 12 false 1 = x := by
  unfold jgar
  rw [jset_I, if_pos ⟨rfl, rfl, rfl⟩]
theorem jgar_st {w : JW} {f : Nat → Int32} {x : Int32} : (jgar w f x).1 13 false = f := by
  funext j
  simp [jgar, jset_I, jfn_I]
theorem jgar_k {w : JW} {f : Nat → Int32} {x : Int32} {k : Nat} {b : Bool} (h : k ≠ 12) (h2 : k ≠ 13) : (jgar w f x).1 k b = w.1 k b := by
  funext j
  simp [jgar, jset_I, jfn_I, h, h2]
theorem jgar_2 {w : JW} {f : Nat → Int32} {x : Int32} : (jgar w f x).2 = w.2 := rfl
theorem jgar_top2 {w : JW} {f : Nat → Int32} {x y : Int32} : jset (jgar w f x) 12 false 1 y = jgar w f y := jset_jset
theorem jgar_put {w : JW} {f : Nat → Int32} {x y : Int32} {j : Nat} : jset (jgar w f x) 13 false j y = jgar w (upd f j y) x := by
  refine jw_ext (fun k b i => ?_) rfl
  simp only [jgar, jset_I, jfn_I, upd]
  by_cases h13 : k = 13
  · subst h13
    by_cases hb : b = false
    · subst hb
      by_cases hi : i = j <;> simp [hi]
    · simp [hb]
  · simp [h13]
theorem jgar_self (w : JW) : ∃ f x, w = jgar w f x := by
  refine ⟨w.1 13 false, w.1 12 false 1, ?_⟩
  unfold jgar
  rw [jfn_self]
  refine jw_ext (fun k b j => ?_) rfl
  rw [jset_I]
  by_cases h : k = 12 ∧ b = false ∧ j = 1
  · rw [if_pos h, h.1, h.2.1, h.2.2]
  · rw [if_neg h]
theorem jgar_gar {w : JW} {f g : Nat → Int32} {x y : Int32} : jgar (jgar w f x) g y = jgar w g y := by
  refine jw_ext (fun k b i => ?_) rfl
  simp only [jgar, jset_I, jfn_I]
  by_cases h : k = 12 ∧ b = false ∧ i = 1
  · rw [if_pos h, if_pos h]
  · rw [if_neg h, if_neg h]
    by_cases h2 : k = 13 ∧ b = false
    · rw [if_pos h2, if_neg h, if_pos h2]
    · rw [if_neg h2, if_neg h, if_neg h2, if_neg h2]
theorem c_push (w : JW) (f : Nat → Int32) {n : Nat} (hn : n < 400) (v : Int32) : jF MX0_push 1 [jR 12 false, jI v] (jgar w f (nI n)) jU (jgar w (upd f n v) (nI (n + 1))) := by
  refine jF_of jp_X0_push rfl (Nat.le_of_ble_eq_true rfl) (fun C hm => ?_)
  refine bk_X0_push_0 hm (d2 := 0) (w2 := jgar w (upd f n v) (nI n)) ?_ (by decide) (bk_X0_push_12 hm ⟨rfl, ?_⟩)
  · rw [jgar_top]
    have := c_putN ja_13 (jgar w f (nI n)) v hn
    rwa [jgar_put] at this
  · rw [jgar_top, nI_1, jgar_top2]
theorem c_pop (w : JW) (f : Nat → Int32) {n : Nat} (hn : n < 400) : jF MX0_pop 1 [jR 12 false] (jgar w f (nI (n + 1))) (jI (f n)) (jgar w f (nI n)) := by
  refine jF_of jp_X0_pop rfl (Nat.le_of_ble_eq_true rfl) (fun C hm => ?_)
  refine bk_X0_pop_0 hm (d2 := 0) (r := f n) (w2 := jgar w f (nI n)) ?_ (by decide) (bk_X0_pop_21 hm ⟨rfl, rfl⟩)
  rw [jgar_top, nI_pred, jgar_top2, jgar_top]
  have := c_atN ja_13 (jgar w f (nI n)) hn
  rwa [jgar_st] at this
/-- the stack f holds the list, its head on top -/
def jst (f : Nat → Int32) : List Int32 → Prop
  | [] => True
  | x :: S => f S.length = x ∧ jst f S
theorem jst_upd {f : Nat → Int32} {n : Nat} {v : Int32} : ∀ {S : List Int32}, jst f S → S.length ≤ n → jst (upd f n v) S := by
  intro S
  induction S with
  | nil => intro _ _; exact True.intro
  | cons x S ih =>
    intro h hn
    rw [List.length_cons] at hn
    refine ⟨?_, ih h.2 (by omega)⟩
    unfold upd
    rw [if_neg (by omega)]
    exact h.1
theorem jst_push {f : Nat → Int32} {v : Int32} {S : List Int32} (h : jst f S) : jst (upd f S.length v) (v :: S) := ⟨if_pos rfl, jst_upd h (Nat.le_refl _)⟩
/-- one step of a test -/
def jop1 (rd : Int32 → Int32 → Int32) (s x : Int32) (S : List Int32) : Option (List Int32) :=
  if s = 49 then (match S with | a :: T => some (-a :: T) | _ => none)
  else if s = 25 then (match S with | a :: T => some ((1 - a) :: T) | _ => none)
  else if s = 31 ∨ (18 ≤ s ∧ s ≤ 24) then some (rd s x :: S)
  else match S with | b :: a :: T => some (jjn s a b :: T) | _ => none
def jrunS (ss xs : Nat → Int32) (rd : Int32 → Int32 → Int32) : Nat → Nat → List Int32 → Option (List Int32)
  | 0, _, S => some S
  | n + 1, i, S => match jop1 rd (ss i) (xs i) S with
    | some T => jrunS ss xs rd n (i + 1) T
    | none => none
theorem jop1_len {rd : Int32 → Int32 → Int32} {s x : Int32} {S T : List Int32} (h : jop1 rd s x S = some T) : T.length ≤ S.length + 1 := by
  unfold jop1 at h
  split at h
  · split at h
    · cases h; simp
    · cases h
  · split at h
    · split at h
      · cases h; simp
      · cases h
    · split at h
      · cases h; simp
      · split at h
        · cases h; simp
        · cases h
theorem c_holds (w : JW) (o t : Bool) (R : Nat → Int32) (hR : ∀ i, i < 51 → R i = jrow w t i) {j a e : Nat} (hj : j < 16) (ha : w.1 37 o j = nI a) (he : w.1 38 o j = nI e) (hae : a ≤ e) (h4 : e ≤ 400) (r : Int32)
    (hr : (a = e ∧ r = 1) ∨ (a ≠ e ∧ ∃ v S, jrunS (w.1 39 o) (w.1 40 o) (jrd R) (e - a) a [] = some (v :: S) ∧ r = if v = 0 then 0 else 1)) :
    jSI MX0_holds 3 [jR 12 false, jR 34 o, jI (nI j), jR 14 t] w (fun r' w' => r' = r ∧ ∃ f x, w' = jgar w f x) := by
  refine jSI_of jp_X0_holds rfl (Nat.le_of_ble_eq_true rfl) (fun C hm => ?_)
  refine bk_X0_holds_0 hm (c_atN (ja_37 o) w hj) (by decide) ?_
  refine bk_X0_holds_8 hm (c_atN (ja_38 o) w hj) (by decide) ?_
  rw [ha, he]
  refine bk_X0_holds_18 hm (fun q => ?_) (fun q => ?_)
  · have hne : a ≠ e := fun z => q (by rw [z])
    rcases hr with hr | ⟨-, v, S, hrun, hr⟩
    · exact absurd hr.1 hne
    · refine bk_X0_holds_29 hm ?_
      have key : ∀ (n i : Nat) (T : List Int32) (f : Nat → Int32), i + n = e → T.length ≤ i → jst f T → jrunS (w.1 39 o) (w.1 40 o) (jrd R) n i T = some (v :: S) → jW C 0 0 (jQQ C 0 0 (fun v' w' => ∃ r', v' = jI r' ∧ r' = r ∧ ∃ f x, w' = jgar w f x)) 38 [jR 12 false, jR 34 o, jU, jR 14 t, jU, jI (nI e), jI (nI i), jU, jU] [] (jgar w f (nI T.length)) := by
        intro n
        induction n with
        | zero =>
          intro i T f hi hT hf hrun
          cases hrun
          refine bk_X0_holds_38 hm (fun _ => ?_) (fun z => absurd ((nI_leI (by omega) (by omega)).mpr (by omega)) z)
          rw [List.length_cons] at hT ⊢
          refine bk_X0_holds_152 hm (c_pop w f (by omega)) (by decide) ?_
          rw [hf.1]
          refine bk_X0_holds_156 hm (fun z => bk_X0_holds_163 hm (bk_X0_holds_164 hm rfl ⟨_, rfl, ?_, f, _, rfl⟩)) (fun z => bk_X0_holds_159 hm (bk_X0_holds_164 hm rfl ⟨_, rfl, ?_, f, _, rfl⟩))
          · rw [hr, if_pos z]
          · rw [hr, if_neg z]
        | succ n ih =>
          intro i T f hi hT hf hrun
          refine bk_X0_holds_38 hm (fun z => absurd ((nI_leI (by omega) (by omega)).mp z) (by omega)) (fun _ => ?_)
          have e39 : (jgar w f (nI T.length)).1 39 o = w.1 39 o := jgar_k (by decide) (by decide)
          have e40 : (jgar w f (nI T.length)).1 40 o = w.1 40 o := jgar_k (by decide) (by decide)
          refine bk_X0_holds_45 hm (c_atN (ja_39 o) _ (by omega)) (by decide) ?_
          rw [e39]
          rw [jrunS] at hrun
          generalize hs : w.1 39 o i = s at hrun ⊢
          generalize hx : w.1 40 o i = x at hrun
          have next : ∀ (T2 : List Int32) (f2 : Nat → Int32), T2.length ≤ i + 1 → jst f2 T2 → jop1 (jrd R) s x T = some T2 → jW C 0 0 (jQQ C 0 0 (fun v' w' => ∃ r', v' = jI r' ∧ r' = r ∧ ∃ f x, w' = jgar w f x)) 146 [jR 12 false, jR 34 o, jU, jR 14 t, jU, jI (nI e), jI (nI i), jU, jU] [] (jgar w f2 (nI T2.length)) := by
            intro T2 f2 hl hf2 h1
            rw [h1] at hrun
            refine bk_X0_holds_146 hm ?_
            rw [nI_1]
            exact ih (i + 1) T2 f2 (by omega) hl hf2 hrun
          cases hop : jop1 (jrd R) s x T with
          | none => rw [hop] at hrun; cases hrun
          | some T2 =>
            have hop0 := hop
            unfold jop1 at hop
            refine bk_X0_holds_54 hm (fun q1 => ?_) (fun q1 => ?_)
            · rw [if_neg q1] at hop
              refine bk_X0_holds_75 hm (fun q2 => ?_) (fun q2 => ?_)
              · rw [if_neg q2] at hop
                refine bk_X0_holds_95 hm (c_isOperand _ s) (by decide) ?_
                by_cases q3 : s = 31 ∨ (18 ≤ s ∧ s ≤ 24)
                · rw [if_pos q3] at hop ⊢
                  cases hop
                  refine bk_X0_holds_100 hm (fun z => absurd z (by decide)) (fun _ => ?_)
                  refine bk_X0_holds_103 hm (c_atN (ja_40 o) _ (by omega)) (by decide) ?_
                  rw [e40, hx]
                  refine bk_X0_holds_115 hm (c_reading _ t R (fun k hk => ?_) s x) (by decide) ?_
                  · rw [hR k hk]
                    unfold jrow
                    simp only [jgar_k (w := w) (f := f) (x := nI T.length) (k := 14) (b := t) (by decide) (by decide), jgar_k (w := w) (f := f) (x := nI T.length) (k := 15) (b := t) (by decide) (by decide), jgar_k (w := w) (f := f) (x := nI T.length) (k := 16) (b := t) (by decide) (by decide), jgar_k (w := w) (f := f) (x := nI T.length) (k := 17) (b := t) (by decide) (by decide), jgar_k (w := w) (f := f) (x := nI T.length) (k := 18) (b := t) (by decide) (by decide), jgar_k (w := w) (f := f) (x := nI T.length) (k := 19) (b := t) (by decide) (by decide)]
                  refine bk_X0_holds_119 hm (c_push w f (by omega) _) (by decide) (bk_X0_holds_122 hm ?_)
                  exact next _ _ (by rw [List.length_cons]; omega) (jst_push hf) hop0
                · rw [if_neg q3] at hop ⊢
                  refine bk_X0_holds_100 hm (fun _ => ?_) (fun z => absurd rfl z)
                  match T, hop, hT, hf, hop0, next with
                  | b :: a2 :: T3, hop, hT, hf, hop0, next =>
                    cases hop
                    simp only [List.length_cons] at hT next ⊢
                    refine bk_X0_holds_125 hm (c_pop w f (by omega)) (by decide) ?_
                    refine bk_X0_holds_129 hm (c_pop w f (by omega)) (by decide) ?_
                    have h1 := hf.1
                    have h2 := hf.2.1
                    rw [List.length_cons] at h1
                    rw [h1, h2]
                    refine bk_X0_holds_138 hm (c_joined _ s a2 b) (by decide) ?_
                    refine bk_X0_holds_143 hm (c_push w f (by omega) _) (by decide) ?_
                    exact next _ _ (by rw [List.length_cons]; omega) (jst_push hf.2.2) hop0
              · rw [if_pos q2] at hop
                match T, hop, hT, hf, hop0, next with
                | a2 :: T3, hop, hT, hf, hop0, next =>
                  cases hop
                  simp only [List.length_cons] at hT next ⊢
                  refine bk_X0_holds_82 hm (c_pop w f (by omega)) (by decide) ?_
                  rw [hf.1]
                  refine bk_X0_holds_88 hm (c_push w f (by omega) _) (by decide) (bk_X0_holds_92 hm ?_)
                  exact next _ _ (by rw [List.length_cons]; omega) (jst_push hf.2) hop0
            · rw [if_pos q1] at hop
              match T, hop, hT, hf, hop0, next with
              | a2 :: T3, hop, hT, hf, hop0, next =>
                cases hop
                simp only [List.length_cons] at hT next ⊢
                refine bk_X0_holds_63 hm (c_pop w f (by omega)) (by decide) ?_
                rw [hf.1]
                refine bk_X0_holds_68 hm (c_push w f (by omega) _) (by decide) (bk_X0_holds_72 hm ?_)
                exact next _ _ (by rw [List.length_cons]; omega) (jst_push hf.2) hop0
      obtain ⟨f, x, hg⟩ := jgar_self w
      have h0 := key (e - a) a [] f (by omega) (Nat.zero_le _) True.intro hrun
      have e2 : jset w 12 false 1 0 = jgar w f (nI 0) := by
        conv => lhs; rw [hg]
        rw [jgar_top2]
        rfl
      rw [e2]
      exact h0
  · have hee : a = e := by
      have := (nI_eq (a := a) (b := e) (by omega) (by omega)).mp q
      exact this
    rcases hr with hr | hr
    · refine bk_X0_holds_27 hm ⟨_, rfl, hr.2.symm, ?_⟩
      exact jgar_self w
    · exact absurd hee hr.1
