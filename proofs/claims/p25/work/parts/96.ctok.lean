/-! the class's tokens: signs, blanks, ends, worths -/
theorem nI_eqi {a b : Nat} (ha : a < 2 ^ 31) (hb : b < 2 ^ 31) : nI a = nI b ↔ a = b := by
  refine ⟨fun q => ?_, fun q => by rw [q]⟩
  have h3 := congrArg Int32.toNatClampNeg q
  rw [nI_clamp ha, nI_clamp hb] at h3
  exact h3
theorem jc1_eq {z k : Nat} (hk : k < 256) : jc1 z = nI k ↔ z = k := by
  unfold jc1
  by_cases h : z < 256
  · rw [if_pos h, nI_eqi (by omega) (by omega)]
  · rw [if_neg h]
    refine ⟨fun q => ?_, fun q => by omega⟩
    exact absurd (show nI k < 0 by rw [← q]; decide) (nI_pos (by omega))
theorem jc1_lt {z k : Nat} (hk : k < 256) : jc1 z < nI k ↔ (z < k ∨ 256 ≤ z) := by
  unfold jc1
  by_cases h : z < 256
  · rw [if_pos h, nI_ltI (by omega) (by omega)]
    omega
  · rw [if_neg h]
    refine ⟨fun _ => by omega, fun _ => ?_⟩
    rw [Int32.lt_iff_toInt_lt, nI_toInt (by omega), show (-1 : Int32).toInt = -1 by decide]
    omega
theorem jc1_gt {z k : Nat} (hk : k < 256) : nI k < jc1 z ↔ (k < z ∧ z < 256) := by
  unfold jc1
  by_cases h : z < 256
  · rw [if_pos h, nI_ltI (by omega) (by omega)]
    omega
  · rw [if_neg h]
    refine ⟨fun q => ?_, fun _ => by omega⟩
    rw [Int32.lt_iff_toInt_lt, nI_toInt (by omega), show (-1 : Int32).toInt = -1 by decide] at q
    omega
theorem jc1_m {z : Nat} : jc1 z = -1 ↔ 256 ≤ z := by
  unfold jc1
  by_cases h : z < 256
  · rw [if_pos h]
    refine ⟨fun q => ?_, fun _ => by omega⟩
    exact absurd (show nI z < 0 by rw [q]; decide) (nI_pos (by omega))
  · rw [if_neg h]
    exact ⟨fun _ => by omega, fun _ => rfl⟩
/-- the class's tape has the signs s -/
def jC1 (s : Nat → Nat) (L : Nat) (w : JW) : Prop := jTS s L ∧ w.1 1 false 1 = nI L ∧ ∀ i, i < L → w.1 2 false i &&& 255 = nI (s i)
theorem c_byteAt {s : Nat → Nat} {L : Nat} {w : JW} (h : jC1 s L w) {i : Nat} (hi : i ≤ 2100) : jF MX6_byteAt 0 [jR 1 false, jI (nI i)] w (jI (jc1 (s i))) w := by
  have hL := h.1.1
  refine jF_of jp_X6_byteAt rfl (Nat.le_of_ble_eq_true rfl) (fun C hm => ?_)
  refine bk_X6_byteAt_0 hm (fun q => absurd q (nI_pos (by omega))) (fun _ => bk_X6_byteAt_4 hm (fun q => ?_) (fun q => ?_))
  · rw [h.2.1, nI_leI (by omega) (by omega)] at q
    refine bk_X6_byteAt_34 hm (bk_X6_byteAt_35 hm ⟨?_, rfl⟩)
    rw [h.1.2.2 i q]
    rfl
  · rw [h.2.1, nI_leI (by omega) (by omega)] at q
    refine bk_X6_byteAt_12 hm (fun z => absurd ((nI_leI (a := 2000) (by omega) (by omega)).mp z) (by omega)) (fun _ => bk_X6_byteAt_21 hm (vp_in_nI (by omega) (by omega)) (bk_X6_byteAt_35 hm ⟨?_, rfl⟩))
    rw [nI_clamp (by omega), h.2.2 i (by omega)]
    unfold jc1
    rw [if_pos (h.1.2.1 i (by omega))]
theorem c_isBlank (w : JW) (z : Nat) : jF MX7_isBlank 0 [jI (jc1 z)] w (jI (if jblk z then 1 else 0)) w := by
  refine jF_of jp_X7_isBlank rfl (Nat.le_of_ble_eq_true rfl) (fun C hm => ?_)
  refine bk_X7_isBlank_0 hm (fun q => ?_) (fun q => bk_X7_isBlank_6 hm (fun q2 => ?_) (fun q2 => ?_))
  · refine bk_X7_isBlank_12 hm (bk_X7_isBlank_17 hm rfl ⟨?_, rfl⟩)
    rw [if_pos (Or.inl ((jc1_eq (k := 32) (by omega)).mp q))]
  · refine bk_X7_isBlank_16 hm (bk_X7_isBlank_17 hm rfl ⟨?_, rfl⟩)
    rw [if_neg]
    rintro (e | e)
    · exact q ((jc1_eq (k := 32) (by omega)).mpr e)
    · exact q2 ((jc1_eq (k := 10) (by omega)).mpr e)
  · refine bk_X7_isBlank_12 hm (bk_X7_isBlank_17 hm rfl ⟨?_, rfl⟩)
    rw [if_pos (Or.inr ((jc1_eq (k := 10) (by omega)).mp q2))]
theorem c_isLetter (w : JW) (z : Nat) : jF MX7_isLetter 0 [jI (jc1 z)] w (jI (if jlet z then 1 else 0)) w := by
  have a1 := jc1_lt (z := z) (k := 97) (by omega)
  have a2 := jc1_gt (z := z) (k := 122) (by omega)
  refine jF_of jp_X7_isLetter rfl (Nat.le_of_ble_eq_true rfl) (fun C hm => ?_)
  refine bk_X7_isLetter_0 hm (fun q => ?_) (fun q => bk_X7_isLetter_6 hm (fun q2 => ?_) (fun q2 => ?_))
  · refine bk_X7_isLetter_16 hm (bk_X7_isLetter_17 hm rfl ⟨?_, rfl⟩)
    have := a1.mp q
    rw [if_neg (by omega)]
  · refine bk_X7_isLetter_16 hm (bk_X7_isLetter_17 hm rfl ⟨?_, rfl⟩)
    have := a2.mp q2
    rw [if_neg (by omega)]
  · refine bk_X7_isLetter_12 hm (bk_X7_isLetter_17 hm rfl ⟨?_, rfl⟩)
    have b1 : ¬ (z < 97 ∨ 256 ≤ z) := fun x => q (a1.mpr x)
    have b2 : ¬ (122 < z ∧ z < 256) := fun x => q2 (a2.mpr x)
    rw [if_pos (by omega)]
theorem c_isDigit (w : JW) (z : Nat) : jF MX7_isDigit 0 [jI (jc1 z)] w (jI (if jdig z then 1 else 0)) w := by
  have a1 := jc1_lt (z := z) (k := 48) (by omega)
  have a2 := jc1_gt (z := z) (k := 57) (by omega)
  refine jF_of jp_X7_isDigit rfl (Nat.le_of_ble_eq_true rfl) (fun C hm => ?_)
  refine bk_X7_isDigit_0 hm (fun q => ?_) (fun q => bk_X7_isDigit_6 hm (fun q2 => ?_) (fun q2 => ?_))
  · refine bk_X7_isDigit_16 hm (bk_X7_isDigit_17 hm rfl ⟨?_, rfl⟩)
    have := a1.mp q
    rw [if_neg (by omega)]
  · refine bk_X7_isDigit_16 hm (bk_X7_isDigit_17 hm rfl ⟨?_, rfl⟩)
    have := a2.mp q2
    rw [if_neg (by omega)]
  · refine bk_X7_isDigit_12 hm (bk_X7_isDigit_17 hm rfl ⟨?_, rfl⟩)
    have b1 : ¬ (z < 48 ∨ 256 ≤ z) := fun x => q (a1.mpr x)
    have b2 : ¬ (57 < z ∧ z < 256) := fun x => q2 (a2.mpr x)
    rw [if_pos (by omega)]
theorem jif0 {c : Prop} [Decidable c] : (if c then (1 : Int32) else 0) = 0 ↔ ¬ c := by
  by_cases h : c
  · rw [if_pos h]
    exact ⟨fun q => absurd q (by decide), fun q => absurd h q⟩
  · rw [if_neg h]
    exact ⟨fun _ => h, fun _ => rfl⟩
theorem l_blanks {C : JC} {s : Nat → Nat} {L : Nat} {w : JW} (h : jC1 s L w) (hm : jok C MX7_behindBlanks 1 0 0) : ∀ n i : Nat, i + n = 2000 → jW C 0 0 (jQQ C 0 0 (fun v w' => v = jI (nI (jskip (fun k => decide (jblk (s k))) n i)) ∧ w' = w)) 2 [jR 1 false, jU, jI (nI i)] [] w := by
  intro n
  induction n with
  | zero =>
    intro i hi
    exact bk_X7_behindBlanks_2 hm (fun _ => bk_X7_behindBlanks_26 hm ⟨rfl, rfl⟩) (fun q => absurd ((nI_leI (a := 2000) (by omega) (by omega)).mpr (by omega)) q)
  | succ n ih =>
    intro i hi
    refine bk_X7_behindBlanks_2 hm (fun q => absurd ((nI_leI (a := 2000) (by omega) (by omega)).mp q) (by omega)) (fun _ => bk_X7_behindBlanks_9 hm (c_byteAt h (by omega)) (by decide) (bk_X7_behindBlanks_14 hm (c_isBlank w _) (by decide) (bk_X7_behindBlanks_17 hm (fun q => ?_) (fun q => ?_))))
    · rw [jif0] at q
      refine bk_X7_behindBlanks_26 hm ⟨?_, rfl⟩
      rw [jskip_f (fun z => q (of_decide_eq_true z))]
    · rw [jif0, Decidable.not_not] at q
      rw [jskip_t (decide_eq_true q)]
      refine bk_X7_behindBlanks_20 hm ?_
      rw [← nI_succ]
      exact ih (i + 1) (by omega)
theorem c_blanks {s : Nat → Nat} {L : Nat} {w : JW} (h : jC1 s L w) {i : Nat} (hi : i ≤ 2000) : jF MX7_behindBlanks 1 [jR 1 false, jI (nI i)] w (jI (nI (jbb s i))) w := by
  refine jF_of jp_X7_behindBlanks rfl (Nat.le_of_ble_eq_true rfl) (fun C hm => ?_)
  exact bk_X7_behindBlanks_0 hm (l_blanks h hm (2000 - i) i (by omega))
theorem l_token {C : JC} {s : Nat → Nat} {L : Nat} {w : JW} (h : jC1 s L w) (hm : jok C MX7_behindToken 1 0 0) {wd : Bool} {q : Nat → Bool} (hq : ∀ k, q k = true ↔ (jdig (s k) ∨ (wd = true ∧ jlet (s k)))) {x : Int32} (hx : x = 0 ↔ ¬ wd = true) : ∀ n i : Nat, i + n = 2000 → jW C 0 0 (jQQ C 0 0 (fun v w' => v = jI (nI (jskip q n i)) ∧ w' = w)) 67 [jR 1 false, jU, jU, jI (nI i), jI x] [] w := by
  intro n
  induction n with
  | zero =>
    intro i hi
    exact bk_X7_behindToken_67 hm (fun _ => bk_X7_behindToken_107 hm ⟨rfl, rfl⟩) (fun q => absurd ((nI_leI (a := 2000) (by omega) (by omega)).mpr (by omega)) q)
  | succ n ih =>
    intro i hi
    have go : q i = true → jW C 0 0 (jQQ C 0 0 (fun v w' => v = jI (nI (jskip q (n + 1) i)) ∧ w' = w)) 101 [jR 1 false, jU, jU, jI (nI i), jI x] [] w := by
      intro e
      rw [jskip_t e]
      refine bk_X7_behindToken_101 hm ?_
      rw [← nI_succ]
      exact ih (i + 1) (by omega)
    have no : ¬ q i = true → jW C 0 0 (jQQ C 0 0 (fun v w' => v = jI (nI (jskip q (n + 1) i)) ∧ w' = w)) 107 [jU, jU, jU, jI (nI i), jU] [] w := by
      intro e
      rw [jskip_f e]
      exact bk_X7_behindToken_107 hm ⟨rfl, rfl⟩
    refine bk_X7_behindToken_67 hm (fun q => absurd ((nI_leI (a := 2000) (by omega) (by omega)).mp q) (by omega)) (fun _ => bk_X7_behindToken_74 hm (c_byteAt h (by omega)) (by decide) (bk_X7_behindToken_79 hm (c_isDigit w _) (by decide) (bk_X7_behindToken_82 hm (fun e => ?_) (fun e => ?_))))
    · rw [jif0, Decidable.not_not] at e
      exact go ((hq i).mpr (Or.inl e))
    · rw [jif0] at e
      refine bk_X7_behindToken_85 hm (fun e2 => ?_) (fun e2 => bk_X7_behindToken_90 hm (c_byteAt h (by omega)) (by decide) (bk_X7_behindToken_95 hm (c_isLetter w _) (by decide) (bk_X7_behindToken_98 hm (fun e3 => ?_) (fun e3 => ?_))))
      · refine no (fun z => ?_)
        rcases (hq i).mp z with a | a
        · exact e a
        · exact hx.mp e2 a.1
      · rw [jif0] at e3
        refine no (fun z => ?_)
        rcases (hq i).mp z with a | a
        · exact e a
        · exact e3 a.2
      · rw [jif0, Decidable.not_not] at e3
        refine go ((hq i).mpr (Or.inr ⟨?_, e3⟩))
        exact Decidable.not_not.mp (fun z => e2 (hx.mpr z))
theorem c_token {s : Nat → Nat} {L : Nat} {w : JW} (h : jC1 s L w) {a : Nat} (ha : a ≤ L) : jF MX7_behindToken 1 [jR 1 false, jI (nI a)] w (jI (nI (jte s a))) w := by
  have hL := h.1.1
  refine jF_of jp_X7_behindToken rfl (Nat.le_of_ble_eq_true rfl) (fun C hm => ?_)
  refine bk_X7_behindToken_0 hm (c_byteAt h (by omega)) (by decide) (bk_X7_behindToken_5 hm (fun q => ?_) (fun q => ?_))
  · rw [jc1_m] at q
    have haL : a < L := h.1.in (by omega)
    have two : (s a = 60 ∨ s a = 62) → jW C 0 0 (jQQ C 0 0 (fun v w' => v = jI (nI (jte s a)) ∧ w' = w)) 29 [jR 1 false, jU, jU, jI (nI a + 1), jU] [] w := by
      intro e
      have e2 : jte s a = if s (a + 1) = 61 then a + 2 else a + 1 := by
        unfold jte
        rw [if_neg q, if_pos e]
      rw [← nI_succ, e2]
      refine bk_X7_behindToken_29 hm (c_byteAt h (by omega)) (by decide) (bk_X7_behindToken_34 hm (fun z => ?_) (fun z => ?_))
      · rw [if_neg (fun z2 => z ((jc1_eq (k := 61) (by omega)).mpr z2))]
        exact bk_X7_behindToken_45 hm (bk_X7_behindToken_46 hm ⟨rfl, rfl⟩)
      · rw [if_pos ((jc1_eq (k := 61) (by omega)).mp z)]
        refine bk_X7_behindToken_39 hm (bk_X7_behindToken_46 hm ⟨?_, rfl⟩)
        rw [← nI_succ]
    refine bk_X7_behindToken_13 hm (fun z => two (Or.inl ((jc1_eq (k := 60) (by omega)).mp z))) (fun z => bk_X7_behindToken_23 hm (fun z2 => ?_) (fun z2 => two (Or.inr ((jc1_eq (k := 62) (by omega)).mp z2))))
    have n1 : ¬ (s a = 60 ∨ s a = 62) := by
      rintro (e | e)
      · exact z ((jc1_eq (k := 60) (by omega)).mpr e)
      · exact z2 ((jc1_eq (k := 62) (by omega)).mpr e)
    refine bk_X7_behindToken_47 hm (c_isLetter w _) (by decide) (bk_X7_behindToken_51 hm (fun y => ?_) (fun y => bk_X7_behindToken_58 hm (c_isDigit w _) (by decide) (bk_X7_behindToken_62 hm (fun y2 => ?_) (fun y2 => ?_))))
    · have y0 := y
      rw [jif0, Decidable.not_not] at y
      have e2 : jte s a = jwe s (a + 1) := by
        unfold jte
        rw [if_neg q, if_neg n1, if_pos y]
      rw [← nI_succ, e2]
      refine l_token h hm (wd := true) (fun k => ?_) ?_ (2000 - (a + 1)) (a + 1) (by omega)
      · rw [decide_eq_true_eq]
        exact ⟨fun z => z.elim (fun y => Or.inr ⟨rfl, y⟩) Or.inl, fun z => z.elim Or.inr (fun y => Or.inl y.2)⟩
      · rw [if_pos y]
        decide
    · rw [jif0] at y
      rw [jif0, Decidable.not_not] at y2
      have e2 : jte s a = jne s (a + 1) := by
        unfold jte
        rw [if_neg q, if_neg n1, if_neg y, if_pos y2]
      rw [← nI_succ, e2]
      refine l_token h hm (wd := false) (fun k => ?_) ?_ (2000 - (a + 1)) (a + 1) (by omega)
      · rw [decide_eq_true_eq]
        simp
      · rw [if_neg y]
        decide
    · rw [jif0] at y y2
      have e2 : jte s a = a + 1 := by
        unfold jte
        rw [if_neg q, if_neg n1, if_neg y, if_neg y2]
      refine bk_X7_behindToken_65 hm ⟨?_, rfl⟩
      rw [← nI_succ, e2]
  · rw [jc1_m] at q
    refine bk_X7_behindToken_11 hm ⟨?_, rfl⟩
    unfold jte
    rw [if_pos q]
/-- the class's worth of the n signs from a on -/
def jwI (B : Int32) (s : Nat → Nat) (a : Nat) : Nat → Int64
  | 0 => 0
  | n + 1 => jwI B s a n * B.toInt64 + (if jdig (s (a + n)) then jc1 (s (a + n)) - 48 else (jc1 (s (a + n)) - 97) + 10).toInt64
theorem l_worth {C : JC} {s : Nat → Nat} {L : Nat} {w : JW} (h : jC1 s L w) (hm : jok C MX7_worthOf 1 0 0) {a e : Nat} {B : Int32} (he : e ≤ L) : ∀ n j : Nat, a + j + n = e → jW C 0 0 (jQQ C 0 0 (fun v w' => v = jL (jwI B s a (e - a)) ∧ w' = w)) 25 [jR 1 false, jU, jI (nI e), jI B, jL (jwI B s a j), jU, jI (nI (a + j)), jU] [] w := by
  have hL := h.1.1
  intro n
  induction n with
  | zero =>
    intro j hj
    rw [show e - a = j by omega]
    exact bk_X7_worthOf_25 hm (fun _ => bk_X7_worthOf_78 hm ⟨rfl, rfl⟩) (fun q => absurd ((nI_leI (by omega) (by omega)).mpr (by omega)) q)
  | succ n ih =>
    intro j hj
    refine bk_X7_worthOf_25 hm (fun q => absurd ((nI_leI (by omega) (by omega)).mp q) (by omega)) (fun _ => bk_X7_worthOf_31 hm (c_byteAt h (by omega)) (by decide) (bk_X7_worthOf_37 hm (c_isDigit w _) (by decide) (bk_X7_worthOf_49 hm (fun q => ?_) (fun q => ?_))))
    · rw [jif0] at q
      refine bk_X7_worthOf_60 hm (bk_X7_worthOf_68 hm ?_)
      have := ih (j + 1) (by omega)
      rw [jwI, if_neg q, show a + (j + 1) = a + j + 1 by omega, nI_succ] at this
      exact this
    · rw [jif0, Decidable.not_not] at q
      refine bk_X7_worthOf_52 hm (bk_X7_worthOf_68 hm ?_)
      have := ih (j + 1) (by omega)
      rw [jwI, if_pos q, show a + (j + 1) = a + j + 1 by omega, nI_succ] at this
      exact this
theorem c_worth {s : Nat → Nat} {L : Nat} {w : JW} (h : jC1 s L w) {a e : Nat} (ha : a ≤ e) (he : e ≤ L) : jF MX7_worthOf 1 [jR 1 false, jI (nI a), jI (nI e)] w (jL (jwI (if jdig (s a) then 10 else 36) s a (e - a))) w := by
  have hL := h.1.1
  refine jF_of jp_X7_worthOf rfl (Nat.le_of_ble_eq_true rfl) (fun C hm => ?_)
  refine bk_X7_worthOf_0 hm (c_byteAt h (by omega)) (by decide) (bk_X7_worthOf_5 hm (c_isDigit w _) (by decide) (bk_X7_worthOf_8 hm (fun q => ?_) (fun q => ?_)))
  · rw [jif0] at q
    rw [if_neg q]
    exact bk_X7_worthOf_16 hm (bk_X7_worthOf_18 hm (l_worth h hm he (e - a) 0 (by omega)))
  · rw [jif0, Decidable.not_not] at q
    rw [if_pos q]
    exact bk_X7_worthOf_11 hm (bk_X7_worthOf_18 hm (l_worth h hm he (e - a) 0 (by omega)))
