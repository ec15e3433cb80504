/-! weather and organ: reads -/
def jhgt (fr ev hi : Nat → Int32) (hour acc : Int32) : Nat → Int32
  | 0 => acc
  | i + 1 => if 0 ≤ hour - fr i ∧ (hour - fr i) - (hour - fr i) / ev i * ev i = 0 then jhgt fr ev hi hour acc i + hi i else jhgt fr ev hi hour acc i
theorem i32_nlt0 {x : Int32} (h : ¬ x < 0) : 0 ≤ x := by
  rw [Int32.le_iff_toInt_le]
  rw [Int32.lt_iff_toInt_lt] at h
  omega
theorem i32_lt0 {x : Int32} (h : x < 0) : ¬ 0 ≤ x := by
  rw [Int32.le_iff_toInt_le]
  rw [Int32.lt_iff_toInt_lt] at h
  omega
theorem c_heightIn (w : JW) (b : Bool) (hour tide : Int32) {n : Nat} (hn : w.1 28 b 5 = nI n) (h5 : n ≤ 5) (hev : ∀ i, i < n → ¬ w.1 30 b i ≤ 0) : jF MX8_heightIn 1 [jR 28 b, jI hour, jI tide] w (jI (jhgt (w.1 31 b) (w.1 30 b) (w.1 29 b) hour (2 * tide) n)) w := by
  refine jF_of jp_X8_heightIn rfl (Nat.le_of_ble_eq_true rfl) (fun C hm => ?_)
  refine bk_X8_heightIn_0 hm ?_
  refine jfor (P := fun i => i ≤ n → jW C 0 0 _ 7 [jR 28 b, jI hour, jU, jI (jhgt (w.1 31 b) (w.1 30 b) (w.1 29 b) hour (2 * tide) i), jI (nI i), jU, jU] [] w) n ?_ ?_ (Nat.zero_le n)
  · intro _
    exact bk_X8_heightIn_7 hm (fun _ => bk_X8_heightIn_76 hm ⟨rfl, rfl⟩) (fun q => absurd (by rw [hn]; exact (nI_leI (by omega) (by omega)).mpr (Nat.le_refl n)) q)
  · intro i hi ih _
    have ih2 := ih (by omega)
    rw [jhgt] at ih2
    refine bk_X8_heightIn_7 hm (fun q => absurd ((nI_leI (a := n) (b := i) (by omega) (by omega)).mp (by rw [← hn]; exact q)) (by omega)) (fun _ => ?_)
    refine bk_X8_heightIn_16 hm (c_atN (ja_31 b) w (by omega)) (by decide) ?_
    refine bk_X8_heightIn_26 hm (c_atN (ja_30 b) w (by omega)) (by decide) ?_
    refine bk_X8_heightIn_38 hm (fun q => ?_) (fun q => ?_)
    · refine bk_X8_heightIn_70 hm ?_
      rw [nI_1]
      rw [if_neg (fun z => i32_lt0 q z.1)] at ih2
      exact ih2
    · refine bk_X8_heightIn_45 hm (fun q2 => absurd q2 (hev i hi)) (fun q2 => ?_)
      refine bk_X8_heightIn_50 hm (fun z => q2 (by rw [z]; decide)) (fun q3 => ?_) (fun q3 => ?_)
      · refine bk_X8_heightIn_70 hm ?_
        rw [nI_1]
        rw [if_neg (fun z => q3 z.2)] at ih2
        exact ih2
      · refine bk_X8_heightIn_58 hm (c_atN (ja_29 b) w (by omega)) (by decide) ?_
        refine bk_X8_heightIn_68 hm (bk_X8_heightIn_70 hm ?_)
        rw [nI_1]
        rw [if_pos ⟨i32_nlt0 q, q3⟩] at ih2
        exact ih2
def jany (f : Nat → Bool) : Nat → Bool
  | 0 => false
  | n + 1 => jany f n || f n
theorem jany_of {f : Nat → Bool} {n i : Nat} (h : i < n) (hf : f i = true) : jany f n = true := by
  induction n with
  | zero => omega
  | succ n ih =>
    rw [jany]
    by_cases e : i = n
    · subst e; rw [hf]; simp
    · rw [ih (by omega)]; simp
theorem jany_cong {f g : Nat → Bool} {n : Nat} (h : ∀ k, k < n → f k = g k) : jany f n = jany g n := by
  induction n with
  | zero => rfl
  | succ n ih => rw [jany, jany, ih (fun k hk => h k (by omega)), h n (by omega)]
theorem jany_no {f : Nat → Bool} {n i : Nat} (h : jany f n = false) (hi : i < n) : f i = false := by
  cases hf : f i with
  | false => rfl
  | true => rw [jany_of hi hf] at h; exact h
def jq1 (f t od : Int32) : Bool := if f < t then decide (f ≤ od ∧ od < t) else decide (f ≤ od ∨ od < t)
theorem i32_not_le {x y : Int32} : ¬ x ≤ y ↔ y < x := by
  rw [Int32.le_iff_toInt_le, Int32.lt_iff_toInt_lt]
  omega
theorem i32_not_lt {x y : Int32} : ¬ x < y ↔ y ≤ x := by
  rw [Int32.le_iff_toInt_le, Int32.lt_iff_toInt_lt]
  omega
theorem c_isStill (w : JW) (b : Bool) (hour : Int32) {n : Nat} (hn : w.1 28 b 6 = nI n) (h3 : n ≤ 3) : jF MX8_isStill 1 [jR 28 b, jI hour] w (jI (if jany (fun i => jq1 (w.1 32 b i) (w.1 33 b i) (hour - hour / 24 * 24)) n then 1 else 0)) w := by
  refine jF_of jp_X8_isStill rfl (Nat.le_of_ble_eq_true rfl) (fun C hm => ?_)
  refine bk_X8_isStill_0 hm ?_
  generalize hour - hour / 24 * 24 = od
  refine jfor (P := fun i => i ≤ n → jany (fun i => jq1 (w.1 32 b i) (w.1 33 b i) od) i = false → jW C 0 0 _ 7 [jR 28 b, jU, jI od, jI (nI i), jU, jU, jU, jU] [] w) n ?_ ?_ (Nat.zero_le n) rfl
  · intro _ ha
    exact bk_X8_isStill_7 hm (fun _ => bk_X8_isStill_99 hm ⟨by rw [ha]; rfl, rfl⟩) (fun q => absurd (by rw [hn]; exact (nI_leI (by omega) (by omega)).mpr (Nat.le_refl n)) q)
  · intro i hi ih _ ha
    refine bk_X8_isStill_7 hm (fun q => absurd ((nI_leI (a := n) (b := i) (by omega) (by omega)).mp (by rw [← hn]; exact q)) (by omega)) (fun _ => ?_)
    refine bk_X8_isStill_15 hm (c_atN (ja_32 b) w (by omega)) (by decide) ?_
    refine bk_X8_isStill_23 hm (c_atN (ja_33 b) w (by omega)) (by decide) ?_
    have hno : jq1 (w.1 32 b i) (w.1 33 b i) od = false → jW C 0 0 (jQQ C 0 0 (fun v w' => v = jI (if jany (fun i => jq1 (w.1 32 b i) (w.1 33 b i) od) n then 1 else 0) ∧ w' = w)) 93 [jR 28 b, jU, jI od, jI (nI i), jU, jU, jU, jU] [] w := by
      intro z
      refine bk_X8_isStill_93 hm ?_
      rw [nI_1]
      exact ih (by omega) (by rw [jany, ha, z]; rfl)
    have hyes : jq1 (w.1 32 b i) (w.1 33 b i) od = true → jW C 0 0 (jQQ C 0 0 (fun v w' => v = jI (if jany (fun i => jq1 (w.1 32 b i) (w.1 33 b i) od) n then 1 else 0) ∧ w' = w)) 91 [jU, jU, jU, jU, jU, jU, jU, jU] [] w := by
      intro z
      exact bk_X8_isStill_91 hm ⟨by rw [if_pos (jany_of (f := fun i => jq1 (w.1 32 b i) (w.1 33 b i) od) hi z)], rfl⟩
    generalize w.1 32 b i = f at hno hyes ⊢
    generalize w.1 33 b i = t at hno hyes ⊢
    have h59 : ∀ x6 x7 : Int32, (x6 = 0 ↔ ¬ f ≤ od) → (x7 = 0 ↔ ¬ od < t) → jW C 0 0 (jQQ C 0 0 (fun v w' => v = jI (if jany (fun i => jq1 (w.1 32 b i) (w.1 33 b i) od) n then 1 else 0) ∧ w' = w)) 59 [jR 28 b, jU, jI od, jI (nI i), jI f, jI t, jI x6, jU] [jI x7] w := by
      intro x6 x7 e6 e7
      refine bk_X8_isStill_59 hm (fun q => ?_) (fun q => ?_)
      · have hft : ¬ f < t := i32_not_lt.mpr q
        refine bk_X8_isStill_81 hm (fun z => hyes ?_) (fun z => ?_)
        · unfold jq1
          rw [if_neg hft]
          exact decide_eq_true (Or.inl (Classical.not_not.mp (fun y => z (e6.mpr y))))
        · refine bk_X8_isStill_86 hm (fun z2 => hno ?_) (fun z2 => hyes ?_)
          · unfold jq1
            rw [if_neg hft]
            exact decide_eq_false (fun y => y.elim (e6.mp z) (e7.mp z2))
          · unfold jq1
            rw [if_neg hft]
            exact decide_eq_true (Or.inr (Classical.not_not.mp (fun y => z2 (e7.mpr y))))
      · have hft : f < t := i32_not_le.mp q
        refine bk_X8_isStill_68 hm (fun z => hno ?_) (fun z => ?_)
        · unfold jq1
          rw [if_pos hft]
          exact decide_eq_false (fun y => (e6.mp z) y.1)
        · refine bk_X8_isStill_73 hm (fun z2 => hno ?_) (fun z2 => bk_X8_isStill_78 hm (hyes ?_))
          · unfold jq1
            rw [if_pos hft]
            exact decide_eq_false (fun y => (e7.mp z2) y.2)
          · unfold jq1
            rw [if_pos hft]
            exact decide_eq_true ⟨Classical.not_not.mp (fun y => z (e6.mpr y)), Classical.not_not.mp (fun y => z2 (e7.mpr y))⟩
    have h46 : ∀ x6 : Int32, (x6 = 0 ↔ ¬ f ≤ od) → jW C 0 0 (jQQ C 0 0 (fun v w' => v = jI (if jany (fun i => jq1 (w.1 32 b i) (w.1 33 b i) od) n then 1 else 0) ∧ w' = w)) 46 [jR 28 b, jU, jI od, jI (nI i), jI f, jI t, jU, jU] [jI x6] w := by
      intro x6 e6
      refine bk_X8_isStill_46 hm (fun q => bk_X8_isStill_58 hm (h59 _ _ e6 ⟨fun _ => i32_not_lt.mpr q, fun _ => rfl⟩)) (fun q => bk_X8_isStill_54 hm (h59 _ _ e6 ⟨fun z => absurd z (by decide), fun z => absurd (i32_not_le.mp q) z⟩))
    exact bk_X8_isStill_33 hm (fun q => bk_X8_isStill_45 hm (h46 _ ⟨fun _ => i32_not_le.mpr q, fun _ => rfl⟩)) (fun q => bk_X8_isStill_41 hm (h46 _ ⟨fun z => absurd z (by decide), fun z => absurd (i32_not_lt.mp q) z⟩))
theorem c_sizeOf (w : JW) (b : Bool) {c : Nat} (h : c < 6) : jF MX3_sizeOf 1 [jR 20 b, jI (nI c)] w (jI (w.1 26 b c)) w := by
  refine jF_of jp_X3_sizeOf rfl (Nat.le_of_ble_eq_true rfl) (fun C hm => ?_)
  exact bk_X3_sizeOf_0 hm (c_atN (ja_26 b) w h) (by decide) (bk_X3_sizeOf_8 hm ⟨rfl, rfl⟩)
theorem c_noteAt (w : JW) (b : Bool) {c p : Nat} (h : c < 6) (hp : p < 6) : jF MX3_noteAt 1 [jR 20 b, jI (nI c), jI (nI p)] w (jI (w.1 27 b (6 * c + p))) w := by
  refine jF_of jp_X3_noteAt rfl (Nat.le_of_ble_eq_true rfl) (fun C hm => ?_)
  have e : nI c * 6 + nI p = nI (6 * c + p) := by
    rw [show (6 : Int32) = nI 6 from rfl, pk_mul, nI_add, Nat.mul_comm]
  refine bk_X3_noteAt_0 hm (d2 := 0) (r := w.1 27 b (6 * c + p)) (w2 := w) ?_ (by decide) (bk_X3_noteAt_13 hm ⟨rfl, rfl⟩)
  rw [e]
  exact c_atN (ja_27 b) w (by omega)
theorem c_pipesIn (w : JW) (b : Bool) (cave : Int32) {n : Nat} (hn : w.1 20 b 10 = nI n) (h : n ≤ 12) : jF MX3_pipesIn 1 [jR 20 b, jI cave] w (jI (nI (jct (fun p => decide (w.1 23 b p = cave)) n))) w := by
  refine jF_of jp_X3_pipesIn rfl (Nat.le_of_ble_eq_true rfl) (fun C hm => ?_)
  refine bk_X3_pipesIn_0 hm ?_
  refine jfor (P := fun i => i ≤ n → jW C 0 0 _ 4 [jR 20 b, jI cave, jI (nI (jct (fun p => decide (w.1 23 b p = cave)) i)), jI (nI i)] [] w) n ?_ ?_ (Nat.zero_le n)
  · intro _
    exact bk_X3_pipesIn_4 hm (fun _ => bk_X3_pipesIn_33 hm ⟨rfl, rfl⟩) (fun q => absurd (by rw [hn]; exact (nI_leI (by omega) (by omega)).mpr (Nat.le_refl n)) q)
  · intro i hi ih _
    refine bk_X3_pipesIn_4 hm (fun q => absurd ((nI_leI (a := n) (b := i) (by omega) (by omega)).mp (by rw [← hn]; exact q)) (by omega)) (fun _ => ?_)
    refine bk_X3_pipesIn_12 hm (c_atN (ja_23 b) w (by omega)) (by decide) ?_
    have ih2 := ih (by omega)
    rw [jct] at ih2
    refine bk_X3_pipesIn_20 hm (fun q => ?_) (fun q => ?_)
    · refine bk_X3_pipesIn_27 hm ?_
      rw [nI_1]
      rw [if_neg (by simp [q]), Nat.add_zero] at ih2
      exact ih2
    · refine bk_X3_pipesIn_24 hm (bk_X3_pipesIn_27 hm ?_)
      rw [nI_1, nI_1]
      rw [if_pos (by simp [q])] at ih2
      exact ih2
theorem c_needOf (w : JW) (b : Bool) {p : Nat} (silt : Int32) (h : p < 12) : jF MX3_needOf 1 [jR 20 b, jI (nI p), jI silt] w (jI (w.1 24 b p / 2 + silt * (1 + w.1 25 b p))) w := by
  refine jF_of jp_X3_needOf rfl (Nat.le_of_ble_eq_true rfl) (fun C hm => ?_)
  exact bk_X3_needOf_0 hm (c_atN (ja_24 b) w h) (by decide) (bk_X3_needOf_8 hm (c_atN (ja_25 b) w h) (by decide) (bk_X3_needOf_20 hm ⟨rfl, rfl⟩))
def jall (f : Nat → Bool) : Nat → Bool
  | 0 => true
  | n + 1 => jall f n && f n
theorem jall_no {f : Nat → Bool} {n i : Nat} (h : i < n) (hf : f i = false) : jall f n = false := by
  induction n with
  | zero => omega
  | succ n ih =>
    rw [jall]
    by_cases e : i = n
    · subst e; rw [hf]; simp
    · rw [ih (by omega)]; simp
theorem jall_cong {f g : Nat → Bool} {n : Nat} (h : ∀ k, k < n → f k = g k) : jall f n = jall g n := by
  induction n with
  | zero => rfl
  | succ n ih => rw [jall, jall, ih (fun k hk => h k (by omega)), h n (by omega)]
/-- the pipes of a chord are in range -/
def jnotes (w : JW) (b : Bool) (c s : Nat) (q : Nat → Nat) : Prop := w.1 26 b c = nI s ∧ s ≤ 6 ∧ ∀ p, p < s → w.1 27 b (6 * c + p) = nI (q p) ∧ q p < 12
theorem c_chordSounds (w : JW) (b t : Bool) {c s : Nat} {q : Nat → Nat} (h : c < 6) (hq : jnotes w b c s q) : jF MX3_chordSounds 2 [jR 20 b, jI (nI c), jR 14 t] w (jI (if jall (fun p => decide (0 < w.1 17 t (q p))) s then 1 else 0)) w := by
  refine jF_of jp_X3_chordSounds rfl (Nat.le_of_ble_eq_true rfl) (fun C hm => ?_)
  obtain ⟨hs, h6, hp⟩ := hq
  refine bk_X3_chordSounds_0 hm (c_sizeOf w b h) (by decide) (bk_X3_chordSounds_5 hm ?_)
  rw [hs]
  refine jfor (P := fun i => i ≤ s → jall (fun p => decide (0 < w.1 17 t (q p))) i = true → jW C 0 0 _ 9 [jR 20 b, jI (nI c), jR 14 t, jI (nI s), jI (nI i)] [] w) s ?_ ?_ (Nat.zero_le s) rfl
  · intro _ ha
    exact bk_X3_chordSounds_9 hm (fun _ => bk_X3_chordSounds_37 hm ⟨by rw [ha]; rfl, rfl⟩) (fun z => absurd ((nI_leI (by omega) (by omega)).mpr (Nat.le_refl s)) z)
  · intro i hi ih _ ha
    refine bk_X3_chordSounds_9 hm (fun z => absurd ((nI_leI (by omega) (by omega)).mp z) (by omega)) (fun _ => ?_)
    refine bk_X3_chordSounds_15 hm (c_noteAt w b h (by omega)) (by decide) ?_
    obtain ⟨e1, e2⟩ := hp i hi
    rw [e1]
    refine bk_X3_chordSounds_23 hm (c_sounds w t e2) (by decide) ?_
    refine bk_X3_chordSounds_26 hm (fun z => ?_) (fun z => ?_)
    · refine bk_X3_chordSounds_31 hm ?_
      rw [nI_1]
      refine ih (by omega) ?_
      rw [jall, ha]
      by_cases y : 0 < w.1 17 t (q i)
      · simp [y]
      · rw [if_neg y] at z
        exact absurd rfl z
    · refine bk_X3_chordSounds_29 hm ⟨?_, rfl⟩
      rw [jall_no (f := fun p => decide (0 < w.1 17 t (q p))) hi]
      · rfl
      · by_cases y : 0 < w.1 17 t (q i)
        · rw [if_pos y] at z
          exact absurd z (by decide)
        · simp [y]
