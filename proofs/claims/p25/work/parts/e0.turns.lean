/-! THE TURNS, purely: what holds of a row however the hours go -/
def kB (x : Int32) (m : Nat) : Prop := ∃ a : Nat, x = nI a ∧ a ≤ m
theorem kB.up {x : Int32} {m n : Nat} (h : kB x m) (hn : m ≤ n) : kB x n := by
  obtain ⟨a, e, ha⟩ := h
  exact ⟨a, e, Nat.le_trans ha hn⟩
theorem kB.ge {x : Int32} {m : Nat} (h : kB x m) (hm : m < 2 ^ 31) : 0 ≤ x := by
  obtain ⟨a, rfl, ha⟩ := h
  exact nI_pos' (by omega)
/-- a pipe is no louder than its cave allows -/
def kLd (R : Nat → Int32) (p : Nat) : Prop := ∃ a b : Nat, R (4 + p / 2) = nI b ∧ b ≤ 1404 ∧ R (21 + p) = nI a ∧ a ≤ b + 1
def kRb (n : Nat) (R : Nat → Int32) : Prop := R 0 = nI n ∧ kB (R 1) 9 ∧ (∀ p, p < 4 → kB (R (9 + p)) 20) ∧ ∀ c, c < 2 → kB (R (4 + c)) 1404
def kHo (h : Nat) (R : Nat → Int32) : Prop := ∀ p, p < 4 → kB (R (33 + p)) h
def kLo (R : Nat → Int32) : Prop := ∀ p, p < 4 → kLd R p
/-- THE INVARIANT of a row, n hours gone -/
def kRI (n : Nat) (R : Nat → Int32) : Prop := kRb n R ∧ kHo n R ∧ kLo R ∧ kB (R 2) (5 * n) ∧ kB (R 3) (5 * n)
theorem kIter_kp {F : Nat → (Nat → Int32) → Nat → Int32} {i n : Nat} {R : Nat → Int32} (h : ∀ p R, p < n → F p R i = R i) : jIter F n R i = R i := by
  induction n with
  | zero => rfl
  | succ n ih => exact (h n _ (Nat.lt_succ_self n)).trans (ih (fun p R hp => h p R (Nat.lt_succ_of_lt hp)))
theorem kIter_P {P : (Nat → Int32) → Prop} {F : Nat → (Nat → Int32) → Nat → Int32} {n : Nat} {R : Nat → Int32} (h0 : P R) (h : ∀ p R, p < n → P R → P (F p R)) : P (jIter F n R) := by
  induction n with
  | zero => exact h0
  | succ n ih => exact h n _ (Nat.lt_succ_self n) (ih (fun p R hp hR => h p R (Nat.lt_succ_of_lt hp) hR))
theorem kHgt {D : JD} (hF : kFD D) (hour : Int32) {tide : Int32} (ht : kB tide 9) : kB (jHgt D hour tide) 78 := by
  obtain ⟨t, rfl, ht⟩ := ht
  obtain ⟨a, e0, h0⟩ := hF.2.2.2.2.2.2 0 (by omega)
  obtain ⟨b, e1, h1⟩ := hF.2.2.2.2.2.2 1 (by omega)
  unfold jHgt
  rw [hF.1.2.2.2.1]
  show kB (jhgt _ _ _ _ _ 2) 78
  have z0 : jhgt (D.2.1 9) (D.2.1 8) (D.2.1 7) hour (2 * nI t) 0 = nI (2 * t) := pk_mul 2 t
  have z1 : kB (jhgt (D.2.1 9) (D.2.1 8) (D.2.1 7) hour (2 * nI t) 1) 48 := by
    rw [jhgt, z0, e0, nI_add]
    split
    · exact ⟨_, rfl, by omega⟩
    · exact ⟨_, rfl, by omega⟩
  obtain ⟨c, ec, hc⟩ := z1
  rw [jhgt, ec, e1, nI_add]
  split
  · exact ⟨_, rfl, by omega⟩
  · exact ⟨_, rfl, by omega⟩
theorem kPress1 {D : JD} (hF : kFD D) {n c : Nat} {R : Nat → Int32} (hc : c < 2) (h : kRb n R) : kRb n (jPress1 D c R) := by
  unfold jPress1
  refine ⟨(pk_un (by omega)).trans h.1, by rw [pk_un (by omega)]; exact h.2.1, fun p hp => by rw [pk_un (by omega)]; exact h.2.2.1 p hp, fun k hk => ?_⟩
  by_cases e : k = c
  · subst e
    rw [pk_us]
    split
    · exact ⟨0, rfl, by omega⟩
    · obtain ⟨m, d, em, hm1, hm9, ed, hd1, hd5⟩ := hF.2.2.2.2.2.1 k hk
      obtain ⟨r, er, hr⟩ := h.2.2.2 k hk
      obtain ⟨g, eg, hg⟩ := kHgt hF (R 0) h.2.1
      rw [er, eg, em, ed, pk_mul, show (2 : Int32) = nI 2 from rfl, pk_div (by omega) (by omega) (by omega)]
      have h1 : g * m ≤ 78 * 9 := Nat.mul_le_mul hg hm9
      rw [pk_div (by omega) (by omega) (by omega), nI_add]
      have h2 : g * m / d ≤ g * m := Nat.div_le_self _ _
      exact ⟨_, rfl, by omega⟩
  · rw [pk_un (by omega)]
    exact h.2.2.2 k hk
theorem kNeed {D : JD} (hF : kFD D) {n p : Nat} {R : Nat → Int32} (hp : p < 4) (h : kRb n R) : kB (jNeed D R p) 60 := by
  obtain ⟨s, es, hs⟩ := h.2.2.1 p hp
  have hl := hF.2.2.2.1 p hp
  unfold jNeed
  rw [es, show (2 : Int32) = nI 2 from rfl, pk_div (by omega) (by omega) (by omega)]
  rcases hF.2.2.2.2.1 p hp with e | e <;> rw [e]
  · rw [show (1 : Int32) + 0 = nI 1 from rfl, pk_mul, nI_add]
    exact ⟨_, rfl, by omega⟩
  · rw [show (1 : Int32) + 1 = nI 2 from rfl, pk_mul, nI_add]
    exact ⟨_, rfl, by omega⟩
theorem kLoud {D : JD} (hF : kFD D) {n p : Nat} {R : Nat → Int32} (hp : p < 4) (h : kRb n R) : ∃ a b : Nat, R (4 + p / 2) = nI b ∧ b ≤ 1404 ∧ jLoud D R p = nI a ∧ a ≤ b + 1 := by
  obtain ⟨b, eb, hb⟩ := h.2.2.2 (p / 2) (by omega)
  obtain ⟨m, em, hm⟩ := kNeed hF hp h
  unfold jLoud
  rw [hF.2.2.1 p hp, eb, em]
  split
  · rename_i z
    by_cases q : m ≤ b
    · rw [pk_sub q, nI_1]
      exact ⟨_, b, rfl, hb, rfl, by omega⟩
    · exfalso
      have h1 : ((nI b - nI m) + 1).toInt = (b : Int) - m + 1 := by
        have h2 := pk_sub_toInt (a := b) (b := m) (by omega) (by omega)
        have h3 : (nI b - nI m) + 1 = nI (b + 1) - nI m := by
          rw [← nI_1]
          simp only [Int32.sub_eq_add_neg]
          rw [Int32.add_assoc, Int32.add_assoc, Int32.add_comm _ (1 : Int32)]
        rw [h3, pk_sub_toInt (by omega) (by omega)]
        omega
      rw [Int32.lt_iff_toInt_lt, h1, i32_0] at z
      omega
  · exact ⟨0, b, rfl, hb, rfl, by omega⟩
def kBl (n k : Nat) (R : Nat → Int32) : Prop := kRb n R ∧ (∀ p, p < 4 → k ≤ p → kB (R (33 + p)) n) ∧ (∀ p, p < k → kB (R (33 + p)) (n + 1)) ∧ ∀ p, p < k → kLd R p
theorem kBlow {D : JD} (hF : kFD D) {n : Nat} {R : Nat → Int32} (h : kRb n R) (hh : kHo n R) : ∀ k, k ≤ 4 → kBl n k (jIter (jBlow1 D) k R) := by
  intro k
  induction k with
  | zero => exact fun _ => ⟨h, fun p hp _ => hh p hp, fun p hp => absurd hp (Nat.not_lt_zero p), fun p hp => absurd hp (Nat.not_lt_zero p)⟩
  | succ k ih =>
    intro hk
    obtain ⟨h1, h2, h3, h4⟩ := ih (by omega)
    show kBl n (k + 1) (jBlow1 D k (jIter (jBlow1 D) k R))
    generalize jIter (jBlow1 D) k R = S at h1 h2 h3 h4 ⊢
    obtain ⟨a, b, e4, hb, ea, hab⟩ := kLoud hF (p := k) (by omega) h1
    have up : ∀ i, i ≠ 21 + k → i ≠ 33 + k → jBlow1 D k S i = S i := fun i i1 i2 => (pk_un i2).trans (pk_un i1)
    have u1 : jBlow1 D k S (21 + k) = jLoud D S k := (pk_un (by omega)).trans pk_us
    have u2 : jBlow1 D k S (33 + k) = S (33 + k) + (if 0 < jLoud D S k then 1 else 0) := pk_us
    refine ⟨⟨(up 0 (by omega) (by omega)).trans h1.1, by rw [up 1 (by omega) (by omega)]; exact h1.2.1, fun p hp => by rw [up _ (by omega) (by omega)]; exact h1.2.2.1 p hp, fun c hc => by rw [up _ (by omega) (by omega)]; exact h1.2.2.2 c hc⟩, fun p hp hkp => by rw [up _ (by omega) (by omega)]; exact h2 p hp (by omega), fun p hp => ?_, fun p hp => ?_⟩
    · by_cases e : p = k
      · subst e
        obtain ⟨x, ex, hx⟩ := h2 p (by omega) (Nat.le_refl _)
        rw [u2, ex]
        split
        · rw [nI_1]
          exact ⟨_, rfl, by omega⟩
        · refine ⟨x, ?_, by omega⟩
          exact Int32.add_zero _
      · rw [up _ (by omega) (by omega)]
        exact h3 p (by omega)
    · by_cases e : p = k
      · subst e
        exact ⟨a, b, (up _ (by omega) (by omega)).trans e4, hb, u1.trans ea, hab⟩
      · obtain ⟨a2, b2, x1, x2, x3, x4⟩ := h4 p (by omega)
        exact ⟨a2, b2, (up _ (by omega) (by omega)).trans x1, x2, (up _ (by omega) (by omega)).trans x3, x4⟩
/-- all that an hour's later steps leave -/
def kAf (n : Nat) (R : Nat → Int32) : Prop := kRb n R ∧ kHo (n + 1) R ∧ kLo R
theorem kAf.put {n i : Nat} {R : Nat → Int32} {x : Int32} (h : kAf n R) (hi : i = 2 ∨ i = 3 ∨ 45 ≤ i) : kAf n (upd R i x) := by
  obtain ⟨⟨h1, h2, h3, h4⟩, h5, h6⟩ := h
  refine ⟨⟨(pk_un (by omega)).trans h1, by rw [pk_un (by omega)]; exact h2, fun p hp => by rw [pk_un (by omega)]; exact h3 p hp, fun c hc => by rw [pk_un (by omega)]; exact h4 c hc⟩, fun p hp => by rw [pk_un (by omega)]; exact h5 p hp, fun p hp => ?_⟩
  obtain ⟨a, b, x1, x2, x3, x4⟩ := h6 p hp
  exact ⟨a, b, (pk_un (by omega)).trans x1, x2, (pk_un (by omega)).trans x3, x4⟩
theorem kAf.silt {n p : Nat} {R : Nat → Int32} {x : Int32} (h : kAf n R) (hp : p < 4) (hx : kB x 20) : kAf n (upd R (9 + p) x) := by
  obtain ⟨⟨h1, h2, h3, h4⟩, h5, h6⟩ := h
  refine ⟨⟨(pk_un (by omega)).trans h1, by rw [pk_un (by omega)]; exact h2, fun q hq => ?_, fun c hc => by rw [pk_un (by omega)]; exact h4 c hc⟩, fun p hp => by rw [pk_un (by omega)]; exact h5 p hp, fun p hp => ?_⟩
  · by_cases e : q = p
    · subst e
      rw [pk_us]
      exact hx
    · rw [pk_un (by omega)]
      exact h3 q hq
  · obtain ⟨a, b, x1, x2, x3, x4⟩ := h6 p hp
    exact ⟨a, b, (pk_un (by omega)).trans x1, x2, (pk_un (by omega)).trans x3, x4⟩
theorem kSilt {D : JD} (hF : kFD D) {n p : Nat} {R : Nat → Int32} (hp : p < 4) (h : kRb n R) : kB (jSilt D R p) 20 := by
  obtain ⟨s, es, hs⟩ := h.2.2.1 p hp
  unfold jSilt
  rw [es]
  split
  · split
    · cases s with
      | zero => exact ⟨0, by rename_i z; exact absurd z (by decide), by omega⟩
      | succ s => exact ⟨s, nI_pred s, by omega⟩
    · exact ⟨0, rfl, by omega⟩
  · split
    · rcases hF.2.2.2.2.1 p hp with e | e <;> rw [e]
      · rw [nI_1, show nI (s + 1) + (0 : Int32) = nI (s + 1) from Int32.add_zero _]
        split
        · rename_i z
          exact ⟨_, rfl, by have := (nI_ltI (a := s + 1) (b := 20) (by omega) (by omega)).mp z; omega⟩
        · exact ⟨20, rfl, Nat.le_refl _⟩
      · rw [nI_1, nI_1]
        split
        · rename_i z
          exact ⟨_, rfl, by have := (nI_ltI (a := s + 1 + 1) (b := 20) (by omega) (by omega)).mp z; omega⟩
        · exact ⟨20, rfl, Nat.le_refl _⟩
    · exact ⟨s, rfl, hs⟩
/-- the sums grow by no more than m -/
def kGr (R S : Nat → Int32) (m : Nat) : Prop := ∀ x y : Nat, R 2 = nI x → R 3 = nI y → ∃ a b : Nat, S 2 = nI (x + a) ∧ S 3 = nI (y + b) ∧ a ≤ m ∧ b ≤ m
theorem kGr.rf {R S : Nat → Int32} (h2 : S 2 = R 2) (h3 : S 3 = R 3) (m : Nat) : kGr R S m := fun x y e2 e3 => ⟨0, 0, h2.trans e2, h3.trans e3, Nat.zero_le _, Nat.zero_le _⟩
theorem kGr.trans {R S T : Nat → Int32} {a b : Nat} (h : kGr R S a) (h2 : kGr S T b) : kGr R T (a + b) := by
  intro x y e2 e3
  obtain ⟨c, d, f2, f3, l1, l2⟩ := h x y e2 e3
  obtain ⟨c2, d2, g2, g3, m1, m2⟩ := h2 _ _ f2 f3
  exact ⟨c + c2, d + d2, by rw [g2, Nat.add_assoc], by rw [g3, Nat.add_assoc], by omega, by omega⟩
theorem kChord1 {D : JD} {n c : Nat} {R : Nat → Int32} (h : kAf n R) : kAf n (jChord1 D c R) ∧ kGr R (jChord1 D c R) (D.1 (10 + c)) := by
  unfold jChord1
  split
  · refine ⟨((h.put (Or.inl rfl)).put (Or.inr (Or.inl rfl))).put (Or.inr (Or.inr (by omega))), fun x y e2 e3 => ?_⟩
    by_cases z : 6 ≤ R 0 - R 0 / 24 * 24 ∧ R 0 - R 0 / 24 * 24 ≤ 21
    · refine ⟨D.1 (10 + c), 0, ?_, ?_, Nat.le_refl _, Nat.zero_le _⟩
      · rw [pk_un (by omega), pk_un (by omega), pk_us, if_pos z, e2, nI_add]
      · rw [pk_un (by omega), pk_us, if_pos z, e3]
        exact Int32.add_zero _
    · refine ⟨0, D.1 (10 + c), ?_, ?_, Nat.zero_le _, Nat.le_refl _⟩
      · rw [pk_un (by omega), pk_un (by omega), pk_us, if_neg z, e2]
        exact Int32.add_zero _
      · rw [pk_un (by omega), pk_us, if_neg z, e3, nI_add]
  · exact ⟨h, kGr.rf rfl rfl _⟩
theorem kHour {D : JD} (hF : kFD D) (hW : jWF D) {n : Nat} {R : Nat → Int32} (h : kRI n R) : kRI (n + 1) (jHour D R) ∧ kGr R (jHour D R) 5 := by
  obtain ⟨hb, hh, hl, ⟨x, e2, l2⟩, ⟨y, e3, l3⟩⟩ := h
  have d0 := hF.1.1
  have d1 := hF.1.2.1
  have d2 := hF.1.2.2.1
  have c0 := hF.1.2.2.2.2.1
  have c1 := hF.1.2.2.2.2.2
  have kp : ∀ i, i < 4 → jIter (jClean1 D) (D.1 5) (jIter (jSettle1 D) (D.1 1) (jIter (jBlow1 D) (D.1 1) (jIter (jPress1 D) (D.1 0) R))) i = R i := fun i hi => by
    rw [jIter_kp (fun p R => jClean1_kp hi p R), jIter_kp (fun p R => jSettle1_kp hi p R), jIter_kp (fun p R => jBlow1_kp hi p R), jIter_kp (fun p R => jPress1_kp hi p R)]
  have a1 : kRb n (jIter (jPress1 D) (D.1 0) R) := kIter_P hb (fun p S hp hS => kPress1 hF (by omega) hS)
  have a2 : kHo n (jIter (jPress1 D) (D.1 0) R) := fun p hp => by
    have e : jIter (jPress1 D) (D.1 0) R (33 + p) = R (33 + p) := kIter_kp (fun c S hc => pk_un (by omega))
    rw [e]
    exact hh p hp
  have b1 := kBlow hF a1 a2 4 (Nat.le_refl _)
  rw [← d1] at b1
  have b2 : kAf n (jIter (jBlow1 D) (D.1 1) (jIter (jPress1 D) (D.1 0) R)) := ⟨b1.1, fun p hp => b1.2.2.1 p (by omega), fun p hp => b1.2.2.2 p (by omega)⟩
  have b3 : kAf n (jIter (jSettle1 D) (D.1 1) (jIter (jBlow1 D) (D.1 1) (jIter (jPress1 D) (D.1 0) R))) := kIter_P b2 (fun p S hp hS => hS.silt (by omega) (kSilt hF (by omega) hS.1))
  have b4 : kAf n (jIter (jClean1 D) (D.1 5) (jIter (jSettle1 D) (D.1 1) (jIter (jBlow1 D) (D.1 1) (jIter (jPress1 D) (D.1 0) R)))) := kIter_P b3 (fun p S hp hS => by
    unfold jClean1
    split
    · rename_i z
      rcases hW.2.2.2.2.2 p hp with q | q
      · exact absurd (q.1.symm.trans z.1) (by decide)
      · exact hS.silt (by omega) ⟨0, rfl, by omega⟩
    · exact hS)
  rw [show jHour D R = upd (jIter (jChord1 D) (D.1 2) (jIter (jClean1 D) (D.1 5) (jIter (jSettle1 D) (D.1 1) (jIter (jBlow1 D) (D.1 1) (jIter (jPress1 D) (D.1 0) R))))) 0 (jIter (jChord1 D) (D.1 2) (jIter (jClean1 D) (D.1 5) (jIter (jSettle1 D) (D.1 1) (jIter (jBlow1 D) (D.1 1) (jIter (jPress1 D) (D.1 0) R)))) 0 + 1) from rfl]
  generalize jIter (jClean1 D) (D.1 5) (jIter (jSettle1 D) (D.1 1) (jIter (jBlow1 D) (D.1 1) (jIter (jPress1 D) (D.1 0) R))) = S at kp b4 ⊢
  rw [d2]
  show kRI (n + 1) (upd (jChord1 D 1 (jChord1 D 0 S)) 0 (jChord1 D 1 (jChord1 D 0 S) 0 + 1)) ∧ kGr R (upd (jChord1 D 1 (jChord1 D 0 S)) 0 (jChord1 D 1 (jChord1 D 0 S) 0 + 1)) 5
  have g0 := kChord1 (D := D) (c := 0) b4
  have g1 := kChord1 (D := D) (c := 1) g0.1
  have gG := g0.2.trans g1.2
  rw [show D.1 (10 + 0) = 2 from c0, show D.1 (10 + 1) = 3 from c1] at gG
  have g2 := g1.1
  generalize jChord1 D 1 (jChord1 D 0 S) = T at gG g2 ⊢
  have gr : kGr R (upd T 0 (T 0 + 1)) 5 := fun x y e2 e3 => by
    obtain ⟨a, b, f2, f3, m1, m2⟩ := gG x y ((kp 2 (by omega)).trans e2) ((kp 3 (by omega)).trans e3)
    exact ⟨a, b, (pk_un (by omega)).trans f2, (pk_un (by omega)).trans f3, m1, m2⟩
  refine ⟨⟨⟨?_, ?_, fun p hp => ?_, fun c hc => ?_⟩, fun p hp => ?_, fun p hp => ?_, ?_, ?_⟩, gr⟩
  · rw [pk_us, g2.1.1, nI_1]
  · rw [pk_un (by omega)]
    exact g2.1.2.1
  · rw [pk_un (by omega)]
    exact g2.1.2.2.1 p hp
  · rw [pk_un (by omega)]
    exact g2.1.2.2.2 c hc
  · rw [pk_un (by omega)]
    exact g2.2.1 p hp
  · obtain ⟨a, b, x1, x2, x3, x4⟩ := g2.2.2 p hp
    exact ⟨a, b, (pk_un (by omega)).trans x1, x2, (pk_un (by omega)).trans x3, x4⟩
  · obtain ⟨a, b, f2, f3, m1, m2⟩ := gr x y e2 e3
    exact ⟨_, f2, by omega⟩
  · obtain ⟨a, b, f2, f3, m1, m2⟩ := gr x y e2 e3
    exact ⟨_, f3, by omega⟩
theorem kHours {D : JD} (hF : kFD D) (hW : jWF D) {n : Nat} {R : Nat → Int32} (h : kRI n R) (k : Nat) : kRI (n + k) (jHours D k R) ∧ kGr R (jHours D k R) (5 * k) := by
  induction k with
  | zero => exact ⟨h, kGr.rf rfl rfl _⟩
  | succ k ih =>
    obtain ⟨h1, h2⟩ := kHour hF hW ih.1
    have h3 := ih.2.trans h2
    rw [show 5 * k + 5 = 5 * (k + 1) by omega] at h3
    exact ⟨h1, h3⟩
theorem kRI.low {n : Nat} {R : Nat → Int32} (h : kRI n R) : jLow R (5 * n) := by
  obtain ⟨-, -, -, ⟨x, e2, l2⟩, ⟨y, e3, l3⟩⟩ := h
  exact ⟨x, y, e2, e3, l2, l3⟩
theorem kRI.tide {n : Nat} {R : Nat → Int32} (h : kRI n R) {t : Nat} (ht : t ≤ 9) : kRI n (upd R 1 (nI t)) := by
  obtain ⟨⟨h1, h2, h3, h4⟩, h5, h6, h7, h8⟩ := h
  refine ⟨⟨(pk_un (by omega)).trans h1, by rw [pk_us]; exact ⟨t, rfl, ht⟩, fun p hp => by rw [pk_un (by omega)]; exact h3 p hp, fun c hc => by rw [pk_un (by omega)]; exact h4 c hc⟩, fun p hp => by rw [pk_un (by omega)]; exact h5 p hp, fun p hp => ?_, by rw [pk_un (by omega)]; exact h7, by rw [pk_un (by omega)]; exact h8⟩
  obtain ⟨a, b, x1, x2, x3, x4⟩ := h6 p hp
  exact ⟨a, b, (pk_un (by omega)).trans x1, x2, (pk_un (by omega)).trans x3, x4⟩
theorem kRI.clean {n p : Nat} {R : Nat → Int32} (h : kRI n R) (hp : p < 4) : kRI n (upd R (9 + p) 0) := by
  obtain ⟨⟨h1, h2, h3, h4⟩, h5, h6, h7, h8⟩ := h
  refine ⟨⟨(pk_un (by omega)).trans h1, by rw [pk_un (by omega)]; exact h2, fun q hq => ?_, fun c hc => by rw [pk_un (by omega)]; exact h4 c hc⟩, fun p hp => by rw [pk_un (by omega)]; exact h5 p hp, fun p hp => ?_, by rw [pk_un (by omega)]; exact h7, by rw [pk_un (by omega)]; exact h8⟩
  · by_cases e : q = p
    · subst e
      rw [pk_us]
      exact ⟨0, rfl, by omega⟩
    · rw [pk_un (by omega)]
      exact h3 q hq
  · obtain ⟨a, b, x1, x2, x3, x4⟩ := h6 p hp
    exact ⟨a, b, (pk_un (by omega)).trans x1, x2, (pk_un (by omega)).trans x3, x4⟩
theorem kFD.cut {D : JD} (h : kFD D) {p v : Nat} (hp : p < 4) (hv : 1 ≤ v) (hv4 : v ≤ 40) : kFD (jCutD D p v) := by
  obtain ⟨⟨a0, a1, a2, a3, a4, a5⟩, ⟨b0, b1, b2, b3, b4⟩, c, d, e, f, g⟩ := h
  have no : ∀ i, i ≠ 140 + p → (jCutD D p v).1 i = D.1 i := fun i hi => jCutD_no hi
  refine ⟨⟨?_, ?_, ?_, ?_, ?_, ?_⟩, ⟨?_, ?_, ?_, ?_, ?_⟩, fun q hq => ?_, fun q hq => ?_, e, f, g⟩
  any_goals (rw [no _ (by omega)]; assumption)
  · rw [no _ (by omega)]
    exact c q hq
  · by_cases z : q = p
    · subst z
      rw [jCutD_at]
      exact ⟨hv, hv4⟩
    · rw [no _ (by omega)]
      exact d q hq
/-- until: no hour, or one from i on -/
theorem kUnt (D : JD) (R : Nat → Int32) (p : Nat) : ∀ n i, jUnt D R p n i = -1 ∨ ∃ j, i ≤ j ∧ j < i + n ∧ jUnt D R p n i = nI j := by
  intro n
  induction n with
  | zero => exact fun i => Or.inl rfl
  | succ n ih =>
    intro i
    unfold jUnt
    split
    · exact Or.inr ⟨i, Nat.le_refl _, by omega, rfl⟩
    · rcases ih (i + 1) with h | ⟨j, h1, h2, h3⟩
      · exact Or.inl h
      · exact Or.inr ⟨j, by omega, by omega, h3⟩
theorem kUnt0 (D : JD) (R : Nat → Int32) (p : Nat) : jUnt D R p 151 0 = 0 ↔ 0 < R (21 + p) := by
  show (if 0 < jHours D 0 R (21 + p) then nI 0 else jUnt D R p 150 1) = 0 ↔ _
  show (if 0 < R (21 + p) then nI 0 else jUnt D R p 150 1) = 0 ↔ _
  by_cases h : 0 < R (21 + p)
  · rw [if_pos h]
    exact ⟨fun _ => h, fun _ => rfl⟩
  · rw [if_neg h]
    refine ⟨fun e => ?_, fun q => absurd q h⟩
    rcases kUnt D R p 150 1 with z | ⟨j, h1, h2, h3⟩
    · rw [z] at e
      exact absurd e (by decide)
    · rw [h3] at e
      have := (nI_eq (a := j) (b := 0) (by omega) (by omega)).mp e
      omega
theorem kBest (D : JD) (R : Nat → Int32) (n : Nat) : ∀ p, (jBest D R n p).2 = -1 ∨ ∃ j, j < p ∧ (jBest D R n p).2 = nI j := by
  intro p
  induction p with
  | zero => exact Or.inl rfl
  | succ p ih =>
    unfold jBest
    split
    · exact Or.inr ⟨p, Nat.lt_succ_self p, rfl⟩
    · rcases ih with h | ⟨j, h1, h2⟩
      · exact Or.inl h
      · exact Or.inr ⟨j, by omega, h2⟩
