/-! the reference's reader: what its world holds, and its small steps -/
/-- the sign that the reference keeps for a kind of symbol -/
def jsy (k : Int32) : Int32 := if k = 32 then 40 else if k = 33 then 41 else if k = 34 then 91 else if k = 35 then 93 else if k = 36 then 59 else if k = 37 then 44 else if k = 38 then 43 else if k = 39 then 45 else if k = 40 then 42 else if k = 41 then 47 else if k = 42 then 60 else if k = 43 then 62 else if k = 44 then 61 else if k = 45 then 108 else 103
/-- the reference's sort and value of a token of kind K (a number: x) -/
def jkv (K s v x : Int32) : Prop := (0 ≤ K ∧ K ≤ 29 ∧ s = 2 ∧ v = K) ∨ (K = 30 ∧ s = 1) ∨ (K = 31 ∧ s = 3 ∧ v = x) ∨ (32 ≤ K ∧ K ≤ 46 ∧ s = 4 ∧ v = jsy K) ∨ (K = 47 ∧ s = 0) ∨ (K = 48 ∧ s = 5)
theorem i32_nat {a b : Nat} {K : Int32} (h : nI a ≤ K) (h2 : K ≤ nI b) (hb : b < 2 ^ 31) (ha : a < 2 ^ 31) : ∃ k : Nat, a ≤ k ∧ k ≤ b ∧ K = nI k := by
  have h0 : ¬ K < 0 := by
    intro q
    rw [Int32.lt_iff_toInt_lt, i32_0] at q
    rw [Int32.le_iff_toInt_le, nI_toInt ha] at h
    omega
  obtain ⟨k, hk, rfl⟩ := nI_of h0
  exact ⟨k, (nI_leI ha hk).mp h, (nI_leI hk hb).mp h2, rfl⟩
theorem jsy_inj : ∀ j, j < 15 → ∀ l, l < 15 → jsy (nI (32 + j)) = jsy (nI (32 + l)) → j = l := by decide
theorem jkv_key {K s v x : Int32} (h : jkv K s v x) {k : Int32} (hk : 0 ≤ k ∧ k ≤ 29) : s = 2 ∧ v = k ↔ K = k := by
  have no : ∀ y : Int32, ¬ (0 ≤ y ∧ y ≤ 29) → ¬ k = y := fun y hy e => hy (e ▸ hk)
  rcases h with ⟨-, -, rfl, rfl⟩ | ⟨rfl, rfl⟩ | ⟨rfl, rfl, -⟩ | ⟨h1, h2, rfl, -⟩ | ⟨rfl, rfl⟩ | ⟨rfl, rfl⟩
  · exact ⟨fun q => q.2, fun q => ⟨rfl, q⟩⟩
  · exact ⟨fun q => absurd q.1 (by decide), fun q => absurd q.symm (no 30 (by decide))⟩
  · exact ⟨fun q => absurd q.1 (by decide), fun q => absurd q.symm (no 31 (by decide))⟩
  · refine ⟨fun q => absurd q.1 (by decide), fun q => ?_⟩
    subst q
    obtain ⟨j, a, b, rfl⟩ := i32_nat (a := 32) (b := 46) h1 h2 (by omega) (by omega)
    have := (nI_leI (a := j) (b := 29) (by omega) (by omega)).mp hk.2
    omega
  · exact ⟨fun q => absurd q.1 (by decide), fun q => absurd q.symm (no 47 (by decide))⟩
  · exact ⟨fun q => absurd q.1 (by decide), fun q => absurd q.symm (no 48 (by decide))⟩
theorem jkv_sym {K s v x : Int32} (h : jkv K s v x) {k : Int32} (hk : 32 ≤ k ∧ k ≤ 46) : s = 4 ∧ v = jsy k ↔ K = k := by
  have no : ∀ y : Int32, ¬ (32 ≤ y ∧ y ≤ 46) → ¬ k = y := fun y hy e => hy (e ▸ hk)
  rcases h with ⟨h1, h2, rfl, -⟩ | ⟨rfl, rfl⟩ | ⟨rfl, rfl, -⟩ | ⟨h1, h2, rfl, rfl⟩ | ⟨rfl, rfl⟩ | ⟨rfl, rfl⟩
  · refine ⟨fun q => absurd q.1 (by decide), fun q => ?_⟩
    subst q
    obtain ⟨j, a, b, rfl⟩ := i32_nat (a := 0) (b := 29) h1 h2 (by omega) (by omega)
    have := (nI_leI (a := 32) (b := j) (by omega) (by omega)).mp hk.1
    omega
  · exact ⟨fun q => absurd q.1 (by decide), fun q => absurd q.symm (no 30 (by decide))⟩
  · exact ⟨fun q => absurd q.1 (by decide), fun q => absurd q.symm (no 31 (by decide))⟩
  · refine ⟨fun q => ?_, fun q => ⟨rfl, by rw [q]⟩⟩
    obtain ⟨j, a, b, rfl⟩ := i32_nat (a := 32) (b := 46) h1 h2 (by omega) (by omega)
    obtain ⟨l, c, d, rfl⟩ := i32_nat (a := 32) (b := 46) hk.1 hk.2 (by omega) (by omega)
    have := jsy_inj (j - 32) (by omega) (l - 32) (by omega) (by rw [show 32 + (j - 32) = j by omega, show 32 + (l - 32) = l by omega]; exact q.2)
    rw [show j = l by omega]
  · exact ⟨fun q => absurd q.1 (by decide), fun q => absurd q.symm (no 47 (by decide))⟩
  · exact ⟨fun q => absurd q.1 (by decide), fun q => absurd q.symm (no 48 (by decide))⟩
theorem jkv_name {K s v x : Int32} (h : jkv K s v x) : s = 1 ↔ K = 30 := by
  rcases h with ⟨h1, h2, rfl, -⟩ | ⟨rfl, rfl⟩ | ⟨rfl, rfl, -⟩ | ⟨h1, h2, rfl, -⟩ | ⟨rfl, rfl⟩ | ⟨rfl, rfl⟩
  · exact ⟨fun q => absurd q (by decide), fun q => by rw [q] at h2; exact absurd h2 (by decide)⟩
  · exact ⟨fun _ => rfl, fun _ => rfl⟩
  · exact ⟨fun q => absurd q (by decide), fun q => absurd q (by decide)⟩
  · exact ⟨fun q => absurd q (by decide), fun q => by rw [q] at h1; exact absurd h1 (by decide)⟩
  · exact ⟨fun q => absurd q (by decide), fun q => absurd q (by decide)⟩
  · exact ⟨fun q => absurd q (by decide), fun q => absurd q (by decide)⟩
theorem jkv_num {K s v x : Int32} (h : jkv K s v x) : (s = 3 ↔ K = 31) ∧ (K = 31 → v = x) := by
  rcases h with ⟨h1, h2, rfl, -⟩ | ⟨rfl, rfl⟩ | ⟨rfl, rfl, rfl⟩ | ⟨h1, h2, rfl, -⟩ | ⟨rfl, rfl⟩ | ⟨rfl, rfl⟩
  · exact ⟨⟨fun q => absurd q (by decide), fun q => by rw [q] at h2; exact absurd h2 (by decide)⟩, fun q => by rw [q] at h2; exact absurd h2 (by decide)⟩
  · exact ⟨⟨fun q => absurd q (by decide), fun q => absurd q (by decide)⟩, fun q => absurd q (by decide)⟩
  · exact ⟨⟨fun _ => rfl, fun _ => rfl⟩, fun _ => rfl⟩
  · exact ⟨⟨fun q => absurd q (by decide), fun q => by rw [q] at h1; exact absurd h1 (by decide)⟩, fun q => by rw [q] at h1; exact absurd h1 (by decide)⟩
  · exact ⟨⟨fun q => absurd q (by decide), fun q => absurd q (by decide)⟩, fun q => absurd q (by decide)⟩
  · exact ⟨⟨fun q => absurd q (by decide), fun q => absurd q (by decide)⟩, fun q => absurd q (by decide)⟩
theorem jkv_end {K s v x : Int32} (h : jkv K s v x) : s = 0 ↔ K = 47 := by
  rcases h with ⟨h1, h2, rfl, -⟩ | ⟨rfl, rfl⟩ | ⟨rfl, rfl, rfl⟩ | ⟨h1, h2, rfl, -⟩ | ⟨rfl, rfl⟩ | ⟨rfl, rfl⟩
  · exact ⟨fun q => absurd q (by decide), fun q => by rw [q] at h2; exact absurd h2 (by decide)⟩
  · exact ⟨fun q => absurd q (by decide), fun q => absurd q (by decide)⟩
  · exact ⟨fun q => absurd q (by decide), fun q => absurd q (by decide)⟩
  · exact ⟨fun q => absurd q (by decide), fun q => by rw [q] at h2; exact absurd h2 (by decide)⟩
  · exact ⟨fun _ => rfl, fun _ => rfl⟩
  · exact ⟨fun q => absurd q (by decide), fun q => absurd q (by decide)⟩
/-- the reference's tokens -/
def jMTK (T : JTk) (w : JW) : Prop := T.2.2.2 ≤ 400 ∧ (T.1 T.2.2.2 = 47 ∨ T.1 T.2.2.2 = 48) ∧ (∀ i, i ≤ T.2.2.2 → jkv (T.1 i) (w.1 43 false i) (w.1 44 false i) (T.2.1 i) ∧ (T.1 i = 31 → 0 ≤ T.2.1 i ∧ T.2.1 i ≤ 999999)) ∧
  ∀ i j, i < T.2.2.2 → j < T.2.2.2 → T.1 i = 30 → T.1 j = 30 → ∃ a b z y : Nat, w.1 45 false i = nI a ∧ w.1 45 false j = nI b ∧ w.1 46 false i = nI z ∧ w.1 46 false j = nI y ∧ a + z ≤ 2000 ∧ b + y ≤ 2000 ∧ (T.2.2.1 i j = true ↔ (z = y ∧ ∀ k, k < z → w.1 42 false (a + k) = w.1 42 false (b + k)))
theorem jMTK.kept {T : JTk} {w w2 : JW} (h : jMTK T w) (hk : ∀ k, 42 ≤ k → k ≤ 46 → w2.1 k false = w.1 k false) : jMTK T w2 := by
  unfold jMTK
  rw [hk 42 (by omega) (by omega), hk 43 (by omega) (by omega), hk 44 (by omega) (by omega), hk 45 (by omega) (by omega), hk 46 (by omega) (by omega)]
  exact h
/-- the reader stands at token n, x deep, with the error er, behind m nodes; Rc, Rp: the names as it has them; fc, fp: what names number (while there is no error) -/
def jMI (T : JTk) (Rc Rp : JNm) (fc fp : Nat → Int32) (w : JW) (n x : Nat) (er : JEr) (m : Nat) : Prop :=
  ((w.1 41 false 13 = nI n ∧ n ≤ T.2.2.2) ∧ w.1 41 false 14 = nI x ∧ w.1 41 false 15 = -1) ∧ (w.1 41 false 16 = nI er.1 ∧ er.1 ≤ 5 ∧ (¬ er.1 = 0 → w.1 41 false 17 = nI er.2 ∧ er.2 < n)) ∧ jMTK T w ∧ (w.1 53 (w.2.2 41 9) 12 = nI m ∧ m ≤ n) ∧
  (Rc.2 ≤ 5 ∧ w.1 53 (w.2.2 41 9) 0 = nI Rc.2 ∧ jNM Rc w 47 ∧ jNMt T Rc) ∧ (Rp.2 ≤ 12 ∧ w.1 53 (w.2.2 41 9) 1 = nI Rp.2 ∧ jNM Rp w 48 ∧ jNMt T Rp) ∧ (er.1 = 0 → (∀ t, fc t = jnum T Rc t) ∧ ∀ t, fp t = jnum T Rp t)
/-- only the reader's own numbers have changed; those and nodes -/
def jMF (w w2 : JW) : Prop := w2.2 = w.2 ∧ (∀ k b, k ≠ 41 → w2.1 k b = w.1 k b) ∧ ∀ j, j < 13 → w2.1 41 false j = w.1 41 false j
def jYF (w w2 : JW) : Prop := w2.2 = w.2 ∧ (∀ k c, k ≠ 41 → ¬ (c = w.2.2 41 9 ∧ (k = 53 ∨ k = 60 ∨ k = 61 ∨ k = 62)) → w2.1 k c = w.1 k c) ∧ (∀ j, j < 13 → w2.1 41 false j = w.1 41 false j) ∧ ∀ j, j ≠ 12 → w2.1 53 (w.2.2 41 9) j = w.1 53 (w.2.2 41 9) j
theorem jMF.refl (w : JW) : jMF w w := ⟨rfl, fun _ _ _ => rfl, fun _ _ => rfl⟩
theorem jMF.trans {w w2 w3 : JW} (h : jMF w w2) (h2 : jMF w2 w3) : jMF w w3 := ⟨h2.1.trans h.1, fun k b hk => (h2.2.1 k b hk).trans (h.2.1 k b hk), fun j hj => (h2.2.2 j hj).trans (h.2.2 j hj)⟩
theorem jMF.YF {w w2 : JW} (h : jMF w w2) : jYF w w2 := ⟨h.1, fun k c hk _ => h.2.1 k c hk, h.2.2, fun j _ => by rw [h.2.1 53 _ (by decide)]⟩
theorem jYF.refl (w : JW) : jYF w w := (jMF.refl w).YF
theorem jYF.trans {w w2 w3 : JW} (h : jYF w w2) (h2 : jYF w2 w3) : jYF w w3 := by
  have e : w2.2.2 41 9 = w.2.2 41 9 := by rw [h.1]
  obtain ⟨a1, a2, a3, a4⟩ := h
  obtain ⟨b1, b2, b3, b4⟩ := h2
  rw [e] at b2 b4
  exact ⟨b1.trans a1, fun k c hk hc => (b2 k c hk hc).trans (a2 k c hk hc), fun j hj => (b3 j hj).trans (a3 j hj), fun j hj => (b4 j hj).trans (a4 j hj)⟩
theorem jMF_set {w : JW} {j : Nat} {x : Int32} (h : 13 ≤ j) : jMF w (jset w 41 false j x) := ⟨rfl, fun k b hk => jset_k hk, fun i hi => jset_bj (by omega)⟩
theorem jMF.o {w w2 : JW} (h : jMF w w2) : w2.2.2 41 9 = w.2.2 41 9 := by rw [h.1]
theorem jMI.le {T : JTk} {Rc Rp : JNm} {fc fp : Nat → Int32} {w : JW} {n x : Nat} {er : JEr} {m : Nat} (h : jMI T Rc Rp fc fp w n x er m) : n ≤ T.2.2.2 ∧ T.2.2.2 ≤ 400 ∧ m ≤ n := ⟨h.1.1.2, h.2.2.1.1, h.2.2.2.1.2⟩
theorem jMI.lt {T : JTk} {Rc Rp : JNm} {fc fp : Nat → Int32} {w : JW} {n x : Nat} {er : JEr} {m : Nat} (h : jMI T Rc Rp fc fp w n x er m) (h1 : ¬ T.1 n = 47) (h2 : ¬ T.1 n = 48) : n < T.2.2.2 := by
  refine Nat.lt_of_le_of_ne h.1.1.2 (fun e => ?_)
  rcases h.2.2.1.2.1 with q | q
  · exact h1 (by rw [e]; exact q)
  · exact h2 (by rw [e]; exact q)
/-- another world of the same names and tokens -/
theorem jMI.of {T : JTk} {Rc Rp : JNm} {fc fp : Nat → Int32} {w w2 : JW} {n x : Nat} {er : JEr} {m n2 x2 : Nat} {er2 : JEr} {m2 : Nat} (h : jMI T Rc Rp fc fp w n x er m) (hf : jYF w w2) (a13 : w2.1 41 false 13 = nI n2) (hn : n2 ≤ T.2.2.2) (a14 : w2.1 41 false 14 = nI x2) (a15 : w2.1 41 false 15 = -1) (a16 : w2.1 41 false 16 = nI er2.1) (h5 : er2.1 ≤ 5) (a17 : ¬ er2.1 = 0 → w2.1 41 false 17 = nI er2.2 ∧ er2.2 < n2) (a12 : w2.1 53 (w.2.2 41 9) 12 = nI m2) (hm : m2 ≤ n2) (h0 : er2.1 = 0 → er.1 = 0) : jMI T Rc Rp fc fp w2 n2 x2 er2 m2 := by
  obtain ⟨h1, h2, h3, h4, ⟨c1, c2, c3, c4⟩, ⟨p1, p2, p3, p4⟩, h7⟩ := h
  have e : w2.2.2 41 9 = w.2.2 41 9 := by rw [hf.1]
  unfold jMI
  rw [e, hf.2.2.2 0 (by decide), hf.2.2.2 1 (by decide)]
  exact ⟨⟨⟨a13, hn⟩, a14, a15⟩, ⟨a16, h5, a17⟩, h3.kept (fun k k1 k2 => hf.2.1 k false (by omega) (fun q => by omega)), ⟨a12, hm⟩, ⟨c1, c2, c3.kept (hf.2.1 47 false (by decide) (by simp)), c4⟩, ⟨p1, p2, p3.kept (hf.2.1 48 false (by decide) (by simp)), p4⟩, fun z => h7 (h0 z)⟩
theorem jMI.next {T : JTk} {Rc Rp : JNm} {fc fp : Nat → Int32} {w : JW} {n x : Nat} {er : JEr} {m : Nat} (h : jMI T Rc Rp fc fp w n x er m) (hn : n < T.2.2.2) : jMI T Rc Rp fc fp (jset w 41 false 13 (w.1 41 false 13 + 1)) (n + 1) x er m := by
  have hm := h.2.2.2.1.2
  refine h.of (jMF_set (by decide)).YF ?_ hn ?_ ?_ ?_ h.2.1.2.1 (fun q => ?_) ?_ (by omega) (fun z => z)
  · rw [jset_at, h.1.1.1, nI_1]
  · rw [jset_bj (by decide)]; exact h.1.2.1
  · rw [jset_bj (by decide)]; exact h.1.2.2
  · rw [jset_bj (by decide)]; exact h.2.1.1
  · rw [jset_bj (by decide)]
    have := h.2.1.2.2 q
    exact ⟨this.1, by omega⟩
  · rw [jset_bk (by decide)]; exact h.2.2.2.1.1
theorem jMI.tok {T : JTk} {Rc Rp : JNm} {fc fp : Nat → Int32} {w : JW} {n x : Nat} {er : JEr} {m : Nat} (h : jMI T Rc Rp fc fp w n x er m) : jkv (T.1 n) (w.1 43 false n) (w.1 44 false n) (T.2.1 n) := (h.2.2.1.2.2.1 n h.1.1.2).1
theorem m_isOk (w : JW) : jF MX11_isOk 0 [jR 41 false] w (jI (if w.1 41 false 15 = -1 then 1 else 0)) w := by
  refine jF_of jp_X11_isOk rfl (Nat.le_of_ble_eq_true rfl) (fun C hm => ?_)
  refine bk_X11_isOk_0 hm (fun q => bk_X11_isOk_12 hm (bk_X11_isOk_13 hm rfl ⟨?_, rfl⟩)) (fun q => bk_X11_isOk_8 hm (bk_X11_isOk_13 hm rfl ⟨?_, rfl⟩))
  · rw [if_neg q]
  · rw [if_pos q]
theorem m_ok {T : JTk} {Rc Rp : JNm} {fc fp : Nat → Int32} {w : JW} {n x : Nat} {er : JEr} {m : Nat} (h : jMI T Rc Rp fc fp w n x er m) : jF MX11_isOk 0 [jR 41 false] w (jI 1) w := by
  have := m_isOk w
  rwa [if_pos h.1.2.2] at this
theorem m_no {w : JW} (h : ¬ w.1 41 false 15 = -1) : jF MX11_isOk 0 [jR 41 false] w (jI 0) w := by
  have := m_isOk w
  rwa [if_neg h] at this
theorem m_is0 {w : JW} (h : ¬ w.1 41 false 15 = -1) (a b : Int32) : jF MX11_is 1 [jR 41 false, jI a, jI b] w (jI 0) w := by
  refine jF_of jp_X11_is rfl (Nat.le_of_ble_eq_true rfl) (fun C hm => ?_)
  exact bk_X11_is_0 hm (m_no h) (by decide) (bk_X11_is_4 hm (fun _ => bk_X11_is_37 hm (bk_X11_is_38 hm rfl ⟨rfl, rfl⟩)) (fun z => absurd rfl z))
theorem m_is {T : JTk} {Rc Rp : JNm} {fc fp : Nat → Int32} {w : JW} {n x : Nat} {er : JEr} {m : Nat} (h : jMI T Rc Rp fc fp w n x er m) (a b : Int32) {c : Prop} [Decidable c] (hc : (w.1 43 false n = a ∧ w.1 44 false n = b) ↔ c) : jF MX11_is 1 [jR 41 false, jI a, jI b] w (jI (if c then 1 else 0)) w := by
  refine jF_of jp_X11_is rfl (Nat.le_of_ble_eq_true rfl) (fun C hm => ?_)
  have hl := h.le
  have v : vp_in (w.1 41 false 13) 402 := by rw [h.1.1.1]; exact vp_in_nI (by omega) (by omega)
  have e : (w.1 41 false 13).toNatClampNeg = n := by rw [h.1.1.1, nI_clamp (by omega)]
  refine bk_X11_is_0 hm (m_ok h) (by decide) (bk_X11_is_4 hm (fun z => absurd z (by decide)) (fun _ => bk_X11_is_7 hm v (fun q => ?_) (fun q => bk_X11_is_20 hm v (fun q2 => ?_) (fun q2 => ?_))))
  · rw [e] at q
    exact bk_X11_is_37 hm (bk_X11_is_38 hm rfl ⟨by rw [if_neg (fun z => q (hc.mpr z).1)], rfl⟩)
  · rw [e] at q2
    exact bk_X11_is_37 hm (bk_X11_is_38 hm rfl ⟨by rw [if_neg (fun z => q2 (hc.mpr z).2)], rfl⟩)
  · rw [e] at q q2
    exact bk_X11_is_33 hm (bk_X11_is_38 hm rfl ⟨by rw [if_pos (hc.mp ⟨q, q2⟩)], rfl⟩)
theorem m_isK {T : JTk} {Rc Rp : JNm} {fc fp : Nat → Int32} {w : JW} {n x : Nat} {er : JEr} {m : Nat} (h : jMI T Rc Rp fc fp w n x er m) (k : Int32) (hk : 0 ≤ k ∧ k ≤ 29) : jF MX11_is 1 [jR 41 false, jI 2, jI k] w (jI (if T.1 n = k then 1 else 0)) w := m_is h 2 k (jkv_key h.tok hk)
theorem m_isS {T : JTk} {Rc Rp : JNm} {fc fp : Nat → Int32} {w : JW} {n x : Nat} {er : JEr} {m : Nat} (h : jMI T Rc Rp fc fp w n x er m) (k : Int32) (hk : 32 ≤ k ∧ k ≤ 46) {v : Int32} (hv : v = jsy k) : jF MX11_is 1 [jR 41 false, jI 4, jI v] w (jI (if T.1 n = k then 1 else 0)) w := by
  subst hv
  exact m_is h 4 (jsy k) (jkv_sym h.tok hk)
/-- the reader has failed at token f; with how many nodes -/
def jFl (T : JTk) (w : JW) (n m f : Nat) (w2 : JW) : Prop := (w2.1 41 false 15 = nI f ∧ f ≤ T.2.2.2 ∧ T.2.2.2 ≤ 400) ∧ jYF w w2 ∧ ∃ m2, w2.1 53 (w.2.2 41 9) 12 = nI m2 ∧ m ≤ m2 ∧ m2 + n ≤ m + f + 1
theorem jFl.no {T : JTk} {w w2 : JW} {n m f : Nat} (h : jFl T w n m f w2) : ¬ w2.1 41 false 15 = -1 := by
  rw [h.1.1]
  intro q
  have a := nI_pos' (n := f) (by have := h.1.2; omega)
  rw [q] at a
  exact absurd a (by decide)
theorem m_fail0 {w : JW} (h : ¬ w.1 41 false 15 = -1) : jF MX11_fail 0 [jR 41 false] w jU w := by
  refine jF_of jp_X11_fail rfl (Nat.le_of_ble_eq_true rfl) (fun C hm => ?_)
  exact bk_X11_fail_0 hm (fun _ => bk_X11_fail_16 hm ⟨rfl, rfl⟩) (fun z => absurd z h)
theorem m_fail {T : JTk} {Rc Rp : JNm} {fc fp : Nat → Int32} {w : JW} {n x : Nat} {er : JEr} {m : Nat} (h : jMI T Rc Rp fc fp w n x er m) : jF MX11_fail 0 [jR 41 false] w jU (jset w 41 false 15 (nI n)) ∧ jFl T w n m n (jset w 41 false 15 (nI n)) := by
  refine ⟨?_, ⟨jset_at, h.le.1, h.le.2.1⟩, (jMF_set (by decide)).YF, m, ?_, Nat.le_refl m, by omega⟩
  · refine jF_of jp_X11_fail rfl (Nat.le_of_ble_eq_true rfl) (fun C hm => ?_)
    refine bk_X11_fail_0 hm (fun z => absurd h.1.2.2 z) (fun _ => bk_X11_fail_8 hm (bk_X11_fail_16 hm ⟨rfl, by rw [h.1.1.1]⟩))
  · rw [jset_bk (by decide)]
    exact h.2.2.2.1.1
theorem m_take0 {w : JW} (h : ¬ w.1 41 false 15 = -1) (a b : Int32) : jF MX11_take 2 [jR 41 false, jI a, jI b] w jU w := by
  refine jF_of jp_X11_take rfl (Nat.le_of_ble_eq_true rfl) (fun C hm => ?_)
  exact bk_X11_take_0 hm (m_is0 h a b) (by decide) (bk_X11_take_6 hm (fun _ => bk_X11_take_22 hm (m_fail0 h) (by decide) (bk_X11_take_26 hm ⟨rfl, rfl⟩)) (fun z => absurd rfl z))
theorem m_take {T : JTk} {Rc Rp : JNm} {fc fp : Nat → Int32} {w : JW} {n x : Nat} {er : JEr} {m : Nat} (h : jMI T Rc Rp fc fp w n x er m) {a b k : Int32} (his : jF MX11_is 1 [jR 41 false, jI a, jI b] w (jI (if T.1 n = k then 1 else 0)) w) (h1 : k ≠ 47) (h2 : k ≠ 48) :
    jSV MX11_take 2 [jR 41 false, jI a, jI b] w (fun w2 => (T.1 n = k ∧ jMI T Rc Rp fc fp w2 (n + 1) x er m ∧ jMF w w2) ∨ (¬ T.1 n = k ∧ jFl T w n m n w2)) := by
  refine jSV_of jp_X11_take rfl (Nat.le_of_ble_eq_true rfl) (fun C hm => ?_)
  refine bk_X11_take_0 hm his (by decide) ?_
  by_cases z : T.1 n = k
  · rw [if_pos z]
    exact bk_X11_take_6 hm (fun z => absurd z (by decide)) (fun _ => bk_X11_take_9 hm (bk_X11_take_26 hm ⟨rfl, Or.inl ⟨z, h.next (h.lt (by rw [z]; exact h1) (by rw [z]; exact h2)), jMF_set (by decide)⟩⟩))
  · rw [if_neg z]
    exact bk_X11_take_6 hm (fun _ => bk_X11_take_22 hm (m_fail h).1 (by decide) (bk_X11_take_26 hm ⟨rfl, Or.inr ⟨z, (m_fail h).2⟩⟩)) (fun z => absurd rfl z)
theorem m_deeper {T : JTk} {Rc Rp : JNm} {fc fp : Nat → Int32} {w : JW} {n x : Nat} {er : JEr} {m : Nat} (h : jMI T Rc Rp fc fp w n x er m) (hx : x ≤ 8) :
    jSV MX11_deeper 1 [jR 41 false] w (fun w2 => (x < 8 ∧ jMI T Rc Rp fc fp w2 n (x + 1) er m ∧ jMF w w2) ∨ (x = 8 ∧ jFl T w (n + 1) m n w2)) := by
  refine jSV_of jp_X11_deeper rfl (Nat.le_of_ble_eq_true rfl) (fun C hm => ?_)
  refine bk_X11_deeper_0 hm (fun q => bk_X11_deeper_13 hm ⟨rfl, Or.inl ⟨?_, ?_, jMF_set (by decide)⟩⟩) (fun q => bk_X11_deeper_9 hm (m_fail h).1 (by decide) (bk_X11_deeper_13 hm ⟨rfl, Or.inr ⟨?_, ?_⟩⟩))
  · rw [h.1.2.1] at q
    have : ¬ x = 8 := fun z => q (by rw [z]; rfl)
    omega
  · refine h.of (jMF_set (by decide)).YF ?_ h.1.1.2 ?_ ?_ ?_ h.2.1.2.1 (fun q => ?_) ?_ h.2.2.2.1.2 (fun z => z)
    · rw [jset_bj (by decide)]; exact h.1.1.1
    · rw [jset_at, h.1.2.1, nI_1]
    · rw [jset_bj (by decide)]; exact h.1.2.2
    · rw [jset_bj (by decide)]; exact h.2.1.1
    · rw [jset_bj (by decide)]; exact h.2.1.2.2 q
    · rw [jset_bk (by decide)]; exact h.2.2.2.1.1
  · rw [h.1.2.1] at q
    exact (nI_eq (b := 8) (by omega) (by omega)).mp q
  · have hf := (m_fail h).2
    refine ⟨⟨?_, hf.1.2⟩, hf.2.1.trans (jMF_set (by decide)).YF, ?_⟩
    · rw [jset_bj (by decide)]; exact hf.1.1
    · obtain ⟨m2, q1, q2⟩ := hf.2.2
      have hm2 : w.1 53 (w.2.2 41 9) 12 = nI m := h.2.2.2.1.1
      refine ⟨m, ?_, Nat.le_refl m, by omega⟩
      rw [jset_bk (by decide), jset_bk (by decide)]
      exact hm2
theorem m_tell {T : JTk} {Rc Rp : JNm} {fc fp : Nat → Int32} {w : JW} {n x : Nat} {er : JEr} {m : Nat} (h : jMI T Rc Rp fc fp w n x er m) {c t : Nat} (hc : c ≤ 5 ∧ ¬ c = 0) (ht : t < n) (hb : ¬ er.1 = 0 → er.2 < t ∨ (er.2 = t ∧ er.1 ≤ c)) :
    jSV MX11_tell 0 [jR 41 false, jI (nI c), jI (nI t)] w (fun w2 => jMI T Rc Rp fc fp w2 n x (jbl er c t) m ∧ jMF w w2) := by
  refine jSV_of jp_X11_tell rfl (Nat.le_of_ble_eq_true rfl) (fun C hm => ?_)
  have h5 := h.2.1.2.1
  have hl := h.le
  have keep : ¬ er.1 = 0 → jMI T Rc Rp fc fp w n x (jbl er c t) m ∧ jMF w w := fun z => by
    rw [jbl_keep z]
    exact ⟨h, jMF.refl w⟩
  refine bk_X11_tell_0 hm (fun q => bk_X11_tell_24 hm ⟨rfl, ?_, (jMF_set (by decide)).trans (jMF_set (by decide))⟩) (fun q => ?_)
  · have z : er.1 = 0 := (nI_eq (b := 0) (by omega) (by omega)).mp (h.2.1.1.symm.trans q)
    rw [show jbl er c t = (c, t) from if_pos z]
    refine h.of ((jMF_set (by decide)).trans (jMF_set (by decide))).YF ?_ h.1.1.2 ?_ ?_ ?_ hc.1 (fun _ => ⟨?_, ht⟩) ?_ h.2.2.2.1.2 (fun _ => z)
    · rw [jset_bj (by decide), jset_bj (by decide)]; exact h.1.1.1
    · rw [jset_bj (by decide), jset_bj (by decide)]; exact h.1.2.1
    · rw [jset_bj (by decide), jset_bj (by decide)]; exact h.1.2.2
    · rw [jset_bj (by decide), jset_at]
    · rw [jset_at]
    · rw [jset_bk (by decide), jset_bk (by decide)]; exact h.2.2.2.1.1
  · have z : ¬ er.1 = 0 := fun z => q (by rw [h.2.1.1, z]; rfl)
    obtain ⟨a, b⟩ := h.2.1.2.2 z
    refine bk_X11_tell_7 hm (fun q2 => bk_X11_tell_23 hm ⟨rfl, keep z⟩) (fun q2 => bk_X11_tell_15 hm (fun q3 => ?_) (fun q3 => bk_X11_tell_23 hm ⟨rfl, keep z⟩))
    exfalso
    rw [a] at q2
    rw [h.2.1.1] at q3
    have e := (nI_eq (by omega) (by omega)).mp q2
    have l := (nI_ltI (by omega) (by omega)).mp q3
    rcases hb z with k | k <;> omega
/-- an error at the token where the reader stands, which it leaves at once -/
theorem m_tellAt {T : JTk} {Rc Rp : JNm} {fc fp : Nat → Int32} {w : JW} {n x : Nat} {er : JEr} {m : Nat} (h : jMI T Rc Rp fc fp w n x er m) (hn : n < T.2.2.2) {c : Nat} (hc : c ≤ 5 ∧ ¬ c = 0) {y : Int32} (hy : y = nI n) :
    jSV MX11_tell 0 [jR 41 false, jI (nI c), jI y] w (fun w2 => jMI T Rc Rp fc fp (jset w2 41 false 13 (w2.1 41 false 13 + 1)) (n + 1) x (jbl er c n) m ∧ jMF w w2 ∧ w2.1 41 false 13 = nI n) := by
  subst hy
  refine jSV_of jp_X11_tell rfl (Nat.le_of_ble_eq_true rfl) (fun C hm => ?_)
  have h5 := h.2.1.2.1
  have hl := h.le
  have keep : ¬ er.1 = 0 → jMI T Rc Rp fc fp (jset w 41 false 13 (w.1 41 false 13 + 1)) (n + 1) x (jbl er c n) m ∧ jMF w w ∧ w.1 41 false 13 = nI n := fun z => by
    rw [jbl_keep z]
    exact ⟨h.next hn, jMF.refl w, h.1.1.1⟩
  refine bk_X11_tell_0 hm (fun q => bk_X11_tell_24 hm ⟨rfl, ?_, (jMF_set (by decide)).trans (jMF_set (by decide)), ?_⟩) (fun q => ?_)
  · have z : er.1 = 0 := (nI_eq (b := 0) (by omega) (by omega)).mp (h.2.1.1.symm.trans q)
    rw [show jbl er c n = (c, n) from if_pos z]
    refine h.of (((jMF_set (by decide)).trans (jMF_set (by decide))).trans (jMF_set (by decide))).YF ?_ hn ?_ ?_ ?_ hc.1 (fun _ => ⟨?_, Nat.lt_succ_self n⟩) ?_ (by omega) (fun _ => z)
    · rw [jset_at, jset_bj (by decide), jset_bj (by decide), h.1.1.1, nI_1]
    · rw [jset_bj (by decide), jset_bj (by decide), jset_bj (by decide)]; exact h.1.2.1
    · rw [jset_bj (by decide), jset_bj (by decide), jset_bj (by decide)]; exact h.1.2.2
    · rw [jset_bj (by decide), jset_bj (by decide), jset_at]
    · rw [jset_bj (by decide), jset_at]
    · rw [jset_bk (by decide), jset_bk (by decide), jset_bk (by decide)]; exact h.2.2.2.1.1
  · rw [jset_bj (by decide), jset_bj (by decide)]; exact h.1.1.1
  · have z : ¬ er.1 = 0 := fun z => q (by rw [h.2.1.1, z]; rfl)
    obtain ⟨a, b⟩ := h.2.1.2.2 z
    refine bk_X11_tell_7 hm (fun q2 => bk_X11_tell_23 hm ⟨rfl, keep z⟩) (fun q2 => bk_X11_tell_15 hm (fun q3 => ?_) (fun q3 => bk_X11_tell_23 hm ⟨rfl, keep z⟩))
    exfalso
    rw [a] at q2
    have e := (nI_eq (by omega) (by omega)).mp q2
    omega
theorem m_name0 {w : JW} (h : ¬ w.1 41 false 15 = -1) : jF MX11_name 1 [jR 41 false] w (jI 0) w := by
  refine jF_of jp_X11_name rfl (Nat.le_of_ble_eq_true rfl) (fun C hm => ?_)
  exact bk_X11_name_0 hm (m_no h) (by decide) (bk_X11_name_4 hm (fun _ => bk_X11_name_37 hm (m_fail0 h) (by decide) (bk_X11_name_41 hm ⟨rfl, rfl⟩)) (fun z => absurd rfl z))
theorem m_name {T : JTk} {Rc Rp : JNm} {fc fp : Nat → Int32} {w : JW} {n x : Nat} {er : JEr} {m : Nat} (h : jMI T Rc Rp fc fp w n x er m) :
    jSI MX11_name 1 [jR 41 false] w (fun r w2 => (T.1 n = 30 ∧ r = nI n ∧ jMI T Rc Rp fc fp w2 (n + 1) x er m ∧ jMF w w2) ∨ (¬ T.1 n = 30 ∧ r = 0 ∧ jFl T w n m n w2)) := by
  refine jSI_of jp_X11_name rfl (Nat.le_of_ble_eq_true rfl) (fun C hm => ?_)
  have hl := h.le
  have v : vp_in (w.1 41 false 13) 402 := by rw [h.1.1.1]; exact vp_in_nI (by omega) (by omega)
  have e : (w.1 41 false 13).toNatClampNeg = n := by rw [h.1.1.1, nI_clamp (by omega)]
  refine bk_X11_name_0 hm (m_ok h) (by decide) (bk_X11_name_4 hm (fun z => absurd z (by decide)) (fun _ => bk_X11_name_7 hm v (fun q => ?_) (fun q => ?_)))
  · rw [e] at q
    exact bk_X11_name_37 hm (m_fail h).1 (by decide) (bk_X11_name_41 hm ⟨0, rfl, Or.inr ⟨fun z => q ((jkv_name h.tok).mpr z), rfl, (m_fail h).2⟩⟩)
  · rw [e] at q
    have k := (jkv_name h.tok).mp q
    refine bk_X11_name_20 hm ⟨_, rfl, Or.inl ⟨k, ?_, h.next (h.lt (by rw [k]; decide) (by rw [k]; decide)), jMF_set (by decide)⟩⟩
    rw [jset_at, h.1.1.1, nI_1, nI_pred]
theorem m_isSame {T : JTk} {w : JW} (hT : jMTK T w) {i j : Nat} (hi : i < T.2.2.2) (hj : j < T.2.2.2) (ki : T.1 i = 30) (kj : T.1 j = 30) : jF MX11_isSame 0 [jR 41 false, jI (nI i), jI (nI j)] w (jI (if T.2.2.1 i j = true then 1 else 0)) w := by
  refine jF_of jp_X11_isSame rfl (Nat.le_of_ble_eq_true rfl) (fun C hm => ?_)
  have h400 := hT.1
  obtain ⟨a, b, z, y, ea, eb, ez, ey, haz, hby, hs⟩ := hT.2.2.2 i j hi hj ki kj
  have vi : vp_in (nI i) 402 := vp_in_nI (by omega) (by omega)
  have vj : vp_in (nI j) 402 := vp_in_nI (by omega) (by omega)
  have ci : (nI i).toNatClampNeg = i := nI_clamp (by omega)
  have cj : (nI j).toNatClampNeg = j := nI_clamp (by omega)
  refine bk_X11_isSame_0 hm vi vj (fun q => bk_X11_isSame_17 hm ?_) (fun q => bk_X11_isSame_15 hm ⟨?_, rfl⟩)
  · rw [ci, cj, ez, ey] at q
    have ezy : z = y := (nI_eq (by omega) (by omega)).mp q
    subst ezy
    have key := jfor (P := fun k => k ≤ z → (∀ l, l < k → w.1 42 false (a + l) = w.1 42 false (b + l)) → jW C 0 0 (jQQ C 0 0 (fun v w' => v = jI (if T.2.2.1 i j = true then 1 else 0) ∧ w' = w)) 19 [jR 41 false, jI (nI i), jI (nI j), jI (nI k)] [] w) z ?_ ?_
    · exact key (Nat.zero_le _) (fun l h => absurd h (Nat.not_lt_zero l))
    · intro _ hl
      refine bk_X11_isSame_19 hm vi (fun _ => bk_X11_isSame_66 hm ⟨by rw [if_pos (hs.mpr ⟨rfl, hl⟩)], rfl⟩) (fun h => ?_)
      rw [ci, ez] at h
      exact absurd ((nI_leI (by omega) (by omega)).mpr (Nat.le_refl z)) h
    · intro k hk ih _ hl
      refine bk_X11_isSame_19 hm vi (fun h => ?_) (fun _ => bk_X11_isSame_29 hm vi ?_ vj ?_ (fun q => bk_X11_isSame_60 hm ?_) (fun q => bk_X11_isSame_58 hm ⟨?_, rfl⟩))
      · rw [ci, ez] at h
        exact absurd ((nI_leI (by omega) (by omega)).mp h) (by omega)
      · rw [ci, ea, nI_add]
        exact vp_in_nI (by omega) (by omega)
      · rw [cj, eb, nI_add]
        exact vp_in_nI (by omega) (by omega)
      · rw [ci, cj, ea, eb, nI_add, nI_add, nI_clamp (by omega), nI_clamp (by omega)] at q
        rw [nI_1]
        refine ih (by omega) (fun l hl2 => ?_)
        by_cases e : l = k
        · rw [e]; exact q
        · exact hl l (by omega)
      · rw [ci, cj, ea, eb, nI_add, nI_add, nI_clamp (by omega), nI_clamp (by omega)] at q
        rw [if_neg (fun t => q ((hs.mp t).2 k hk))]
  · rw [ci, cj, ez, ey] at q
    rw [if_neg (fun t => q (by rw [(hs.mp t).1]))]
theorem m_find {T : JTk} {w : JW} (hT : jMTK T w) {k l : Nat} (hA : jIA k false l) {N : JNm} (hN : jNM N w k) (hNt : jNMt T N) (hl : N.2 ≤ l) {t : Nat} (ht : t < T.2.2.2) (h30 : T.1 t = 30) : jF MX11_find 1 [jR 41 false, jR k false, jI (nI N.2), jI (nI t)] w (jI (jnum T N t)) w := by
  refine jF_of jp_X11_find rfl (Nat.le_of_ble_eq_true rfl) (fun C hm => ?_)
  have hl2 := hA.2.1
  have h400 := hT.1
  have key := jfor (P := fun i => i ≤ N.2 → (∀ j, j < i → T.2.2.1 (N.1 j) t = false) → jW C 0 0 (jQQ C 0 0 (fun v w' => v = jI (jnum T N t) ∧ w' = w)) 3 [jR 41 false, jR k false, jI (nI N.2), jI (nI t), jI (nI i)] [] w) N.2 ?_ ?_
  · exact bk_X11_find_0 hm (key (Nat.zero_le _) (fun j h => absurd h (Nat.not_lt_zero j)))
  · intro _ hb
    refine bk_X11_find_3 hm (fun _ => bk_X11_find_30 hm ⟨?_, rfl⟩) (fun h => absurd ((nI_leI (by omega) (by omega)).mpr (Nat.le_refl _)) h)
    unfold jnum jfd
    rw [jfst_no hb, if_neg (Nat.lt_irrefl _)]
  · intro i hi ih _ hb
    obtain ⟨n1, n2⟩ := hNt i hi
    have ec : (nI i).toNatClampNeg = i := nI_clamp (by omega)
    refine bk_X11_find_3 hm (fun h => absurd ((nI_leI (by omega) (by omega)).mp h) (by omega)) (fun _ => bk_X11_find_9 hm (r := if T.2.2.1 (N.1 i) t = true then 1 else 0) (w2 := w) hA (vp_in_nI (by omega) hl2) (by rw [ec, hN i hi]; exact m_isSame hT n1 ht n2 h30) (by decide) ?_)
    by_cases z : T.2.2.1 (N.1 i) t = true
    · rw [if_pos z]
      refine bk_X11_find_18 hm (fun q => absurd q (by decide)) (fun _ => bk_X11_find_21 hm ⟨?_, rfl⟩)
      unfold jnum jfd
      rw [jfst_is hi z hb, if_pos hi]
    · rw [if_neg z]
      refine bk_X11_find_18 hm (fun _ => bk_X11_find_24 hm ?_) (fun q => absurd rfl q)
      rw [nI_1]
      refine ih (by omega) (fun j hj => ?_)
      by_cases e : j = i
      · subst e
        simpa using z
      · exact hb j (by omega)
