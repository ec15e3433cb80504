/-! the class reads sums and tests -/
/-- the steps from s to s2 put V's worth on the stack -/
def jCd (w : JW) (s s2 : Nat) (V : (Nat → Int32) → Int32) : Prop := ∀ (R : Nat → Int32) (S : List Int32), jrunS (w.1 39 (w.2.2 7 4)) (w.1 40 (w.2.2 7 4)) (jrd R) (s2 - s) s S = some (V R :: S)
theorem jCd.kept {w w2 : JW} {s s2 : Nat} {V : (Nat → Int32) → Int32} (h : jCd w s s2 V) (hf : w2.2 = w.2) {s3 : Nat} (hk : jKp w w2 s3) (h2 : s2 ≤ s3) : jCd w2 s s2 V := by
  intro R S
  have e : w2.2.2 7 4 = w.2.2 7 4 := by rw [hf]
  rw [← h R S, e]
  exact jrunS_cong _ _ _ (fun j h3 h4 => hk j (by omega))
theorem jCd.un {w : JW} {s s2 : Nat} {V : (Nat → Int32) → Int32} (h : jCd w s s2 V) (hs : s ≤ s2) {g : Int32 → Int32} (h1 : ∀ (R : Nat → Int32) (x : Int32) (S : List Int32), jop1 (jrd R) (w.1 39 (w.2.2 7 4) s2) (w.1 40 (w.2.2 7 4) s2) (x :: S) = some (g x :: S)) : jCd w s (s2 + 1) (fun R => g (V R)) := by
  intro R S
  rw [show s2 + 1 - s = (s2 - s) + 1 by omega, jrunS_add 1 _ _ _ _ (h R S), show s + (s2 - s) = s2 by omega, jrunS, h1 R]
  rfl
theorem jCd.two {w : JW} {s s2 s3 : Nat} {V U : (Nat → Int32) → Int32} (h : jCd w s s2 V) (h2 : jCd w s2 s3 U) (hs : s ≤ s2) (hs2 : s2 ≤ s3) {o : Int32} (ho : w.1 39 (w.2.2 7 4) s3 = o) (hb : ¬ o = 49 ∧ ¬ o = 25 ∧ ¬ (o = 31 ∨ (18 ≤ o ∧ o ≤ 24))) : jCd w s (s3 + 1) (fun R => jjn o (V R) (U R)) := by
  intro R S
  rw [show s3 + 1 - s = (s2 - s) + ((s3 - s2) + 1) by omega, jrunS_add _ _ _ _ _ (h R S), show s + (s2 - s) = s2 by omega, jrunS_add 1 _ _ _ _ (h2 R _), show s2 + (s3 - s2) = s3 by omega, jrunS, ho]
  unfold jop1
  rw [if_neg hb.1, if_neg hb.2.1, if_neg hb.2.2]
  rfl
theorem jCd_leaf {w : JW} {s : Nat} {o x : Int32} (ho : w.1 39 (w.2.2 7 4) s = o) (hx : w.1 40 (w.2.2 7 4) s = x) (h : o = 31 ∨ (18 ≤ o ∧ o ≤ 24)) (h1 : ¬ o = 49) (h2 : ¬ o = 25) : jCd w s (s + 1) (fun R => jrd R o x) := by
  intro R S
  rw [show s + 1 - s = 0 + 1 by omega, jrunS, ho, hx]
  unfold jop1
  rw [if_neg h1, if_neg h2, if_pos h]
  rfl
/-- how reading a piece of a test ends -/
def jEPs (T : JTk) (Nc Np : JNm) (w : JW) (n : Nat) (er : JEr) (s : Nat) (q : Nat × (JEr × ((Nat → Int32) → Int32))) (w2 : JW) : Prop :=
  jCI T Nc Np w2 q.1 q.2.1 ∧ jEF w w2 ∧ n ≤ q.1 ∧ ∃ s2, jSt w2 s2 ∧ s ≤ s2 ∧ s2 + n ≤ s + q.1 ∧ jKp w w2 s ∧ (q.2.1.1 = 0 → er.1 = 0 ∧ jCd w2 s s2 q.2.2)
def jEP (T : JTk) (Nc Np : JNm) (w : JW) (n : Nat) (er : JEr) (s : Nat) (res : JXR) (r : Int32) (w2 : JW) : Prop := match res with
  | .inl f => r = 0 ∧ w2.1 7 false 5 = nI f ∧ jEF w w2
  | .inr q => r = 1 ∧ jEPs T Nc Np w n er s q w2
/-- the contract of a reading method -/
def jXC (M : JM) (d x : Nat) (T : JTk) (Nc Np : JNm) (p : JEx) : Prop := ∀ (w : JW) (n : Nat) (er : JEr) (s : Nat), jCI T Nc Np w n er → jSt w s → s ≤ n → jSI M d [jR 7 false, jI (nI x)] w (jEP T Nc Np w n er s (p n er))
/-- nothing but the reader's numbers has changed ahead of it -/
theorem jEPs.pre {T : JTk} {Nc Np : JNm} {w w1 w2 : JW} {n n1 : Nat} {er er1 : JEr} {s : Nat} {q : Nat × (JEr × ((Nat → Int32) → Int32))} (hf : jNF w w1) (hn : n ≤ n1) (he : er1.1 = 0 → er.1 = 0) (h : jEPs T Nc Np w1 n1 er1 s q w2) : jEPs T Nc Np w n er s q w2 := by
  obtain ⟨h1, h2, h3, s2, h4, h5, h6, h7, h8⟩ := h
  exact ⟨h1, hf.EF.trans h2, by omega, s2, h4, h5, by omega, (hf.KpF s).trans h7 hf.1 (Nat.le_refl _), fun z => ⟨he (h8 z).1, (h8 z).2⟩⟩
theorem jEPs.post {T : JTk} {Nc Np : JNm} {w w1 w2 : JW} {n n2 : Nat} {er : JEr} {s : Nat} {q : Nat × (JEr × ((Nat → Int32) → Int32))} (h : jEPs T Nc Np w n er s q w1) (hf : jNF w1 w2) (hn : q.1 ≤ n2) (hc : jCI T Nc Np w2 n2 q.2.1) : jEPs T Nc Np w n er s (n2, q.2) w2 := by
  obtain ⟨h1, h2, h3, s2, h4, h5, h6, h7, h8⟩ := h
  exact ⟨hc, h2.trans hf.EF, Nat.le_trans h3 hn, s2, hf.St h4, h5, Nat.le_trans h6 (by show _ ≤ s + n2; omega), h7.trans (hf.KpF s) h2.1 (Nat.le_refl _), fun z => ⟨(h8 z).1, (h8 z).2.kept hf.1 (hf.KpF s2) (Nat.le_refl _)⟩⟩
/-- a step behind one piece -/
theorem jEPs.un {T : JTk} {Nc Np : JNm} {w w1 w2 : JW} {n n1 : Nat} {er : JEr} {s : Nat} {q : Nat × (JEr × ((Nat → Int32) → Int32))} {a b : Int32} {g : Int32 → Int32} (h : jEPs T Nc Np w n1 er s q w1) (hsn : s ≤ n1) (hn : n < n1) (hg : ∀ (R : Nat → Int32) (x y : Int32) (S : List Int32), jop1 (jrd R) a y (x :: S) = some (g x :: S)) {s2 : Nat} (hs : jSt w1 s2) (hs2 : s2 < 2 ^ 31) (h2 : jEm T Nc Np w1 q.1 q.2.1 s2 a b w2) : jEPs T Nc Np w n er s (q.1, q.2.1, fun R => g (q.2.2 R)) w2 := by
  obtain ⟨h1, h2f, h3, s3, h4, h5, h6, h7, h8⟩ := h
  obtain ⟨k1, k2, k3, k4, k5⟩ := h2
  have hle : q.1 ≤ 400 := h1.le
  have e : s3 = s2 := by
    unfold jSt at h4 hs
    rw [h4] at hs
    exact (nI_eq (by omega) hs2).mp hs
  subst e
  have eo : w2.2.2 7 4 = w1.2.2 7 4 := by rw [k2.1]
  by_cases z : q.2.1.1 = 0
  · obtain ⟨m1, m2, m3⟩ := k5 z
    refine ⟨k1, h2f.trans k2, by show n ≤ q.1; omega, s3 + 1, m1, by omega, by show s3 + 1 + n ≤ s + q.1; omega, h7.trans k3 h2f.1 h5, fun _ => ⟨(h8 z).1, ?_⟩⟩
    refine ((h8 z).2.kept k2.1 k3 (Nat.le_refl _)).un h5 (fun R x S => ?_)
    rw [eo, m2]
    exact hg R x _ S
  · exact ⟨k1, h2f.trans k2, by show n ≤ q.1; omega, s3, k4 z, h5, by show s3 + n ≤ s + q.1; omega, h7.trans k3 h2f.1 h5, fun q0 => absurd q0 z⟩
/-- a second piece, and the sign behind both -/
theorem jEPs.two {T : JTk} {Nc Np : JNm} {w w1 w2 w3 : JW} {n n0 n1 : Nat} {er : JEr} {s s1 : Nat} {q p : Nat × (JEr × ((Nat → Int32) → Int32))} {a b : Int32} (h : jEPs T Nc Np w n0 er s q w1) (hsn : s ≤ n0) (hs1 : jSt w1 s1) (hs31 : s1 < 2 ^ 31) (hn0 : n ≤ n0) (hn1 : q.1 ≤ n1) (hn : n + q.1 < n0 + n1) (h2 : jEPs T Nc Np w1 n1 q.2.1 s1 p w2) (ha : ¬ a = 49 ∧ ¬ a = 25 ∧ ¬ (a = 31 ∨ (18 ≤ a ∧ a ≤ 24))) {s2 : Nat} (hs2 : jSt w2 s2) (hs32 : s2 < 2 ^ 31) (h3 : jEm T Nc Np w2 p.1 p.2.1 s2 a b w3) : jEPs T Nc Np w n er s (p.1, p.2.1, fun R => jjn a (q.2.2 R) (p.2.2 R)) w3 := by
  obtain ⟨g1, g2, g3, t1, g4, g5, g6, g7, g8⟩ := h
  obtain ⟨f1, f2, f3, t2, f4, f5, f6, f7, f8⟩ := h2
  obtain ⟨k1, k2, k3, k4, k5⟩ := h3
  have hl1 : q.1 ≤ 400 := g1.le
  have hl2 : p.1 ≤ 400 := f1.le
  have e1 : t1 = s1 := by
    unfold jSt at g4 hs1
    rw [g4] at hs1
    exact (nI_eq (by omega) hs31).mp hs1
  subst e1
  have e2 : t2 = s2 := by
    unfold jSt at f4 hs2
    rw [f4] at hs2
    exact (nI_eq (by omega) hs32).mp hs2
  subst e2
  have hf : jEF w w3 := (g2.trans f2).trans k2
  have hk : jKp w w3 s := (g7.trans f7 g2.1 g5).trans k3 (g2.trans f2).1 (by omega)
  have eo : w3.2.2 7 4 = w2.2.2 7 4 := by rw [k2.1]
  by_cases z : p.2.1.1 = 0
  · obtain ⟨m1, m2, m3⟩ := k5 z
    obtain ⟨z1, c2⟩ := f8 z
    obtain ⟨z0, c1⟩ := g8 z1
    refine ⟨k1, hf, by show n ≤ p.1; omega, t2 + 1, m1, by omega, by show t2 + 1 + n ≤ s + p.1; omega, hk, fun _ => ⟨z0, ?_⟩⟩
    refine ((c1.kept f2.1 f7 (Nat.le_refl _)).kept k2.1 k3 f5).two (c2.kept k2.1 k3 (Nat.le_refl _)) g5 f5 ?_ ha
    rw [eo, m2]
  · exact ⟨k1, hf, by show n ≤ p.1; omega, t2, k4 z, by omega, by show t2 + n ≤ s + p.1; omega, hk, fun q0 => absurd q0 z⟩
theorem jEPs.st {T : JTk} {Nc Np : JNm} {w w2 : JW} {n : Nat} {er : JEr} {s : Nat} {q : Nat × (JEr × ((Nat → Int32) → Int32))} (h : jEPs T Nc Np w n er s q w2) (hs : s ≤ n) : ∃ s2, jSt w2 s2 ∧ s2 ≤ q.1 ∧ q.1 ≤ 400 ∧ s2 + n ≤ s + q.1 := by
  obtain ⟨h1, h2, h3, s2, h4, h5, h6, h7, h8⟩ := h
  exact ⟨s2, h4, by omega, h1.le, h6⟩
theorem jEPs.start {T : JTk} {Nc Np : JNm} {w w2 : JW} {n n2 : Nat} {er er2 : JEr} {s : Nat} {a b : Int32} {V : (Nat → Int32) → Int32} (hn : n < n2) (he : er2.1 = 0 → er.1 = 0) (hV : V = fun R => jrd R a b) (h : a = 31 ∨ (18 ≤ a ∧ a ≤ 24)) (h1 : ¬ a = 49) (h2 : ¬ a = 25) (hc : jCI T Nc Np w2 n2 er2) (hf : jEF w w2) (hk : jKp w w2 s) (h3 : ¬ er2.1 = 0 → jSt w2 s) (h4 : er2.1 = 0 → jSt w2 (s + 1) ∧ w2.1 39 (w2.2.2 7 4) s = a ∧ w2.1 40 (w2.2.2 7 4) s = b) : jEPs T Nc Np w n er s (n2, er2, V) w2 := by
  subst hV
  by_cases z : er2.1 = 0
  · obtain ⟨m1, m2, m3⟩ := h4 z
    exact ⟨hc, hf, Nat.le_of_lt hn, s + 1, m1, by omega, by show s + 1 + n ≤ s + n2; omega, hk, fun _ => ⟨he z, jCd_leaf m2 m3 h h1 h2⟩⟩
  · exact ⟨hc, hf, Nat.le_of_lt hn, s, h3 z, Nat.le_refl _, by show s + n ≤ s + n2; omega, hk, fun q0 => absurd q0 z⟩
