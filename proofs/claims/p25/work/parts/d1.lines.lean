
/-! LINES that are right, at any token -/
abbrev kE0 : JEr := (0, 0)
theorem jpSq_r {p : JP} {ps : List JP} {n : Nat} {er : JEr} {q : Nat × JEr} (h : p n er = .inr q) : jpSq (p :: ps) n er = jpSq ps q.1 q.2 := by rw [jpSq, h]
theorem jpK_r {T : JTk} {k : Int32} {n : Nat} {er : JEr} (h : T.1 n = k) : jpK T k n er = .inr (n + 1, er) := if_pos h
theorem jpR_r {T : JTk} {a b : Int32} {n : Nat} {er : JEr} (h : T.1 n = 31) (h2 : a ≤ T.2.1 n ∧ T.2.1 n ≤ b) : jpR T a b n er = .inr (n + 1, er) := by
  unfold jpR
  rw [if_pos h, if_pos h2]
theorem jpO_r {T : JTk} {N : JNm} {n : Nat} {er : JEr} (h : T.1 n = 30) (h2 : ¬ jnum T N n < 0) : jpO T N n er = .inr (n + 1, er) := by
  unfold jpO
  rw [if_pos h, if_neg h2]
theorem jpF_r {T : JTk} {N : JNm} {m n : Nat} {er : JEr} (h : T.1 n = 30) (h2 : jnum T N n < 0) (h3 : N.2 < m) : jpF T N m n er = .inr (n + 1, er) := by
  unfold jpF
  rw [if_pos h, if_pos h2, if_pos h3]
theorem jpR_n {T : JTk} {a b : Int32} {n v x y : Nat} {er : JEr} (h : T.1 n = 31) (hv : T.2.1 n = nI v) (hr : x ≤ v ∧ v ≤ y) (hy : y < 1000) (ha : a = nI x) (hb : b = nI y) : jpR T a b n er = .inr (n + 1, er) := by
  refine jpR_r h ?_
  subst ha; subst hb
  rw [hv]
  exact ⟨nI_le hr.1 (by omega), nI_le hr.2 (by omega)⟩
theorem kl_cave {T : JTk} {L : JLn} {n m d : Nat} (h0 : T.1 n = 0) (h1 : T.1 (n + 1) = 30) (h2 : T.1 (n + 2) = 1) (h3 : T.1 (n + 3) = 31) (v3 : T.2.1 (n + 3) = nI m) (h4 : T.1 (n + 4) = 2) (h5 : T.1 (n + 5) = 31) (v5 : T.2.1 (n + 5) = nI d) (hm : 1 ≤ m ∧ m ≤ 9) (hd : 1 ≤ d ∧ d ≤ 9) (hnew : jnum T (jNc L) (n + 1) < 0) (hc : L.1.1 0 < 5) : jlLine T L n kE0 = .inr (n + 6, kE0, jaCave L (n + 1) (nI m) (nI d)) := by
  have e : jpSq [jpK T 0, jpF T (jNc L) 5, jpK T 1, jpR T 1 9, jpK T 2, jpR T 1 9] n kE0 = .inr (n + 6, kE0) := (jpSq_r (jpK_r h0)).trans ((jpSq_r (jpF_r h1 hnew hc)).trans ((jpSq_r (jpK_r h2)).trans ((jpSq_r (jpR_n h3 v3 hm (by decide) rfl rfl)).trans ((jpSq_r (jpK_r h4)).trans ((jpSq_r (jpR_n h5 v5 hd (by decide) rfl rfl)).trans (rfl))))))
  unfold jlLine
  rw [if_pos h0]
  unfold jlCave
  rw [e, v3, v5]
  rfl
theorem kl_pipe {T : JTk} {L : JLn} {n c l : Nat} (h0 : T.1 n = 3) (h1 : T.1 (n + 1) = 30) (h2 : T.1 (n + 2) = 4) (h3 : T.1 (n + 3) = 30) (h4 : T.1 (n + 4) = 5) (h5 : T.1 (n + 5) = 31) (v5 : T.2.1 (n + 5) = nI l) (hl : 1 ≤ l ∧ l ≤ 40) (hnew : jnum T (jNp L) (n + 1) < 0) (hc : L.1.1 1 < 12) (hold : ¬ jnum T (jNc L) (n + 3) < 0) (hfi : jfi T (jNc L) (n + 3) = c) (h6 : ¬ T.1 (n + 6) = 6) : jlLine T L n kE0 = .inr (n + 6, kE0, jaPipe L (n + 1) c l 0) := by
  have e : jpSq [jpK T 3, jpF T (jNp L) 12, jpK T 4, jpO T (jNc L), jpK T 5, jpR T 1 40] n kE0 = .inr (n + 6, kE0) := (jpSq_r (jpK_r h0)).trans ((jpSq_r (jpF_r h1 hnew hc)).trans ((jpSq_r (jpK_r h2)).trans ((jpSq_r (jpO_r h3 hold)).trans ((jpSq_r (jpK_r h4)).trans ((jpSq_r (jpR_n h5 v5 hl (by decide) rfl rfl)).trans (rfl))))))
  unfold jlLine
  rw [if_neg (by rw [h0]; decide), if_pos h0]
  unfold jlPipe
  rw [e]
  simp only [h6, if_false, hfi, v5]
  rw [nI_clamp (by omega)]
  rfl
theorem kl_reed {T : JTk} {L : JLn} {n c l : Nat} (h0 : T.1 n = 3) (h1 : T.1 (n + 1) = 30) (h2 : T.1 (n + 2) = 4) (h3 : T.1 (n + 3) = 30) (h4 : T.1 (n + 4) = 5) (h5 : T.1 (n + 5) = 31) (v5 : T.2.1 (n + 5) = nI l) (hl : 1 ≤ l ∧ l ≤ 40) (hnew : jnum T (jNp L) (n + 1) < 0) (hc : L.1.1 1 < 12) (hold : ¬ jnum T (jNc L) (n + 3) < 0) (hfi : jfi T (jNc L) (n + 3) = c) (h6 : T.1 (n + 6) = 6) : jlLine T L n kE0 = .inr (n + 7, kE0, jaPipe L (n + 1) c l 1) := by
  have e : jpSq [jpK T 3, jpF T (jNp L) 12, jpK T 4, jpO T (jNc L), jpK T 5, jpR T 1 40] n kE0 = .inr (n + 6, kE0) := (jpSq_r (jpK_r h0)).trans ((jpSq_r (jpF_r h1 hnew hc)).trans ((jpSq_r (jpK_r h2)).trans ((jpSq_r (jpO_r h3 hold)).trans ((jpSq_r (jpK_r h4)).trans ((jpSq_r (jpR_n h5 v5 hl (by decide) rfl rfl)).trans (rfl))))))
  unfold jlLine
  rw [if_neg (by rw [h0]; decide), if_pos h0]
  unfold jlPipe
  rw [e]
  simp only [h6, if_true, hfi, v5]
  rw [nI_clamp (by omega)]
theorem kl_swell {T : JTk} {L : JLn} {n a b c : Nat} (h0 : T.1 n = 7) (h1 : T.1 (n + 1) = 8) (h2 : T.1 (n + 2) = 31) (v2 : T.2.1 (n + 2) = nI a) (h3 : T.1 (n + 3) = 9) (h4 : T.1 (n + 4) = 31) (v4 : T.2.1 (n + 4) = nI b) (h5 : T.1 (n + 5) = 10) (h6 : T.1 (n + 6) = 31) (v6 : T.2.1 (n + 6) = nI c) (ha : 1 ≤ a ∧ a ≤ 30) (hb : 1 ≤ b ∧ b ≤ 24) (hc : c ≤ 99) (hn : L.1.1 3 < 5) : jlLine T L n kE0 = .inr (n + 7, kE0, jaSwell L (nI a) (nI b) (nI c)) := by
  have e : jpSq [jpK T 7, jpK T 8, jpR T 1 30, jpK T 9, jpR T 1 24, jpK T 10, jpR T 0 99] n kE0 = .inr (n + 7, kE0) := (jpSq_r (jpK_r h0)).trans ((jpSq_r (jpK_r h1)).trans ((jpSq_r (jpR_n h2 v2 ha (by decide) rfl rfl)).trans ((jpSq_r (jpK_r h3)).trans ((jpSq_r (jpR_n h4 v4 hb (by decide) rfl rfl)).trans ((jpSq_r (jpK_r h5)).trans ((jpSq_r (jpR_n h6 v6 ⟨Nat.zero_le c, hc⟩ (by decide) rfl rfl)).trans (rfl)))))))
  unfold jlLine
  rw [if_neg (by rw [h0]; decide), if_neg (by rw [h0]; decide), if_pos h0]
  unfold jlSwell
  rw [if_pos hn, e, v2, v4, v6]
  rfl
theorem kl_sil {T : JTk} {L : JLn} {n a b : Nat} (h0 : T.1 n = 11) (h1 : T.1 (n + 1) = 10) (h2 : T.1 (n + 2) = 31) (v2 : T.2.1 (n + 2) = nI a) (h3 : T.1 (n + 3) = 12) (h4 : T.1 (n + 4) = 31) (v4 : T.2.1 (n + 4) = nI b) (ha : a ≤ 23) (hb : b ≤ 23) (hn : L.1.1 4 < 3) : jlLine T L n kE0 = .inr (n + 5, kE0, jaSil L (nI a) (nI b)) := by
  have e : jpSq [jpK T 11, jpK T 10, jpR T 0 23, jpK T 12, jpR T 0 23] n kE0 = .inr (n + 5, kE0) := (jpSq_r (jpK_r h0)).trans ((jpSq_r (jpK_r h1)).trans ((jpSq_r (jpR_n h2 v2 ⟨Nat.zero_le a, ha⟩ (by decide) rfl rfl)).trans ((jpSq_r (jpK_r h3)).trans ((jpSq_r (jpR_n h4 v4 ⟨Nat.zero_le b, hb⟩ (by decide) rfl rfl)).trans (rfl)))))
  unfold jlLine
  rw [if_neg (by rw [h0]; decide), if_neg (by rw [h0]; decide), if_neg (by rw [h0]; decide), if_pos h0]
  unfold jlSil
  rw [if_pos hn, e, v2, v4]
  rfl
theorem kc_more {T : JTk} {N : JNm} {k n i : Nat} {c : JCh} (h : T.1 n = 30) (hi : jfi T N n = i) (hN : i < N.2) (h6 : c.1 < 6) (hh : jhas c i = false) : jcMore T N (k + 1) n kE0 c = jcMore T N k (n + 1) kE0 (c.1 + 1, updn c.2 c.1 i) := by
  have e : jcEr T N c n kE0 = kE0 := by
    unfold jcEr
    rw [hi, if_neg (by omega), if_neg (by omega), if_neg (by rw [hh]; decide)]
  have e2 : jcTo T N c n kE0 = (c.1 + 1, updn c.2 c.1 i) := by
    unfold jcTo
    rw [hi, if_pos rfl]
  rw [jcMore, if_pos h, e, e2]
theorem kc_end {T : JTk} {N : JNm} {k n : Nat} {c : JCh} (h : ¬ T.1 n = 30) : jcMore T N (k + 1) n kE0 c = (n, kE0, c) := by rw [jcMore, if_neg h]
theorem kl_chord {T : JTk} {L : JLn} {n m : Nat} {c : JCh} (h0 : T.1 n = 13) (h1 : T.1 (n + 1) = 30) (h2 : T.1 (n + 2) = 14) (h3 : T.1 (n + 3) = 30) (h4 : T.1 (n + 4) = 30) (hnew : jnum T (jNh L) (n + 1) < 0) (hc : L.1.1 2 < 6) (hr : jcMore T (jNp L) 402 (n + 3) kE0 (0, fun _ => 0) = (m, kE0, c)) : jlLine T L n kE0 = .inr (m, kE0, jaChord L (n + 1) c.1 c.2) := by
  have e : jpSq [jpK T 13, jpF T (jNh L) 6, jpK T 14] n kE0 = .inr (n + 3, kE0) := (jpSq_r (jpK_r h0)).trans ((jpSq_r (jpF_r h1 hnew hc)).trans ((jpSq_r (jpK_r h2)).trans (rfl)))
  unfold jlLine
  rw [if_neg (by rw [h0]; decide), if_neg (by rw [h0]; decide), if_neg (by rw [h0]; decide), if_neg (by rw [h0]; decide), if_pos h0]
  unfold jlChord
  rw [e]
  simp only [h3, h4, not_true, if_false, hr]
  rfl
/-! tests that read without a fault -/
def kR (p : JEx) (n m : Nat) : Prop := ∃ V, p n kE0 = .inr (m, kE0, V)
theorem kR_chain {T : JTk} {p : JEx} {o1 o2 : Int32} {n m : Nat} (h : kR p n m) (h1 : ¬ (T.1 m = o1 ∨ T.1 m = o2)) : kR (jxChain T p o1 o2) n m := by
  obtain ⟨V, h⟩ := h
  refine ⟨V, ?_⟩
  unfold jxChain
  rw [h]
  show jxLoop T p o1 o2 (399 + 1) m kE0 V = _
  rw [jxLoop, if_neg h1]
theorem kR_chain2 {T : JTk} {p : JEx} {o1 o2 : Int32} {n m q : Nat} (h : kR p n m) (h1 : T.1 m = o1 ∨ T.1 m = o2) (g : kR p (m + 1) q) (h2 : ¬ (T.1 q = o1 ∨ T.1 q = o2)) : kR (jxChain T p o1 o2) n q := by
  obtain ⟨V, h⟩ := h
  obtain ⟨W, g⟩ := g
  refine ⟨fun R => jjn (T.1 m) (V R) (W R), ?_⟩
  unfold jxChain
  rw [h]
  show jxLoop T p o1 o2 (398 + 1 + 1) m kE0 V = _
  rw [jxLoop, if_pos h1, g]
  show jxLoop T p o1 o2 (398 + 1) q kE0 _ = _
  rw [jxLoop, if_neg h2]
theorem kR_named {T : JTk} {s : Int32} {f : Nat → Int32} {n : Nat} (h : T.1 (n + 1) = 30) (hf : ¬ f (n + 1) < 0) : kR (jxNamed T s f) n (n + 2) := by
  unfold kR jxNamed
  rw [if_pos h, if_neg hf]
  exact ⟨_, rfl⟩
theorem kV_num {T : JTk} {fc fp : Nat → Int32} {r n : Nat} (h : T.1 n = 31) : kR (jxVal T fc fp r) n (n + 1) := by
  cases r with
  | zero => exact ⟨_, by rw [jxVal, jxValB, if_pos h]⟩
  | succ r => exact ⟨_, by rw [jxVal, jxValB, if_pos h]⟩
theorem kV_hour {T : JTk} {fc fp : Nat → Int32} {r n : Nat} (h : T.1 n = 18) : kR (jxVal T fc fp r) n (n + 1) := by
  cases r with
  | zero => exact ⟨_, by rw [jxVal, jxValB, if_neg (by rw [h]; decide), if_pos (Or.inl h)]⟩
  | succ r => exact ⟨_, by rw [jxVal, jxValB, if_neg (by rw [h]; decide), if_pos (Or.inl h)]⟩
theorem kV_pres {T : JTk} {fc fp : Nat → Int32} {r n : Nat} (h : T.1 n = 20) (h1 : T.1 (n + 1) = 30) (hf : ¬ fc (n + 1) < 0) : kR (jxVal T fc fp r) n (n + 2) := by
  have k := kR_named (T := T) (s := 20) (f := fc) h1 hf
  unfold kR at k ⊢
  cases r with
  | zero => rw [jxVal, jxValB, if_neg (by rw [h]; decide), if_neg (by rw [h]; decide), if_pos h]; exact k
  | succ r => rw [jxVal, jxValB, if_neg (by rw [h]; decide), if_neg (by rw [h]; decide), if_pos h]; exact k
theorem kV_pipe {T : JTk} {fc fp : Nat → Int32} {r n : Nat} (h : T.1 n = 21 ∨ T.1 n = 22) (h1 : T.1 (n + 1) = 30) (hf : ¬ fp (n + 1) < 0) : kR (jxVal T fc fp r) n (n + 2) := by
  have k := kR_named (T := T) (s := T.1 n) (f := fp) h1 hf
  unfold kR at k ⊢
  have e1 : ¬ T.1 n = 31 := by rcases h with h | h <;> (rw [h]; decide)
  have e2 : ¬ (T.1 n = 18 ∨ T.1 n = 19 ∨ T.1 n = 23) := by rcases h with h | h <;> (rw [h]; decide)
  have e3 : ¬ T.1 n = 20 := by rcases h with h | h <;> (rw [h]; decide)
  cases r with
  | zero => rw [jxVal, jxValB, if_neg e1, if_neg e2, if_neg e3, if_pos h]; exact k
  | succ r => rw [jxVal, jxValB, if_neg e1, if_neg e2, if_neg e3, if_pos h]; exact k
/-- the sign behind is none that goes on -/
def kSt (x : Int32) : Prop := ¬ (x = 40 ∨ x = 41) ∧ ¬ (x = 38 ∨ x = 39)
theorem kR_sum {T : JTk} {p : JEx} {n m : Nat} (h : kR p n m) (hs : kSt (T.1 m)) : kR (jxSum T p) n m := kR_chain (kR_chain h hs.1) hs.2
theorem kR_plus {T : JTk} {p : JEx} {n m q : Nat} (h : kR p n m) (h1 : T.1 m = 38) (g : kR p (m + 1) q) (hs : kSt (T.1 q)) : kR (jxSum T p) n q := kR_chain2 (kR_chain h (by rw [h1]; decide)) (Or.inl h1) (kR_chain g hs.1) hs.2
theorem kR_cmp {T : JTk} {p : JEx} {n m q : Nat} (h : kR p n m) (h1 : T.1 m = 42 ∨ T.1 m = 43 ∨ T.1 m = 44 ∨ T.1 m = 45 ∨ T.1 m = 46) (g : kR p (m + 1) q) : kR (jxCmp T p) n q := by
  obtain ⟨V, h⟩ := h
  obtain ⟨W, g⟩ := g
  refine ⟨fun R => jjn (T.1 m) (V R) (W R), ?_⟩
  unfold jxCmp
  rw [h]
  simp only [if_pos h1, g]
theorem kR_sng {T : JTk} {fc fp : Nat → Int32} {r n m : Nat} (h24 : ¬ T.1 n = 24) (h25 : ¬ T.1 n = 25) (h34 : ¬ T.1 n = 34) (h : kR (jxCmp T (jxSum T (jxVal T fc fp (r + 1)))) n m) : kR (jxSng T fc fp (r + 1)) n m := by
  unfold kR at h ⊢
  rw [jxSng, jxSngB, if_neg h24, if_neg h25, if_neg h34]
  exact h
theorem kR_sounds {T : JTk} {fc fp : Nat → Int32} {r n : Nat} (h24 : T.1 n = 24) (h1 : T.1 (n + 1) = 30) (hf : ¬ fp (n + 1) < 0) : kR (jxSng T fc fp (r + 1)) n (n + 2) := by
  have k := kR_named (T := T) (s := 24) (f := fp) h1 hf
  unfold kR at k ⊢
  rw [jxSng, jxSngB, if_pos h24]
  exact k
theorem kR_tst {T : JTk} {p : JEx} {n m : Nat} (h : kR p n m) (h1 : ¬ T.1 m = 26) (h2 : ¬ T.1 m = 27) : kR (jxTst T p) n m := kR_chain (kR_chain h (by simp [h1])) (by simp [h2])
theorem kR_and {T : JTk} {p : JEx} {n m q : Nat} (h : kR p n m) (h1 : T.1 m = 26) (g : kR p (m + 1) q) (h2 : ¬ T.1 q = 26) (h3 : ¬ T.1 q = 27) : kR (jxTst T p) n q := kR_chain (kR_chain2 h (Or.inl h1) g (by simp [h2])) (by simp [h3])
theorem kl_shut {T : JTk} {L : JLn} {n m c : Nat} (h0 : T.1 n = 15) (h1 : T.1 (n + 1) = 30) (h2 : T.1 (n + 2) = 17) (hold : ¬ jnum T (jNc L) (n + 1) < 0) (hfi : jfi T (jNc L) (n + 1) = c) (hn : L.1.1 5 < 16) (ht : kR (jxTest T L) (n + 3) m) : ∃ f, jlLine T L n kE0 = .inr (m, kE0, jaOrd L 15 c f) := by
  have e : jpSq [jpK T 15, jpO T (jNc L), jpK T 17] n kE0 = .inr (n + 3, kE0) := (jpSq_r (jpK_r h0)).trans ((jpSq_r (jpO_r h1 hold)).trans ((jpSq_r (jpK_r h2)).trans (rfl)))
  obtain ⟨V, ht⟩ := ht
  refine ⟨fun R => decide (¬ V R = 0), ?_⟩
  unfold jlLine
  rw [if_neg (by rw [h0]; decide), if_neg (by rw [h0]; decide), if_neg (by rw [h0]; decide), if_neg (by rw [h0]; decide), if_neg (by rw [h0]; decide), if_pos h0]
  unfold jlShut
  rw [if_pos hn, e]
  show jlOrd T L 15 (jfi T (jNc L) (n + 1)) (n + 3) kE0 = _
  unfold jlOrd
  rw [ht, hfi]
  rfl
theorem kl_clean {T : JTk} {L : JLn} {n m c : Nat} (h0 : T.1 n = 16) (h1 : T.1 (n + 1) = 30) (h2 : T.1 (n + 2) = 17) (hold : ¬ jnum T (jNp L) (n + 1) < 0) (hfi : jfi T (jNp L) (n + 1) = c) (hn : L.1.1 5 < 16) (ht : kR (jxTest T L) (n + 3) m) : ∃ f, jlLine T L n kE0 = .inr (m, kE0, jaOrd L 16 c f) := by
  have e : jpSq [jpK T 16, jpO T (jNp L)] n kE0 = .inr (n + 2, kE0) := (jpSq_r (jpK_r h0)).trans ((jpSq_r (jpO_r h1 hold)).trans (rfl))
  obtain ⟨V, ht⟩ := ht
  refine ⟨fun R => decide (¬ V R = 0), ?_⟩
  unfold jlLine
  rw [if_neg (by rw [h0]; decide), if_neg (by rw [h0]; decide), if_neg (by rw [h0]; decide), if_neg (by rw [h0]; decide), if_neg (by rw [h0]; decide), if_neg (by rw [h0]; decide), if_pos h0]
  unfold jlClean
  rw [if_pos hn, e]
  simp only [h2, if_true]
  show jlOrd T L 16 (jfi T (jNp L) (n + 1)) (n + 2 + 1) kE0 = _
  unfold jlOrd
  rw [ht, hfi]
  rfl
theorem kl_step {T : JTk} {k n m : Nat} {L L2 : JLn} (h : ¬ T.1 n = 47) (hl : jlLine T L n kE0 = .inr (m, kE0, L2)) (h36 : T.1 m = 36) : jlAll T (k + 1) n kE0 L = jlAll T k (m + 1) kE0 L2 := by
  rw [jlAll, if_neg h, hl]
  simp only [h36, if_true]
theorem kl_end {T : JTk} {k n : Nat} {L : JLn} (h : T.1 n = 47) : jlAll T k n kE0 L = .inr (kE0, L) := by
  cases k with
  | zero => rw [jlAll, if_pos h]
  | succ k => rw [jlAll, if_pos h]
/-! names by their letters -/
theorem kf_is {T : JTk} {N : JNm} {t i : Nat} (hi : i < N.2) (h : T.2.2.1 (N.1 i) t = true) (hb : ∀ j, j < i → T.2.2.1 (N.1 j) t = false) (hN : N.2 ≤ 100) : jfi T N t = i ∧ ¬ jnum T N t < 0 := by
  have e : jfst (fun k => T.2.2.1 (N.1 k) t) N.2 = i := jfst_is hi h hb
  refine ⟨e, fun z => ?_⟩
  have := (jfd_neg (p := fun k => T.2.2.1 (N.1 k) t) (n := N.2) (by omega)).1.mp z
  omega
theorem kf_no {T : JTk} {N : JNm} {t : Nat} (hb : ∀ j, j < N.2 → T.2.2.1 (N.1 j) t = false) (hN : N.2 ≤ 100) : jnum T N t < 0 := by
  refine (jfd_neg (p := fun k => T.2.2.1 (N.1 k) t) (n := N.2) (by omega)).1.mpr ?_
  rw [jfst_no hb]
  omega

