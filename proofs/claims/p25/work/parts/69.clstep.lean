/-! the class's reader line by line: what stands between lines, and its steps -/
def jLI (T : JTk) (L : JLn) (w : JW) (n : Nat) (er : JEr) (s : Nat) : Prop := jCI T (jNc L) (jNp L) w n er ∧ (jNM (jNh L) w 10 ∧ jNMt T (jNh L)) ∧ jOrg w (w.2.2 7 4) L.1 ∧ jWF L.1 ∧ (jSt w s ∧ s ≤ n) ∧ ∀ j, j < L.1.1 5 → ∃ e, e ≤ s ∧ w.1 38 (w.2.2 7 4) j = nI e
/-- what reading a line may change -/
def jLF (w w2 : JW) : Prop := w2.2 = w.2 ∧ ∀ k b, ¬ (7 ≤ k ∧ k ≤ 10) → ¬ (b = w.2.2 7 4 ∧ 20 ≤ k ∧ k ≤ 40) → w2.1 k b = w.1 k b
theorem jLF.refl (w : JW) : jLF w w := ⟨rfl, fun _ _ _ _ => rfl⟩
theorem jLF.trans {w w2 w3 : JW} (h : jLF w w2) (h2 : jLF w2 w3) : jLF w w3 := ⟨h2.1.trans h.1, fun k b hk hb => (h2.2 k b hk (by rw [h.1]; exact hb)).trans (h.2 k b hk hb)⟩
theorem jEF.LF {w w2 : JW} (h : jEF w w2) : jLF w w2 := ⟨h.1, fun k b hk hb => h.2.1 k b (fun e => hk (by omega)) (fun q => hb ⟨q.1, by omega, by omega⟩)⟩
theorem jNF.LF {w w2 : JW} (h : jNF w w2) : jLF w w2 := h.EF.LF
theorem jLF_set {w : JW} {k j : Nat} {x : Int32} (h : 20 ≤ k ∧ k ≤ 40) : jLF w (jset w k (w.2.2 7 4) j x) := by
  refine ⟨rfl, fun k2 b hk hb => ?_⟩
  funext i
  by_cases z : b = w.2.2 7 4
  · exact jset_b (Or.inl (fun e => hb ⟨z, by omega, by omega⟩))
  · exact jset_b (Or.inr (Or.inl z))
theorem jNM.kept {N : JNm} {w w2 : JW} {k : Nat} (h : jNM N w k) (e : w2.1 k false = w.1 k false) : jNM N w2 k := fun j hj => by rw [e]; exact h j hj
theorem jLI.nf {T : JTk} {L : JLn} {w w2 : JW} {n n2 : Nat} {er er2 : JEr} {s : Nat} (h : jLI T L w n er s) (hf : jNF w w2) (hc : jCI T (jNc L) (jNp L) w2 n2 er2) (hn : n ≤ n2) : jLI T L w2 n2 er2 s := by
  obtain ⟨h1, ⟨h2, h3⟩, h4, h5, ⟨h6, h7⟩, h8⟩ := h
  refine ⟨hc, ⟨h2.kept (hf.2 10 false (by decide)), h3⟩, ?_, h5, ⟨hf.St h6, by omega⟩, fun j hj => ?_⟩
  · rw [hf.o]
    exact h4.kept (fun k k1 k2 => hf.2 k _ (by omega))
  · obtain ⟨e, q1, q2⟩ := h8 j hj
    refine ⟨e, q1, ?_⟩
    rw [hf.o, hf.2 38 _ (by decide)]
    exact q2
/-- a step of a line -/
def jLS (T : JTk) (L : JLn) (w : JW) (n : Nat) (er : JEr) (s : Nat) (p : Nat ⊕ (Nat × JEr)) (r : Int32) (w2 : JW) : Prop := (∃ er2, p = .inr (n + 1, er2) ∧ r = 1 ∧ jLI T L w2 (n + 1) er2 s ∧ jNF w w2) ∨ (p = .inl n ∧ r = 0 ∧ w2 = w)
theorem l_take {T : JTk} {L : JLn} {w : JW} {n : Nat} {er : JEr} {s : Nat} (h : jLI T L w n er s) (k : Int32) (h1 : k ≠ 47) (h2 : k ≠ 48) : jSI MX5_take 2 [jR 7 false, jI k] w (jLS T L w n er s (jpK T k n er)) := by
  refine (c_take h.1 k h1 h2).mono (fun r w2 q => ?_)
  rcases q with ⟨a, rfl, hc, hf⟩ | ⟨a, rfl, rfl⟩
  · exact Or.inl ⟨er, if_pos a, rfl, h.nf hf hc (Nat.le_succ n), hf⟩
  · exact Or.inr ⟨if_neg a, rfl, rfl⟩
theorem l_num {T : JTk} {L : JLn} {w : JW} {n : Nat} {er : JEr} {s : Nat} (h : jLI T L w n er s) (a b : Int32) : jSI MX5_numberIn 2 [jR 7 false, jI a, jI b] w (jLS T L w n er s (jpR T a b n er)) := by
  refine (c_numberIn h.1 a b).mono (fun r w2 q => ?_)
  rcases q with ⟨z, rfl, hc, hf⟩ | ⟨z, rfl, rfl⟩
  · exact Or.inl ⟨_, if_pos z, rfl, h.nf hf hc (Nat.le_succ n), hf⟩
  · exact Or.inr ⟨if_neg z, rfl, rfl⟩
theorem l_known {T : JTk} {L : JLn} {w : JW} {n : Nat} {er : JEr} {s : Nat} (h : jLI T L w n er s) {k : Nat} {N : JNm} (hN : jCN k N T w) {x : Int32} (hx : x = nI N.2) : jSI MX5_knownName 2 [jR 7 false, jR k false, jI x] w (jLS T L w n er s (jpO T N n er)) := by
  subst hx
  refine (c_knownName h.1 hN).mono (fun r w2 q => ?_)
  rcases q with ⟨z, rfl, hc, hf⟩ | ⟨z, rfl, rfl⟩
  · exact Or.inl ⟨_, if_pos z, rfl, h.nf hf hc (Nat.le_succ n), hf⟩
  · exact Or.inr ⟨if_neg z, rfl, rfl⟩
theorem l_blame {T : JTk} {L : JLn} {w : JW} {n : Nat} {er : JEr} {s : Nat} (h : jLI T L w n er s) {c : Nat} (hc : c ≤ 5) : jSV MX5_blame 0 [jR 7 false, jI (nI c)] w (fun w2 => jLI T L w2 n (jbl er c n) s ∧ jNF w w2) := (c_blame h.1 hc).mono (fun w2 q => ⟨h.nf q.2 q.1 (Nat.le_refl n), q.2⟩)
theorem jpK_ok {T : JTk} {k : Int32} {n : Nat} {er : JEr} {q : Nat × JEr} (h : jpK T k n er = .inr q) : T.1 n = k ∧ q = (n + 1, er) := by
  unfold jpK at h
  by_cases z : T.1 n = k
  · rw [if_pos z] at h
    cases h
    exact ⟨z, rfl⟩
  · rw [if_neg z] at h
    cases h
theorem jpR_ok {T : JTk} {a b : Int32} {n : Nat} {er : JEr} {q : Nat × JEr} (h : jpR T a b n er = .inr q) : T.1 n = 31 ∧ q.1 = n + 1 ∧ (q.2.1 = 0 → er.1 = 0 ∧ a ≤ T.2.1 n ∧ T.2.1 n ≤ b) := by
  unfold jpR at h
  by_cases z : T.1 n = 31
  · rw [if_pos z] at h
    cases h
    refine ⟨z, rfl, fun q => ?_⟩
    by_cases z2 : a ≤ T.2.1 n ∧ T.2.1 n ≤ b
    · simp only [if_pos z2] at q
      exact ⟨q, z2.1, z2.2⟩
    · simp only [if_neg z2] at q
      exfalso
      unfold jbl at q
      by_cases z3 : er.1 = 0
      · rw [if_pos z3] at q; cases q
      · rw [if_neg z3] at q; exact z3 q
  · rw [if_neg z] at h
    cases h
theorem jbl_n0 {er : JEr} {c t : Nat} (hc : ¬ c = 0) : ¬ (jbl er c t).1 = 0 := by
  unfold jbl
  by_cases z : er.1 = 0
  · rw [if_pos z]; exact hc
  · rw [if_neg z]; exact z
theorem jpO_ok {T : JTk} {N : JNm} {n : Nat} {er : JEr} {q : Nat × JEr} (h : jpO T N n er = .inr q) : T.1 n = 30 ∧ q.1 = n + 1 ∧ (q.2.1 = 0 → er.1 = 0 ∧ ¬ jnum T N n < 0) := by
  unfold jpO at h
  by_cases z : T.1 n = 30
  · rw [if_pos z] at h
    cases h
    refine ⟨z, rfl, fun q => ?_⟩
    by_cases z2 : jnum T N n < 0
    · simp only [if_pos z2] at q
      exact absurd q (jbl_n0 (by decide))
    · simp only [if_neg z2] at q
      exact ⟨q, z2⟩
  · rw [if_neg z] at h
    cases h
theorem jpF_ok {T : JTk} {N : JNm} {m n : Nat} {er : JEr} {q : Nat × JEr} (h : jpF T N m n er = .inr q) : T.1 n = 30 ∧ q.1 = n + 1 ∧ (q.2.1 = 0 → er.1 = 0 ∧ jnum T N n < 0 ∧ N.2 < m) := by
  unfold jpF at h
  by_cases z : T.1 n = 30
  · rw [if_pos z] at h
    cases h
    refine ⟨z, rfl, fun q => ?_⟩
    by_cases z2 : jnum T N n < 0
    · simp only [if_pos z2] at q
      by_cases z3 : N.2 < m
      · simp only [if_pos z3] at q
        exact ⟨q, z2, z3⟩
      · simp only [if_neg z3] at q
        exact absurd q (jbl_n0 (by decide))
    · simp only [if_neg z2] at q
      exact absurd q (jbl_n0 (by decide))
  · rw [if_neg z] at h
    cases h
/-- names: which row, which, how many at most -/
def jNk (L : JLn) (k : Nat) (N : JNm) (m : Nat) : Prop := (k = 8 ∧ N = jNc L ∧ m = 5) ∨ (k = 9 ∧ N = jNp L ∧ m = 12) ∨ (k = 10 ∧ N = jNh L ∧ m = 6)
theorem jLI.cN {T : JTk} {L : JLn} {w : JW} {n : Nat} {er : JEr} {s : Nat} (h : jLI T L w n er s) {k : Nat} {N : JNm} {m : Nat} (hk : jNk L k N m) : jCN k N T w ∧ jIA k false m ∧ N.2 ≤ m ∧ m ≤ 12 := by
  have hW := h.2.2.2.1.1
  rcases hk with ⟨rfl, rfl, rfl⟩ | ⟨rfl, rfl, rfl⟩ | ⟨rfl, rfl, rfl⟩
  · exact ⟨h.1.cN, ja_8, hW.1, by omega⟩
  · exact ⟨h.1.pN, ja_9, hW.2.1, by omega⟩
  · exact ⟨⟨Or.inr (Or.inr rfl), h.2.1.1, h.2.1.2, Nat.le_trans hW.2.2.1 (by decide), fun q => absurd q (by decide), fun _ => hW.2.2.1⟩, ja_10, hW.2.2.1, by omega⟩
/-- a name's token is written behind the others -/
theorem jLI.name {T : JTk} {L : JLn} {w : JW} {n : Nat} {er : JEr} {s : Nat} (h : jLI T L w n er s) {k : Nat} {N : JNm} {m : Nat} (hk : jNk L k N m) (x : Int32) : jLI T L (jset w k false N.2 x) n er s ∧ jLF w (jset w k false N.2 x) := by
  have k10 : 8 ≤ k ∧ k ≤ 10 := by rcases hk with ⟨rfl, -⟩ | ⟨rfl, -⟩ | ⟨rfl, -⟩ <;> decide
  have nm : ∀ (k2 : Nat) (N2 : JNm), jNM N2 w k2 → (k2 = k → N2.2 = N.2) → jNM N2 (jset w k false N.2 x) k2 := by
    intro k2 N2 h2 e j hj
    rw [jset_b]
    · exact h2 j hj
    · by_cases z : k2 = k
      · exact Or.inr (Or.inr (by have := e z; omega))
      · exact Or.inl z
  obtain ⟨⟨c1, c2, c3, c4, c5⟩, ⟨h2, h3⟩, h4, h5, ⟨h6, h7⟩, h8⟩ := h
  refine ⟨⟨⟨?_, ?_, c3.kept (jset_k (by omega)) rfl, ?_, ?_⟩, ⟨nm 10 _ h2 (fun e => ?_), h3⟩, h4.kept (fun k2 k1 k2 => jset_k (by omega)), h5, ⟨?_, h7⟩, fun j hj => ?_⟩, rfl, fun k2 b q1 _ => jset_k (by omega)⟩
  · rw [jset_bk (by omega)]
    exact c1
  · rw [jset_bk (by omega), jset_bk (by omega)]
    exact c2
  · refine ⟨c4.1, ?_, nm 8 _ c4.2.2.1 (fun e => ?_), c4.2.2.2⟩
    · rw [jset_bk (by omega)]
      exact c4.2.1
    · rcases hk with ⟨rfl, rfl, -⟩ | ⟨rfl, -⟩ | ⟨rfl, -⟩
      · rfl
      · omega
      · omega
  · refine ⟨c5.1, ?_, nm 9 _ c5.2.2.1 (fun e => ?_), c5.2.2.2⟩
    · rw [jset_bk (by omega)]
      exact c5.2.1
    · rcases hk with ⟨rfl, -⟩ | ⟨rfl, rfl, -⟩ | ⟨rfl, -⟩
      · omega
      · rfl
      · omega
  · rcases hk with ⟨rfl, -⟩ | ⟨rfl, -⟩ | ⟨rfl, rfl, -⟩
    · omega
    · omega
    · rfl
  · unfold jSt
    rw [jset_bk (by omega)]
    exact h6
  · obtain ⟨e, q1, q2⟩ := h8 j hj
    refine ⟨e, q1, ?_⟩
    rw [jset_bk (by omega)]
    exact q2
theorem l_new {T : JTk} {L : JLn} {w : JW} {n : Nat} {er : JEr} {s : Nat} (h : jLI T L w n er s) {k : Nat} {N : JNm} {m : Nat} (hk : jNk L k N m) {x : Int32} (hx : x = nI N.2) :
    jSI MX5_newName 2 [jR 7 false, jR k false, jI x] w (fun r w2 => (∃ er2, jpF T N m n er = .inr (n + 1, er2) ∧ r = 1 ∧ jLI T L w2 (n + 1) er2 s ∧ jLF w w2 ∧ (er2.1 = 0 → w2.1 k false N.2 = nI n)) ∨ (jpF T N m n er = .inl n ∧ r = 0 ∧ w2 = w)) := by
  subst hx
  obtain ⟨hN, hA, hNm, hm12⟩ := h.cN hk
  refine jSI_of jp_X5_newName rfl (Nat.le_of_ble_eq_true rfl) (fun C hm => ?_)
  refine bk_X5_newName_0 hm (c_kind h.1) (by decide) (bk_X5_newName_4 hm (fun e => ?_) (fun e => bk_X5_newName_9 hm ⟨0, rfl, Or.inr ⟨if_neg e, rfl, rfl⟩⟩))
  have hlt := (h.1.lt (by rw [e]; decide) (by rw [e]; decide)).1
  have key : ∀ (w1 : JW) (er1 : JEr), jpF T N m n er = .inr (n + 1, er1) → jLI T L w1 n er1 s → jNF w w1 → jW C 0 0 (jQQ C 0 0 (fun v w' => ∃ r, v = jI r ∧ ((∃ er2, jpF T N m n er = .inr (n + 1, er2) ∧ r = 1 ∧ jLI T L w' (n + 1) er2 s ∧ jLF w w' ∧ (er2.1 = 0 → w'.1 k false N.2 = nI n)) ∨ (jpF T N m n er = .inl n ∧ r = 0 ∧ w' = w)))) 43 [jR 7 false, jR k false, jI (nI N.2)] [] w1 := by
    intro w1 er1 hp h1 hf1
    have h5 := h1.1.2.1.2.1
    refine bk_X5_newName_43 hm (fun q => bk_X5_newName_59 hm ⟨1, rfl, Or.inl ⟨er1, hp, rfl, h1.nf jNF_set (h1.1.next hlt) (Nat.le_succ n), hf1.LF.trans jNF_set.LF, fun z => absurd ?_ q⟩⟩) (fun q => ?_)
    · rw [h1.1.2.1.1, z]; rfl
    · have e0 : er1.1 = 0 := (nI_eq (b := 0) (by omega) (by omega)).mp (h1.1.2.1.1.symm.trans q)
      have hlm := (jpF_ok hp).2.2 e0
      obtain ⟨h2, hf2⟩ := h1.name hk (nI n)
      refine bk_X5_newName_50 hm (by rw [h1.1.1.1]; exact c_putN hA w1 (nI n) hlm.2.2) (by decide) (bk_X5_newName_59 hm ⟨1, rfl, Or.inl ⟨er1, hp, rfl, h2.nf jNF_set (h2.1.next hlt) (Nat.le_succ n), (hf1.LF.trans hf2).trans jNF_set.LF, fun _ => ?_⟩⟩)
      have k10 : 8 ≤ k ∧ k ≤ 10 := by rcases hk with ⟨rfl, -⟩ | ⟨rfl, -⟩ | ⟨rfl, -⟩ <;> decide
      rw [jset_bk (by omega), jset_at]
  refine bk_X5_newName_11 hm (r := jnum T N n) (w2 := w) (by rw [h.1.1.1]; exact c_num h.1 hN hlt e) (by decide) (bk_X5_newName_21 hm (fun q => ?_) (fun q => ?_))
  · refine bk_X5_newName_32 hm hA (fun q2 => ?_) (fun q2 => ?_)
    · have hl : N.2 < m := (nI_ltI (by omega) (by omega)).mp q2
      exact key w er (by unfold jpF; rw [if_pos e, if_pos q, if_pos hl]) h (jNF.refl w)
    · have hl : ¬ N.2 < m := fun z => q2 ((nI_ltI (by omega) (by omega)).mpr z)
      refine bq_X5_newName_38 hm (l_blame h (c := 4) (by decide)) (by decide) (fun w2 hp => ?_)
      exact key w2 _ (by unfold jpF; rw [if_pos e, if_pos q, if_neg hl]) hp.1 hp.2
  · refine bq_X5_newName_24 hm (l_blame h (c := 2) (by decide)) (by decide) (fun w2 hp => bk_X5_newName_29 hm ?_)
    exact key w2 _ (by unfold jpF; rw [if_pos e, if_neg q]) hp.1 hp.2
