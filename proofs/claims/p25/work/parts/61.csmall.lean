/-! the class's reader: what its world holds, and its small steps -/
/-- the class's tokens -/
def jTK (T : JTk) (w : JW) : Prop := T.2.2.2 ≤ 400 ∧ (T.1 T.2.2.2 = 47 ∨ T.1 T.2.2.2 = 48) ∧ (∀ i, i ≤ T.2.2.2 → w.1 4 false i = T.1 i) ∧ (∀ i, i < T.2.2.2 → T.1 i = 31 → (w.2.1 6 i).toInt32 = T.2.1 i) ∧
  (∀ i j, i < T.2.2.2 → j < T.2.2.2 → T.1 i = 30 → T.1 j = 30 → (w.2.1 6 i = w.2.1 6 j ↔ T.2.2.1 i j = true))
def jNMt (T : JTk) (N : JNm) : Prop := ∀ j, j < N.2 → N.1 j < T.2.2.2 ∧ T.1 (N.1 j) = 30
def jNM (N : JNm) (w : JW) (k : Nat) : Prop := ∀ j, j < N.2 → w.1 k false j = nI (N.1 j)
/-- the reader stands at token n, with the error er -/
def jCI (T : JTk) (Nc Np : JNm) (w : JW) (n : Nat) (er : JEr) : Prop :=
  (w.1 7 false 5 = nI n ∧ n ≤ T.2.2.2) ∧ (w.1 7 false 6 = nI er.1 ∧ er.1 ≤ 5 ∧ (¬ er.1 = 0 → w.1 7 false 7 = nI er.2)) ∧ jTK T w ∧ (Nc.2 ≤ 5 ∧ w.1 20 (w.2.2 7 4) 9 = nI Nc.2 ∧ jNM Nc w 8 ∧ jNMt T Nc) ∧ (Np.2 ≤ 12 ∧ w.1 20 (w.2.2 7 4) 10 = nI Np.2 ∧ jNM Np w 9 ∧ jNMt T Np)
/-- only the reader's own numbers have changed; those and the orders' steps -/
def jNF (w w2 : JW) : Prop := w2.2 = w.2 ∧ ∀ k b, k ≠ 7 → w2.1 k b = w.1 k b
def jEF (w w2 : JW) : Prop := w2.2 = w.2 ∧ (∀ k b, k ≠ 7 → ¬ (b = w.2.2 7 4 ∧ (k = 34 ∨ k = 39 ∨ k = 40)) → w2.1 k b = w.1 k b) ∧ w2.1 34 (w.2.2 7 4) 6 = w.1 34 (w.2.2 7 4) 6
theorem jNF.refl (w : JW) : jNF w w := ⟨rfl, fun _ _ _ => rfl⟩
theorem jNF.trans {w w2 w3 : JW} (h : jNF w w2) (h2 : jNF w2 w3) : jNF w w3 := ⟨h2.1.trans h.1, fun k b hk => (h2.2 k b hk).trans (h.2 k b hk)⟩
theorem jNF.EF {w w2 : JW} (h : jNF w w2) : jEF w w2 := ⟨h.1, fun k b hk _ => h.2 k b hk, by rw [h.2 34 _ (by decide)]⟩
theorem jEF.refl (w : JW) : jEF w w := (jNF.refl w).EF
theorem jEF.trans {w w2 w3 : JW} (h : jEF w w2) (h2 : jEF w2 w3) : jEF w w3 := by
  have e : w2.2.2 7 4 = w.2.2 7 4 := by rw [h.1]
  refine ⟨h2.1.trans h.1, fun k b hk hb => (h2.2.1 k b hk (by rw [e]; exact hb)).trans (h.2.1 k b hk hb), ?_⟩
  have := h2.2.2
  rw [e] at this
  exact this.trans h.2.2
theorem jNF_set {w : JW} {j : Nat} {x : Int32} : jNF w (jset w 7 false j x) := by
  refine ⟨rfl, fun k b hk => ?_⟩
  funext i
  rw [jset_I, if_neg (fun q => hk q.1)]
theorem jTK.kept {T : JTk} {w w2 : JW} (h : jTK T w) (h4 : w2.1 4 false = w.1 4 false) (h2 : w2.2 = w.2) : jTK T w2 := by
  unfold jTK
  rw [h4, h2]
  exact h
theorem jCI.of {T : JTk} {Nc Np : JNm} {w w2 : JW} {n n2 : Nat} {er er2 : JEr} (h : jCI T Nc Np w n er) (hf : jEF w w2) (h5 : w2.1 7 false 5 = nI n2) (hn : n2 ≤ T.2.2.2) (h6 : w2.1 7 false 6 = nI er2.1) (h62 : er2.1 ≤ 5) (h7 : ¬ er2.1 = 0 → w2.1 7 false 7 = nI er2.2) : jCI T Nc Np w2 n2 er2 := by
  have e : w2.2.2 7 4 = w.2.2 7 4 := by rw [hf.1]
  refine ⟨⟨h5, hn⟩, ⟨h6, h62, h7⟩, h.2.2.1.kept (hf.2.1 4 false (by decide) (by simp)) hf.1, ?_, ?_⟩
  · rw [e, hf.2.1 20 _ (by decide) (by simp)]
    refine ⟨h.2.2.2.1.1, h.2.2.2.1.2.1, fun j hj => ?_, h.2.2.2.1.2.2.2⟩
    rw [hf.2.1 8 _ (by decide) (by simp)]
    exact h.2.2.2.1.2.2.1 j hj
  · rw [e, hf.2.1 20 _ (by decide) (by simp)]
    refine ⟨h.2.2.2.2.1, h.2.2.2.2.2.1, fun j hj => ?_, h.2.2.2.2.2.2.2⟩
    rw [hf.2.1 9 _ (by decide) (by simp)]
    exact h.2.2.2.2.2.2.1 j hj
theorem jCI.lt {T : JTk} {Nc Np : JNm} {w : JW} {n : Nat} {er : JEr} (h : jCI T Nc Np w n er) (h1 : ¬ T.1 n = 47) (h2 : ¬ T.1 n = 48) : n < T.2.2.2 ∧ T.2.2.2 ≤ 400 := by
  refine ⟨Nat.lt_of_le_of_ne h.1.2 (fun e => ?_), h.2.2.1.1⟩
  rcases h.2.2.1.2.1 with q | q
  · exact h1 (by rw [e]; exact q)
  · exact h2 (by rw [e]; exact q)
theorem jCI.le {T : JTk} {Nc Np : JNm} {w : JW} {n : Nat} {er : JEr} (h : jCI T Nc Np w n er) : n ≤ 400 := Nat.le_trans h.1.2 h.2.2.1.1
/-- one token on -/
theorem jCI.next {T : JTk} {Nc Np : JNm} {w : JW} {n : Nat} {er : JEr} (h : jCI T Nc Np w n er) (hn : n < T.2.2.2) : jCI T Nc Np (jset w 7 false 5 (w.1 7 false 5 + 1)) (n + 1) er := by
  refine h.of jNF_set.EF ?_ hn ?_ h.2.1.2.1 (fun q => ?_)
  · rw [jset_I, if_pos ⟨rfl, rfl, rfl⟩, h.1.1, nI_1]
  · rw [jset_I, if_neg (by decide)]
    exact h.2.1.1
  · rw [jset_I, if_neg (by decide)]
    exact h.2.1.2.2 q
theorem c_kindAt (w : JW) {n : Nat} (hn : n ≤ 400) : jF MX7_kindAt 0 [jR 3 false, jI (nI n)] w (jI (w.1 4 false n)) w := by
  refine jF_of jp_X7_kindAt rfl (Nat.le_of_ble_eq_true rfl) (fun C hm => ?_)
  refine bk_X7_kindAt_0 hm (fun h => absurd h (nI_pos (by omega))) (fun _ => bk_X7_kindAt_4 hm (fun h => absurd ((nI_leI (a := 401) (by omega) (by omega)).mp h) (by omega)) (fun _ => bk_X7_kindAt_13 hm (vp_in_nI (by omega) (by omega)) (bk_X7_kindAt_24 hm ⟨?_, rfl⟩)))
  rw [nI_clamp (by omega)]
theorem c_worthAt (w : JW) {n : Nat} (hn : n ≤ 400) : jF MX7_worthAt 0 [jR 3 false, jI (nI n)] w (jL (w.2.1 6 n)) w := by
  refine jF_of jp_X7_worthAt rfl (Nat.le_of_ble_eq_true rfl) (fun C hm => ?_)
  refine bk_X7_worthAt_0 hm (fun h => absurd h (nI_pos (by omega))) (fun _ => bk_X7_worthAt_4 hm (fun h => absurd ((nI_leI (a := 401) (by omega) (by omega)).mp h) (by omega)) (fun _ => bk_X7_worthAt_13 hm (vp_in_nI (by omega) (by omega)) (bk_X7_worthAt_23 hm ⟨?_, rfl⟩)))
  rw [nI_clamp (by omega)]
theorem c_numberAt (w : JW) {n : Nat} (hn : n ≤ 400) : jF MX7_numberAt 1 [jR 3 false, jI (nI n)] w (jI (w.2.1 6 n).toInt32) w := by
  refine jF_of jp_X7_numberAt rfl (Nat.le_of_ble_eq_true rfl) (fun C hm => ?_)
  exact bk_X7_numberAt_0 hm (c_worthAt w hn) (by decide) (bk_X7_numberAt_5 hm ⟨rfl, rfl⟩)
theorem c_kind {T : JTk} {Nc Np : JNm} {w : JW} {n : Nat} {er : JEr} (h : jCI T Nc Np w n er) : jF MX5_kind 1 [jR 7 false] w (jI (T.1 n)) w := by
  refine jF_of jp_X5_kind rfl (Nat.le_of_ble_eq_true rfl) (fun C hm => ?_)
  refine bk_X5_kind_0 hm (d2 := 0) (r := T.1 n) (w2 := w) ?_ (by decide) (bk_X5_kind_11 hm ⟨rfl, rfl⟩)
  rw [h.1.1, ← h.2.2.1.2.2.1 n h.1.2]
  exact c_kindAt w h.le
theorem c_take {T : JTk} {Nc Np : JNm} {w : JW} {n : Nat} {er : JEr} (h : jCI T Nc Np w n er) (k : Int32) (h1 : k ≠ 47) (h2 : k ≠ 48) :
    jSI MX5_take 2 [jR 7 false, jI k] w (fun r w2 => (T.1 n = k ∧ r = 1 ∧ jCI T Nc Np w2 (n + 1) er ∧ jNF w w2) ∨ (¬ T.1 n = k ∧ r = 0 ∧ w2 = w)) := by
  refine jSI_of jp_X5_take rfl (Nat.le_of_ble_eq_true rfl) (fun C hm => ?_)
  refine bk_X5_take_0 hm (c_kind h) (by decide) (bk_X5_take_4 hm (fun e => bk_X5_take_10 hm ⟨1, rfl, Or.inl ⟨e, rfl, h.next (h.lt (by rw [e]; exact h1) (by rw [e]; exact h2)).1, jNF_set⟩⟩) (fun e => bk_X5_take_8 hm ⟨0, rfl, Or.inr ⟨e, rfl, rfl⟩⟩))
theorem c_blame {T : JTk} {Nc Np : JNm} {w : JW} {n : Nat} {er : JEr} (h : jCI T Nc Np w n er) {c : Nat} (hc : c ≤ 5) : jSV MX5_blame 0 [jR 7 false, jI (nI c)] w (fun w2 => jCI T Nc Np w2 n (jbl er c n) ∧ jNF w w2) := by
  refine jSV_of jp_X5_blame rfl (Nat.le_of_ble_eq_true rfl) (fun C hm => ?_)
  have h5 := h.2.1.2.1
  refine bk_X5_blame_0 hm (fun e => bk_X5_blame_20 hm ⟨rfl, ?_, jNF.refl w⟩) (fun e => bk_X5_blame_7 hm (bk_X5_blame_20 hm ⟨rfl, ?_, jNF_set.trans jNF_set⟩))
  · rw [h.2.1.1] at e
    unfold jbl
    rw [if_neg (fun q => e (by rw [q]; rfl))]
    exact h
  · rw [h.2.1.1] at e
    have e0 : er.1 = 0 := (nI_eq (b := 0) (by omega) (by omega)).mp e
    unfold jbl
    rw [if_pos e0]
    refine h.of (jNF_set.trans jNF_set).EF ?_ h.1.2 ?_ hc (fun _ => ?_)
    · rw [jset_I, if_neg (by decide), jset_I, if_neg (by decide)]
      exact h.1.1
    · rw [jset_I, if_neg (by decide), jset_I, if_pos ⟨rfl, rfl, rfl⟩]
    · rw [jset_I, if_pos ⟨rfl, rfl, rfl⟩, jset_I, if_neg (by decide)]
      exact h.1.1
theorem c_goDeeper {T : JTk} {Nc Np : JNm} {w : JW} {n : Nat} {er : JEr} (h : jCI T Nc Np w n er) (hn : n < T.2.2.2) {x : Nat} (hx : x ≤ 8) : jSI MX5_goDeeper 0 [jR 7 false, jI (nI x)] w (fun r w2 => (x < 8 ∧ r = 1 ∧ jCI T Nc Np w2 (n + 1) er ∧ jNF w w2) ∨ (x = 8 ∧ r = 0 ∧ w2 = w)) := by
  refine jSI_of jp_X5_goDeeper rfl (Nat.le_of_ble_eq_true rfl) (fun C hm => ?_)
  refine bk_X5_goDeeper_0 hm (fun e => bk_X5_goDeeper_8 hm ⟨1, rfl, Or.inl ⟨(nI_ltI (b := 8) (by omega) (by omega)).mp e, rfl, h.next hn, jNF_set⟩⟩) (fun e => bk_X5_goDeeper_6 hm ⟨0, rfl, Or.inr ⟨?_, rfl, rfl⟩⟩)
  have : ¬ x < 8 := fun q => e ((nI_ltI (b := 8) (by omega) (by omega)).mpr q)
  omega
theorem lg_cmp0 (a b : Int64) : lg_cmp a b = 0 ↔ a = b := by
  unfold lg_cmp
  by_cases h : a > b
  · rw [if_pos h]
    refine ⟨fun q => absurd q (by decide), fun q => ?_⟩
    subst q
    exact absurd (Int64.lt_iff_toInt_lt.mp h) (Int.lt_irrefl _)
  · rw [if_neg h]
    by_cases h2 : a = b
    · rw [if_pos h2]
      exact ⟨fun _ => h2, fun _ => rfl⟩
    · rw [if_neg h2]
      exact ⟨fun q => absurd q (by decide), fun q => absurd q h2⟩
theorem c_numberOf {T : JTk} {w : JW} (hT : jTK T w) {N : JNm} {k m : Nat} (hA : jIA k false m) (hN : jNM N w k) (hNt : jNMt T N) (hm2 : N.2 ≤ m) {t : Nat} (ht : t < T.2.2.2) (h30 : T.1 t = 30) :
    jF MX5_numberOf 1 [jR 7 false, jI (nI t), jR k false, jI (nI N.2)] w (jI (jnum T N t)) w := by
  refine jF_of jp_X5_numberOf rfl (Nat.le_of_ble_eq_true rfl) (fun C hm => ?_)
  have h400 := hT.1
  have hmm := hA.2.1
  refine bk_X5_numberOf_0 hm (c_worthAt w (by omega)) (by decide) (bk_X5_numberOf_8 hm ?_)
  have key := jfor (P := fun i => i ≤ N.2 → (∀ j, j < i → T.2.2.1 (N.1 j) t = false) → jW C 0 0 (jQQ C 0 0 (fun v w' => v = jI (jnum T N t) ∧ w' = w)) 13 [jR 7 false, jU, jR k false, jI (nI N.2), jL (w.2.1 6 t), jU, jI (nI i)] [] w) N.2 ?_ ?_
  · exact key (Nat.zero_le _) (fun j h => absurd h (Nat.not_lt_zero j))
  · intro _ hb
    refine bk_X5_numberOf_13 hm (fun _ => bk_X5_numberOf_52 hm ⟨?_, rfl⟩) (fun h => absurd ((nI_leI (by omega) (by omega)).mpr (Nat.le_refl _)) h)
    unfold jnum jfd
    rw [jfst_no hb, if_neg (Nat.lt_irrefl _)]
  · intro i hi ih _ hb
    obtain ⟨n1, n2⟩ := hNt i hi
    refine bk_X5_numberOf_13 hm (fun h => absurd ((nI_leI (by omega) (by omega)).mp h) (by omega)) (fun _ => bk_X5_numberOf_19 hm hA (fun h => absurd ((nI_leI (a := m) (by omega) (by omega)).mp h) (by omega)) (fun _ => ?_))
    refine bk_X5_numberOf_26 hm (d2 := 0) (r := w.2.1 6 (N.1 i)) (w2 := w) hA (vp_in_nI (by omega) hmm) ?_ (by decide) (bk_X5_numberOf_37 hm (fun q => bk_X5_numberOf_46 hm ?_) (fun q => bk_X5_numberOf_43 hm ⟨?_, rfl⟩))
    · rw [nI_clamp (by omega), hN i hi]
      exact c_worthAt w (by omega)
    · rw [nI_1]
      refine ih (by omega) (fun j hj => ?_)
      by_cases e : j = i
      · subst e
        have : ¬ T.2.2.1 (N.1 j) t = true := fun z => q ((lg_cmp0 _ _).mpr ((hT.2.2.2.2 _ _ n1 ht n2 h30).mpr z))
        simpa using this
      · exact hb j (by omega)
    · have z := (hT.2.2.2.2 _ _ n1 ht n2 h30).mp ((lg_cmp0 _ _).mp q)
      unfold jnum jfd
      rw [jfst_is hi z hb, if_pos hi]
