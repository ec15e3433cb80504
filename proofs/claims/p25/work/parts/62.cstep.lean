/-! the class's reader: names, numbers, steps -/
/-- names of caves and pipes, where the class keeps them -/
def jCN (k : Nat) (N : JNm) (T : JTk) (w : JW) : Prop := (k = 8 ∨ k = 9 ∨ k = 10) ∧ jNM N w k ∧ jNMt T N ∧ N.2 ≤ 12 ∧ (k = 8 → N.2 ≤ 5) ∧ (k = 10 → N.2 ≤ 6)
theorem jCN_A {k : Nat} {N : JNm} {T : JTk} {w : JW} (h : jCN k N T w) : ∃ m, jIA k false m ∧ N.2 ≤ m ∧ (k = 8 → m = 5) ∧ (k = 9 → m = 12) ∧ (k = 10 → m = 6) := by
  obtain ⟨h1, -, -, h12, h5, h6⟩ := h
  rcases h1 with rfl | rfl | rfl
  · exact ⟨5, ja_8, h5 rfl, fun _ => rfl, fun q => absurd q (by decide), fun q => absurd q (by decide)⟩
  · exact ⟨12, ja_9, h12, fun q => absurd q (by decide), fun _ => rfl, fun q => absurd q (by decide)⟩
  · exact ⟨6, ja_10, h6 rfl, fun q => absurd q (by decide), fun q => absurd q (by decide), fun _ => rfl⟩
theorem jCI.cN {T : JTk} {Nc Np : JNm} {w : JW} {n : Nat} {er : JEr} (h : jCI T Nc Np w n er) : jCN 8 Nc T w := ⟨Or.inl rfl, h.2.2.2.1.2.2.1, h.2.2.2.1.2.2.2, Nat.le_trans h.2.2.2.1.1 (by decide), fun _ => h.2.2.2.1.1, fun q => absurd q (by decide)⟩
theorem jCI.pN {T : JTk} {Nc Np : JNm} {w : JW} {n : Nat} {er : JEr} (h : jCI T Nc Np w n er) : jCN 9 Np T w := ⟨Or.inr (Or.inl rfl), h.2.2.2.2.2.2.1, h.2.2.2.2.2.2.2, h.2.2.2.2.1, fun q => absurd q (by decide), fun q => absurd q (by decide)⟩
theorem c_num {T : JTk} {Nc Np : JNm} {w : JW} {n : Nat} {er : JEr} (h : jCI T Nc Np w n er) {k : Nat} {N : JNm} (hN : jCN k N T w) {t : Nat} (ht : t < T.2.2.2) (h30 : T.1 t = 30) : jF MX5_numberOf 1 [jR 7 false, jI (nI t), jR k false, jI (nI N.2)] w (jI (jnum T N t)) w := by
  obtain ⟨m, hA, hm, -⟩ := jCN_A hN
  exact c_numberOf h.2.2.1 hA hN.2.1 hN.2.2.1 hm ht h30
theorem jnum_neg {T : JTk} {N : JNm} {t : Nat} (h : N.2 ≤ 12) : (jnum T N t < 0 ↔ ¬ jfst (fun k => T.2.2.1 (N.1 k) t) N.2 < N.2) ∧ (0 ≤ jnum T N t ↔ jfst (fun k => T.2.2.1 (N.1 k) t) N.2 < N.2) ∧ (jnum T N t = -1 ↔ ¬ jfst (fun k => T.2.2.1 (N.1 k) t) N.2 < N.2) := jfd_neg (by omega)
theorem jnum_lt0 {T : JTk} {N : JNm} {t : Nat} (h : N.2 ≤ 12) : (¬ 0 ≤ jnum T N t) ↔ jnum T N t < 0 := by
  rw [(jnum_neg h).1, (jnum_neg h).2.1]
theorem c_knownName {T : JTk} {Nc Np : JNm} {w : JW} {n : Nat} {er : JEr} (h : jCI T Nc Np w n er) {k : Nat} {N : JNm} (hN : jCN k N T w) :
    jSI MX5_knownName 2 [jR 7 false, jR k false, jI (nI N.2)] w (fun r w2 => (T.1 n = 30 ∧ r = 1 ∧ jCI T Nc Np w2 (n + 1) (if jnum T N n < 0 then jbl er 3 n else er) ∧ jNF w w2) ∨ (¬ T.1 n = 30 ∧ r = 0 ∧ w2 = w)) := by
  refine jSI_of jp_X5_knownName rfl (Nat.le_of_ble_eq_true rfl) (fun C hm => ?_)
  refine bk_X5_knownName_0 hm (c_kind h) (by decide) (bk_X5_knownName_4 hm (fun e => ?_) (fun e => bk_X5_knownName_9 hm ⟨0, rfl, Or.inr ⟨e, rfl, rfl⟩⟩))
  have hlt := (h.lt (by rw [e]; decide) (by rw [e]; decide)).1
  refine bk_X5_knownName_11 hm (r := jnum T N n) (w2 := w) (by rw [h.1.1]; exact c_num h hN hlt e) (by decide) ?_
  refine bk_X5_knownName_21 hm (fun q => ?_) (fun q => ?_)
  · have q2 : ¬ jnum T N n < 0 := fun z => ((jnum_lt0 hN.2.2.2.1).mpr z) q
    rw [if_neg q2]
    exact bk_X5_knownName_29 hm ⟨1, rfl, Or.inl ⟨e, rfl, h.next hlt, jNF_set⟩⟩
  · rw [if_pos ((jnum_lt0 hN.2.2.2.1).mp q)]
    refine bq_X5_knownName_24 hm (c_blame h (c := 3) (by decide)) (by decide) (fun w2 hp => ?_)
    exact bk_X5_knownName_29 hm ⟨1, rfl, Or.inl ⟨e, rfl, hp.1.next hlt, hp.2.trans jNF_set⟩⟩
theorem c_numberIn {T : JTk} {Nc Np : JNm} {w : JW} {n : Nat} {er : JEr} (h : jCI T Nc Np w n er) (a b : Int32) :
    jSI MX5_numberIn 2 [jR 7 false, jI a, jI b] w (fun r w2 => (T.1 n = 31 ∧ r = 1 ∧ jCI T Nc Np w2 (n + 1) (if a ≤ T.2.1 n ∧ T.2.1 n ≤ b then er else jbl er 5 n) ∧ jNF w w2) ∨ (¬ T.1 n = 31 ∧ r = 0 ∧ w2 = w)) := by
  refine jSI_of jp_X5_numberIn rfl (Nat.le_of_ble_eq_true rfl) (fun C hm => ?_)
  refine bk_X5_numberIn_0 hm (c_kind h) (by decide) (bk_X5_numberIn_4 hm (fun e => ?_) (fun e => bk_X5_numberIn_9 hm ⟨0, rfl, Or.inr ⟨e, rfl, rfl⟩⟩))
  have hlt := (h.lt (by rw [e]; decide) (by rw [e]; decide)).1
  have hx := h.2.2.1.2.2.2.1 n hlt e
  refine bk_X5_numberIn_11 hm (r := T.2.1 n) (w2 := w) (by rw [h.1.1, ← hx]; exact c_numberAt w h.le) (by decide) ?_
  have bad : ¬ (a ≤ T.2.1 n ∧ T.2.1 n ≤ b) → jW C 0 0 (jQQ C 0 0 (fun v w' => ∃ r, v = jI r ∧ ((T.1 n = 31 ∧ r = 1 ∧ jCI T Nc Np w' (n + 1) (if a ≤ T.2.1 n ∧ T.2.1 n ≤ b then er else jbl er 5 n) ∧ jNF w w') ∨ (¬ T.1 n = 31 ∧ r = 0 ∧ w' = w)))) 33 [jR 7 false, jU, jU, jU] [] w := by
    intro q
    rw [if_neg q]
    refine bq_X5_numberIn_33 hm (c_blame h (c := 5) (by decide)) (by decide) (fun w2 hp => ?_)
    exact bk_X5_numberIn_38 hm ⟨1, rfl, Or.inl ⟨e, rfl, hp.1.next hlt, hp.2.trans jNF_set⟩⟩
  refine bk_X5_numberIn_22 hm (fun q => bad (fun z => i32_not_lt.mpr z.1 q)) (fun q => bk_X5_numberIn_28 hm (fun q2 => ?_) (fun q2 => bad (fun z => q2 z.2)))
  rw [if_pos ⟨i32_not_lt.mp q, q2⟩]
  exact bk_X5_numberIn_38 hm ⟨1, rfl, Or.inl ⟨e, rfl, h.next hlt, jNF_set⟩⟩
/-- the orders' steps: how many, and what of them stays -/
def jSt (w : JW) (s : Nat) : Prop := w.1 34 (w.2.2 7 4) 7 = nI s
def jKp (w w2 : JW) (s : Nat) : Prop := ∀ j, j < s → w2.1 39 (w.2.2 7 4) j = w.1 39 (w.2.2 7 4) j ∧ w2.1 40 (w.2.2 7 4) j = w.1 40 (w.2.2 7 4) j
theorem jKp.refl (w : JW) (s : Nat) : jKp w w s := fun _ _ => ⟨rfl, rfl⟩
theorem jNF.KpF {w w2 : JW} (h : jNF w w2) (s : Nat) : jKp w w2 s := fun j _ => ⟨by rw [h.2 39 _ (by decide)], by rw [h.2 40 _ (by decide)]⟩
theorem jKp.trans {w w2 w3 : JW} {s s2 : Nat} (h : jKp w w2 s) (h2 : jKp w2 w3 s2) (hf : w2.2 = w.2) (hs : s ≤ s2) : jKp w w3 s := by
  intro j hj
  have e : w2.2.2 7 4 = w.2.2 7 4 := by rw [hf]
  have q := h2 j (by omega)
  rw [e] at q
  exact ⟨q.1.trans (h j hj).1, q.2.trans (h j hj).2⟩
theorem jNF.St {w w2 : JW} (h : jNF w w2) {s : Nat} (hs : jSt w s) : jSt w2 s := by
  unfold jSt at *
  rw [h.1, h.2 34 _ (by decide)]
  exact hs
theorem jset_b {w : JW} {k : Nat} {b : Bool} {j : Nat} {x : Int32} {k2 : Nat} {b2 : Bool} {j2 : Nat} (h : ¬ k2 = k ∨ ¬ b2 = b ∨ ¬ j2 = j) : (jset w k b j x).1 k2 b2 j2 = w.1 k2 b2 j2 := by
  rw [jset_I, if_neg]
  rintro ⟨h1, h2, h3⟩
  rcases h with q | q | q
  · exact q h1
  · exact q h2
  · exact q h3
theorem jset_at {w : JW} {k : Nat} {b : Bool} {j : Nat} {x : Int32} : (jset w k b j x).1 k b j = x := by rw [jset_I, if_pos ⟨rfl, rfl, rfl⟩]
theorem c_addStep (w : JW) (o : Bool) {s : Nat} (hs : w.1 34 o 7 = nI s) (h4 : s < 400) (a b : Int32) : jF MX2_addStep 1 [jR 34 o, jI a, jI b] w jU (jset (jset (jset w 39 o s a) 40 o s b) 34 o 7 (nI (s + 1))) := by
  refine jF_of jp_X2_addStep rfl (Nat.le_of_ble_eq_true rfl) (fun C hm => ?_)
  have z0 : ¬ w.1 34 o 7 < 0 := by
    rw [hs]
    exact fun q => absurd ((nI_ltI (b := 0) (by omega) (by omega)).mp q) (by omega)
  have z1 : ¬ 400 ≤ w.1 34 o 7 := by
    rw [hs]
    exact fun q => absurd ((nI_leI (a := 400) (by omega) (by omega)).mp q) (by omega)
  have hv : vp_in (w.1 34 o 7) 400 := by
    rw [hs]
    exact vp_in_nI (by omega) (by omega)
  refine bk_X2_addStep_0 hm (fun q => absurd q z0) (fun _ => bk_X2_addStep_7 hm (fun q => absurd q z1) (fun _ => bk_X2_addStep_19 hm (fun q => absurd q z1) (fun _ => bk_X2_addStep_31 hm hv (by rw [jset_b (Or.inl (by decide))]; exact hv) (bk_X2_addStep_61 hm ⟨rfl, ?_⟩))))
  have ec : (nI s).toNatClampNeg = s := nI_cl (by omega)
  simp only [jset_b (k := 39) (k2 := 34) (Or.inl (by decide)), jset_b (k := 40) (k2 := 34) (Or.inl (by decide)), hs, ec, nI_1]
/-- behind an emit -/
def jEm (T : JTk) (Nc Np : JNm) (w : JW) (n : Nat) (er : JEr) (s : Nat) (a b : Int32) (w2 : JW) : Prop := jCI T Nc Np w2 n er ∧ jEF w w2 ∧ jKp w w2 s ∧ (¬ er.1 = 0 → jSt w2 s) ∧ (er.1 = 0 → jSt w2 (s + 1) ∧ w2.1 39 (w.2.2 7 4) s = a ∧ w2.1 40 (w.2.2 7 4) s = b)
theorem c_emit {T : JTk} {Nc Np : JNm} {w : JW} {n : Nat} {er : JEr} (h : jCI T Nc Np w n er) {s : Nat} (hs : jSt w s) (h4 : s < 400) (a b : Int32) : jSV MX5_emit 2 [jR 7 false, jI a, jI b] w (jEm T Nc Np w n er s a b) := by
  refine jSV_of jp_X5_emit rfl (Nat.le_of_ble_eq_true rfl) (fun C hm => ?_)
  have h5 := h.2.1.2.1
  refine bk_X5_emit_0 hm (fun e => bk_X5_emit_19 hm ⟨rfl, ?_⟩) (fun e => bk_X5_emit_7 hm (c_addStep w (w.2.2 7 4) hs h4 a b) (by decide) (bk_X5_emit_19 hm ⟨rfl, ?_⟩))
  · have e0 : ¬ er.1 = 0 := fun q => e (by rw [h.2.1.1, q]; rfl)
    exact ⟨h, jEF.refl w, jKp.refl w s, fun _ => hs, fun q => absurd q e0⟩
  · have e0 : er.1 = 0 := (nI_eq (b := 0) (by omega) (by omega)).mp (h.2.1.1.symm.trans e)
    have hf : jEF w (jset (jset (jset w 39 (w.2.2 7 4) s a) 40 (w.2.2 7 4) s b) 34 (w.2.2 7 4) 7 (nI (s + 1))) := by
      refine ⟨rfl, fun k c hk hb => ?_, ?_⟩
      · funext j
        rw [jset_b, jset_b, jset_b]
        · by_cases z : c = w.2.2 7 4
          · exact Or.inl (fun q => hb ⟨z, Or.inr (Or.inl q)⟩)
          · exact Or.inr (Or.inl z)
        · by_cases z : c = w.2.2 7 4
          · exact Or.inl (fun q => hb ⟨z, Or.inr (Or.inr q)⟩)
          · exact Or.inr (Or.inl z)
        · by_cases z : c = w.2.2 7 4
          · exact Or.inl (fun q => hb ⟨z, Or.inl q⟩)
          · exact Or.inr (Or.inl z)
      · rw [jset_b (Or.inr (Or.inr (by decide))), jset_b (Or.inl (by decide)), jset_b (Or.inl (by decide))]
    refine ⟨h.of hf ?_ h.1.2 ?_ h5 (fun q => absurd e0 q), hf, fun j hj => ⟨?_, ?_⟩, fun q => absurd e0 q, fun _ => ⟨?_, ?_, ?_⟩⟩
    · rw [jset_b (Or.inl (by decide)), jset_b (Or.inl (by decide)), jset_b (Or.inl (by decide))]
      exact h.1.1
    · rw [jset_b (Or.inl (by decide)), jset_b (Or.inl (by decide)), jset_b (Or.inl (by decide))]
      exact h.2.1.1
    · rw [jset_b (Or.inl (by decide)), jset_b (Or.inl (by decide)), jset_b (Or.inr (Or.inr (by omega)))]
    · rw [jset_b (Or.inl (by decide)), jset_b (Or.inr (Or.inr (by omega)))]
      rw [jset_b (Or.inl (by decide))]
    · unfold jSt
      exact jset_at
    · rw [jset_b (Or.inl (by decide)), jset_b (Or.inl (by decide)), jset_at]
    · rw [jset_b (Or.inl (by decide)), jset_at]
