/-! the reference writes a line into its book -/
theorem jNM_more2 {T : JTk} {N : JNm} {w w2 : JW} {k t : Nat} (h : jNM N w k) (ht : jNMt T N) (hk : ∀ j, j ≠ N.2 → w2.1 k false j = w.1 k false j) (hn : w2.1 k false N.2 = nI t) (hl : t < T.2.2.2) (h30 : T.1 t = 30) : jNM (updn N.1 N.2 t, N.2 + 1) w2 k ∧ jNMt T (updn N.1 N.2 t, N.2 + 1) := by
  refine ⟨fun j hj => ?_, fun j hj => ?_⟩
  · show _ = nI (updn N.1 N.2 t j)
    by_cases z : j = N.2
    · subst z
      rw [updn_at]
      exact hn
    · rw [updn_no z, hk j z]
      have : j < N.2 + 1 := hj
      exact h j (by omega)
  · show updn N.1 N.2 t j < _ ∧ T.1 (updn N.1 N.2 t j) = 30
    by_cases z : j = N.2
    · subst z
      rw [updn_at]
      exact ⟨hl, h30⟩
    · rw [updn_no z]
      have : j < N.2 + 1 := hj
      exact ht j (by omega)
def wCave (w : JW) (k : Nat) (y x d : Int32) : JW := jset (jset (jset (jset w 47 false k y) 54 (w.2.2 41 9) (2 * k) x) 54 (w.2.2 41 9) (2 * k + 1) d) 53 (w.2.2 41 9) 0 (nI (k + 1))
def wPipe (w : JW) (k : Nat) (y c l r : Int32) : JW := jset (jset (jset (jset (jset w 48 false k y) 55 (w.2.2 41 9) (3 * k) c) 55 (w.2.2 41 9) (3 * k + 1) l) 55 (w.2.2 41 9) (3 * k + 2) r) 53 (w.2.2 41 9) 1 (nI (k + 1))
def wSwell (w : JW) (k : Nat) (x y z : Int32) : JW := jset (jset (jset (jset w 56 (w.2.2 41 9) (3 * k) x) 56 (w.2.2 41 9) (3 * k + 1) y) 56 (w.2.2 41 9) (3 * k + 2) z) 53 (w.2.2 41 9) 2 (nI (k + 1))
def wSil (w : JW) (k : Nat) (x y : Int32) : JW := jset (jset (jset w 57 (w.2.2 41 9) (2 * k) x) 57 (w.2.2 41 9) (2 * k + 1) y) 53 (w.2.2 41 9) 3 (nI (k + 1))
def wChord (w : JW) (k : Nat) (y r mny : Int32) : JW := jset (jset (jset w 58 (w.2.2 41 9) (7 * k) mny) 49 false k y) 53 (w.2.2 41 9) 4 (nI (k + 1))
def wOrd (w : JW) (k : Nat) (x y z : Int32) : JW := jset (jset (jset (jset w 59 (w.2.2 41 9) (3 * k) x) 59 (w.2.2 41 9) (3 * k + 1) y) 59 (w.2.2 41 9) (3 * k + 2) z) 53 (w.2.2 41 9) 5 (nI (k + 1))
theorem t_cave {C : JC} {d : Nat} (hm : jok C MX11_readCave d 0 0) {w : JW} (hw : jWk w) {y x z : Int32} {P : JV → JW → Prop} (h5 : w.1 53 (w.2.2 41 9) 0 = nI 5 → P jU w) (h : ∀ k : Nat, k < 5 → w.1 53 (w.2.2 41 9) 0 = nI k → P jU (wCave w k y x z)) : jW C 0 0 (jQQ C 0 0 P) 54 [jR 41 false, jI y, jI x, jU] [jI z] w := by
  obtain ⟨k, -, -, -, -, -, ⟨e, hk⟩, -⟩ := hw
  refine bk_X11_readCave_54 hm (fun q => ?_) (fun q => bk_X11_readCave_66 hm (h5 q))
  have k5 : k < 5 := by
    have : ¬ k = 5 := fun z => q (by rw [e, z]; rfl)
    omega
  have hp := h k k5 e
  refine bk_X11_readCave_67 hm (by rw [e]; exact vp_in_nI k5 (by decide)) ?_ ?_ ?_
  · simp (disch := omega) only [jset_L, jset_bk, e, nI_2m]
    exact vp_in_nI (by omega) (by decide)
  · simp (disch := omega) only [jset_L, jset_bk, e, nI_2m, nI_1]
    exact vp_in_nI (by omega) (by decide)
  · simp (disch := omega) only [jset_L, jset_bk, e, nI_2m, nI_1, nI_clamp]
    exact hp
theorem t_pipe {C : JC} {d : Nat} (hm : jok C MX11_readPipe d 0 0) {w : JW} (hw : jWk w) {y x z r : Int32} (hr : r = 0 ∨ r = 1) {P : JV → JW → Prop} (h5 : w.1 53 (w.2.2 41 9) 1 = nI 12 → P jU w) (h : ∀ k : Nat, k < 12 → w.1 53 (w.2.2 41 9) 1 = nI k → P jU (wPipe w k y x z r)) : jW C 0 0 (jQQ C 0 0 P) 77 [jR 41 false, jI y, jI x, jI z, jI r] [] w := by
  obtain ⟨-, k, -, -, -, -, -, ⟨e, hk⟩, -⟩ := hw
  refine bk_X11_readPipe_77 hm (fun q => ?_) (fun q => bk_X11_readPipe_89 hm (h5 q))
  have k5 : k < 12 := by
    have : ¬ k = 12 := fun z => q (by rw [e, z]; rfl)
    omega
  have hp := h k k5 e
  refine bk_X11_readPipe_90 hm (by rw [e]; exact vp_in_nI k5 (by decide)) ?_ ?_ (fun q => ?_) (fun q => ?_)
  · simp (disch := omega) only [jset_L, jset_bk, e, nI_3m]
    exact vp_in_nI (by omega) (by decide)
  · simp (disch := omega) only [jset_L, jset_bk, e, nI_3m, nI_1]
    exact vp_in_nI (by omega) (by decide)
  · subst q
    simp (disch := omega) only [jset_L, jset_bk, e, nI_3m, nI_1, nI_p2, nI_clamp]
    refine bk_X11_readPipe_168 hm (bk_X11_readPipe_169 hm (vp_in_nI (by omega) (by decide)) ?_)
    simp (disch := omega) only [jset_L, jset_bk, e, nI_1, nI_clamp]
    exact hp
  · have e1 : r = 1 := hr.elim (fun z => absurd z q) id
    subst e1
    simp (disch := omega) only [jset_L, jset_bk, e, nI_3m, nI_1, nI_p2, nI_clamp]
    refine bk_X11_readPipe_164 hm (bk_X11_readPipe_169 hm (vp_in_nI (by omega) (by decide)) ?_)
    simp (disch := omega) only [jset_L, jset_bk, e, nI_1, nI_clamp]
    exact hp
theorem t_swell {C : JC} {d : Nat} (hm : jok C MX11_readSwell d 0 0) {w : JW} (hw : jWk w) {y x z : Int32} {P : JV → JW → Prop} (h5 : w.1 53 (w.2.2 41 9) 2 = nI 5 → P jU w) (h : ∀ k : Nat, k < 5 → w.1 53 (w.2.2 41 9) 2 = nI k → P jU (wSwell w k y x z)) : jW C 0 0 (jQQ C 0 0 P) 74 [jR 41 false, jI y, jI x, jU] [jI z] w := by
  obtain ⟨-, -, k, -, -, -, -, -, ⟨e, hk⟩, -⟩ := hw
  refine bk_X11_readSwell_74 hm (fun q => ?_) (fun q => bk_X11_readSwell_86 hm (h5 q))
  have k5 : k < 5 := by
    have : ¬ k = 5 := fun z => q (by rw [e, z]; rfl)
    omega
  have hp := h k k5 e
  refine bk_X11_readSwell_87 hm (by rw [e, nI_3m]; exact vp_in_nI (by omega) (by decide)) ?_ ?_ ?_
  · simp (disch := omega) only [jset_L, jset_bk, e, nI_3m, nI_1]
    exact vp_in_nI (by omega) (by decide)
  · simp (disch := omega) only [jset_L, jset_bk, e, nI_3m, nI_p2]
    exact vp_in_nI (by omega) (by decide)
  · simp (disch := omega) only [jset_L, jset_bk, e, nI_3m, nI_1, nI_p2, nI_clamp]
    exact hp
theorem t_sil {C : JC} {d : Nat} (hm : jok C MX11_readSilence d 0 0) {w : JW} (hw : jWk w) {y z : Int32} {P : JV → JW → Prop} (h5 : w.1 53 (w.2.2 41 9) 3 = nI 3 → P jU w) (h : ∀ k : Nat, k < 3 → w.1 53 (w.2.2 41 9) 3 = nI k → P jU (wSil w k y z)) : jW C 0 0 (jQQ C 0 0 P) 59 [jR 41 false, jI y, jU] [jI z] w := by
  obtain ⟨-, -, -, k, -, -, -, -, -, ⟨e, hk⟩, -⟩ := hw
  refine bk_X11_readSilence_59 hm (fun q => ?_) (fun q => bk_X11_readSilence_71 hm (h5 q))
  have k5 : k < 3 := by
    have : ¬ k = 3 := fun z => q (by rw [e, z]; rfl)
    omega
  have hp := h k k5 e
  refine bk_X11_readSilence_72 hm (by rw [e, nI_2m]; exact vp_in_nI (by omega) (by decide)) ?_ ?_
  · simp (disch := omega) only [jset_L, jset_bk, e, nI_2m, nI_1]
    exact vp_in_nI (by omega) (by decide)
  · simp (disch := omega) only [jset_L, jset_bk, e, nI_2m, nI_1, nI_clamp]
    exact hp
theorem t_ord {C : JC} {d : Nat} (hm : jok C MX11_readOrder d 0 0) {w : JW} (hw : jWk w) {y x z : Int32} {P : JV → JW → Prop} (h5 : w.1 53 (w.2.2 41 9) 5 = nI 16 → P jU w) (h : ∀ k : Nat, k < 16 → w.1 53 (w.2.2 41 9) 5 = nI k → P jU (wOrd w k y x z)) : jW C 0 0 (jQQ C 0 0 P) 79 [jR 41 false, jI y, jI x, jI z] [] w := by
  obtain ⟨-, -, -, -, -, k, -, -, -, -, -, e, hk⟩ := hw
  refine bk_X11_readOrder_79 hm (fun q => ?_) (fun q => bk_X11_readOrder_91 hm (h5 q))
  have k5 : k < 16 := by
    have : ¬ k = 16 := fun z => q (by rw [e, z]; rfl)
    omega
  have hp := h k k5 e
  refine bk_X11_readOrder_92 hm (by rw [e, nI_3m]; exact vp_in_nI (by omega) (by decide)) ?_ ?_ ?_
  · simp (disch := omega) only [jset_L, jset_bk, e, nI_3m, nI_1]
    exact vp_in_nI (by omega) (by decide)
  · simp (disch := omega) only [jset_L, jset_bk, e, nI_3m, nI_p2]
    exact vp_in_nI (by omega) (by decide)
  · simp (disch := omega) only [jset_L, jset_bk, e, nI_3m, nI_1, nI_p2, nI_clamp]
    exact hp
theorem wk_set {w w2 : JW} {i k : Nat} (h : jWk w) (eo : w2.2 = w.2) (hs : ∀ j, j ≠ i → w2.1 53 (w.2.2 41 9) j = w.1 53 (w.2.2 41 9) j) (e : w2.1 53 (w.2.2 41 9) i = nI k) (hk : (i = 0 ∧ k ≤ 5) ∨ (i = 1 ∧ k ≤ 12) ∨ (i = 2 ∧ k ≤ 5) ∨ (i = 3 ∧ k ≤ 3) ∨ (i = 4 ∧ k ≤ 6) ∨ (i = 5 ∧ k ≤ 16)) : jWk w2 := by
  have eb : w2.2.2 41 9 = w.2.2 41 9 := by rw [eo]
  obtain ⟨a0, a1, a2, a3, a4, a5, q0, q1, q2, q3, q4, q5⟩ := h
  unfold jWk
  rw [eb]
  rcases hk with ⟨rfl, z⟩ | ⟨rfl, z⟩ | ⟨rfl, z⟩ | ⟨rfl, z⟩ | ⟨rfl, z⟩ | ⟨rfl, z⟩
  · refine ⟨k, a1, a2, a3, a4, a5, ⟨e, z⟩, ?_, ?_, ?_, ?_, ?_⟩
    · rw [hs 1 (by decide)]; exact q1
    · rw [hs 2 (by decide)]; exact q2
    · rw [hs 3 (by decide)]; exact q3
    · rw [hs 4 (by decide)]; exact q4
    · rw [hs 5 (by decide)]; exact q5
  · refine ⟨a0, k, a2, a3, a4, a5, ?_, ⟨e, z⟩, ?_, ?_, ?_, ?_⟩
    · rw [hs 0 (by decide)]; exact q0
    · rw [hs 2 (by decide)]; exact q2
    · rw [hs 3 (by decide)]; exact q3
    · rw [hs 4 (by decide)]; exact q4
    · rw [hs 5 (by decide)]; exact q5
  · refine ⟨a0, a1, k, a3, a4, a5, ?_, ?_, ⟨e, z⟩, ?_, ?_, ?_⟩
    · rw [hs 0 (by decide)]; exact q0
    · rw [hs 1 (by decide)]; exact q1
    · rw [hs 3 (by decide)]; exact q3
    · rw [hs 4 (by decide)]; exact q4
    · rw [hs 5 (by decide)]; exact q5
  · refine ⟨a0, a1, a2, k, a4, a5, ?_, ?_, ?_, ⟨e, z⟩, ?_, ?_⟩
    · rw [hs 0 (by decide)]; exact q0
    · rw [hs 1 (by decide)]; exact q1
    · rw [hs 2 (by decide)]; exact q2
    · rw [hs 4 (by decide)]; exact q4
    · rw [hs 5 (by decide)]; exact q5
  · refine ⟨a0, a1, a2, a3, k, a5, ?_, ?_, ?_, ?_, ⟨e, z⟩, ?_⟩
    · rw [hs 0 (by decide)]; exact q0
    · rw [hs 1 (by decide)]; exact q1
    · rw [hs 2 (by decide)]; exact q2
    · rw [hs 3 (by decide)]; exact q3
    · rw [hs 5 (by decide)]; exact q5
  · refine ⟨a0, a1, a2, a3, a4, k, ?_, ?_, ?_, ?_, ?_, ⟨e, z⟩⟩
    · rw [hs 0 (by decide)]; exact q0
    · rw [hs 1 (by decide)]; exact q1
    · rw [hs 2 (by decide)]; exact q2
    · rw [hs 3 (by decide)]; exact q3
    · rw [hs 4 (by decide)]; exact q4
theorem w_LF {w : JW} {k : Nat} {y x z r : Int32} : jmLF w (wCave w k y x z) ∧ jmLF w (wPipe w k y x z r) ∧ jmLF w (wSwell w k y x z) ∧ jmLF w (wSil w k y x) ∧ jmLF w (wChord w k y x z) ∧ jmLF w (wOrd w k y x z) := by
  refine ⟨?_, ?_, ?_, ?_, ?_, ?_⟩
  · exact (jmLF_set (Or.inl (by decide))).trans ((jmLF_set (w := jset w 47 _ _ _) (Or.inr ⟨rfl, by decide, by decide⟩)).trans ((jmLF_set (w := jset (jset w 47 _ _ _) 54 _ _ _) (Or.inr ⟨rfl, by decide, by decide⟩)).trans (jmLF_set (w := jset (jset (jset w 47 _ _ _) 54 _ _ _) 54 _ _ _) (Or.inr ⟨rfl, by decide, by decide⟩))))
  · exact (jmLF_set (Or.inl (by decide))).trans ((jmLF_set (w := jset w 48 _ _ _) (Or.inr ⟨rfl, by decide, by decide⟩)).trans ((jmLF_set (w := jset (jset w 48 _ _ _) 55 _ _ _) (Or.inr ⟨rfl, by decide, by decide⟩)).trans ((jmLF_set (w := jset (jset (jset w 48 _ _ _) 55 _ _ _) 55 _ _ _) (Or.inr ⟨rfl, by decide, by decide⟩)).trans (jmLF_set (w := jset (jset (jset (jset w 48 _ _ _) 55 _ _ _) 55 _ _ _) 55 _ _ _) (Or.inr ⟨rfl, by decide, by decide⟩)))))
  · exact (jmLF_set (Or.inr ⟨rfl, by decide, by decide⟩)).trans ((jmLF_set (w := jset w 56 _ _ _) (Or.inr ⟨rfl, by decide, by decide⟩)).trans ((jmLF_set (w := jset (jset w 56 _ _ _) 56 _ _ _) (Or.inr ⟨rfl, by decide, by decide⟩)).trans (jmLF_set (w := jset (jset (jset w 56 _ _ _) 56 _ _ _) 56 _ _ _) (Or.inr ⟨rfl, by decide, by decide⟩))))
  · exact (jmLF_set (Or.inr ⟨rfl, by decide, by decide⟩)).trans ((jmLF_set (w := jset w 57 _ _ _) (Or.inr ⟨rfl, by decide, by decide⟩)).trans (jmLF_set (w := jset (jset w 57 _ _ _) 57 _ _ _) (Or.inr ⟨rfl, by decide, by decide⟩)))
  · exact (jmLF_set (Or.inr ⟨rfl, by decide, by decide⟩)).trans ((jmLF_set (w := jset w 58 _ _ _) (Or.inl (by decide))).trans (jmLF_set (w := jset (jset w 58 _ _ _) 49 _ _ _) (Or.inr ⟨rfl, by decide, by decide⟩)))
  · exact (jmLF_set (Or.inr ⟨rfl, by decide, by decide⟩)).trans ((jmLF_set (w := jset w 59 _ _ _) (Or.inr ⟨rfl, by decide, by decide⟩)).trans ((jmLF_set (w := jset (jset w 59 _ _ _) 59 _ _ _) (Or.inr ⟨rfl, by decide, by decide⟩)).trans (jmLF_set (w := jset (jset (jset w 59 _ _ _) 59 _ _ _) 59 _ _ _) (Or.inr ⟨rfl, by decide, by decide⟩))))
/-- the book and its names have grown, or nothing but they are others: the reader stands as it did -/
theorem jMI.names {T : JTk} {Rc Rp Rc2 Rp2 : JNm} {fc fp fc2 fp2 : Nat → Int32} {w w2 : JW} {n x : Nat} {er : JEr} {m : Nat} (h : jMI T Rc Rp fc fp w n x er m) (e2 : w2.2 = w.2) (e41 : w2.1 41 false = w.1 41 false) (ek : ∀ k, 42 ≤ k → k ≤ 46 → w2.1 k false = w.1 k false) (e12 : w2.1 53 (w.2.2 41 9) 12 = w.1 53 (w.2.2 41 9) 12) (hc : Rc2.2 ≤ 5 ∧ w2.1 53 (w.2.2 41 9) 0 = nI Rc2.2 ∧ jNM Rc2 w2 47 ∧ jNMt T Rc2) (hp : Rp2.2 ≤ 12 ∧ w2.1 53 (w.2.2 41 9) 1 = nI Rp2.2 ∧ jNM Rp2 w2 48 ∧ jNMt T Rp2) (hf : er.1 = 0 → (∀ t, fc2 t = jnum T Rc2 t) ∧ ∀ t, fp2 t = jnum T Rp2 t) : jMI T Rc2 Rp2 fc2 fp2 w2 n x er m := by
  have eo : w2.2.2 41 9 = w.2.2 41 9 := by rw [e2]
  unfold jMI
  rw [eo, e41, e12]
  exact ⟨h.1, h.2.1, h.2.2.1.kept ek, h.2.2.2.1, hc, hp, hf⟩
