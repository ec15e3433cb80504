/-! the reference reads names, numbers, values -/
theorem m_one0 : jY0 MX11_one 1 := by
  intro w h
  refine jF_of jp_X11_one rfl (Nat.le_of_ble_eq_true rfl) (fun C hm => ?_)
  exact bk_X11_one_0 hm (m_no h) (by decide) (bk_X11_one_4 hm (fun z => absurd rfl z) (fun _ => bk_X11_one_7 hm ⟨rfl, rfl⟩))
theorem m_product0' : jY0 MX11_product 2 := m_product0 m_one0 (Nat.le_refl _)
theorem m_sum0' : jY0 MX11_sum 3 := m_sum0 m_product0' (by decide)
theorem m_known0 {w : JW} (h : ¬ w.1 41 false 15 = -1) (k : Nat) (x : Int32) : jF MX11_known 2 [jR 41 false, jR k false, jI x] w (jI 0) w := by
  refine jF_of jp_X11_known rfl (Nat.le_of_ble_eq_true rfl) (fun C hm => ?_)
  exact bk_X11_known_0 hm (m_name0 h) (by decide) (bk_X11_known_4 hm (m_no h) (by decide) (bk_X11_known_9 hm (fun z => absurd rfl z) (fun _ => bk_X11_known_12 hm ⟨rfl, rfl⟩)))
/-- the names of caves, of pipes -/
def jRk (k : Nat) (Rc Rp : JNm) (fc fp : Nat → Int32) (N : JNm) (f : Nat → Int32) : Prop := (k = 47 ∧ N = Rc ∧ f = fc) ∨ (k = 48 ∧ N = Rp ∧ f = fp)
theorem jMI.Rk {T : JTk} {Rc Rp : JNm} {fc fp : Nat → Int32} {w : JW} {n x : Nat} {er : JEr} {m : Nat} (h : jMI T Rc Rp fc fp w n x er m) {k : Nat} {N : JNm} {f : Nat → Int32} (hk : jRk k Rc Rp fc fp N f) : ∃ l, jIA k false l ∧ N.2 ≤ l ∧ N.2 ≤ 12 ∧ jNM N w k ∧ jNMt T N ∧ (er.1 = 0 → ∀ t, f t = jnum T N t) := by
  obtain ⟨-, -, -, -, ⟨c1, -, c3, c4⟩, ⟨p1, -, p3, p4⟩, h7⟩ := h
  rcases hk with ⟨rfl, rfl, rfl⟩ | ⟨rfl, rfl, rfl⟩
  · exact ⟨5, ja_47, c1, by omega, c3, c4, fun z => (h7 z).1⟩
  · exact ⟨12, ja_48, p1, p1, p3, p4, fun z => (h7 z).2⟩
theorem m_known {T : JTk} {Rc Rp : JNm} {fc fp : Nat → Int32} {w : JW} {n x : Nat} {er : JEr} {m : Nat} (h : jMI T Rc Rp fc fp w n x er m) {k : Nat} {N : JNm} {f : Nat → Int32} (hk : jRk k Rc Rp fc fp N f) {y : Int32} (hy : y = nI N.2) :
    jSI MX11_known 2 [jR 41 false, jR k false, jI y] w (fun r w2 => (T.1 n = 30 ∧ jMI T Rc Rp fc fp w2 (n + 1) x (if f n < 0 then jbl er 3 n else er) m ∧ jMF w w2 ∧ (er.1 = 0 → r = f n)) ∨ (¬ T.1 n = 30 ∧ jFl T w n m n w2)) := by
  subst hy
  refine jSI_of jp_X11_known rfl (Nat.le_of_ble_eq_true rfl) (fun C hm => ?_)
  refine bq_X11_known_0 hm (m_name h) (by decide) (fun r w1 q => ?_)
  rcases q with ⟨a, rfl, h1, f1⟩ | ⟨a, rfl, hF⟩
  · have hlt := h.lt (by rw [a]; decide) (by rw [a]; decide)
    obtain ⟨l, hA, hl, h12, hN, hNt, hf⟩ := h1.Rk hk
    refine bk_X11_known_4 hm (m_ok h1) (by decide) (bk_X11_known_9 hm (fun _ => bk_X11_known_14 hm (m_find h1.2.2.1 hA hN hNt hl hlt a) (by decide) ?_) (fun z => absurd z (by decide)))
    have fin : ∀ w2, jMI T Rc Rp fc fp w2 (n + 1) x (if f n < 0 then jbl er 3 n else er) m → jMF w w2 → jW C 0 0 (jQQ C 0 0 (fun v w' => ∃ r, v = jI r ∧ ((T.1 n = 30 ∧ jMI T Rc Rp fc fp w' (n + 1) x (if f n < 0 then jbl er 3 n else er) m ∧ jMF w w' ∧ (er.1 = 0 → r = f n)) ∨ (¬ T.1 n = 30 ∧ jFl T w n m n w')))) 35 [jU, jU, jU, jU, jI (jnum T N n)] [] w2 := fun w2 h2 f2 => bk_X11_known_35 hm ⟨_, rfl, Or.inl ⟨a, h2, f2, fun z => (hf z n).symm⟩⟩
    refine bk_X11_known_21 hm (fun q => ?_) (fun q => ?_)
    · refine fin w1 ?_ f1
      by_cases z : er.1 = 0
      · rw [hf z, if_neg (fun z2 => q ((jnum_neg h12).2.2.mpr ((jnum_neg h12).1.mp z2)))]
        exact h1
      · rw [jbl_keep z]
        by_cases z2 : f n < 0
        · rw [if_pos z2]; exact h1
        · rw [if_neg z2]; exact h1
    · refine bq_X11_known_29 hm (m_tell h1 (c := 3) (t := n) (by decide) (Nat.lt_succ_self n) (fun z => Or.inl (h.2.1.2.2 z).2)) (by decide) (fun w2 hp => fin w2 ?_ (f1.trans hp.2))
      by_cases z : er.1 = 0
      · rw [hf z, if_pos ((jnum_neg h12).1.mpr ((jnum_neg h12).2.2.mp q))]
        exact hp.1
      · have h2 := hp.1
        rw [jbl_keep z] at h2 ⊢
        by_cases z2 : f n < 0
        · rw [if_pos z2]; exact h2
        · rw [if_neg z2]; exact h2
  · exact bk_X11_known_4 hm (m_no hF.no) (by decide) (bk_X11_known_9 hm (fun z => absurd rfl z) (fun _ => bk_X11_known_12 hm ⟨_, rfl, Or.inr ⟨a, hF⟩⟩))
theorem m_knownCave {T : JTk} {Rc Rp : JNm} {fc fp : Nat → Int32} {w : JW} {n x : Nat} {er : JEr} {m : Nat} (h : jMI T Rc Rp fc fp w n x er m) :
    jSI MX11_knownCave 3 [jR 41 false] w (fun r w2 => (T.1 n = 30 ∧ jMI T Rc Rp fc fp w2 (n + 1) x (if fc n < 0 then jbl er 3 n else er) m ∧ jMF w w2 ∧ (er.1 = 0 → r = fc n)) ∨ (¬ T.1 n = 30 ∧ jFl T w n m n w2)) := by
  refine jSI_of jp_X11_knownCave rfl (Nat.le_of_ble_eq_true rfl) (fun C hm => ?_)
  exact bq_X11_knownCave_0 hm (m_known h (Or.inl ⟨rfl, rfl, rfl⟩) h.2.2.2.2.1.2.1) (by decide) (fun r w2 q => bk_X11_knownCave_15 hm ⟨r, rfl, q⟩)
theorem m_knownCave0 {w : JW} (h : ¬ w.1 41 false 15 = -1) : jF MX11_knownCave 3 [jR 41 false] w (jI 0) w := by
  refine jF_of jp_X11_knownCave rfl (Nat.le_of_ble_eq_true rfl) (fun C hm => ?_)
  exact bk_X11_knownCave_0 hm (m_known0 h _ _) (by decide) (bk_X11_knownCave_15 hm ⟨rfl, rfl⟩)
theorem m_knownPipe {T : JTk} {Rc Rp : JNm} {fc fp : Nat → Int32} {w : JW} {n x : Nat} {er : JEr} {m : Nat} (h : jMI T Rc Rp fc fp w n x er m) :
    jSI MX11_knownPipe 3 [jR 41 false] w (fun r w2 => (T.1 n = 30 ∧ jMI T Rc Rp fc fp w2 (n + 1) x (if fp n < 0 then jbl er 3 n else er) m ∧ jMF w w2 ∧ (er.1 = 0 → r = fp n)) ∨ (¬ T.1 n = 30 ∧ jFl T w n m n w2)) := by
  refine jSI_of jp_X11_knownPipe rfl (Nat.le_of_ble_eq_true rfl) (fun C hm => ?_)
  exact bq_X11_knownPipe_0 hm (m_known h (Or.inr ⟨rfl, rfl, rfl⟩) h.2.2.2.2.2.1.2.1) (by decide) (fun r w2 q => bk_X11_knownPipe_15 hm ⟨r, rfl, q⟩)
theorem m_knownPipe0 {w : JW} (h : ¬ w.1 41 false 15 = -1) : jF MX11_knownPipe 3 [jR 41 false] w (jI 0) w := by
  refine jF_of jp_X11_knownPipe rfl (Nat.le_of_ble_eq_true rfl) (fun C hm => ?_)
  exact bk_X11_knownPipe_0 hm (m_known0 h _ _) (by decide) (bk_X11_knownPipe_15 hm ⟨rfl, rfl⟩)
theorem m_number0 {w : JW} (h : ¬ w.1 41 false 15 = -1) (a b : Int32) : jF MX11_number 2 [jR 41 false, jI a, jI b] w (jI 0) w := by
  refine jF_of jp_X11_number rfl (Nat.le_of_ble_eq_true rfl) (fun C hm => ?_)
  exact bk_X11_number_0 hm (m_no h) (by decide) (bk_X11_number_4 hm (fun _ => bk_X11_number_20 hm (m_fail0 h) (by decide) (bk_X11_number_24 hm ⟨rfl, rfl⟩)) (fun z => absurd rfl z))
theorem m_number {T : JTk} {Rc Rp : JNm} {fc fp : Nat → Int32} {w : JW} {n x : Nat} {er : JEr} {m : Nat} (h : jMI T Rc Rp fc fp w n x er m) (a b : Int32) :
    jSI MX11_number 2 [jR 41 false, jI a, jI b] w (fun r w2 => (T.1 n = 31 ∧ r = T.2.1 n ∧ jMI T Rc Rp fc fp w2 (n + 1) x (if a ≤ T.2.1 n ∧ T.2.1 n ≤ b then er else jbl er 5 n) m ∧ jMF w w2) ∨ (¬ T.1 n = 31 ∧ r = 0 ∧ jFl T w n m n w2)) := by
  refine jSI_of jp_X11_number rfl (Nat.le_of_ble_eq_true rfl) (fun C hm => ?_)
  obtain ⟨ea, va⟩ := h.at
  have hl := h.le
  refine bk_X11_number_0 hm (m_ok h) (by decide) (bk_X11_number_4 hm (fun z => absurd z (by decide)) (fun _ => bk_X11_number_7 hm va (fun q => ?_) (fun q => ?_)))
  · rw [ea] at q
    have k := (jkv_num h.tok).1.mp q
    have hlt := h.lt (by rw [k]; decide) (by rw [k]; decide)
    have ev : w.1 44 false n = T.2.1 n := (jkv_num h.tok).2 k
    have fin : ∀ (w2 : JW) (er2 : JEr), (if a ≤ T.2.1 n ∧ T.2.1 n ≤ b then er else jbl er 5 n) = er2 → w2.1 41 false 13 = nI n → jMI T Rc Rp fc fp (jset w2 41 false 13 (w2.1 41 false 13 + 1)) (n + 1) x er2 m → jMF w w2 → jW C 0 0 (jQQ C 0 0 (fun v w' => ∃ r, v = jI r ∧ ((T.1 n = 31 ∧ r = T.2.1 n ∧ jMI T Rc Rp fc fp w' (n + 1) x (if a ≤ T.2.1 n ∧ T.2.1 n ≤ b then er else jbl er 5 n) m ∧ jMF w w') ∨ (¬ T.1 n = 31 ∧ r = 0 ∧ jFl T w n m n w')))) 52 [jR 41 false, jU, jU] [] w2 := by
      intro w2 er2 he e13 h2 f2
      have e1 : (jset w2 41 false 13 (w2.1 41 false 13 + 1)).1 41 false 13 - 1 = nI n := by rw [jset_at, e13, nI_1, nI_pred]
      refine bk_X11_number_52 hm (by rw [e1]; exact vp_in_nI (by omega) (by omega)) ⟨_, rfl, Or.inl ⟨k, ?_, by rw [he]; exact h2, f2.trans (jMF_set (by decide))⟩⟩
      rw [e1, nI_clamp (by omega), jset_bk (by decide), f2.2.1 44 _ (by decide), ev]
    refine bk_X11_number_26 hm va (c_isIn w _ _ _) (by decide) ?_
    rw [ea, ev]
    refine bk_X11_number_40 hm (fun q2 => ?_) (fun q2 => ?_)
    · have z : a ≤ T.2.1 n ∧ T.2.1 n ≤ b := Classical.not_not.mp (fun z => q2 (if_neg z))
      exact fin w er (if_pos z) h.1.1.1 (h.next hlt) (jMF.refl w)
    · have z : ¬ (a ≤ T.2.1 n ∧ T.2.1 n ≤ b) := fun z => by rw [if_pos z] at q2; exact absurd q2 (by decide)
      refine bq_X11_number_43 hm (m_tellAt h hlt (c := 5) (by decide) h.1.1.1) (by decide) (fun w2 hp => ?_)
      exact fin w2 _ (if_neg z) hp.2.2 hp.1 hp.2.1
  · rw [ea] at q
    exact bk_X11_number_20 hm (m_fail h).1 (by decide) (bk_X11_number_24 hm ⟨0, rfl, Or.inr ⟨fun z => q ((jkv_num h.tok).1.mpr z), rfl, (m_fail h).2⟩⟩)
/-- one level up again -/
theorem jMI.up {T : JTk} {Rc Rp : JNm} {fc fp : Nat → Int32} {w : JW} {n x : Nat} {er : JEr} {m : Nat} (h : jMI T Rc Rp fc fp w n (x + 1) er m) : jMI T Rc Rp fc fp (jset w 41 false 14 (w.1 41 false 14 - 1)) n x er m := by
  refine h.of (jMF_set (by decide)).YF ?_ h.1.1.2 ?_ ?_ ?_ h.2.1.2.1 (fun q => ?_) ?_ h.2.2.2.1.2 (fun z => z)
  · rw [jset_bj (by decide)]; exact h.1.1.1
  · rw [jset_at, h.1.2.1, nI_pred]
  · rw [jset_bj (by decide)]; exact h.1.2.2
  · rw [jset_bj (by decide)]; exact h.2.1.1
  · rw [jset_bj (by decide)]; exact h.2.1.2.2 q
  · rw [jset_bk (by decide)]; exact h.2.2.2.1.1
theorem jMF_14 {w : JW} {x : Int32} : jMF w (jset w 41 false 14 x) ∧ (jset w 41 false 14 x).1 41 false 15 = w.1 41 false 15 := ⟨jMF_set (by decide), jset_bj (by decide)⟩
theorem jMF_13 {w : JW} {x : Int32} : jMF w (jset w 41 false 13 x) ∧ (jset w 41 false 13 x).1 41 false 15 = w.1 41 false 15 := ⟨jMF_set (by decide), jset_bj (by decide)⟩
/-- a piece ahead of a sign that shuts it -/
def jshut (T : JTk) (k : Int32) (res : JXR) : JXR := match res with
  | .inl f => .inl f
  | .inr q => if T.1 q.1 = k then .inr (q.1 + 1, q.2) else .inl q.1
theorem m_shut {T : JTk} {Rc Rp : JNm} {fc fp : Nat → Int32} {w : JW} {n x : Nat} {er : JEr} {m : Nat} {t : Bool} {res : JXR} {r : Int32} {w2 : JW} (q : jYP T Rc Rp fc fp w n x er m t res r w2) {v k : Int32} (hv : v = jsy k) (hk : 32 ≤ k ∧ k ≤ 46) (k1 : k ≠ 47) (k2 : k ≠ 48) :
    jSV MX11_take 2 [jR 41 false, jI 4, jI v] w2 (fun w3 => jYP T Rc Rp fc fp w n x er m t (jshut T k res) r w3) := by
  cases res with
  | inl f =>
    refine jSV.mono (jSV_F (m_take0 (jFl.no q) 4 v)) (fun w3 e => ?_)
    subst e
    exact q
  | inr p =>
    obtain ⟨m1, q1⟩ := q
    refine (m_take q1.st (m_isS q1.st k hk hv) k1 k2).mono (fun w3 e => ?_)
    show jYP T Rc Rp fc fp w n x er m t (if T.1 p.1 = k then .inr (p.1 + 1, p.2) else .inl p.1) r w3
    rcases e with ⟨a, h3, f3⟩ | ⟨a, hF⟩
    · rw [if_pos a]
      exact ⟨m1, q1.post f3 (Nat.le_succ _) h3⟩
    · rw [if_neg a]
      have := jFl.two q1 (jMF.refl _) (Nat.le_refl _) hF
      exact this.le (by omega)
