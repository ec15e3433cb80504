/-! the reference reads orders, lines, the whole list -/
theorem r_order {T : JTk} {L : JLn} {Rc Rp Rh : JNm} {w : JW} {n : Nat} {er : JEr} {m : Nat} (h0 : jMJ T L Rc Rp Rh w n er m) (hk : T.1 n = 15 ∨ T.1 n = 16) : jSV MX11_readOrder 46 [jR 41 false, jI (T.1 n)] w (jMLP T w n (if T.1 n = 15 then jlShut T L n er else jlClean T L n er)) := by
  refine jSV_of jp_X11_readOrder rfl (Nat.le_of_ble_eq_true rfl) (fun C hm => ?_)
  have hlt := h0.1.lt (by rcases hk with z | z <;> rw [z] <;> decide) (by rcases hk with z | z <;> rw [z] <;> decide)
  have hl0 := h0.1.le
  have bad79 : ∀ (w1 : JW) (f : Nat) (y x z : Int32), jMX T w f w1 → jW C 0 0 (jQQ C 0 0 (fun v w' => v = jU ∧ jMLP T w n (.inl f) w')) 79 [jR 41 false, jI y, jI x, jI z] [] w1 := fun w1 f y x z hX => t_ord hm hX.2.2 (fun _ => ⟨rfl, hX⟩) (fun k k5 _ => ⟨rfl, X_ord hX k5 _ _ _⟩)
  have bad74 : ∀ (w1 : JW) (f : Nat) (y x : Int32), jMX T w f w1 → jW C 0 0 (jQQ C 0 0 (fun v w' => v = jU ∧ jMLP T w n (.inl f) w')) 74 [jR 41 false, jI y, jI x, jU] [] w1 := fun w1 f y x hX => bk_X11_readOrder_74 hm (m_test0' _ hX.no) (by decide) (bk_X11_readOrder_78 hm (bad79 w1 f y x 0 hX))
  have bad67 : ∀ (w1 : JW) (f : Nat) (y x : Int32), jMX T w f w1 → jW C 0 0 (jQQ C 0 0 (fun v w' => v = jU ∧ jMLP T w n (.inl f) w')) 67 [jR 41 false, jI y, jI x, jU] [] w1 := fun w1 f y x hX => bk_X11_readOrder_67 hm (m_take0 hX.no _ _) (by decide) (bad74 w1 f y x hX)
  have bad48 : ∀ (w1 : JW) (f : Nat) (y x : Int32), jMX T w f w1 → jW C 0 0 (jQQ C 0 0 (fun v w' => v = jU ∧ jMLP T w n (.inl f) w')) 48 [jR 41 false, jI y, jU, jU] [jI x] w1 := fun w1 f y x hX => bk_X11_readOrder_48 hm (fun _ => bad67 w1 f y x hX) (fun _ => bk_X11_readOrder_57 hm (m_is0 hX.no _ _) (by decide) (bk_X11_readOrder_64 hm (fun _ => bad79 w1 f y x (-1) hX) (fun z => absurd rfl z)))
  -- the last writing
  have fin : ∀ (w1 : JW) (n1 : Nat) (er1 : JEr) (m1 : Nat) (y z : Int32) (t : Nat) (f : (Nat → Int32) → Bool), n ≤ n1 → jMJ T L Rc Rp Rh w1 n1 er1 m1 → jmLF w w1 → (er1.1 = 0 → L.1.1 5 < 16 ∧ y = nI t ∧ ((T.1 n = 15 ∧ t < L.1.1 0) ∨ (T.1 n = 16 ∧ t < L.1.1 1)) ∧ ((z = -1 ∧ T.1 n = 16 ∧ ∀ R, f R = true) ∨ (∃ v : Nat, z = nI v ∧ jTm m1 (w1.1 60 (w1.2.2 41 9)) (w1.1 61 (w1.2.2 41 9)) (w1.1 62 (w1.2.2 41 9)) (L.1.1 0) (L.1.1 1) (v + 1) true v ∧ ∀ R, jmv (w1.1 60 (w1.2.2 41 9)) (w1.1 61 (w1.2.2 41 9)) (w1.1 62 (w1.2.2 41 9)) R (v + 1) v = if f R then 1 else 0))) → jW C 0 0 (jQQ C 0 0 (fun v w' => v = jU ∧ jMLP T w n (.inr (n1, er1, if er1.1 = 0 then jaOrd L (T.1 n) t f else L)) w')) 79 [jR 41 false, jI (T.1 n), jI y, jI z] [] w1 := by
    intro w1 n1 er1 m1 y z t f hn h1 F1 hz
    refine t_ord hm h1.k (fun q => ⟨rfl, hn, F1, Rc, Rp, Rh, m1, ?_⟩) (fun k k5 q => ⟨rfl, hn, F1.trans (w_LF (r := 0)).2.2.2.2.2, Rc, Rp, Rh, m1, h1.ord (fun z => ⟨(hz z).2.1, (hz z).2.2.1⟩) (fun z => (hz z).2.2.2) k5 q⟩)
    have y : ¬ er1.1 = 0 := fun y => by
      have b := (h1.2.2.2 y).2.2.2.1.1.2.2.2.2.2
      have c := (hz y).1
      have := (nI_eq (by omega) (by omega)).mp (b.symm.trans q)
      omega
    simp only [if_neg y]
    exact h1
  -- the test, and what is behind it
  have test : ∀ (w1 : JW) (n1 : Nat) (er1 : JEr) (y : Int32) (t : Nat), n ≤ n1 → jMJ T L Rc Rp Rh w1 n1 er1 m → jmLF w w1 → (er1.1 = 0 → L.1.1 5 < 16 ∧ y = nI t ∧ ((T.1 n = 15 ∧ t < L.1.1 0) ∨ (T.1 n = 16 ∧ t < L.1.1 1))) → jW C 0 0 (jQQ C 0 0 (fun v w' => v = jU ∧ jMLP T w n (jlOrd T L (T.1 n) t n1 er1) w')) 74 [jR 41 false, jI (T.1 n), jI y, jU] [] w1 := by
    intro w1 n1 er1 y t hn h1 F1 hz
    refine bq_X11_readOrder_74 hm (m_wtest w1 n1 er1 m h1.1) (by decide) (fun r w2 q => bk_X11_readOrder_78 hm ?_)
    unfold jlOrd
    revert q
    show jYP T Rc Rp _ _ w1 n1 0 er1 m true (jxTest T L n1 er1) r w2 → _
    cases hr : jxTest T L n1 er1 with
    | inl f =>
      intro hF
      exact bad79 _ _ _ _ _ ((jFl.X hF h1.k).pre F1)
    | inr q =>
      rintro ⟨m2, g1, g2, g3, g4, g5, g6, g7⟩
      have h2 : jMJ T L Rc Rp Rh w2 q.1 q.2.1 m2 := h1.yf g2 g6 g4 g1 (fun z => (g7 z).1)
      refine fin w2 q.1 q.2.1 m2 y r t _ (by omega) h2 (F1.trans g2.LF) (fun z => ?_)
      obtain ⟨z1, v, rfl, k1, k2, k3⟩ := g7 z
      obtain ⟨a1, a2, a3⟩ := hz z1
      obtain ⟨q1, q2, -, -, q5⟩ := h2.2.2.2 z
      subst q1 q2
      refine ⟨a1, a2, a3, Or.inr ⟨v, rfl, k2, fun R => ?_⟩⟩
      have h01 := jmv_01 (R := R) (by have := q5.1.2.1; exact this) _ _ (jTm_Tr k1 k2)
      rw [k3 R] at h01 ⊢
      rcases h01 with e | e <;> rw [e] <;> rfl
  obtain ⟨a0, a1, a2, a3, a4, a5, -, -, -, -, -, e5, l5⟩ := h0.k
  have cnt : er.1 = 0 → a5 = L.1.1 5 := fun z => by
    have b := (h0.2.2.2 z).2.2.2.1.1.2.2.2.2.2
    have hW := (h0.2.2.2 z).2.2.2.2.1
    exact (nI_eq (by omega) (by omega)).mp (e5.symm.trans b)
  have main : ∀ (w0 : JW) (er0 : JEr), (if L.1.1 5 < 16 then er else jbl er 4 n) = er0 → jMJ T L Rc Rp Rh (jset w0 41 false 13 (w0.1 41 false 13 + 1)) (n + 1) er0 m → jMF w w0 → jW C 0 0 (jQQ C 0 0 (fun v w' => v = jU ∧ jMLP T w n (if T.1 n = 15 then jlShut T L n er else jlClean T L n er) w')) 21 [jR 41 false, jI (T.1 n), jU, jU] [] w0 := by
    intro w0 er0 he h1 f0
    have F1 : jmLF w (jset w0 41 false 13 (w0.1 41 false 13 + 1)) := (f0.trans jMF_13.1).LF
    have z16 : er0.1 = 0 → L.1.1 5 < 16 := fun z => jord16 (he ▸ z)
    refine bk_X11_readOrder_21 hm (fun k => ?_) (fun k => ?_)
    · have k16 : T.1 n = 16 := hk.resolve_left k
      rw [if_neg k]
      unfold jlClean
      rw [he]
      have ek : jpK T 16 n er0 = .inr (n + 1, er0) := if_pos k16
      refine bq_X11_readOrder_44 hm (s_pipe h1) (by decide) (fun r w2 q => ?_)
      rcases q with ⟨er2, e1, hr, h2, f2⟩ | ⟨e1, hX⟩
      rotate_left
      · simp only [jpSq, ek, e1]
        exact bad48 _ _ _ _ (hX.pre F1)
      simp only [jpSq, ek, e1]
      have F2 := F1.trans f2.LF
      have o1 := jpO_ok e1
      have zz : er2.1 = 0 → L.1.1 5 < 16 ∧ r = nI (jfi T (jNp L) (n + 1)) ∧ ((T.1 n = 15 ∧ jfi T (jNp L) (n + 1) < L.1.1 0) ∨ (T.1 n = 16 ∧ jfi T (jNp L) (n + 1) < L.1.1 1)) := fun z => by
        obtain ⟨z1, b⟩ := o1.2.2 z
        have h12 : (jNp L).2 ≤ 12 := (h2.2.2.2 z).2.2.2.2.1.2.1
        obtain ⟨j1, j2⟩ := jnum_ok h12 b
        exact ⟨z16 z1, (hr z).trans j1, Or.inr ⟨k16, j2⟩⟩
      refine bk_X11_readOrder_48 hm (fun q => absurd q k) (fun _ => bk_X11_readOrder_57 hm (m_isK h2.1 17 (by decide)) (by decide) ?_)
      by_cases z : T.1 (n + 1 + 1) = 17
      · rw [if_pos z]
        refine bk_X11_readOrder_64 hm (fun q => ?_) (fun _ => ?_)
        · rw [if_pos z] at q
          exact absurd q (by decide)
        · refine bq_X11_readOrder_67 hm (s_take h2 17 (by decide) (by decide) (by decide)) (by decide) (fun w3 q => ?_)
          rcases q with ⟨er3, e3, h3, f3⟩ | ⟨e3, hX⟩
          · have e32 : er3 = er2 := jpK_er e3
            subst e32
            have := test w3 (n + 1 + 1 + 1) er3 r _ (by omega) h3 (F2.trans f3.LF) zz
            rw [k16] at this ⊢
            exact this
          · unfold jpK at e3
            rw [if_pos z] at e3
            cases e3
      · rw [if_neg z]
        refine bk_X11_readOrder_64 hm (fun _ => ?_) (fun q => ?_)
        · have := fin w2 (n + 1 + 1) er2 m r (-1) (jfi T (jNp L) (n + 1)) (fun _ => true) (by omega) h2 F2 (fun z => ⟨(zz z).1, (zz z).2.1, (zz z).2.2, Or.inl ⟨rfl, k16, fun _ => rfl⟩⟩)
          rw [k16] at this ⊢
          exact this
        · rw [if_neg z] at q
          exact absurd rfl q
    · rw [if_pos k]
      unfold jlShut
      rw [he]
      have ek : jpK T 15 n er0 = .inr (n + 1, er0) := if_pos k
      refine bq_X11_readOrder_37 hm (s_cave h1) (by decide) (fun r w2 q => ?_)
      rcases q with ⟨er2, e1, hr, h2, f2⟩ | ⟨e1, hX⟩
      rotate_left
      · simp only [jpSq, ek, e1]
        exact bk_X11_readOrder_41 hm (bad48 _ _ _ _ (hX.pre F1))
      have F2 := F1.trans f2.LF
      have o1 := jpO_ok e1
      have zz : er2.1 = 0 → L.1.1 5 < 16 ∧ r = nI (jfi T (jNc L) (n + 1)) ∧ ((T.1 n = 15 ∧ jfi T (jNc L) (n + 1) < L.1.1 0) ∨ (T.1 n = 16 ∧ jfi T (jNc L) (n + 1) < L.1.1 1)) := fun z => by
        obtain ⟨z1, b⟩ := o1.2.2 z
        have h12 : (jNc L).2 ≤ 12 := by
          have : L.1.1 0 ≤ 5 := (h2.2.2.2 z).2.2.2.2.1.1
          show L.1.1 0 ≤ 12
          omega
        obtain ⟨j1, j2⟩ := jnum_ok h12 b
        exact ⟨z16 z1, (hr z).trans j1, Or.inl ⟨k, j2⟩⟩
      refine bk_X11_readOrder_41 hm (bk_X11_readOrder_48 hm (fun _ => ?_) (fun q => absurd k q))
      refine bq_X11_readOrder_67 hm (s_take h2 17 (by decide) (by decide) (by decide)) (by decide) (fun w3 q => ?_)
      rcases q with ⟨er3, e3, h3, f3⟩ | ⟨e3, hX⟩
      · simp only [jpSq, ek, e1, e3]
        have e32 : er3 = er2 := jpK_er e3
        subst e32
        have := test w3 (n + 1 + 1 + 1) er3 r _ (by omega) h3 (F2.trans f3.LF) zz
        rw [k] at this ⊢
        exact this
      · simp only [jpSq, ek, e1, e3]
        exact bad74 _ _ _ _ (hX.pre F2)
  refine bk_X11_readOrder_0 hm (fun q => ?_) (fun q => ?_)
  · refine main w er ?_ (h0.next hlt) (jMF.refl w)
    by_cases z : er.1 = 0
    · have e := cnt z
      rw [if_pos]
      have : ¬ a5 = 16 := fun y => q (by rw [e5, y]; rfl)
      omega
    · rw [jbl_keep z]
      split <;> rfl
  · have ee : a5 = 16 := (nI_eq (by omega) (by omega)).mp (e5.symm.trans q)
    refine bq_X11_readOrder_12 hm (m_tellAt h0.1 hlt (c := 4) (by decide) h0.1.1.1.1) (by decide) (fun w1 hp => ?_)
    refine main w1 _ ?_ (h0.mf (hp.2.1.trans jMF_13.1) hp.1 (fun z => absurd z (jbl_n0 (by decide)))) hp.2.1
    by_cases z : er.1 = 0
    · have e := cnt z
      rw [if_neg (by omega)]
    · rw [jbl_keep z]
      split <;> rfl
