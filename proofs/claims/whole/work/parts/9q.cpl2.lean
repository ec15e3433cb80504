/-! the reference passes hours; small questions couple -/
theorem c_mpass_ {w : JW} {D : JD} (hB : jBk w (w.2.2 41 8) D) (hW : jWF D) (hA : jIA 51 false 51) (x : Int32) : jF MX11_pass_ 407 [jR 41 false, jI x] w (jI (if 1 ≤ x ∧ x ≤ 120 then jHours D x.toNatClampNeg (w.1 51 false) 2 - w.1 51 false 2 else 0)) (if 1 ≤ x ∧ x ≤ 120 then jfn (jT0 w 0) 51 false (jHours D x.toNatClampNeg (w.1 51 false)) else jset (jT0 w 0) 41 false 0 1) := by
  have e51 : (jT0 w 0).1 51 false = w.1 51 false := by
    funext j
    unfold jT0
    rw [jset_I, if_neg (by omega)]
  have hB2 : jBk (jT0 w 0) ((jT0 w 0).2.2 41 8) D := hB.kept (fun k k1 k2 => by
    funext j
    unfold jT0
    rw [jset_I, if_neg (by omega)])
  refine jF_of jp_X11_pass_ rfl (Nat.le_of_ble_eq_true rfl) (fun C hm => ?_)
  refine bk_X11_pass__0 hm (c_isIn _ x 1 120) (by decide) (bk_X11_pass__12 hm (fun q => ?_) (fun q => ?_))
  · rw [jif0, Decidable.not_not] at q
    rw [if_pos q, if_pos q]
    obtain ⟨n, h1, h2, rfl⟩ := i32_nat (a := 1) (b := 120) q.1 q.2 (by omega) (by omega)
    rw [nI_clamp (by omega)]
    have hp := c_mpassAll hB2 hW (Or.inl rfl) hA ((jT0 w 0).1 51 false) (n := n) (by omega)
    rw [jfn_self] at hp
    have v : vp_in 2 51 := show vp_in (nI 2) 51 from vp_in_nI (by omega) (by omega)
    refine bk_X11_pass__21 hm v hp (by decide) (bk_X11_pass__37 hm v ⟨?_, ?_⟩)
    · rw [e51]
      show jI ((jfn (jT0 w 0) 51 false (jHours D n (w.1 51 false))).1 51 false 2 - (jT0 w 0).1 51 false 2) = _
      rw [jfn_row, e51]
    · rw [e51]
  · rw [jif0] at q
    rw [if_neg q, if_neg q]
    exact bk_X11_pass__15 hm (c_no2 _ 1) (by decide) (bk_X11_pass__20 hm ⟨rfl, rfl⟩)
theorem jhgt_01 {D : JD} {w : JW} (h : jCpl D w) : w.1 14 false 6 = w.1 51 false 1 := by
  have := h.2.1 1 (by omega)
  rw [← this, jrow_0 (by omega)]
theorem i32_rng {x y : Int32} : (0 ≤ x ∧ x ≤ y) ↔ (¬ x < 0 ∧ x ≤ y) := ⟨fun h => ⟨i32_not_lt.mpr h.1, h.2⟩, fun h => ⟨i32_not_lt.mp h.1, h.2⟩⟩
/-- a wrapper of a question that changes nothing -/
theorem qry_cpl {c : Prop} {D : JD} {w : JW} {val : Int32} {X : String} {v : JV} {w1 : JW} (hc : jCpl D w) (h1 : jWr (fun v w2 => c ∧ v = jI val ∧ w2 = w) (fun E w2 => ¬ c ∧ E = X ∧ w2 = w) X v w1) : jCpl D w1 ∧ w1.1 = w.1 ∧ w1.2.2 = w.2.2 ∧ ((c ∧ v = jI 0 ∧ w1.2.1 63 0 = val.toInt64) ∨ (¬ c ∧ v = jI 1)) := by
  rcases h1 with ⟨r, w2, ⟨h1, h2, h3⟩, h4, h5⟩ | ⟨⟨h1, -, h3⟩, h4⟩
  · subst h3
    subst h5
    have e : r = val := by
      cases h2
      rfl
    subst e
    exact ⟨hc.L, rfl, rfl, Or.inl ⟨h1, h4, by rw [jsetL_L, if_pos ⟨rfl, rfl⟩]⟩⟩
  · subst h3
    exact ⟨hc, rfl, rfl, Or.inr ⟨h1, h4⟩⟩
/-- HEIGHT: what the wrapper answers and what the reference answers -/
theorem height_cpl {D : JD} {w : JW} {h : Int32} {v : JV} {w1 : JW} (hc : jCpl D w) (h1 : jWr (fun v w2 => (¬ h < 0 ∧ h ≤ 9999) ∧ v = jI (jHgt D h (w.1 14 false 6)) ∧ w2 = w) (fun E w2 => ¬ (¬ h < 0 ∧ h ≤ 9999) ∧ E = jIAE ∧ w2 = w) jIAE v w1) : jCpl D w1 ∧ w1.1 51 false = w.1 51 false ∧ ∃ k : Int32, v = jI k ∧ k = (if 0 ≤ h ∧ h ≤ 9999 then 0 else 1) ∧ (k = 0 → w1.2.1 63 0 = (if 0 ≤ h ∧ h ≤ 9999 then jHgt D h (w1.1 51 false 1) else 0).toInt64) := by
  obtain ⟨a1, a2, -, a4⟩ := qry_cpl hc h1
  refine ⟨a1, by rw [a2], ?_⟩
  rw [a2]
  rcases a4 with ⟨b1, b2, b3⟩ | ⟨b1, b2⟩
  · refine ⟨0, b2, by rw [if_pos (i32_rng.mpr b1)], fun _ => ?_⟩
    rw [b3, if_pos (i32_rng.mpr b1), jhgt_01 hc]
  · refine ⟨1, b2, by rw [if_neg (fun q => b1 (i32_rng.mp q))], fun q => absurd q (by decide)⟩
/-- a step that changes moments, the judge, the rows 51 and 52 alone (and what 41 does not keep) -/
theorem jCpl.row {D : JD} {w w2 : JW} (h : jCpl D w) (h2 : w2.2.2 = w.2.2) (hk : ∀ k b, ¬ (12 ≤ k ∧ k ≤ 19) → k ≠ 41 → k ≠ 51 → k ≠ 52 → w2.1 k b = w.1 k b) (h41 : w2.1 41 false 2 = w.1 41 false 2 ∧ w2.1 41 false 3 = w.1 41 false 3) (hr : ∀ i, i < 51 → jrow w2 false i = w2.1 51 false i) : jCpl D w2 := by
  obtain ⟨⟨hW, hO, hB⟩, -, ⟨s, L, h1, h0⟩, hg, hd, hn⟩ := h
  refine ⟨⟨hW, ?_, ?_⟩, hr, ⟨s, L, ?_, ?_⟩, ?_, by rw [h2]; exact hd, by rw [h2]; exact hn⟩
  · rw [h2]
    exact hO.kept (fun k k1 k2 => hk k _ (by omega) (by omega) (by omega) (by omega))
  · rw [h2]
    exact hB.kept (fun k k1 k2 => hk k _ (by omega) (by omega) (by omega) (by omega))
  · unfold jC1
    rw [hk 1 false (by omega) (by omega) (by omega) (by omega), hk 2 false (by omega) (by omega) (by omega) (by omega)]
    exact h1
  · exact h0.kept h41.1 (hk 42 false (by omega) (by omega) (by omega) (by omega))
  · rw [hk 0 false (by omega) (by omega) (by omega) (by omega), h41.2]
    exact hg
/-- the moment now holds R, and so does the row 51 -/
theorem jCpl.now {D : JD} {w : JW} (h : jCpl D w) (R f g : Nat → Int32) (x t : Int32) (y : Int64) (hg : ∀ i, i < 51 → g i = R i) : jCpl D (jfn (jT0 (jsetL (jgm w false R f x) 63 0 y) t) 51 false g) := by
  have e : ∀ k b, k ≠ 41 → k ≠ 51 → (jfn (jT0 (jsetL (jgm w false R f x) 63 0 y) t) 51 false g).1 k b = (jgm w false R f x).1 k b := by
    intro k b h1 h2
    funext j
    unfold jT0
    rw [jfn_I, if_neg (fun q => h2 q.1), jset_I, if_neg (fun q => h1 q.1)]
    rfl
  refine h.row rfl (fun k b k1 k2 k3 k4 => ?_) ⟨?_, ?_⟩ (fun i hi => ?_)
  · rw [e k b k2 k3]
    exact jgm_k (by omega)
  · unfold jT0
    rw [jfn_I, if_neg (by omega), jset_I, if_neg (by omega), jsetL_I, jgm_k (by omega)]
  · unfold jT0
    rw [jfn_I, if_neg (by omega), jset_I, if_neg (by omega), jsetL_I, jgm_k (by omega)]
  · rw [jrow_cong (w := jgm w false R f x) (fun k k1 k2 => e k false (by omega) (by omega)), ← jgm_row i hi, jfn_row, hg i hi]
/-- IS SILENT -/
theorem isSilent_cpl {D : JD} {w : JW} {h : Int32} {v : JV} {w1 : JW} (hc : jCpl D w) (h1 : jWr (fun v w2 => (¬ h < 0 ∧ h ≤ 9999) ∧ v = jI (if jStill D h then 1 else 0) ∧ w2 = w) (fun E w2 => ¬ (¬ h < 0 ∧ h ≤ 9999) ∧ E = jIAE ∧ w2 = w) jIAE v w1) : jCpl D w1 ∧ w1.1 51 false = w.1 51 false ∧ ∃ k : Int32, v = jI k ∧ k = (if 0 ≤ h ∧ h ≤ 9999 then 0 else 1) ∧ (k = 0 → w1.2.1 63 0 = (if (0 ≤ h ∧ h ≤ 9999) ∧ jStill D h = true then (1 : Int32) else 0).toInt64) := by
  obtain ⟨a1, a2, -, a4⟩ := qry_cpl hc h1
  refine ⟨a1, by rw [a2], ?_⟩
  rcases a4 with ⟨b1, b2, b3⟩ | ⟨b1, b2⟩
  · refine ⟨0, b2, by rw [if_pos (i32_rng.mpr b1)], fun _ => ?_⟩
    rw [b3]
    by_cases z : jStill D h = true
    · rw [if_pos z, if_pos ⟨i32_rng.mpr b1, z⟩]
    · rw [if_neg z, if_neg (fun q => z q.2)]
  · refine ⟨1, b2, by rw [if_neg (fun q => b1 (i32_rng.mp q))], fun q => absurd q (by decide)⟩
