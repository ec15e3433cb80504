/-! the reference's last questions; steps of the coupling -/
theorem c_errorAt (w : JW) : jF MX9_errorAt 0 [jR 0 false] w (jI (w.1 0 false 7)) w := by
  refine jF_of jp_X9_errorAt rfl (Nat.le_of_ble_eq_true rfl) (fun C hm => ?_)
  exact bk_X9_errorAt_0 hm ⟨rfl, rfl⟩
theorem c_merrorAt (w : JW) : jF MX11_errorAt 0 [jR 41 false] w (jI (w.1 41 false 3)) (jT0 w 0) := by
  refine jF_of jp_X11_errorAt rfl (Nat.le_of_ble_eq_true rfl) (fun C hm => ?_)
  refine bk_X11_errorAt_0 hm ⟨?_, rfl⟩
  rw [jset_I, if_neg (by omega)]
theorem c_thrown (w : JW) : jF MX11_thrown 0 [jR 41 false] w (jI (w.1 41 false 0)) w := by
  refine jF_of jp_X11_thrown rfl (Nat.le_of_ble_eq_true rfl) (fun C hm => ?_)
  exact bk_X11_thrown_0 hm ⟨rfl, rfl⟩
theorem c_mtrim (w : JW) (x : Int32) : jF MX11_trim 1 [jR 41 false, jI x] w (jI (if 0 ≤ x ∧ x ≤ w.1 41 false 2 then x else 0)) (if 0 ≤ x ∧ x ≤ w.1 41 false 2 then jset (jT0 w 0) 41 false 2 x else jset (jT0 w 0) 41 false 0 1) := by
  have e : (jset w 41 false 0 0).1 41 false 2 = w.1 41 false 2 := by
    rw [jset_I, if_neg (by omega)]
  refine jF_of jp_X11_trim rfl (Nat.le_of_ble_eq_true rfl) (fun C hm => ?_)
  refine bk_X11_trim_0 hm (c_isIn _ x 0 _) (by decide) (bk_X11_trim_14 hm (fun q => ?_) (fun q => ?_))
  · rw [jif0, Decidable.not_not, e] at q
    rw [if_pos q, if_pos q]
    exact bk_X11_trim_23 hm ⟨rfl, rfl⟩
  · rw [jif0, e] at q
    rw [if_neg q, if_neg q]
    exact bk_X11_trim_17 hm (c_no2 _ 1) (by decide) (bk_X11_trim_22 hm ⟨rfl, rfl⟩)
theorem jCpl.L {D : JD} {w : JW} {y : Int64} (h : jCpl D w) : jCpl D (jsetL w 63 0 y) := h
theorem jCpl.T0 {D : JD} {w : JW} {t : Int32} (h : jCpl D w) : jCpl D (jT0 w t) := by
  obtain ⟨⟨hW, hO, hB⟩, hR, ⟨s, L, h1, h0⟩, hf, hd, hn⟩ := h
  have K : ∀ k b, k ≠ 41 → (jT0 w t).1 k b = w.1 k b := by
    intro k b hk
    funext j
    unfold jT0
    rw [jset_I, if_neg (fun q => hk q.1)]
  refine ⟨⟨hW, hO.kept (fun k k1 k2 => K k _ (by omega)), hB.kept (fun k k1 k2 => K k _ (by omega))⟩, fun i hi => ?_, ⟨s, L, ?_, ?_⟩, ?_, hd, hn⟩
  · rw [jrow_cong (fun k k1 k2 => K k false (by omega)), K 51 false (by omega)]
    exact hR i hi
  · unfold jC1
    rw [K 1 false (by omega), K 2 false (by omega)]
    exact h1
  · refine h0.kept ?_ (K 42 false (by omega))
    unfold jT0
    rw [jset_I, if_neg (by omega)]
  · rw [K 0 false (by omega), hf]
    unfold jT0
    rw [jset_I, if_neg (by omega)]
/-- a step that changes tapes alone -/
theorem jCpl.tape {D : JD} {w w2 : JW} {s : Nat → Nat} {L : Nat} (h : jCpl D w) (h2 : w2.2.2 = w.2.2) (hk : ∀ k b, k ≠ 1 → k ≠ 2 → k ≠ 41 → k ≠ 42 → w2.1 k b = w.1 k b) (h1 : jC1 s L w2) (h0 : jC0 s L w2) (hf : w2.1 41 false 3 = w.1 41 false 3) : jCpl D w2 := by
  obtain ⟨⟨hW, hO, hB⟩, hR, -, hg, hd, hn⟩ := h
  refine ⟨⟨hW, ?_, ?_⟩, fun i hi => ?_, ⟨s, L, h1, h0⟩, ?_, by rw [h2]; exact hd, by rw [h2]; exact hn⟩
  · rw [h2]
    exact hO.kept (fun k k1 k2 => hk k _ (by omega) (by omega) (by omega) (by omega))
  · rw [h2]
    exact hB.kept (fun k k1 k2 => hk k _ (by omega) (by omega) (by omega) (by omega))
  · rw [jrow_cong (fun k k1 k2 => hk k false (by omega) (by omega) (by omega) (by omega)), hk 51 false (by omega) (by omega) (by omega) (by omega)]
    exact hR i hi
  · rw [hk 0 false (by omega) (by omega) (by omega) (by omega), hf]
    exact hg
theorem japC_o {x sh : Int32} {L : Nat} {w : JW} : (japC x sh L w).2 = w.2 ∧ ∀ k b, k ≠ 1 → k ≠ 2 → (japC x sh L w).1 k b = w.1 k b := by
  refine ⟨rfl, fun k b h1 h2 => ?_⟩
  funext j
  unfold japC
  rw [jset_I, if_neg (fun q => h1 q.1), jset_I, if_neg (fun q => h2 q.1)]
theorem japM_o {x sh : Int32} {L : Nat} {w : JW} : (japM x sh L w).2 = w.2 ∧ (∀ k b, k ≠ 41 → k ≠ 42 → (japM x sh L w).1 k b = w.1 k b) ∧ ∀ j, j ≠ 2 → (japM x sh L w).1 41 false j = w.1 41 false j := by
  refine ⟨rfl, fun k b h1 h2 => ?_, fun j hj => ?_⟩
  · funext j
    unfold japM
    rw [jset_I, if_neg (fun q => h1 q.1), jset_I, if_neg (fun q => h2 q.1)]
  · unfold japM
    rw [jset_I, if_neg (fun q => hj q.2.2), jset_I, if_neg (by omega)]
theorem jaC_o {x : Int32} {L : Nat} {w : JW} : (jaC x L w).2 = w.2 ∧ ∀ k b, k ≠ 1 → k ≠ 2 → (jaC x L w).1 k b = w.1 k b := by
  refine ⟨rfl, fun k b h1 h2 => ?_⟩
  unfold jaC
  rw [japC_o.2 k b h1 h2, japC_o.2 k b h1 h2, japC_o.2 k b h1 h2, japC_o.2 k b h1 h2]
theorem jaM_o {x : Int32} {L : Nat} {w : JW} : (jaM x L w).2 = w.2 ∧ (∀ k b, k ≠ 41 → k ≠ 42 → (jaM x L w).1 k b = w.1 k b) ∧ ∀ j, j ≠ 2 → (jaM x L w).1 41 false j = w.1 41 false j := by
  refine ⟨rfl, fun k b h1 h2 => ?_, fun j hj => ?_⟩
  · unfold jaM
    rw [japM_o.2.1 k b h1 h2, japM_o.2.1 k b h1 h2, japM_o.2.1 k b h1 h2, japM_o.2.1 k b h1 h2]
  · unfold jaM
    rw [japM_o.2.2 j hj, japM_o.2.2 j hj, japM_o.2.2 j hj, japM_o.2.2 j hj]
theorem jfC_o {x1 x2 x3 x4 x5 : Int32} {L : Nat} {w : JW} : (jfC x1 x2 x3 x4 x5 L w).2 = w.2 ∧ ∀ k b, k ≠ 1 → k ≠ 2 → (jfC x1 x2 x3 x4 x5 L w).1 k b = w.1 k b := by
  refine ⟨rfl, fun k b h1 h2 => ?_⟩
  unfold jfC
  rw [jaC_o.2 k b h1 h2, jaC_o.2 k b h1 h2, jaC_o.2 k b h1 h2, jaC_o.2 k b h1 h2, jaC_o.2 k b h1 h2]
theorem jfM_o {x1 x2 x3 x4 x5 : Int32} {L : Nat} {w : JW} : (jfM x1 x2 x3 x4 x5 L w).2 = w.2 ∧ (∀ k b, k ≠ 41 → k ≠ 42 → (jfM x1 x2 x3 x4 x5 L w).1 k b = w.1 k b) ∧ ∀ j, j ≠ 2 → (jfM x1 x2 x3 x4 x5 L w).1 41 false j = w.1 41 false j := by
  refine ⟨rfl, fun k b h1 h2 => ?_, fun j hj => ?_⟩
  · unfold jfM
    rw [jaM_o.2.1 k b h1 h2, jaM_o.2.1 k b h1 h2, jaM_o.2.1 k b h1 h2, jaM_o.2.1 k b h1 h2, jaM_o.2.1 k b h1 h2]
  · unfold jfM
    rw [jaM_o.2.2 j hj, jaM_o.2.2 j hj, jaM_o.2.2 j hj, jaM_o.2.2 j hj, jaM_o.2.2 j hj]
/-- FEEDING couples the two -/
theorem feed_cpl {D : JD} {w : JW} {s : Nat → Nat} {L : Nat} (h : jCpl D w) (h1 : jC1 s L w) (h0 : jC0 s L w) (hL : L + 20 ≤ 2000) (x1 x2 x3 x4 x5 : Int32) (y : Int64) : jCpl D (jfM x1 x2 x3 x4 x5 L (jset (jsetL (jfC x1 x2 x3 x4 x5 L w) 63 0 y) 41 false 0 0)) := by
  have c1 : jC1 _ (L + 20) (jfC x1 x2 x3 x4 x5 L w) := jaC_C1 (jaC_C1 (jaC_C1 (jaC_C1 (jaC_C1 h1 (by omega)) (by omega)) (by omega)) (by omega)) (by omega)
  have e41 : ∀ j, j ≠ 0 → (jset (jsetL (jfC x1 x2 x3 x4 x5 L w) 63 0 y) 41 false 0 0).1 41 false j = w.1 41 false j := by
    intro j hj
    rw [jset_I, if_neg (fun q => hj q.2.2), jsetL_I, jfC_o.2 41 false (by omega) (by omega)]
  have e42 : (jset (jsetL (jfC x1 x2 x3 x4 x5 L w) 63 0 y) 41 false 0 0).1 42 false = w.1 42 false := by
    funext j
    rw [jset_I, if_neg (by omega), jsetL_I, jfC_o.2 42 false (by omega) (by omega)]
  have c0 : jC0 _ (L + 20) (jfM x1 x2 x3 x4 x5 L (jset (jsetL (jfC x1 x2 x3 x4 x5 L w) 63 0 y) 41 false 0 0)) := jaM_C0 (jaM_C0 (jaM_C0 (jaM_C0 (jaM_C0 (h0.kept (e41 2 (by omega)) e42) (by omega)) (by omega)) (by omega)) (by omega)) (by omega)
  refine h.tape rfl (fun k b k1 k2 k3 k4 => ?_) (s := jx4 x5 (jx4 x4 (jx4 x3 (jx4 x2 (jx4 x1 s L) (L + 4)) (L + 8)) (L + 12)) (L + 16)) (L := L + 20) ?_ c0 ?_
  · rw [jfM_o.2.1 k b k3 k4]
    funext j
    rw [jset_I, if_neg (fun q => k3 q.1), jsetL_I, jfC_o.2 k b k1 k2]
  · have e : ∀ k, k ≠ 41 → k ≠ 42 → (jfM x1 x2 x3 x4 x5 L (jset (jsetL (jfC x1 x2 x3 x4 x5 L w) 63 0 y) 41 false 0 0)).1 k false = (jfC x1 x2 x3 x4 x5 L w).1 k false := by
      intro k k3 k4
      rw [jfM_o.2.1 k false k3 k4]
      funext j
      rw [jset_I, if_neg (fun q => k3 q.1)]
      rfl
    unfold jC1
    rw [e 1 (by omega) (by omega), e 2 (by omega) (by omega)]
    exact c1
  · rw [jfM_o.2.2 3 (by omega), e41 3 (by omega)]
