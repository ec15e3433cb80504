/-! the class's scan -/
theorem nI_subN {a b : Nat} (h : b ≤ a) : nI a - nI b = nI (a - b) := by
  have e : nI a = nI (a - b) + nI b := by
    rw [nI_add]
    congr 1
    omega
  rw [e, Int32.add_sub_cancel]
theorem c_kindOf {s : Nat → Nat} {L : Nat} {w : JW} (h : jC1 s L w) {a : Nat} (ha : a ≤ L) : jF MX7_kindOf 5 [jR 1 false, jI (nI a), jI (nI (jte s a))] w (jI (nI (jkd s a))) w := by
  have hL := h.1.1
  have he := jte_max h.1 ha
  have hae : a ≤ jte s a := jte_le
  refine jF_of jp_X7_kindOf rfl (Nat.le_of_ble_eq_true rfl) (fun C hm => ?_)
  refine bk_X7_kindOf_0 hm (c_byteAt h (by omega)) (by decide) (bk_X7_kindOf_5 hm (fun q => ?_) (fun q => ?_))
  · rw [jc1_m] at q
    have hz : s a < 256 := by omega
    refine bk_X7_kindOf_14 hm (c_isLetter w _) (by decide) (bk_X7_kindOf_18 hm (fun y => ?_) (fun y => ?_))
    · rw [jif0] at y
      refine bk_X7_kindOf_41 hm (c_isDigit w _) (by decide) (bk_X7_kindOf_45 hm (fun y2 => ?_) (fun y2 => ?_))
      · rw [jif0] at y2
        refine bk_X7_kindOf_64 hm (fun z => ?_) (fun z => ?_)
        · rw [nI_subN hae] at z
          have z2 : ¬ jte s a - a = 2 := fun e => z (by rw [e]; rfl)
          rw [show jc1 (s a) = nI (s a) from if_pos hz]
          refine l_kind85 hm (by decide) hz ⟨?_, rfl⟩
          unfold jkd
          rw [if_neg q, if_neg y, if_neg y2, if_neg z2]
        · rw [nI_subN hae] at z
          have z2 : jte s a - a = 2 := (nI_eqi (by omega) (by omega)).mp z
          refine bk_X7_kindOf_71 hm (fun x => ?_) (fun x => ?_)
          · refine bk_X7_kindOf_82 hm (bk_X7_kindOf_84 hm ⟨?_, rfl⟩)
            unfold jkd
            rw [if_neg q, if_neg y, if_neg y2, if_pos z2, if_neg (fun e => x ((jc1_eq (k := 60) (by omega)).mpr e))]
            rfl
          · refine bk_X7_kindOf_77 hm (bk_X7_kindOf_84 hm ⟨?_, rfl⟩)
            unfold jkd
            rw [if_neg q, if_neg y, if_neg y2, if_pos z2, if_pos ((jc1_eq (k := 60) (by omega)).mp x)]
            rfl
      · rw [jif0, Decidable.not_not] at y2
        refine bk_X7_kindOf_48 hm (fun z => ?_) (fun z => ?_)
        · rw [nI_subN hae] at z
          have z2 := (nI_leI (b := 6) (by omega) (by omega)).mp z
          refine bk_X7_kindOf_61 hm (bk_X7_kindOf_63 hm ⟨?_, rfl⟩)
          unfold jkd
          rw [if_neg q, if_neg y, if_pos y2, if_neg (by omega)]
          rfl
        · rw [nI_subN hae] at z
          have z2 : ¬ jte s a - a ≤ 6 := fun e => z ((nI_leI (b := 6) (by omega) (by omega)).mpr e)
          refine bk_X7_kindOf_56 hm (bk_X7_kindOf_63 hm ⟨?_, rfl⟩)
          unfold jkd
          rw [if_neg q, if_neg y, if_pos y2, if_pos (by omega)]
          rfl
    · rw [jif0, Decidable.not_not] at y
      refine bk_X7_kindOf_21 hm (fun z => ?_) (fun z => ?_)
      · rw [nI_subN hae] at z
        have z2 := (nI_leI (b := 10) (by omega) (by omega)).mp z
        refine bk_X7_kindOf_34 hm (c_wordKind h hae he) (by decide) (bk_X7_kindOf_40 hm ⟨?_, rfl⟩)
        unfold jkd
        rw [if_neg q, if_pos y, if_neg (by omega)]
      · rw [nI_subN hae] at z
        have z2 : ¬ jte s a - a ≤ 10 := fun e => z ((nI_leI (b := 10) (by omega) (by omega)).mpr e)
        refine bk_X7_kindOf_29 hm (bk_X7_kindOf_40 hm ⟨?_, rfl⟩)
        unfold jkd
        rw [if_neg q, if_pos y, if_pos (by omega)]
        rfl
  · rw [jc1_m] at q
    refine bk_X7_kindOf_11 hm ⟨?_, rfl⟩
    unfold jkd
    rw [if_pos q]
    rfl
/-- the class's worth of token i -/
def jwT (s : Nat → Nat) (i : Nat) : Int64 := jwI (if jdig (s (jtk s i)) then 10 else 36) s (jtk s i) (jte s (jtk s i) - jtk s i)
/-- the first n tokens are written, nothing else has changed -/
def jSc (s : Nat → Nat) (w w2 : JW) (n : Nat) : Prop := (w2.2.2 = w.2.2 ∧ (∀ k, k ≠ 6 → w2.2.1 k = w.2.1 k) ∧ ∀ k b, k ≠ 4 → k ≠ 5 → w2.1 k b = w.1 k b) ∧ ∀ i, i < n → w2.1 4 false i = nI (jK s i) ∧ w2.1 5 false i = nI (jtk s i) ∧ w2.2.1 6 i = jwT s i
theorem jSc.C1 {s : Nat → Nat} {L n : Nat} {w w2 : JW} (hs : jSc s w w2 n) (h : jC1 s L w) : jC1 s L w2 := by
  unfold jC1
  rw [hs.1.2.2 1 false (by decide) (by decide), hs.1.2.2 2 false (by decide) (by decide)]
  exact h
theorem jSc.next {s : Nat → Nat} {n : Nat} {w w2 : JW} (hs : jSc s w w2 n) (w3 : JW) (he : w3 = jsetL (jset (jset w2 4 false n (nI (jK s n))) 5 false n (nI (jtk s n))) 6 n (jwT s n)) : jSc s w w3 (n + 1) := by
  subst he
  refine ⟨⟨hs.1.1, fun k hk => ?_, fun k b h1 h2 => ?_⟩, fun i hi => ?_⟩
  · rw [← hs.1.2.1 k hk]
    funext j
    rw [jsetL_L, if_neg (fun q => hk q.1)]
    rfl
  · rw [← hs.1.2.2 k b h1 h2]
    funext j
    rw [jsetL_I, jset_I, if_neg (fun q => h2 q.1), jset_I, if_neg (fun q => h1 q.1)]
  · rcases Nat.lt_or_eq_of_le (Nat.lt_succ_iff.mp hi) with q | q
    · have := hs.2 i q
      rw [jsetL_I, jset_I, jset_I, jset_I, jset_I, jsetL_L, if_neg (by omega), if_neg (by omega), if_neg (by omega), if_neg (by omega), if_neg (by omega)]
      exact this
    · subst q
      rw [jsetL_I, jset_I, jset_I, jset_I, jset_I, jsetL_L, if_neg (by omega), if_pos (by simp), if_pos (by simp), if_pos (by simp)]
      exact ⟨rfl, rfl, rfl⟩
theorem l_scan1 {C : JC} {Q : State → Prop} {s : Nat → Nat} {L : Nat} {w w2 : JW} (h : jC1 s L w) (hm : jok C MX7_scan 6 0 0) {n : Nat} {x : Int32} (hn : n ≤ 400) (hx : ¬ x = 47 ∧ ¬ x = 48) (hs : jSc s w w2 n) (k : ∀ w3, jSc s w w3 (n + 1) → jW C 0 0 Q 8 [jR 3 false, jR 1 false, jI (nI (jpl s (n + 1))), jI (nI (jK s n)), jI (nI (n + 1)), jU] [] w3) : jW C 0 0 Q 8 [jR 3 false, jR 1 false, jI (nI (jpl s n)), jI x, jI (nI n), jU] [] w2 := by
  have hL := h.1.1
  have h2 := hs.C1 h
  have hp := jpl_max h.1 n
  have hst := jtk_max h.1 n
  have hte := jte_max h.1 hst
  have go : jW C 0 0 Q 69 [jR 3 false, jR 1 false, jI (nI (jpl s (n + 1))), jI (nI (jK s n)), jI (nI n), jI (nI (jtk s n))] [] w2 := by
    refine bk_X7_scan_69 hm (vp_in_nI (by omega) (by omega)) (c_putN ja_5 _ _ (by omega)) (by decide) (bk_X7_scan_88 hm (fun z => absurd ((nI_leI (a := 401) (by omega) (by omega)).mp z) (by omega)) (fun _ => bk_X7_scan_98 hm (c_worth (s := s) (L := L) ?_ (a := jtk s n) (e := jte s (jtk s n)) jte_le hte) (by decide) (bk_X7_scan_111 hm (vp_in_nI (by omega) (by omega)) (bk_X7_scan_112 hm ?_))))
    · rw [nI_clamp (by omega)]
      unfold jC1
      refine ⟨h.1, ?_, fun i hi => ?_⟩
      · rw [jset_I, jset_I, if_neg (by omega), if_neg (by omega)]
        exact h2.2.1
      · rw [jset_I, jset_I, if_neg (by omega), if_neg (by omega)]
        exact h2.2.2 i hi
    · rw [nI_clamp (by omega), ← nI_succ]
      exact k _ (hs.next _ rfl)
  refine bk_X7_scan_8 hm (fun z => absurd ((nI_leI (a := 401) (by omega) (by omega)).mp z) (by omega)) (fun _ => bk_X7_scan_18 hm (fun z => absurd z hx.1) (fun _ => bk_X7_scan_24 hm (fun z => absurd z hx.2) (fun _ => bk_X7_scan_30 hm (c_blanks h2 (by omega)) (by decide) (bk_X7_scan_35 hm (c_token h2 hst) (by decide) (bk_X7_scan_43 hm (c_kindOf h2 hst) (by decide) (bk_X7_scan_51 hm (fun z => ?_) (fun z => ?_)))))))
  · have z2 := (nI_ltI (b := 400) (by omega) (by omega)).mp z
    have e : jkd s (jbb s (jpl s n)) = jK s n := by
      unfold jK
      rw [if_neg (by omega)]
      rfl
    rw [e]
    exact go
  · have z2 : ¬ n < 400 := fun q => z ((nI_ltI (b := 400) (by omega) (by omega)).mpr q)
    refine bk_X7_scan_60 hm (fun y => ?_) (fun y => ?_)
    · have e : jkd s (jbb s (jpl s n)) = jK s n := by
        unfold jK
        rw [if_neg]
        · rfl
        · rintro ⟨-, c⟩
          have hle := jkd_le s (jtk s n)
          exact c ((nI_eqi (a := jkd s (jtk s n)) (b := 47) (by omega) (by omega)).mp y)
      rw [e]
      exact go
    · refine bk_X7_scan_66 hm ?_
      have e : jK s n = 48 := by
        unfold jK
        rw [if_pos]
        refine ⟨by omega, fun c => y ?_⟩
        show nI (jkd s (jtk s n)) = 47
        rw [c]
        rfl
      have g := go
      rw [e] at g
      exact g
theorem jK_no {s : Nat → Nat} {n : Nat} (h : ¬ (jK s n = 47 ∨ jK s n = 48)) : ¬ nI (jK s n) = 47 ∧ ¬ nI (jK s n) = 48 := by
  have := jK_le s n
  exact ⟨fun q => h (Or.inl ((nI_eqi (b := 47) (by omega) (by omega)).mp q)), fun q => h (Or.inr ((nI_eqi (b := 48) (by omega) (by omega)).mp q))⟩
theorem l_scan {C : JC} {s : Nat → Nat} {L : Nat} {w : JW} (h : jC1 s L w) (hm : jok C MX7_scan 6 0 0) : ∀ m n : Nat, n + m = jntk s → ∀ (x : Int32) (w2 : JW), ¬ x = 47 ∧ ¬ x = 48 → jSc s w w2 n → jW C 0 0 (jQQ C 0 0 (fun v w' => v = jU ∧ jSc s w w' (jntk s + 1))) 8 [jR 3 false, jR 1 false, jI (nI (jpl s n)), jI x, jI (nI n), jU] [] w2 := by
  have hN := jntk_le s
  intro m
  induction m with
  | zero =>
    intro n hn x w2 hx hs
    obtain rfl : n = jntk s := by omega
    refine l_scan1 h hm hN hx hs (fun w3 h3 => ?_)
    refine bk_X7_scan_8 hm (fun _ => bk_X7_scan_118 hm ⟨rfl, h3⟩) (fun _ => bk_X7_scan_18 hm (fun _ => bk_X7_scan_118 hm ⟨rfl, h3⟩) (fun z => bk_X7_scan_24 hm (fun _ => bk_X7_scan_118 hm ⟨rfl, h3⟩) (fun z2 => ?_)))
    rcases jntk_end s with e | e
    · rw [e] at z
      exact absurd rfl z
    · rw [e] at z2
      exact absurd rfl z2
  | succ m ih =>
    intro n hn x w2 hx hs
    refine l_scan1 h hm (by omega) hx hs (fun w3 h3 => ?_)
    exact ih (n + 1) (by omega) _ w3 (jK_no (jntk_lt (by omega))) h3
theorem c_scan {s : Nat → Nat} {L : Nat} {w : JW} (h : jC1 s L w) : jSV MX7_scan 6 [jR 3 false, jR 1 false] w (fun w' => jSc s w w' (jntk s + 1)) := by
  refine jSV_of jp_X7_scan rfl (Nat.le_of_ble_eq_true rfl) (fun C hm => ?_)
  exact bk_X7_scan_0 hm (l_scan h hm (jntk s) 0 (Nat.zero_add _) 30 w ⟨by decide, by decide⟩ ⟨⟨rfl, fun _ _ => rfl, fun _ _ _ _ => rfl⟩, fun i hi => absurd hi (Nat.not_lt_zero i)⟩)
