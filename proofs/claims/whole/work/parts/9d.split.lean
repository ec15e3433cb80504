/-! the reference's split -/
theorem jkv_bad {K s v x : Int32} (h : jkv K s v x) : s = 5 ↔ K = 48 := by
  rcases h with ⟨h1, h2, rfl, -⟩ | ⟨rfl, rfl⟩ | ⟨rfl, rfl, -⟩ | ⟨h1, h2, rfl, -⟩ | ⟨rfl, rfl⟩ | ⟨rfl, rfl⟩
  · exact ⟨fun q => absurd q (by decide), fun q => by rw [q] at h2; exact absurd h2 (by decide)⟩
  · exact ⟨fun q => absurd q (by decide), fun q => absurd q (by decide)⟩
  · exact ⟨fun q => absurd q (by decide), fun q => absurd q (by decide)⟩
  · exact ⟨fun q => absurd q (by decide), fun q => by rw [q] at h2; exact absurd h2 (by decide)⟩
  · exact ⟨fun q => absurd q (by decide), fun q => absurd q (by decide)⟩
  · exact ⟨fun _ => rfl, fun _ => rfl⟩
/-- the first n tokens are written, nothing else has changed -/
def jMs (s : Nat → Nat) (w w2 : JW) (n : Nat) : Prop := (w2.2 = w.2 ∧ ∀ k b, ¬ (43 ≤ k ∧ k ≤ 46) → w2.1 k b = w.1 k b) ∧ ∀ i, i < n → jkv (nI (jK s i)) (w2.1 43 false i) (w2.1 44 false i) (nI (jwo 10 s (jtk s i) (jln s i))) ∧ w2.1 45 false i = nI (jtk s i) ∧ (¬ (jK s i = 47 ∨ jK s i = 48) → w2.1 46 false i = nI (jln s i))
theorem jMs.C0 {s : Nat → Nat} {L n : Nat} {w w2 : JW} (hs : jMs s w w2 n) (h : jC0 s L w) : jC0 s L w2 := h.kept (by rw [hs.1.2 41 false (by omega)]) (hs.1.2 42 false (by omega))
/-- one token more -/
theorem jMs.next {s : Nat → Nat} {n : Nat} {w w2 w3 : JW} (hs : jMs s w w2 n) (h : jWt (jset w2 45 false n (nI (jtk s n))) w3 n) (hk : jkv (nI (jK s n)) (w3.1 43 false n) (w3.1 44 false n) (nI (jwo 10 s (jtk s n) (jln s n)))) (hl : ¬ (jK s n = 47 ∨ jK s n = 48) → w3.1 46 false n = nI (jln s n)) : jMs s w w3 (n + 1) := by
  refine ⟨⟨h.1.trans hs.1.1, fun k b hk2 => ?_⟩, fun i hi => ?_⟩
  · rw [← hs.1.2 k b hk2]
    funext j
    rw [h.2 k b j (by omega), jset_I, if_neg (by omega)]
  · rcases Nat.lt_or_eq_of_le (Nat.lt_succ_iff.mp hi) with q | q
    · have := hs.2 i q
      rw [h.2 43 false i (by omega), h.2 44 false i (by omega), h.2 45 false i (by omega), h.2 46 false i (by omega), jset_I, jset_I, jset_I, jset_I, if_neg (by omega), if_neg (by omega), if_neg (by omega), if_neg (by omega)]
      exact this
    · subst q
      refine ⟨hk, ?_, hl⟩
      rw [h.2 45 false i (by omega), jset_I, if_pos ⟨rfl, rfl, rfl⟩]
theorem l_sblanks {C : JC} {Q : State → Prop} {s : Nat → Nat} {L : Nat} {w : JW} (h : jC0 s L w) (hm : jok C MX11_split 7 0 0) {y : Int32} : ∀ n i : Nat, i + n = 2000 → jW C 0 0 Q 36 [jR 41 false, jI (nI (jskip (fun k => decide (jblk (s k))) n i)), jI y, jU] [] w → jW C 0 0 Q 10 [jR 41 false, jI (nI i), jI y, jU] [] w := by
  have hL := h.1.1
  intro n
  induction n with
  | zero =>
    intro i hi k
    have e : s i = 300 := h.1.2.2 i (by omega)
    refine bk_X11_split_10 hm (c_mbyteAt h (by omega)) (by decide) (bk_X11_split_15 hm (fun z => ?_) (fun _ => bk_X11_split_20 hm (c_mbyteAt h (by omega)) (by decide) (bk_X11_split_25 hm (fun _ => k) (fun z => ?_))))
    · have := (jc0_eq (k := 32) (by omega) (by omega)).mp z
      omega
    · have := (jc0_eq (k := 10) (by omega) (by omega)).mp z
      omega
  | succ n ih =>
    intro i hi k
    have go : jblk (s i) → jW C 0 0 Q 30 [jR 41 false, jI (nI i), jI y, jU] [] w := by
      intro z
      rw [jskip_t (decide_eq_true z)] at k
      refine bk_X11_split_30 hm ?_
      rw [← nI_succ]
      exact ih (i + 1) (by omega) k
    refine bk_X11_split_10 hm (c_mbyteAt h (by omega)) (by decide) (bk_X11_split_15 hm (fun z => go (Or.inl ((jc0_eq (k := 32) (by omega) (by omega)).mp z))) (fun z => bk_X11_split_20 hm (c_mbyteAt h (by omega)) (by decide) (bk_X11_split_25 hm (fun z2 => ?_) (fun z2 => go (Or.inr ((jc0_eq (k := 10) (by omega) (by omega)).mp z2))))))
    rw [jskip_f] at k
    · exact k
    · intro q
      rcases of_decide_eq_true q with e | e
      · exact z ((jc0_eq (k := 32) (by omega) (by omega)).mpr e)
      · exact z2 ((jc0_eq (k := 10) (by omega) (by omega)).mpr e)
theorem l_split1 {C : JC} {Q : State → Prop} {s : Nat → Nat} {L : Nat} {w w2 : JW} (h : jC0 s L w) (hm : jok C MX11_split 7 0 0) {n : Nat} (hn : n ≤ 400) (hs : jMs s w w2 n) (k : ∀ w3, jMs s w w3 (n + 1) → (jK s n = 47 ∨ jK s n = 48) → ∀ x : Int32, jW C 0 0 Q 6 [jR 41 false, jI x, jI (nI (n + 1)), jI 0] [] w3) (k2 : ∀ w3, jMs s w w3 (n + 1) → ¬ (jK s n = 47 ∨ jK s n = 48) → jW C 0 0 Q 6 [jR 41 false, jI (nI (jpl s (n + 1))), jI (nI (n + 1)), jI 1] [] w3) : jW C 0 0 Q 6 [jR 41 false, jI (nI (jpl s n)), jI (nI n), jI 1] [] w2 := by
  have hL := h.1.1
  have h2 := hs.C0 h
  have hp := jpl_max h.1 n
  have hst := jtk_max h.1 n
  have hKle := jK_le s n
  have go : ∀ w3, jWt (jset w2 45 false n (nI (jtk s n))) w3 n → jkv (nI (jK s n)) (w3.1 43 false n) (w3.1 44 false n) (nI (jwo 10 s (jtk s n) (jln s n))) → (¬ (jK s n = 47 ∨ jK s n = 48) → w3.1 46 false n = nI (jln s n)) → jW C 0 0 Q 72 [jR 41 false, jI (nI (jtk s n)), jI (nI n), jU] [] w3 := by
    intro w3 q1 q2 q3
    have hs3 := hs.next q1 q2 q3
    have c0 : w3.1 43 false n = 0 ↔ jK s n = 47 := by
      rw [jkv_end q2]
      exact nI_eqi (b := 47) (by omega) (by omega)
    have c5 : w3.1 43 false n = 5 ↔ jK s n = 48 := by
      rw [jkv_bad q2]
      exact nI_eqi (b := 48) (by omega) (by omega)
    have cl : (nI n).toNatClampNeg = n := nI_clamp (by omega)
    have v : vp_in (nI n) 402 := vp_in_nI (by omega) (by omega)
    refine bk_X11_split_72 hm v (fun e => ?_) (fun e => bk_X11_split_81 hm v (fun e2 => ?_) (fun e2 => ?_))
    · rw [cl, c0] at e
      refine bk_X11_split_95 hm (bk_X11_split_96 hm v ?_)
      rw [← nI_succ]
      exact k w3 hs3 (Or.inl e) _
    · rw [cl, c5] at e2
      refine bk_X11_split_95 hm (bk_X11_split_96 hm v ?_)
      rw [← nI_succ]
      exact k w3 hs3 (Or.inr e2) _
    · rw [cl, c0] at e
      rw [cl, c5] at e2
      have no : ¬ (jK s n = 47 ∨ jK s n = 48) := by omega
      refine bk_X11_split_91 hm (bk_X11_split_96 hm v ?_)
      rw [← nI_succ, cl, q3 no, nI_add, ← jpl_succ]
      exact k2 w3 hs3 no
  refine bk_X11_split_6 hm (fun z => absurd z (by decide)) (fun _ => l_sblanks h2 hm (2000 - jpl s n) (jpl s n) (by omega) ?_)
  have hr : jSV MX11_read 6 [jR 41 false, jI (nI n), jI (nI (jtk s n))] (jset w2 45 false (nI n).toNatClampNeg (nI (jtk s n))) (jRd s (jtk s n) n (jset w2 45 false (nI n).toNatClampNeg (nI (jtk s n)))) := by
    refine c_read (h2.kept ?_ ?_) hst hn
    · rw [jset_I, if_neg (by omega)]
    · funext j
      rw [jset_I, if_neg (by omega)]
  refine bq_X11_split_36 hm (vp_in_nI (by omega) (by omega)) hr (by decide) (fun w3 h3 => ?_)
  rw [nI_clamp (by omega)] at h3
  obtain ⟨g1, g2, g3⟩ := h3
  have v : vp_in (nI n) 402 := vp_in_nI (by omega) (by omega)
  have cl : (nI n).toNatClampNeg = n := nI_clamp (by omega)
  refine bk_X11_split_49 hm (fun z => ?_) (fun z => ?_)
  · have z2 : ¬ n = 400 := fun e => z (by rw [e]; rfl)
    have e : jK s n = jkd s (jtk s n) := by
      unfold jK
      rw [if_neg (by omega)]
    refine go w3 g1 ?_ ?_
    · rw [e]
      exact g3
    · rw [e]
      exact g2
  · have z2 : n = 400 := (nI_eqi (b := 400) (by omega) (by omega)).mp z
    have hj := jkd_le s (jtk s n)
    have c0 : w3.1 43 false n = 0 ↔ jkd s (jtk s n) = 47 := by
      rw [jkv_end g3]
      exact nI_eqi (b := 47) (by omega) (by omega)
    refine bk_X11_split_56 hm v (fun e => ?_) (fun e => bk_X11_split_65 hm v ?_)
    · rw [cl, c0] at e
      have e2 : jK s n = jkd s (jtk s n) := by
        unfold jK
        rw [if_neg (by omega)]
      refine go w3 g1 ?_ ?_
      · rw [e2]
        exact g3
      · rw [e2]
        exact g2
    · rw [cl, c0] at e
      have e2 : jK s n = 48 := by
        unfold jK
        rw [if_pos ⟨by omega, e⟩]
      rw [cl]
      refine go _ (g1.set (by omega)) ?_ (fun q => absurd (Or.inr e2) q)
      rw [jset_I, if_pos ⟨rfl, rfl, rfl⟩, e2]
      exact Or.inr (Or.inr (Or.inr (Or.inr (Or.inr ⟨rfl, rfl⟩))))
theorem l_split {C : JC} {s : Nat → Nat} {L : Nat} {w : JW} (h : jC0 s L w) (hm : jok C MX11_split 7 0 0) : ∀ m n : Nat, n + m = jntk s → ∀ w2, jMs s w w2 n → jW C 0 0 (jQQ C 0 0 (fun v w' => v = jU ∧ jMs s w w' (jntk s + 1))) 6 [jR 41 false, jI (nI (jpl s n)), jI (nI n), jI 1] [] w2 := by
  have hN := jntk_le s
  intro m
  induction m with
  | zero =>
    intro n hn w2 hs
    obtain rfl : n = jntk s := by omega
    exact l_split1 h hm hN hs (fun w3 h3 _ x => bk_X11_split_6 hm (fun _ => bk_X11_split_112 hm ⟨rfl, h3⟩) (fun q => absurd rfl q)) (fun w3 h3 q => absurd (jntk_end s) q)
  | succ m ih =>
    intro n hn w2 hs
    exact l_split1 h hm (by omega) hs (fun w3 h3 q => absurd q (jntk_lt (by omega))) (fun w3 h3 q => ih (n + 1) (by omega) w3 h3)
theorem c_split {s : Nat → Nat} {L : Nat} {w : JW} (h : jC0 s L w) : jSV MX11_split 7 [jR 41 false] w (fun w' => jMs s w w' (jntk s + 1)) := by
  refine jSV_of jp_X11_split rfl (Nat.le_of_ble_eq_true rfl) (fun C hm => ?_)
  exact bk_X11_split_0 hm (l_split h hm (jntk s) 0 (Nat.zero_add _) w ⟨⟨rfl, fun _ _ _ => rfl⟩, fun i hi => absurd hi (Nat.not_lt_zero i)⟩)
/-- the reference's tokens are those of the tape -/
theorem jMs.TK {s : Nat → Nat} {L : Nat} {w w2 : JW} (h0 : jC0 s L w) (h : jMs s w w2 (jntk s + 1)) : jMTK (jTT s) w2 := by
  have hN := jntk_le s
  have h2 := h.C0 h0
  have hL := h0.1.1
  refine ⟨hN, ?_, fun i hi => ⟨(h.2 i (Nat.lt_succ_of_le hi)).1, fun e => ?_⟩, fun i j hi hj e1 e2 => ?_⟩
  · rcases jntk_end s with e | e
    · exact Or.inl (by show nI (jK s (jntk s)) = 47; rw [e]; rfl)
    · exact Or.inr (by show nI (jK s (jntk s)) = 48; rw [e]; rfl)
  · have hk := jK_le s i
    have e3 : jK s i = 31 := (nI_eqi (b := 31) (by omega) (by omega)).mp e
    have := jnum_lt e3
    exact ⟨(nI_leI (a := 0) (by omega) (by omega)).mpr (by omega), (nI_leI (b := 999999) (by omega) (by omega)).mpr this⟩
  · have m1 : jtk s i + jln s i ≤ L := by
      rw [jln_te]
      exact jte_max h0.1 (jtk_max h0.1 i)
    have m2 : jtk s j + jln s j ≤ L := by
      rw [jln_te]
      exact jte_max h0.1 (jtk_max h0.1 j)
    refine ⟨jtk s i, jtk s j, jln s i, jln s j, (h.2 i (Nat.lt_succ_of_lt hi)).2.1, (h.2 j (Nat.lt_succ_of_lt hj)).2.1, (h.2 i (Nat.lt_succ_of_lt hi)).2.2 (jntk_lt hi), (h.2 j (Nat.lt_succ_of_lt hj)).2.2 (jntk_lt hj), by omega, by omega, ?_⟩
    show jsmB s i j = true ↔ _
    rw [jsmB_iff]
    refine and_congr_right (fun e => ?_)
    refine forall_congr' (fun k => ?_)
    refine imp_congr_right (fun hk => ?_)
    rw [h2.2.2 _ (by omega), h2.2.2 _ (by omega)]
    have b1 := h0.1.2.1 (jtk s i + k) (by omega)
    have b2 := h0.1.2.1 (jtk s j + k) (by omega)
    rw [nI_eqi (by omega) (by omega)]
