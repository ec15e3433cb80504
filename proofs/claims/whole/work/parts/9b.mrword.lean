theorem jw_1442 : Cond.fieldLink RX11 58 "DriftOrganModel" "KEYS" "[Ljava/lang/String;" ∈ jGL := jmem 1442 (by decide +kernel) rfl
theorem jw_1444 : Cond.methodLink RX11 62 yX11_isWord ∈ jGL := jmem 1444 (by decide +kernel) rfl
theorem jw_1446 : Cond.instanceMethod yX11_isWord ∈ jGL := jmem 1446 (by decide +kernel) rfl
theorem jw_52 : Cond.selects RX11 yX11_isWord yX11_isWord ∈ jGL := jmem 52 (by decide +kernel) rfl
theorem jw_1447 : Cond.code yX11_isWord cX11_isWord 5 (some .boolean) ∈ jGL := jmem 1447 (by decide +kernel) rfl
/-! the reference reads a word -/
/-- only what stands at token t has changed -/
def jWt (w w2 : JW) (t : Nat) : Prop := w2.2 = w.2 ∧ ∀ k b j, ¬ ((k = 43 ∨ k = 44 ∨ k = 46) ∧ b = false ∧ j = t) → w2.1 k b j = w.1 k b j
theorem jWt.refl (w : JW) (t : Nat) : jWt w w t := ⟨rfl, fun _ _ _ _ => rfl⟩
theorem jWt.trans {w w2 w3 : JW} {t : Nat} (h : jWt w w2 t) (h2 : jWt w2 w3 t) : jWt w w3 t := ⟨h2.1.trans h.1, fun k b j q => (h2.2 k b j q).trans (h.2 k b j q)⟩
theorem jWt.set {w w2 : JW} {t k : Nat} {x : Int32} (h : jWt w w2 t) (hk : k = 43 ∨ k = 44 ∨ k = 46) : jWt w (jset w2 k false t x) t := by
  refine ⟨h.1, fun k2 b j q => ?_⟩
  rw [jset_I, if_neg (fun z => q ⟨by rw [z.1]; exact hk, z.2⟩)]
  exact h.2 k2 b j q
theorem jWt.C0 {s : Nat → Nat} {L t : Nat} {w w2 : JW} (h : jWt w w2 t) (h0 : jC0 s L w) : jC0 s L w2 := by
  refine h0.kept (h.2 41 false 2 (by omega)) ?_
  funext j
  exact h.2 42 false j (by omega)
theorem jkw_spec {s : Nat → Nat} {a n : Nat} : ∀ m k, m + k = 30 → ((jkw s a n m k = 30 ∧ ∀ i, k ≤ i → i < 30 → ¬ jmtB s a n (i + 2) = true) ∨ (jkw s a n m k < 30 ∧ jmtB s a n (jkw s a n m k + 2) = true)) := by
  intro m
  induction m with
  | zero => intro k hk; exact Or.inl ⟨rfl, fun i h1 h2 => by omega⟩
  | succ m ih =>
    intro k hk
    rw [jkw]
    split
    · rename_i h
      exact Or.inr ⟨by omega, h⟩
    · rename_i h
      rcases ih (k + 1) (by omega) with q | q
      · refine Or.inl ⟨q.1, fun i h1 h2 => ?_⟩
        rcases Nat.lt_or_eq_of_le h1 with z | z
        · exact q.2 i z h2
        · rw [← z]
          exact h
      · exact Or.inr q
def jkdif (i r : Nat) : Bool := decide (i = r) || decide (¬ jn_len.getD (i + 2) 0 = jn_len.getD (r + 2) 0) || (List.range (jn_len.getD (i + 2) 0)).any (fun j => decide (¬ jtx (i + 2) j = jtx (r + 2) j))
theorem jkdif_all : ∀ i, i < 30 → ∀ r, r < 30 → jkdif i r = true := by decide +kernel
theorem jkey_one {s : Nat → Nat} {a n i r : Nat} (hi : i < 30) (hr : r < 30) (h1 : jmtB s a n (i + 2) = true) (h2 : jmtB s a n (r + 2) = true) : i = r := by
  have h := jkdif_all i hi r hr
  have m1 := jmtB_iff.mp h1
  have m2 := jmtB_iff.mp h2
  unfold jkdif at h
  simp only [Bool.or_eq_true, decide_eq_true_eq, List.any_eq_true, List.mem_range] at h
  rcases h with (h | h) | ⟨j, hj, h⟩
  · exact h
  · exact absurd (m1.1.symm.trans m2.1) h
  · refine absurd ((m1.2 j (by rw [m1.1]; exact hj)).symm.trans (m2.2 j ?_)) h
    rw [m1.1]
    exact hj
theorem jkw_of {s : Nat → Nat} {a n r : Nat} (hr : r < 30) (h : jmtB s a n (r + 2) = true) : jkw s a n 30 0 = r := by
  rcases jkw_spec (s := s) (a := a) (n := n) 30 0 rfl with q | q
  · exact absurd h (q.2 r (Nat.zero_le _) hr)
  · exact jkey_one q.1 hr q.2 h
theorem jkw_no {s : Nat → Nat} {a n : Nat} (h : ∀ i, i < 30 → ¬ jmtB s a n (i + 2) = true) : jkw s a n 30 0 = 30 := by
  rcases jkw_spec (s := s) (a := a) (n := n) 30 0 rfl with q | q
  · exact q.1
  · exact absurd q.2 (h _ q.1)
/-- k keywords are tried -/
def jRW (s : Nat → Nat) (a n t : Nat) (base : Int32) (w w2 : JW) (k : Nat) : Prop := jWt w w2 t ∧ w2.1 46 false t = nI n ∧ (((∀ i, i < k → ¬ jmtB s a n (i + 2) = true) ∧ w2.1 43 false t = base) ∨ ∃ r, r < k ∧ jmtB s a n (r + 2) = true ∧ w2.1 43 false t = 2 ∧ w2.1 44 false t = nI r)
theorem l_rkeys {C : JC} {P : JV → JW → Prop} {s : Nat → Nat} {L : Nat} {w : JW} (h : jC0 s L w) (hm : jok C MX11_readWord 5 0 0) {a n t : Nat} {base : Int32} (ha : a + n ≤ L) (ht : t ≤ 400) (hP : ∀ w', jRW s a n t base w w' 30 → P jU w') : ∀ m k : Nat, m + k = 30 → ∀ w2, jRW s a n t base w w2 k → jW C 0 0 (jQQ C 0 0 P) 61 [jR 41 false, jI (nI t), jI (nI a), jI (nI (a + n)), jI (nI k)] [] w2 := by
  have hL := h.1.1
  intro m
  induction m with
  | zero =>
    intro k hk w2 h2
    obtain rfl : k = 30 := by omega
    refine bk_X11_readWord_61 hm ?_
    refine jr_keys hm jw_1442 dX11_readWord_63 ?_
    refine jr_klen hm dX11_readWord_66 ?_
    refine jr_icmp_ge hm (tgt := 111) dX11_readWord_67 (by decide) (fun _ => ?_) (fun z => absurd (by decide) z)
    exact jr_return hm rfl dX11_readWord_111 (hP _ h2)
  | succ m ih =>
    intro k hk w2 h2
    refine bk_X11_readWord_61 hm ?_
    refine jr_keys hm jw_1442 dX11_readWord_63 ?_
    refine jr_klen hm dX11_readWord_66 ?_
    refine jr_icmp_ge hm (tgt := 111) dX11_readWord_67 (by decide) (fun z => absurd ((nI_leI (a := 30) (by omega) (by omega)).mp z) (by omega)) (fun _ => ?_)
    refine jr_aload_n hm (i := 0) rfl rfl dX11_readWord_70 ?_
    refine jr_iload_n hm (i := 2) rfl rfl dX11_readWord_71 ?_
    refine jr_iload_n hm (i := 3) rfl rfl dX11_readWord_72 ?_
    refine jr_iload_n hm (i := 2) rfl rfl dX11_readWord_73 ?_
    refine jr_isub hm dX11_readWord_74 ?_
    rw [nI_subN (by omega), show a + n - a = n by omega]
    refine jr_keys hm jw_1442 dX11_readWord_75 ?_
    refine jr_iload hm (i := 4) rfl dX11_readWord_78 ?_
    refine jr_kat hm (by omega) dX11_readWord_80 ?_
    refine jr_callV (mc := 0) (ms := 0) (as := [jI (nI a), jI (nI n), jR (100 + (k + 2)) false]) (st := []) hm (c_isWord (h2.1.C0 h) (a := a) (n := n) (i := k + 2) (by omega) ha) (by omega) jw_1444 jw_1446 jw_52 jw_125 jw_1447 jn_X11_isWord rfl jo_41 (fun _ _ _ _ _ => ⟨_, rfl⟩) rfl rfl (Nat.le_of_ble_eq_true rfl) rfl dX11_readWord_81 (jkF ?_)
    refine jr_if_ne hm (tgt := 90) dX11_readWord_84 (by decide) (fun z => ?_) (fun z => ?_)
    · rw [jif0, Decidable.not_not] at z
      refine jr_aload_n hm (i := 0) rfl rfl dX11_readWord_90 ?_
      refine fg_X11_36 hm dX11_readWord_91 ?_
      refine jr_iload_n hm (i := 1) rfl rfl dX11_readWord_94 ?_
      refine jr_iconst hm (v := 2) (by decide) dX11_readWord_95 ?_
      refine jr_iastore hm ja_43 (vp_in_nI (by omega) (by omega)) dX11_readWord_96 ?_
      refine jr_aload_n hm (i := 0) rfl rfl dX11_readWord_97 ?_
      refine fg_X11_42 hm dX11_readWord_98 ?_
      refine jr_iload_n hm (i := 1) rfl rfl dX11_readWord_101 ?_
      refine jr_iload hm (i := 4) rfl dX11_readWord_102 ?_
      refine jr_iastore hm ja_44 (vp_in_nI (by omega) (by omega)) dX11_readWord_104 ?_
      refine jr_iinc hm (i := 4) rfl (nI_inc _) rfl dX11_readWord_105 ?_
      refine jr_goto hm (tgt := 61) dX11_readWord_108 (by decide) ?_
      rw [nI_clamp (by omega)]
      refine ih (k + 1) (by omega) _ ⟨(h2.1.set (by omega)).set (by omega), ?_, Or.inr ⟨k, by omega, z, ?_, ?_⟩⟩
      · rw [jset_I, jset_I, if_neg (by omega), if_neg (by omega)]
        exact h2.2.1
      · rw [jset_I, jset_I, if_neg (by omega), if_pos ⟨rfl, rfl, rfl⟩]
      · rw [jset_I, if_pos ⟨rfl, rfl, rfl⟩]
    · rw [jif0] at z
      refine jr_goto hm (tgt := 105) dX11_readWord_87 (by decide) ?_
      refine jr_iinc hm (i := 4) rfl (nI_inc _) rfl dX11_readWord_105 ?_
      refine jr_goto hm (tgt := 61) dX11_readWord_108 (by decide) ?_
      refine ih (k + 1) (by omega) _ ⟨h2.1, h2.2.1, ?_⟩
      rcases h2.2.2 with q | ⟨r, hr, q⟩
      · refine Or.inl ⟨fun i hi => ?_, q.2⟩
        rcases Nat.lt_or_eq_of_le (Nat.lt_succ_iff.mp hi) with y | y
        · exact q.1 i y
        · rw [y]
          exact z
      · exact Or.inr ⟨r, by omega, q⟩
theorem l_rletters {C : JC} {Q : State → Prop} {s : Nat → Nat} {L : Nat} {w : JW} (h : jC0 s L w) (hm : jok C MX11_readWord 5 0 0) {x y : Int32} : ∀ n i : Nat, i + n = 2000 → jW C 0 0 Q 30 [jR 41 false, jI x, jI y, jI (nI (jskip (fun k => decide (jlet (s k) ∨ jdig (s k))) n i)), jU] [] w → jW C 0 0 Q 2 [jR 41 false, jI x, jI y, jI (nI i), jU] [] w := by
  have hL := h.1.1
  intro n
  induction n with
  | zero =>
    intro i hi k
    have e : s i = 300 := h.1.2.2 i (by omega)
    refine bk_X11_readWord_2 hm (c_mbyteAt h (by omega)) (by decide) (bk_X11_readWord_7 hm (c_misLetter w _) (by decide) (bk_X11_readWord_10 hm (fun z => ?_) (fun _ => bk_X11_readWord_13 hm (c_mbyteAt h (by omega)) (by decide) (bk_X11_readWord_18 hm (c_misDigit w _) (by decide) (bk_X11_readWord_21 hm (fun _ => k) (fun z => ?_))))))
    · rw [jif0, Decidable.not_not] at z
      omega
    · rw [jif0, Decidable.not_not] at z
      omega
  | succ n ih =>
    intro i hi k
    refine bk_X11_readWord_2 hm (c_mbyteAt h (by omega)) (by decide) (bk_X11_readWord_7 hm (c_misLetter w _) (by decide) (bk_X11_readWord_10 hm (fun z => ?_) (fun z => bk_X11_readWord_13 hm (c_mbyteAt h (by omega)) (by decide) (bk_X11_readWord_18 hm (c_misDigit w _) (by decide) (bk_X11_readWord_21 hm (fun z2 => ?_) (fun z2 => ?_))))))
    · rw [jif0, Decidable.not_not] at z
      rw [jskip_t (decide_eq_true (Or.inl z))] at k
      refine bk_X11_readWord_24 hm ?_
      rw [← nI_succ]
      exact ih (i + 1) (by omega) k
    · rw [jif0] at z z2
      rw [jskip_f (fun q => (of_decide_eq_true q).elim z z2)] at k
      exact k
    · rw [jif0, Decidable.not_not] at z2
      rw [jskip_t (decide_eq_true (Or.inr z2))] at k
      refine bk_X11_readWord_24 hm ?_
      rw [← nI_succ]
      exact ih (i + 1) (by omega) k
theorem c_readWord {s : Nat → Nat} {L : Nat} {w : JW} (h : jC0 s L w) {a t : Nat} (hl : jlet (s a)) (ht : t ≤ 400) : jSV MX11_readWord 5 [jR 41 false, jI (nI t), jI (nI a)] w (fun w2 => jWt w w2 t ∧ w2.1 46 false t = nI (jte s a - a) ∧ (10 < jte s a - a → w2.1 43 false t = 5) ∧ (¬ 10 < jte s a - a → (jkw s a (jte s a - a) 30 0 < 30 → w2.1 43 false t = 2 ∧ w2.1 44 false t = nI (jkw s a (jte s a - a) 30 0)) ∧ (jkw s a (jte s a - a) 30 0 = 30 → w2.1 43 false t = 1))) := by
  have hL := h.1.1
  have haL : a < L := h.1.in (by omega)
  have hte := jte_max h.1 (Nat.le_of_lt haL)
  have hae : a ≤ jte s a := jte_le
  have e1 : jskip (fun k => decide (jlet (s k) ∨ jdig (s k))) (2000 - a) a = a + (jte s a - a) := by
    rw [show 2000 - a = (2000 - (a + 1)) + 1 by omega, jskip_t (decide_eq_true (Or.inl hl))]
    have := (jte_word (by omega) hl).1
    unfold jwe at this
    omega
  generalize hn : jte s a - a = n at e1 ⊢
  refine jSV_of jp_X11_readWord rfl (Nat.le_of_ble_eq_true rfl) (fun C hm => ?_)
  have fin : ∀ base : Int32, (base = if 10 < n then 5 else 1) → jW C 0 0 (jQQ C 0 0 (fun v w' => v = jU ∧ (jWt w w' t ∧ w'.1 46 false t = nI n ∧ (10 < n → w'.1 43 false t = 5) ∧ (¬ 10 < n → (jkw s a n 30 0 < 30 → w'.1 43 false t = 2 ∧ w'.1 44 false t = nI (jkw s a n 30 0)) ∧ (jkw s a n 30 0 = 30 → w'.1 43 false t = 1))))) 57 [jR 41 false, jI (nI t), jI (nI a), jI (nI (a + n)), jU] [jI base, jI (nI t), jR 43 false] (jset w 46 false t (nI n)) := by
    intro base hb
    refine bk_X11_readWord_57 hm (vp_in_nI (by omega) (by omega)) ?_
    rw [nI_clamp (by omega)]
    refine l_rkeys h hm (a := a) (n := n) (t := t) (base := base) (by omega) ht (fun w' h3 => ?_) 30 0 rfl (jset (jset w 46 false t (nI n)) 43 false t base) ⟨((jWt.refl w t).set (by omega)).set (by omega), by rw [jset_I, jset_I, if_neg (by omega), if_pos ⟨rfl, rfl, rfl⟩], Or.inl ⟨fun i hi => absurd hi (Nat.not_lt_zero i), by rw [jset_I, if_pos ⟨rfl, rfl, rfl⟩]⟩⟩
    obtain ⟨k1, k2, k3⟩ := h3
    refine ⟨rfl, k1, k2, fun h10 => ?_, fun h10 => ⟨fun hk => ?_, fun hk => ?_⟩⟩
    · rcases k3 with q | ⟨r, hr, q, -⟩
      · rw [q.2, hb, if_pos h10]
      · have := (jmtB_iff.mp q).1
        have := jkey_len r hr
        omega
    · rcases k3 with q | ⟨r, hr, q, q2⟩
      · rw [jkw_no q.1] at hk
        omega
      · rw [jkw_of hr q]
        exact q2
    · rcases k3 with q | ⟨r, hr, q, q2⟩
      · rw [q.2, hb, if_neg h10]
      · rw [jkw_of hr q] at hk
        omega
  refine bk_X11_readWord_0 hm (l_rletters h hm (2000 - a) a (by omega) ?_)
  rw [e1]
  refine bk_X11_readWord_30 hm (vp_in_nI (by omega) (by omega)) (fun z => ?_) (fun z => ?_)
  · rw [nI_subN (by omega), show a + n - a = n by omega] at z ⊢
    have z2 := (nI_leI (b := 10) (by omega) (by omega)).mp z
    rw [nI_clamp (by omega)]
    exact bk_X11_readWord_56 hm (fin 1 (by rw [if_neg (by omega)]))
  · rw [nI_subN (by omega), show a + n - a = n by omega] at z ⊢
    have z2 : ¬ n ≤ 10 := fun q => z ((nI_leI (b := 10) (by omega) (by omega)).mpr q)
    rw [nI_clamp (by omega)]
    exact bk_X11_readWord_52 hm (fin 5 (by rw [if_pos (by omega)]))

