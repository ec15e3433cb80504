
/-! WHAT THE LIST TELLS -/
def kTk (T : JTk) (cn : Nat → Nat) (i : Nat) (e : KE) : Prop := T.1 i = nI e.2.2.1 ∧ (e.2.2.1 = 31 → T.2.1 i = nI e.2.2.2) ∧ (e.2.2.1 = 30 → cn i = e.2.1.headD 0)
def kHas (T : JTk) (cn : Nat → Nat) (N n : Nat) (ts : List KE) : Prop := n + ts.length ≤ N ∧ ∀ (j : Nat) (h : j < ts.length), kTk T cn (n + j) ts[j]
def kNam (T : JTk) (cn : Nat → Nat) (N : Nat) : Prop := ∀ i j, i < N → j < N → T.1 i = 30 → T.1 j = 30 → T.2.2.1 i j = decide (cn i = cn j)
theorem kHas_app {T : JTk} {cn : Nat → Nat} {N n : Nat} {a b : List KE} (h : kHas T cn N n (a ++ b)) : kHas T cn N n a ∧ kHas T cn N (n + a.length) b := by
  obtain ⟨h1, h2⟩ := h
  rw [List.length_append] at h1
  refine ⟨⟨by omega, fun j hj => ?_⟩, ⟨by omega, fun j hj => ?_⟩⟩
  · have := h2 j (by rw [List.length_append]; omega)
    rw [List.getElem_append_left hj] at this
    exact this
  · have := h2 (a.length + j) (by rw [List.length_append]; omega)
    rw [List.getElem_append_right (by omega)] at this
    simp only [Nat.add_sub_cancel_left] at this
    rw [Nat.add_assoc]
    exact this
/-- names are one letter long -/
def kSg (es : List KE) : Bool := es.all (fun e => e.2.2.1 != 30 || e.2.1.length == 1)
theorem kSg_app {a b : List KE} (ha : kSg a = true) (hb : kSg b = true) : kSg (a ++ b) = true := by
  unfold kSg at *
  rw [List.all_append, ha, hb]
  rfl
theorem kTT {es : List KE} (hG : kGL es 300) (hS : kSg es = true) (hl : (kTx es).length ≤ 2000) (hn : es.length < 400) : ∃ cn : Nat → Nat, kHas (jTT (kS (kTx es) (kTx es).length)) cn es.length 0 es ∧ kNam (jTT (kS (kTx es) (kTx es).length)) cn es.length ∧ (jTT (kS (kTx es) (kTx es).length)).1 es.length = 47 := by
  generalize hs : kS (kTx es) (kTx es).length = s
  have hsj : ∀ j, s j = (kTx es).getD j 300 := by
    intro j
    rw [← hs]
    unfold kS klt
    by_cases h : j < (kTx es).length
    · rw [if_pos h, if_pos h, List.getD_eq_getElem?_getD, List.getD_eq_getElem?_getD, List.getElem?_eq_getElem h]
      rfl
    · rw [if_neg h, List.getD_eq_getElem?_getD, List.getElem?_eq_none (by omega)]
      rfl
  obtain ⟨h1, h2⟩ := ktoks (s := s) es 0 0 rfl (fun j => by rw [Nat.zero_add]; exact hsj j) hG (by omega)
  have hK : ∀ i (h : i < es.length), jK s i = es[i].2.2.1 := by
    intro i h
    have := (h1 i h).2.2.1
    rw [Nat.zero_add] at this
    unfold jK
    rw [if_neg (by omega)]
    exact this
  refine ⟨fun i => s (jtk s i), ⟨by omega, fun j hj => ⟨?_, fun h31 => ?_, fun h30 => ?_⟩⟩, fun i j hi hj e1 e2 => ?_, ?_⟩
  · show nI (jK s (0 + j)) = _
    rw [Nat.zero_add, hK j hj]
  · show nI (jwo 10 s (jtk s (0 + j)) (jln s (0 + j))) = _
    rw [(h1 j hj).2.2.2 h31]
  · have hw := (h1 j hj).2.1 0
    have hsg := List.all_eq_true.mp hS es[j] (List.getElem_mem hj)
    rw [h30] at hsg
    have hlen : es[j].2.1.length = 1 := by simpa using hsg
    rw [Nat.add_zero] at hw
    show s (jtk s (0 + j)) = _
    rw [hw (by omega)]
    match es[j].2.1, hlen with
    | [x], _ => rfl
  · have kk : ∀ i (h : i < es.length), nI (jK s i) = 30 → jln s i = 1 := by
      intro i h e
      have hb := jK_le s i
      have e30 : jK s i = 30 := (nI_eq (b := 30) (by omega) (by omega)).mp e
      rw [hK i h] at e30
      have hsg := List.all_eq_true.mp hS es[i] (List.getElem_mem h)
      rw [e30] at hsg
      have hlen : es[i].2.1.length = 1 := by simpa using hsg
      have := (h1 i h).1
      rw [Nat.zero_add] at this
      rw [this, hlen]
    have a1 := kk i hi e1
    have a2 := kk j hj e2
    show jsmB s i j = _
    unfold jsmB
    rw [a1, a2]
    simp
  · show nI (jK s es.length) = 47
    rw [Nat.zero_add] at h2
    unfold jK
    rw [if_neg (by omega), h2]
    rfl
/-- names told: their tokens, their letters -/
def kNl (T : JTk) (cn : Nat → Nat) (N : Nat) (f : Nat → Nat) (xs : List Nat) : Prop := xs.length ≤ 50 ∧ ∀ (k : Nat) (h : k < xs.length), f k < N ∧ T.1 (f k) = 30 ∧ cn (f k) = xs[k]
theorem kNl_no {T : JTk} {cn : Nat → Nat} {N t : Nat} {f : Nat → Nat} {xs : List Nat} (hN : kNam T cn N) (h : kNl T cn N f xs) (ht : t < N) (h30 : T.1 t = 30) (hx : ∀ x ∈ xs, x ≠ cn t) : jnum T (f, xs.length) t < 0 := by
  refine kf_no (fun j hj => ?_) (by have := h.1; show xs.length ≤ 100; omega)
  obtain ⟨a, b, c⟩ := h.2 j hj
  show T.2.2.1 (f j) t = false
  rw [hN _ _ a ht b h30, c]
  exact decide_eq_false (hx _ (List.getElem_mem hj))
theorem kNl_is {T : JTk} {cn : Nat → Nat} {N t i : Nat} {f : Nat → Nat} {xs : List Nat} (hN : kNam T cn N) (h : kNl T cn N f xs) (ht : t < N) (h30 : T.1 t = 30) (hi : xs[i]? = some (cn t)) (hb : ∀ j, j < i → xs[j]? ≠ some (cn t)) : jfi T (f, xs.length) t = i ∧ ¬ jnum T (f, xs.length) t < 0 := by
  obtain ⟨hi1, hi2⟩ := List.getElem?_eq_some_iff.mp hi
  refine kf_is hi1 ?_ (fun j hj => ?_) (by have := h.1; show xs.length ≤ 100; omega)
  · obtain ⟨a, b, c⟩ := h.2 i hi1
    show T.2.2.1 (f i) t = true
    rw [hN _ _ a ht b h30, c, hi2]
    exact decide_eq_true rfl
  · obtain ⟨a, b, c⟩ := h.2 j (by omega)
    show T.2.2.1 (f j) t = false
    rw [hN _ _ a ht b h30, c]
    exact decide_eq_false (fun e => hb j hj (by rw [List.getElem?_eq_getElem (by omega), e]))
theorem kNl_add {T : JTk} {cn : Nat → Nat} {N t : Nat} {f : Nat → Nat} {xs : List Nat} {c : Nat} (h : kNl T cn N f xs) (ht : t < N) (h30 : T.1 t = 30) (hc : cn t = c) (hl : xs.length < 50) : kNl T cn N (updn f xs.length t) (xs ++ [c]) := by
  refine ⟨by simp; omega, fun k hk => ?_⟩
  rw [List.length_append] at hk
  by_cases e : k = xs.length
  · subst e
    rw [updn_at]
    refine ⟨ht, h30, ?_⟩
    rw [hc, List.getElem_append_right (Nat.le_refl _)]
    simp
  · have hk2 : k < xs.length := by simp at hk; omega
    rw [updn_no e, List.getElem_append_left hk2]
    exact h.2 k hk2
def kInv (T : JTk) (cn : Nat → Nat) (N : Nat) (L : JLn) (cs ps hs : List Nat) : Prop := (L.1.1 0 = cs.length ∧ L.1.1 1 = ps.length ∧ L.1.1 2 = hs.length) ∧ kNl T cn N L.2.1 cs ∧ kNl T cn N L.2.2.1 ps ∧ kNl T cn N L.2.2.2 hs
theorem kInv.nc {T : JTk} {cn : Nat → Nat} {N : Nat} {L : JLn} {cs ps hs : List Nat} (h : kInv T cn N L cs ps hs) : jNc L = (L.2.1, cs.length) := by show (L.2.1, L.1.1 0) = _; rw [h.1.1]
theorem kInv.np {T : JTk} {cn : Nat → Nat} {N : Nat} {L : JLn} {cs ps hs : List Nat} (h : kInv T cn N L cs ps hs) : jNp L = (L.2.2.1, ps.length) := by show (L.2.2.1, L.1.1 1) = _; rw [h.1.2.1]
theorem kInv.nh {T : JTk} {cn : Nat → Nat} {N : Nat} {L : JLn} {cs ps hs : List Nat} (h : kInv T cn N L cs ps hs) : jNh L = (L.2.2.2, hs.length) := by show (L.2.2.2, L.1.1 2) = _; rw [h.1.2.2]
/-- a name at hand -/
theorem kNm_at {T : JTk} {cn : Nat → Nat} {N n : Nat} {ts : List KE} (h : kHas T cn N n ts) (j c : Nat) (hj : ts[j]? = some (kNm c)) : n + j < N ∧ T.1 (n + j) = 30 ∧ cn (n + j) = c := by
  obtain ⟨h1, h2⟩ := List.getElem?_eq_some_iff.mp hj
  have := h.2 j h1
  rw [h2] at this
  exact ⟨by have := h.1; omega, this.1, this.2.2 rfl⟩
theorem kT_at {T : JTk} {cn : Nat → Nat} {N n : Nat} {ts : List KE} (h : kHas T cn N n ts) (j : Nat) {e : KE} (hj : ts[j]? = some e) : T.1 (n + j) = nI e.2.2.1 := by
  obtain ⟨h1, h2⟩ := List.getElem?_eq_some_iff.mp hj
  have := h.2 j h1
  rw [h2] at this
  exact this.1
theorem kV_at {T : JTk} {cn : Nat → Nat} {N n : Nat} {ts : List KE} (h : kHas T cn N n ts) (j : Nat) {v : Nat} (hj : ts[j]? = some (kNu v)) : T.2.1 (n + j) = nI v := by
  obtain ⟨h1, h2⟩ := List.getElem?_eq_some_iff.mp hj
  have := h.2 j h1
  rw [h2] at this
  exact this.2.1 rfl
theorem A_cave {T : JTk} {cn : Nat → Nat} {N n b c m d : Nat} {L : JLn} {cs ps hs : List Nat} (hN : kNam T cn N) (hI : kInv T cn N L cs ps hs) (hH : kHas T cn N n (eCave b c m d)) (hm : 1 ≤ m ∧ m ≤ 9) (hd : 1 ≤ d ∧ d ≤ 9) (hc : ∀ x ∈ cs, x ≠ c) (h5 : cs.length < 5) (k : Nat) : jlAll T (k + 1) n kE0 L = jlAll T k (n + 7) kE0 (jaCave L (n + 1) (nI m) (nI d)) ∧ kInv T cn N (jaCave L (n + 1) (nI m) (nI d)) (cs ++ [c]) ps hs := by
  obtain ⟨a1, a2, a3⟩ := kNm_at hH 1 c rfl
  have hnew : jnum T (jNc L) (n + 1) < 0 := by
    rw [hI.nc]
    exact kNl_no hN hI.2.1 a1 a2 (by rw [a3]; exact hc)
  refine ⟨kl_step (by rw [show T.1 n = 0 from kT_at hH 0 rfl]; decide) (kl_cave (kT_at hH 0 rfl) a2 (kT_at hH 2 rfl) (kT_at hH 3 rfl) (kV_at hH 3 rfl) (kT_at hH 4 rfl) (kT_at hH 5 rfl) (kV_at hH 5 rfl) hm hd hnew (by rw [hI.1.1]; exact h5)) (kT_at hH 6 rfl), ⟨⟨?_, hI.1.2.1, hI.1.2.2⟩, ?_, hI.2.2.1, hI.2.2.2⟩⟩
  · show L.1.1 0 + 1 = _
    rw [hI.1.1, List.length_append]
    rfl
  · show kNl T cn N (updn L.2.1 (L.1.1 0) (n + 1)) (cs ++ [c])
    rw [hI.1.1]
    exact kNl_add hI.2.1 a1 a2 a3 (by omega)
theorem A_pipe {T : JTk} {cn : Nat → Nat} {N n c cv i l : Nat} {r : Bool} {L : JLn} {cs ps hs : List Nat} (hN : kNam T cn N) (hI : kInv T cn N L cs ps hs) (hH : kHas T cn N n (ePipe c cv l r)) (hl : 1 ≤ l ∧ l ≤ 40) (hc : ∀ x ∈ ps, x ≠ c) (h12 : ps.length < 12) (hi : cs[i]? = some cv) (hb : ∀ j, j < i → cs[j]? ≠ some cv) (k : Nat) : jlAll T (k + 1) n kE0 L = jlAll T k (n + (ePipe c cv l r).length) kE0 (jaPipe L (n + 1) i l (if r = true then 1 else 0)) ∧ kInv T cn N (jaPipe L (n + 1) i l (if r = true then 1 else 0)) cs (ps ++ [c]) hs := by
  have l1 : ∀ j e, j < 6 → ([kKw 1 3, kNm c, kKw 1 4, kNm cv, kKw 1 5, kNu l] : List KE)[j]? = some e → (ePipe c cv l r)[j]? = some e := by
    intro j e hj h
    unfold ePipe
    rw [List.getElem?_append_left (by simpa using hj)]
    exact h
  obtain ⟨a1, a2, a3⟩ := kNm_at hH 1 c (l1 1 _ (by omega) rfl)
  obtain ⟨b1, b2, b3⟩ := kNm_at hH 3 cv (l1 3 _ (by omega) rfl)
  have hnew : jnum T (jNp L) (n + 1) < 0 := by
    rw [hI.np]
    exact kNl_no hN hI.2.2.1 a1 a2 (by rw [a3]; exact hc)
  obtain ⟨f1, f2⟩ := kNl_is hN hI.2.1 b1 b2 (by rw [b3]; exact hi) (by rw [b3]; exact hb)
  rw [← hI.nc] at f1 f2
  have h0 : T.1 n = 3 := kT_at hH 0 (l1 0 _ (by omega) rfl)
  have n47 : ¬ T.1 n = 47 := by rw [h0]; decide
  refine ⟨?_, ⟨⟨?_, ?_, ?_⟩, hI.2.1, ?_, hI.2.2.2⟩⟩
  · cases r with
    | true =>
      have h6 : T.1 (n + 6) = 6 := kT_at hH 6 rfl
      exact kl_step n47 (kl_reed h0 a2 (kT_at hH 2 rfl) b2 (kT_at hH 4 rfl) (kT_at hH 5 rfl) (kV_at hH 5 rfl) hl hnew (by rw [hI.1.2.1]; exact h12) f2 f1 h6) (kT_at hH 7 rfl)
    | false =>
      have h6 : T.1 (n + 6) = 36 := kT_at hH 6 rfl
      exact kl_step n47 (kl_pipe h0 a2 (kT_at hH 2 rfl) b2 (kT_at hH 4 rfl) (kT_at hH 5 rfl) (kV_at hH 5 rfl) hl hnew (by rw [hI.1.2.1]; exact h12) f2 f1 (by rw [h6]; decide)) h6
  · show updn (updn (updn L.1.1 (100 + L.1.1 1) i) (140 + L.1.1 1) l) 1 (L.1.1 1 + 1) 0 = _
    rw [updn_no (by omega), updn_no (by omega), updn_no (by omega)]
    exact hI.1.1
  · show L.1.1 1 + 1 = _
    rw [hI.1.2.1, List.length_append]
    rfl
  · show updn (updn (updn L.1.1 (100 + L.1.1 1) i) (140 + L.1.1 1) l) 1 (L.1.1 1 + 1) 2 = _
    rw [updn_no (by omega), updn_no (by omega), updn_no (by omega)]
    exact hI.1.2.2
  · show kNl T cn N (updn L.2.2.1 (L.1.1 1) (n + 1)) (ps ++ [c])
    rw [hI.1.2.1]
    exact kNl_add hI.2.2.1 a1 a2 a3 (by omega)
theorem A_swell {T : JTk} {cn : Nat → Nat} {N n h e f : Nat} {L : JLn} {cs ps hs : List Nat} (hI : kInv T cn N L cs ps hs) (hH : kHas T cn N n (eSwell h e f)) (ha : 1 ≤ h ∧ h ≤ 30) (hb : 1 ≤ e ∧ e ≤ 24) (hc : f ≤ 99) (hn : L.1.1 3 < 5) (k : Nat) : jlAll T (k + 1) n kE0 L = jlAll T k (n + 8) kE0 (jaSwell L (nI h) (nI e) (nI f)) ∧ kInv T cn N (jaSwell L (nI h) (nI e) (nI f)) cs ps hs :=
  ⟨kl_step (by rw [show T.1 n = 7 from kT_at hH 0 rfl]; decide) (kl_swell (kT_at hH 0 rfl) (kT_at hH 1 rfl) (kT_at hH 2 rfl) (kV_at hH 2 rfl) (kT_at hH 3 rfl) (kT_at hH 4 rfl) (kV_at hH 4 rfl) (kT_at hH 5 rfl) (kT_at hH 6 rfl) (kV_at hH 6 rfl) ha hb hc hn) (kT_at hH 7 rfl), hI⟩
theorem A_sil {T : JTk} {cn : Nat → Nat} {N n f t : Nat} {L : JLn} {cs ps hs : List Nat} (hI : kInv T cn N L cs ps hs) (hH : kHas T cn N n (eSil f t)) (ha : f ≤ 23) (hb : t ≤ 23) (hn : L.1.1 4 < 3) (k : Nat) : jlAll T (k + 1) n kE0 L = jlAll T k (n + 6) kE0 (jaSil L (nI f) (nI t)) ∧ kInv T cn N (jaSil L (nI f) (nI t)) cs ps hs :=
  ⟨kl_step (by rw [show T.1 n = 11 from kT_at hH 0 rfl]; decide) (kl_sil (kT_at hH 0 rfl) (kT_at hH 1 rfl) (kT_at hH 2 rfl) (kV_at hH 2 rfl) (kT_at hH 3 rfl) (kT_at hH 4 rfl) (kV_at hH 4 rfl) ha hb hn) (kT_at hH 5 rfl), hI⟩
abbrev kPs : List Nat := [112, 113, 114, 116]
theorem kP_is {T : JTk} {cn : Nat → Nat} {N n i c : Nat} {ts : List KE} {L : JLn} {cs hs : List Nat} (hN : kNam T cn N) (hI : kInv T cn N L cs kPs hs) (hH : kHas T cn N n ts) (j : Nat) (hj : ts[j]? = some (kNm c)) (hi : kPs[i]? = some c) (hb : ∀ j, j < i → kPs[j]? ≠ some c) : T.1 (n + j) = 30 ∧ jfi T (jNp L) (n + j) = i ∧ ¬ jnum T (jNp L) (n + j) < 0 := by
  obtain ⟨a1, a2, a3⟩ := kNm_at hH j c hj
  rw [hI.np]
  exact ⟨a2, kNl_is hN hI.2.2.1 a1 a2 (by rw [a3]; exact hi) (by rw [a3]; exact hb)⟩
theorem kC_is {T : JTk} {cn : Nat → Nat} {N n i c : Nat} {ts : List KE} {L : JLn} {cs ps hs : List Nat} (hN : kNam T cn N) (hI : kInv T cn N L cs ps hs) (hH : kHas T cn N n ts) (j : Nat) (hj : ts[j]? = some (kNm c)) (hi : cs[i]? = some c) (hb : ∀ j, j < i → cs[j]? ≠ some c) : T.1 (n + j) = 30 ∧ jfi T (jNc L) (n + j) = i ∧ ¬ jnum T (jNc L) (n + j) < 0 := by
  obtain ⟨a1, a2, a3⟩ := kNm_at hH j c hj
  rw [hI.nc]
  exact ⟨a2, kNl_is hN hI.2.1 a1 a2 (by rw [a3]; exact hi) (by rw [a3]; exact hb)⟩
/-- the two chords' pipes -/
def kCx : Nat → Nat := updn (updn (fun _ => 0) 0 0) 1 1
def kCy : Nat → Nat := updn (updn (updn (fun _ => 0) 0 1) 1 2) 2 3
theorem kChordInv {T : JTk} {cn : Nat → Nat} {N t m c : Nat} {L : JLn} {cs ps hs : List Nat} {f : Nat → Nat} (hI : kInv T cn N L cs ps hs) (hm : m ≤ 6) (h2 : hs.length < 6) (a1 : t < N) (a2 : T.1 t = 30) (a3 : cn t = c) : kInv T cn N (jaChord L t m f) cs ps (hs ++ [c]) := by
  have hno : ∀ (q i : Nat), q ≤ 6 → i < 3 → (jaNotes L.1 (L.1.1 2) f q).1 i = L.1.1 i := by
    intro q
    induction q with
    | zero => intro i _ _; rfl
    | succ q ih =>
      intro i hq hi
      show updn _ _ _ i = _
      rw [updn_no (by omega)]
      exact ih i (by omega) hi
  have e : ∀ i, i < 2 → (jaChord L t m f).1.1 i = L.1.1 i := by
    intro i hi
    show updn (updn (jaNotes L.1 (L.1.1 2) f m).1 (10 + L.1.1 2) m) 2 (L.1.1 2 + 1) i = _
    rw [updn_no (by omega), updn_no (by omega)]
    exact hno m i hm (by omega)
  refine ⟨⟨(e 0 (by omega)).trans hI.1.1, (e 1 (by omega)).trans hI.1.2.1, ?_⟩, hI.2.1, hI.2.2.1, ?_⟩
  · show L.1.1 2 + 1 = _
    rw [hI.1.2.2, List.length_append]
    rfl
  · show kNl T cn N (updn L.2.2.2 (L.1.1 2) t) (hs ++ [c])
    rw [hI.1.2.2]
    exact kNl_add hI.2.2.2 a1 a2 a3 (by omega)
theorem A_chX {T : JTk} {cn : Nat → Nat} {N n : Nat} {L : JLn} {cs hs : List Nat} (hN : kNam T cn N) (hI : kInv T cn N L cs kPs hs) (hH : kHas T cn N n eChX) (hc : ∀ x ∈ hs, x ≠ 120) (h2 : hs.length < 6) (k : Nat) : jlAll T (k + 1) n kE0 L = jlAll T k (n + 6) kE0 (jaChord L (n + 1) 2 kCx) ∧ kInv T cn N (jaChord L (n + 1) 2 kCx) cs kPs (hs ++ [120]) := by
  obtain ⟨a1, a2, a3⟩ := kNm_at hH 1 120 rfl
  obtain ⟨p1, p2, -⟩ := kP_is (i := 0) hN hI hH 3 rfl rfl (fun j hj => absurd hj (Nat.not_lt_zero j))
  obtain ⟨q1, q2, -⟩ := kP_is (i := 1) hN hI hH 4 rfl rfl (fun j hj => by
    obtain rfl : j = 0 := by omega
    decide)
  have hnew : jnum T (jNh L) (n + 1) < 0 := by
    rw [hI.nh]
    exact kNl_no hN hI.2.2.2 a1 a2 (by rw [a3]; exact hc)
  have h4 : (jNp L).2 = 4 := by rw [hI.np]; rfl
  have hr : jcMore T (jNp L) 402 (n + 3) kE0 (0, fun _ => 0) = (n + 5, kE0, (2, kCx)) := by
    show jcMore T (jNp L) (399 + 1 + 1 + 1) (n + 3) kE0 (0, fun _ => 0) = _
    rw [kc_more p1 p2 (by omega) (show (0 : Nat) < 6 by omega) rfl]
    rw [kc_more (n := n + 3 + 1) q1 q2 (by omega) (show 0 + 1 < 6 by omega) rfl]
    rw [kc_end (n := n + 3 + 1 + 1) (by rw [show T.1 (n + 3 + 1 + 1) = 36 from kT_at hH 5 rfl]; decide)]
    rfl
  exact ⟨kl_step (by rw [show T.1 n = 13 from kT_at hH 0 rfl]; decide) (kl_chord (kT_at hH 0 rfl) a2 (kT_at hH 2 rfl) p1 q1 hnew (by rw [hI.1.2.2]; exact h2) hr) (kT_at hH 5 rfl), kChordInv hI (by omega) h2 a1 a2 a3⟩
theorem A_chY {T : JTk} {cn : Nat → Nat} {N n : Nat} {L : JLn} {cs hs : List Nat} (hN : kNam T cn N) (hI : kInv T cn N L cs kPs hs) (hH : kHas T cn N n eChY) (hc : ∀ x ∈ hs, x ≠ 121) (h2 : hs.length < 6) (k : Nat) : jlAll T (k + 1) n kE0 L = jlAll T k (n + 7) kE0 (jaChord L (n + 1) 3 kCy) ∧ kInv T cn N (jaChord L (n + 1) 3 kCy) cs kPs (hs ++ [121]) := by
  obtain ⟨a1, a2, a3⟩ := kNm_at hH 1 121 rfl
  obtain ⟨p1, p2, -⟩ := kP_is (i := 1) hN hI hH 3 rfl rfl (fun j hj => by
    obtain rfl : j = 0 := by omega
    decide)
  obtain ⟨q1, q2, -⟩ := kP_is (i := 2) hN hI hH 4 rfl rfl (fun j hj => by
    rcases (show j = 0 ∨ j = 1 by omega) with rfl | rfl <;> decide)
  obtain ⟨r1, r2, -⟩ := kP_is (i := 3) hN hI hH 5 rfl rfl (fun j hj => by
    rcases (show j = 0 ∨ j = 1 ∨ j = 2 by omega) with rfl | rfl | rfl <;> decide)
  have hnew : jnum T (jNh L) (n + 1) < 0 := by
    rw [hI.nh]
    exact kNl_no hN hI.2.2.2 a1 a2 (by rw [a3]; exact hc)
  have h4 : (jNp L).2 = 4 := by rw [hI.np]; rfl
  have hr : jcMore T (jNp L) 402 (n + 3) kE0 (0, fun _ => 0) = (n + 6, kE0, (3, kCy)) := by
    show jcMore T (jNp L) (398 + 1 + 1 + 1 + 1) (n + 3) kE0 (0, fun _ => 0) = _
    rw [kc_more p1 p2 (by omega) (show (0 : Nat) < 6 by omega) rfl]
    rw [kc_more (n := n + 3 + 1) q1 q2 (by omega) (show 0 + 1 < 6 by omega) rfl]
    rw [kc_more (n := n + 3 + 1 + 1) r1 r2 (by omega) (show 0 + 1 + 1 < 6 by omega) rfl]
    rw [kc_end (n := n + 3 + 1 + 1 + 1) (by rw [show T.1 (n + 3 + 1 + 1 + 1) = 36 from kT_at hH 6 rfl]; decide)]
    rfl
  exact ⟨kl_step (by rw [show T.1 n = 13 from kT_at hH 0 rfl]; decide) (kl_chord (kT_at hH 0 rfl) a2 (kT_at hH 2 rfl) p1 q1 hnew (by rw [hI.1.2.2]; exact h2) hr) (kT_at hH 6 rfl), kChordInv hI (by omega) h2 a1 a2 a3⟩
theorem kOrdInv {T : JTk} {cn : Nat → Nat} {N t : Nat} {s : Int32} {L : JLn} {cs ps hs : List Nat} {f : (Nat → Int32) → Bool} (hI : kInv T cn N L cs ps hs) : kInv T cn N (jaOrd L s t f) cs ps hs := by
  have e : ∀ i, i < 3 → (jaOrd L s t f).1.1 i = L.1.1 i := by
    intro i hi
    show updn (updn L.1.1 (120 + L.1.1 5) t) 5 (L.1.1 5 + 1) i = _
    rw [updn_no (by omega), updn_no (by omega)]
  exact ⟨⟨(e 0 (by omega)).trans hI.1.1, (e 1 (by omega)).trans hI.1.2.1, (e 2 (by omega)).trans hI.1.2.2⟩, hI.2.1, hI.2.2.1, hI.2.2.2⟩
abbrev kCs : List Nat := [97, 98]
theorem A_sh1 {T : JTk} {cn : Nat → Nat} {N n m : Nat} {L : JLn} {hs : List Nat} (hN : kNam T cn N) (hI : kInv T cn N L kCs kPs hs) (hH : kHas T cn N n (eSh1 m)) (hn : L.1.1 5 < 16) (k : Nat) : ∃ f, jlAll T (k + 1) n kE0 L = jlAll T k (n + 8) kE0 (jaOrd L 15 0 f) ∧ kInv T cn N (jaOrd L 15 0 f) kCs kPs hs := by
  obtain ⟨a1, a2, a3⟩ := kC_is (i := 0) hN hI hH 1 rfl rfl (fun j hj => absurd hj (Nat.not_lt_zero j))
  obtain ⟨b1, b2, b3⟩ := kC_is (i := 0) hN hI hH 4 rfl rfl (fun j hj => absurd hj (Nat.not_lt_zero j))
  have t3 : T.1 (n + 3) = 20 := kT_at hH 3 rfl
  have t5 : T.1 (n + 5) = 46 := kT_at hH 5 rfl
  have t6 : T.1 (n + 6) = 31 := kT_at hH 6 rfl
  have t7 : T.1 (n + 7) = 36 := kT_at hH 7 rfl
  have ht : kR (jxTest T L) (n + 3) (n + 7) := by
    refine kR_tst (kR_sng (by rw [t3]; decide) (by rw [t3]; decide) (by rw [t3]; decide) (kR_cmp (m := n + 5) (kR_sum (kV_pres t3 b1 b3) ?_) (Or.inr (Or.inr (Or.inr (Or.inr t5)))) (kR_sum (kV_num t6) ?_))) (by rw [t7]; decide) (by rw [t7]; decide)
    · rw [show n + 3 + 2 = n + 5 from rfl, t5]; unfold kSt; decide
    · rw [show n + 5 + 1 + 1 = n + 7 from rfl, t7]; unfold kSt; decide
  obtain ⟨f, hf⟩ := kl_shut (kT_at hH 0 rfl) a1 (kT_at hH 2 rfl) a3 a2 hn ht
  exact ⟨f, kl_step (by rw [show T.1 n = 15 from kT_at hH 0 rfl]; decide) hf t7, kOrdInv hI⟩
theorem A_sh2 {T : JTk} {cn : Nat → Nat} {N n : Nat} {L : JLn} {hs : List Nat} (hN : kNam T cn N) (hI : kInv T cn N L kCs kPs hs) (hH : kHas T cn N n eSh2) (hn : L.1.1 5 < 16) (k : Nat) : ∃ f, jlAll T (k + 1) n kE0 L = jlAll T k (n + 14) kE0 (jaOrd L 15 1 f) ∧ kInv T cn N (jaOrd L 15 1 f) kCs kPs hs := by
  obtain ⟨a1, a2, a3⟩ := kC_is (i := 1) hN hI hH 1 rfl rfl (fun j hj => by
    obtain rfl : j = 0 := by omega
    decide)
  obtain ⟨p1, p2, p3⟩ := kP_is (i := 0) hN hI hH 4 rfl rfl (fun j hj => absurd hj (Nat.not_lt_zero j))
  obtain ⟨q1, q2, q3⟩ := kP_is (i := 0) hN hI hH 7 rfl rfl (fun j hj => absurd hj (Nat.not_lt_zero j))
  obtain ⟨r1, r2, r3⟩ := kP_is (i := 2) hN hI hH 10 rfl rfl (fun j hj => by
    rcases (show j = 0 ∨ j = 1 by omega) with rfl | rfl <;> decide)
  have t3 : T.1 (n + 3) = 24 := kT_at hH 3 rfl
  have t5 : T.1 (n + 5) = 26 := kT_at hH 5 rfl
  have t6 : T.1 (n + 6) = 22 := kT_at hH 6 rfl
  have t8 : T.1 (n + 8) = 43 := kT_at hH 8 rfl
  have t9 : T.1 (n + 9) = 22 := kT_at hH 9 rfl
  have t11 : T.1 (n + 11) = 38 := kT_at hH 11 rfl
  have t12 : T.1 (n + 12) = 31 := kT_at hH 12 rfl
  have t13 : T.1 (n + 13) = 36 := kT_at hH 13 rfl
  have ht : kR (jxTest T L) (n + 3) (n + 13) := by
    refine kR_and (m := n + 5) (kR_sounds t3 p1 p3) t5 (kR_sng (by rw [t6]; decide) (by rw [t6]; decide) (by rw [t6]; decide) (kR_cmp (m := n + 8) (kR_sum (kV_pipe (Or.inr t6) q1 q3) ?_) (Or.inr (Or.inl t8)) (kR_plus (m := n + 11) (kV_pipe (Or.inr t9) r1 r3) t11 (kV_num t12) ?_))) (by rw [t13]; decide) (by rw [t13]; decide)
    · rw [show n + 6 + 2 = n + 8 from rfl, t8]; unfold kSt; decide
    · rw [t13]; unfold kSt; decide
  obtain ⟨f, hf⟩ := kl_shut (kT_at hH 0 rfl) a1 (kT_at hH 2 rfl) a3 a2 hn ht
  exact ⟨f, kl_step (by rw [show T.1 n = 15 from kT_at hH 0 rfl]; decide) hf t13, kOrdInv hI⟩
theorem A_cl1 {T : JTk} {cn : Nat → Nat} {N n v : Nat} {L : JLn} {hs : List Nat} (hN : kNam T cn N) (hI : kInv T cn N L kCs kPs hs) (hH : kHas T cn N n (eCl1 v)) (hn : L.1.1 5 < 16) (k : Nat) : ∃ f, jlAll T (k + 1) n kE0 L = jlAll T k (n + 8) kE0 (jaOrd L 16 1 f) ∧ kInv T cn N (jaOrd L 16 1 f) kCs kPs hs := by
  have h1 : ∀ j, j < 1 → kPs[j]? ≠ some 113 := fun j hj => by
    obtain rfl : j = 0 := by omega
    decide
  obtain ⟨a1, a2, a3⟩ := kP_is (i := 1) hN hI hH 1 rfl rfl h1
  obtain ⟨b1, b2, b3⟩ := kP_is (i := 1) hN hI hH 4 rfl rfl h1
  have t3 : T.1 (n + 3) = 21 := kT_at hH 3 rfl
  have t5 : T.1 (n + 5) = 46 := kT_at hH 5 rfl
  have t6 : T.1 (n + 6) = 31 := kT_at hH 6 rfl
  have t7 : T.1 (n + 7) = 36 := kT_at hH 7 rfl
  have ht : kR (jxTest T L) (n + 3) (n + 7) := by
    refine kR_tst (kR_sng (by rw [t3]; decide) (by rw [t3]; decide) (by rw [t3]; decide) (kR_cmp (m := n + 5) (kR_sum (kV_pipe (Or.inl t3) b1 b3) ?_) (Or.inr (Or.inr (Or.inr (Or.inr t5)))) (kR_sum (kV_num t6) ?_))) (by rw [t7]; decide) (by rw [t7]; decide)
    · rw [show n + 3 + 2 = n + 5 from rfl, t5]; unfold kSt; decide
    · rw [show n + 5 + 1 + 1 = n + 7 from rfl, t7]; unfold kSt; decide
  obtain ⟨f, hf⟩ := kl_clean (kT_at hH 0 rfl) a1 (kT_at hH 2 rfl) a3 a2 hn ht
  exact ⟨f, kl_step (by rw [show T.1 n = 16 from kT_at hH 0 rfl]; decide) hf t7, kOrdInv hI⟩
theorem A_cl2 {T : JTk} {cn : Nat → Nat} {N n : Nat} {L : JLn} {hs : List Nat} (hN : kNam T cn N) (hI : kInv T cn N L kCs kPs hs) (hH : kHas T cn N n eCl2) (hn : L.1.1 5 < 16) (k : Nat) : ∃ f, jlAll T (k + 1) n kE0 L = jlAll T k (n + 7) kE0 (jaOrd L 16 3 f) ∧ kInv T cn N (jaOrd L 16 3 f) kCs kPs hs := by
  obtain ⟨a1, a2, a3⟩ := kP_is (i := 3) hN hI hH 1 rfl rfl (fun j hj => by
    rcases (show j = 0 ∨ j = 1 ∨ j = 2 by omega) with rfl | rfl | rfl <;> decide)
  have t3 : T.1 (n + 3) = 18 := kT_at hH 3 rfl
  have t4 : T.1 (n + 4) = 44 := kT_at hH 4 rfl
  have t5 : T.1 (n + 5) = 31 := kT_at hH 5 rfl
  have t6 : T.1 (n + 6) = 36 := kT_at hH 6 rfl
  have ht : kR (jxTest T L) (n + 3) (n + 6) := by
    refine kR_tst (kR_sng (by rw [t3]; decide) (by rw [t3]; decide) (by rw [t3]; decide) (kR_cmp (m := n + 4) (kR_sum (kV_hour t3) ?_) (Or.inr (Or.inr (Or.inl t4))) (kR_sum (kV_num t5) ?_))) (by rw [t6]; decide) (by rw [t6]; decide)
    · rw [show n + 3 + 1 = n + 4 from rfl, t4]; unfold kSt; decide
    · rw [show n + 4 + 1 + 1 = n + 6 from rfl, t6]; unfold kSt; decide
  obtain ⟨f, hf⟩ := kl_clean (kT_at hH 0 rfl) a1 (kT_at hH 2 rfl) a3 a2 hn ht
  exact ⟨f, kl_step (by rw [show T.1 n = 16 from kT_at hH 0 rfl]; decide) hf t6, kOrdInv hI⟩

