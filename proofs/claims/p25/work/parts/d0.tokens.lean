
/-! THE TOKENS of a text that is spelt token by token -/
/-- a token's spelling: blanks before it, its letters, its kind, its worth -/
abbrev KE : Type := Nat × (List Nat × (Nat × Nat))
def kSp (e : KE) : List Nat := List.replicate e.1 32 ++ e.2.1
def kTx : List KE → List Nat
  | [] => []
  | e :: es => kSp e ++ kTx es
/-- the first sign of what follows; c behind the end -/
def kfc (es : List KE) (c : Nat) : Nat := (kTx es).getD 0 c
theorem jkt_ok2 : ∀ i, i < 53 → (jn_len.getD i 0 = (jkt i).length ∧ jn_byt.getD i [] = (jkt i).map (fun n => nI n) ∧ ∀ x ∈ jkt i, x < 128) := by decide +kernel
def kkw (u : List Nat) : Nat → Nat → Nat
  | 0, _ => 30
  | m + 1, k => if u = jkt (k + 23) then k else kkw u m (k + 1)
/-- the kind of a word -/
def kwk (u : List Nat) : Nat := kkw u 30 0
def kdec : List Nat → Nat → Nat
  | [], a => a
  | x :: xs, a => kdec xs (a * 10 + jdg x)
abbrev kaln (x : Nat) : Prop := jlet x ∨ jdig x
/-- the spelling is right before the sign c -/
def kOk (e : KE) (c : Nat) : Prop := e.1 ≤ 1 ∧ (
  (jlet (e.2.1.getD 0 0) ∧ (∀ x ∈ e.2.1, kaln x) ∧ 1 ≤ e.2.1.length ∧ e.2.1.length ≤ 10 ∧ ¬ kaln c ∧ e.2.2.1 = kwk e.2.1) ∨
  ((∀ x ∈ e.2.1, jdig x) ∧ 1 ≤ e.2.1.length ∧ e.2.1.length ≤ 6 ∧ ¬ jdig c ∧ e.2.2.1 = 31 ∧ e.2.2.2 = kdec e.2.1 0) ∨
  (∃ x, e.2.1 = [x] ∧ x < 128 ∧ ¬ jblk x ∧ ¬ jlet x ∧ ¬ jdig x ∧ x ≠ 60 ∧ x ≠ 62 ∧ e.2.2.1 = jsym x) ∨
  (e.2.1 = [62, 61] ∧ e.2.2.1 = 46) ∨ (e.2.1 = [62] ∧ c ≠ 61 ∧ e.2.2.1 = 43))
def kGL : List KE → Nat → Prop
  | [], _ => True
  | e :: es, c => kOk e (kfc es c) ∧ kGL es c
theorem kTx_app (a b : List KE) : kTx (a ++ b) = kTx a ++ kTx b := by
  induction a with
  | nil => rfl
  | cons e a ih => rw [List.cons_append, kTx, kTx, ih, List.append_assoc]
theorem kOk.pos {e : KE} {c : Nat} (h : kOk e c) : 1 ≤ e.2.1.length := by
  rcases h.2 with h | h | ⟨x, h, -⟩ | h | h
  · exact h.2.2.1
  · exact h.2.1
  · rw [h]; exact Nat.le_refl _
  · rw [h.1]; decide
  · rw [h.1]; decide
theorem kGL_app (a b : List KE) (c : Nat) (ha : kGL a (kfc b c)) (hb : kGL b c) : kGL (a ++ b) c := by
  induction a with
  | nil => exact hb
  | cons e a ih =>
    refine ⟨?_, ih ha.2⟩
    have : kfc (a ++ b) c = kfc a (kfc b c) := by
      unfold kfc
      rw [kTx_app]
      cases e : kTx a with
      | nil => rfl
      | cons x xs => rfl
    show kOk e (kfc (a ++ b) c)
    rw [this]
    exact ha.1
theorem jskip_to {p : Nat → Bool} {e : Nat} (he : ¬ p e = true) : ∀ n i, i ≤ e → e ≤ i + n → (∀ k, i ≤ k → k < e → p k = true) → jskip p n i = e := by
  intro n
  induction n with
  | zero =>
    intro i h1 h2 _
    rw [jskip]
    omega
  | succ n ih =>
    intro i h1 h2 h
    rcases Nat.lt_or_eq_of_le h1 with q | q
    · rw [jskip_t (h i (Nat.le_refl _) q)]
      exact ih (i + 1) q (by omega) (fun k a b => h k (by omega) b)
    · rw [q]
      exact jskip_f he
theorem kdec_jwo {s : Nat → Nat} {a : Nat} : ∀ (u v : List Nat), (∀ k, k < (u ++ v).length → s (a + k) = (u ++ v).getD k 0) → kdec v (jwo 10 s a u.length) = jwo 10 s a (u ++ v).length := by
  intro u v
  induction v generalizing u with
  | nil => intro _; rw [List.append_nil]; rfl
  | cons x v ih =>
    intro h
    have e : u ++ x :: v = (u ++ [x]) ++ v := by simp
    have hx : s (a + u.length) = x := by
      rw [h u.length (by simp)]
      simp [List.getD_eq_getElem?_getD]
    rw [kdec]
    have h2 := ih (u ++ [x]) (by rw [← e]; exact h)
    rw [e, ← h2]
    congr 1
    rw [List.length_append]
    show _ = jwo 10 s a (u.length + 1)
    rw [jwo, hx]
theorem kkw_jkw {s : Nat → Nat} {a : Nat} {u : List Nat} (h : ∀ k, k < u.length → s (a + k) = u.getD k 0) (hu : ∀ x ∈ u, x < 128) : ∀ m k, m + k ≤ 30 → jkw s a u.length m k = kkw u m k := by
  intro m
  induction m with
  | zero => intro k _; rfl
  | succ m ih =>
    intro k hk
    obtain ⟨e1, e2, e3⟩ := jkt_ok2 (k + 23) (by omega)
    rw [jkw, kkw, ih (k + 1) (by omega)]
    have key : jmtB s a u.length (k + 23) = true ↔ u = jkt (k + 23) := by
      rw [jmtB_iff]
      unfold jmt jtx
      rw [e1, e2]
      constructor
      · rintro ⟨hl, hj⟩
        apply List.ext_getElem hl
        intro j h1 h2
        have := hj j h1
        rw [h j h1] at this
        simp only [List.getD_eq_getElem?_getD, List.getElem?_map, List.getElem?_eq_getElem h1, List.getElem?_eq_getElem h2, Option.map_some, Option.getD_some] at this
        have b1 := hu _ (List.getElem_mem h1)
        have b2 := e3 _ (List.getElem_mem h2)
        exact (nI_eq (by omega) (by omega)).mp this
      · intro e
        refine ⟨by rw [← e], fun j hj => ?_⟩
        rw [h j hj, ← e]
        simp only [List.getD_eq_getElem?_getD, List.getElem?_map, List.getElem?_eq_getElem hj, Option.map_some, Option.getD_some]
    by_cases z : u = jkt (k + 23)
    · rw [if_pos (key.mpr z), if_pos z]
    · rw [if_neg (fun q => z (key.mp q)), if_neg z]
/-- what is known of token n -/
def kTok (s : Nat → Nat) (n : Nat) (e : KE) : Prop := jln s n = e.2.1.length ∧ (∀ k, k < e.2.1.length → s (jtk s n + k) = e.2.1.getD k 0) ∧ jkd s (jtk s n) = e.2.2.1 ∧ (e.2.2.1 = 31 → jwo 10 s (jtk s n) (jln s n) = e.2.2.2)
theorem kstep {s : Nat → Nat} {n p c : Nat} {e : KE} (hp : jpl s n = p) (hb : ∀ k, k < e.1 → s (p + k) = 32) (hw : ∀ k, k < e.2.1.length → s (p + e.1 + k) = e.2.1.getD k 0) (hc : s (p + e.1 + e.2.1.length) = c) (hk : kOk e c) (hl : p + e.1 + e.2.1.length ≤ 2000) : jpl s (n + 1) = p + e.1 + e.2.1.length ∧ kTok s n e := by
  have hpos := hk.pos
  have h0 : s (p + e.1) = e.2.1.getD 0 0 := hw 0 hpos
  have g0 : ∀ {P : Nat → Prop}, (∀ x ∈ e.2.1, P x) → ∀ k, k < e.2.1.length → P (e.2.1.getD k 0) := by
    intro P hP k hk
    rw [List.getD_eq_getElem?_getD, List.getElem?_eq_getElem hk]
    exact hP _ (List.getElem_mem hk)
  have nb : ¬ jblk (s (p + e.1)) := by
    rw [h0]
    rcases hk.2 with h | h | ⟨x, h, h2, h3, -⟩ | h | h
    · have := h.1
      omega
    · have := g0 h.1 0 hpos
      omega
    · rw [h]
      exact h3
    · rw [h.1]
      decide
    · rw [h.1]
      decide
  have htk : jtk s n = p + e.1 := by
    unfold jtk jbb
    rw [hp]
    refine jskip_to (by simpa using nb) _ _ (by omega) (by have := hk.1; omega) (fun k k1 k2 => ?_)
    have := hb (k - p) (by omega)
    rw [show p + (k - p) = k by omega] at this
    simp [this]
  have lt : s (p + e.1) < 256 ∧ jte s (p + e.1) = p + e.1 + e.2.1.length ∧ jkd s (p + e.1) = e.2.2.1 ∧ (e.2.2.1 = 31 → jwo 10 s (p + e.1) e.2.1.length = e.2.2.2) := by
    rcases hk.2 with ⟨a1, a2, a3, a4, a5, a6⟩ | ⟨a1, a2, a3, a4, a5, a6⟩ | ⟨x, a1, a2, a3, a4, a5, a6, a7, a8⟩ | ⟨a1, a2⟩ | ⟨a1, a2, a3⟩
    · have hlet : jlet (s (p + e.1)) := by rw [h0]; exact a1
      have hte : jte s (p + e.1) = p + e.1 + e.2.1.length := by
        unfold jte
        rw [if_neg (by omega), if_neg (by omega), if_pos hlet]
        unfold jwe
        refine jskip_to (by rw [hc]; simpa using a5) _ _ (by omega) (by omega) (fun k k1 k2 => ?_)
        have := hw (k - (p + e.1)) (by omega)
        rw [show p + e.1 + (k - (p + e.1)) = k by omega] at this
        rw [this]
        exact decide_eq_true (g0 a2 _ (by omega))
      refine ⟨by omega, hte, ?_, fun z => ?_⟩
      · unfold jkd
        rw [if_neg (by omega), if_pos hlet, hte, show p + e.1 + e.2.1.length - (p + e.1) = e.2.1.length by omega, if_neg (by omega), a6]
        exact kkw_jkw hw (fun x hx => by have := a2 x hx; omega) 30 0 (by omega)
      · exfalso
        rw [a6] at z
        have : ∀ (m k : Nat), m + k ≤ 30 → kkw e.2.1 m k ≤ 30 := by
          intro m
          induction m with
          | zero => intro k _; exact Nat.le_refl _
          | succ m ih =>
            intro k hk
            rw [kkw]
            split
            · omega
            · exact ih (k + 1) (by omega)
        have := this 30 0 (by omega)
        unfold kwk at z
        omega
    · have hdig : jdig (s (p + e.1)) := by rw [h0]; exact g0 a1 0 hpos
      have hte : jte s (p + e.1) = p + e.1 + e.2.1.length := by
        unfold jte
        rw [if_neg (by omega), if_neg (by omega), if_neg (by omega), if_pos hdig]
        unfold jne
        refine jskip_to (by rw [hc]; simpa using a4) _ _ (by omega) (by omega) (fun k k1 k2 => ?_)
        have := hw (k - (p + e.1)) (by omega)
        rw [show p + e.1 + (k - (p + e.1)) = k by omega] at this
        rw [this]
        exact decide_eq_true (g0 a1 _ (by omega))
      refine ⟨by omega, hte, ?_, fun _ => ?_⟩
      · unfold jkd
        rw [if_neg (by omega), if_neg (by omega), if_pos hdig, hte, show p + e.1 + e.2.1.length - (p + e.1) = e.2.1.length by omega, if_neg (by omega), a5]
      · rw [a6]
        exact (kdec_jwo (s := s) (a := p + e.1) [] e.2.1 hw).symm
    · have hx : s (p + e.1) = x := by rw [h0, a1]; rfl
      have hl1 : e.2.1.length = 1 := by rw [a1]; rfl
      have hte : jte s (p + e.1) = p + e.1 + 1 := by
        unfold jte
        rw [hx, if_neg (by omega), if_neg (by omega), if_neg a4, if_neg a5]
      refine ⟨by omega, by rw [hl1]; exact hte, ?_, fun z => ?_⟩
      · unfold jkd
        rw [hte, hx, if_neg (by omega), if_neg a4, if_neg a5, if_neg (by omega), a8]
      · exfalso
        rw [a8] at z
        unfold jsym at z
        split at z <;> first | omega | skip
        repeat (split at z <;> first | omega | skip)
    · have hl1 : e.2.1.length = 2 := by rw [a1]; rfl
      have hx : s (p + e.1) = 62 := by rw [h0, a1]; rfl
      have hx2 : s (p + e.1 + 1) = 61 := by rw [hw 1 (by omega), a1]; rfl
      have hte : jte s (p + e.1) = p + e.1 + 2 := by
        unfold jte
        rw [hx, if_neg (by omega), if_pos (Or.inr rfl), if_pos hx2]
      refine ⟨by omega, by rw [hl1]; exact hte, ?_, fun z => by omega⟩
      unfold jkd
      rw [hte, hx, if_neg (by omega), if_neg (by omega), if_neg (by omega), if_pos (by omega), if_neg (by omega), a2]
    · have hl1 : e.2.1.length = 1 := by rw [a1]; rfl
      have hx : s (p + e.1) = 62 := by rw [h0, a1]; rfl
      have hx2 : ¬ s (p + e.1 + 1) = 61 := by
        rw [hl1] at hc
        rw [hc]
        exact a2
      have hte : jte s (p + e.1) = p + e.1 + 1 := by
        unfold jte
        rw [hx, if_neg (by omega), if_pos (Or.inr rfl), if_neg hx2]
      refine ⟨by omega, by rw [hl1]; exact hte, ?_, fun z => by omega⟩
      unfold jkd
      rw [hte, hx, if_neg (by omega), if_neg (by omega), if_neg (by omega), if_neg (by omega), a3]
      rfl
  have hln : jln s n = e.2.1.length := by
    unfold jln
    rw [htk, lt.2.1]
    omega
  refine ⟨?_, hln, fun k hk2 => by rw [htk]; exact hw k hk2, by rw [htk]; exact lt.2.2.1, fun z => by rw [hln, htk]; exact lt.2.2.2 z⟩
  rw [jpl]
  show jte s (jbb s (jpl s n)) = _
  have : jbb s (jpl s n) = p + e.1 := htk
  rw [this]
  exact lt.2.1
theorem kgetD_app {a b : List Nat} {j c : Nat} (h : j < a.length) : (a ++ b).getD j c = a.getD j c := by
  rw [List.getD_eq_getElem?_getD, List.getD_eq_getElem?_getD, List.getElem?_append_left h]
theorem kgetD_app2 {a b : List Nat} {j c : Nat} : (a ++ b).getD (a.length + j) c = b.getD j c := by
  rw [List.getD_eq_getElem?_getD, List.getD_eq_getElem?_getD, List.getElem?_append_right (by omega), Nat.add_sub_cancel_left]
theorem ktoks {s : Nat → Nat} : ∀ (es : List KE) (n p : Nat), jpl s n = p → (∀ j, s (p + j) = (kTx es).getD j 300) → kGL es 300 → p + (kTx es).length ≤ 2000 → (∀ i (h : i < es.length), kTok s (n + i) es[i]) ∧ jkd s (jtk s (n + es.length)) = 47 := by
  intro es
  induction es with
  | nil =>
    intro n p hp hs _ _
    refine ⟨fun i h => absurd h (Nat.not_lt_zero i), ?_⟩
    have h300 : s p = 300 := hs 0
    have : jtk s n = p := by
      unfold jtk jbb
      rw [hp]
      exact jskip_f (by rw [h300]; decide)
    rw [List.length_nil, Nat.add_zero, this]
    unfold jkd
    rw [h300, if_pos (by omega)]
  | cons e es ih =>
    intro n p hp hs hG hl
    rw [kTx] at hs hl
    have hsl : (kSp e).length = e.1 + e.2.1.length := by unfold kSp; simp
    rw [List.length_append, hsl] at hl
    have hb : ∀ k, k < e.1 → s (p + k) = 32 := by
      intro k hk
      rw [hs k, kgetD_app (by omega)]
      unfold kSp
      rw [kgetD_app (by simpa using hk), List.getD_eq_getElem?_getD]
      simp [hk]
    have hw : ∀ k, k < e.2.1.length → s (p + e.1 + k) = e.2.1.getD k 0 := by
      intro k hk
      rw [Nat.add_assoc, hs (e.1 + k), kgetD_app (by omega)]
      unfold kSp
      have := kgetD_app2 (a := List.replicate e.1 32) (b := e.2.1) (j := k) (c := 300)
      rw [List.length_replicate] at this
      rw [this, List.getD_eq_getElem?_getD, List.getD_eq_getElem?_getD, List.getElem?_eq_getElem hk]
      rfl
    have hc : s (p + e.1 + e.2.1.length) = kfc es 300 := by
      rw [Nat.add_assoc, hs (e.1 + e.2.1.length), ← hsl]
      have := kgetD_app2 (a := kSp e) (b := kTx es) (j := 0) (c := 300)
      rw [Nat.add_zero] at this
      exact this
    obtain ⟨k1, k2⟩ := kstep hp hb hw hc hG.1 (by omega)
    obtain ⟨g1, g2⟩ := ih (n + 1) (p + e.1 + e.2.1.length) k1 (fun j => by
      rw [show p + e.1 + e.2.1.length + j = p + ((e.1 + e.2.1.length) + j) by omega, hs, ← hsl]
      exact kgetD_app2) hG.2 (by omega)
    refine ⟨fun i h => ?_, ?_⟩
    · cases i with
      | zero => exact k2
      | succ i =>
        have := g1 i (by simpa using h)
        rw [show n + 1 + i = n + (i + 1) by omega] at this
        exact this
    · rw [List.length_cons, show n + (es.length + 1) = n + 1 + es.length by omega]
      exact g2

