/-! the reference's nodes, as they are made -/
/-- a node among the first M: of a sum (false) or of a test (true) -/
def jTm (M : Nat) (op one two : Nat → Int32) (nc np : Nat) : Nat → Bool → Nat → Prop
  | 0, _, _ => False
  | n + 1, false, i => i < M ∧ (op i = 35 ∨ op i = 18 ∨ op i = 19 ∨ op i = 23 ∨ (op i = 20 ∧ ∃ a : Nat, a < nc ∧ one i = nI a) ∨ ((op i = 21 ∨ op i = 22) ∧ ∃ a : Nat, a < np ∧ one i = nI a) ∨ (op i = 110 ∧ ∃ a : Nat, one i = nI a ∧ jTm M op one two nc np n false a) ∨
      ((op i = 28 ∨ op i = 29 ∨ op i = 42 ∨ op i = 43 ∨ op i = 45 ∨ op i = 47) ∧ ∃ a b : Nat, one i = nI a ∧ two i = nI b ∧ jTm M op one two nc np n false a ∧ jTm M op one two nc np n false b))
  | n + 1, true, i => i < M ∧ ((op i = 24 ∧ ∃ a : Nat, a < np ∧ one i = nI a) ∨ (op i = 25 ∧ ∃ a : Nat, one i = nI a ∧ jTm M op one two nc np n true a) ∨ ((op i = 26 ∨ op i = 27) ∧ ∃ a b : Nat, one i = nI a ∧ two i = nI b ∧ jTm M op one two nc np n true a ∧ jTm M op one two nc np n true b) ∨
      ((op i = 60 ∨ op i = 61 ∨ op i = 62 ∨ op i = 103 ∨ op i = 108) ∧ ∃ a b : Nat, one i = nI a ∧ two i = nI b ∧ jTm M op one two nc np n false a ∧ jTm M op one two nc np n false b))
theorem jTm_lt {M : Nat} {op one two : Nat → Int32} {nc np n i : Nat} {t : Bool} (h : jTm M op one two nc np n t i) : i < M := by
  cases n with
  | zero => exact h.elim
  | succ n => cases t <;> exact h.1
/-- more nodes, other rows behind them, more caves and pipes, more levels -/
theorem jTm_mono {M M2 : Nat} {op one two op2 one2 two2 : Nat → Int32} {nc np nc2 np2 : Nat} (hM : M ≤ M2) (hr : ∀ j, j < M → op2 j = op j ∧ one2 j = one j ∧ two2 j = two j) (hc : nc ≤ nc2) (hp : np ≤ np2) : ∀ {n n2 : Nat} {t : Bool} {i : Nat}, n ≤ n2 → jTm M op one two nc np n t i → jTm M2 op2 one2 two2 nc2 np2 n2 t i := by
  intro n
  induction n with
  | zero => intro n2 t i _ h; exact h.elim
  | succ n ih =>
    intro n2 t i hn h
    obtain ⟨n2, rfl⟩ : ∃ k, n2 = k + 1 := ⟨n2 - 1, by omega⟩
    have hi := jTm_lt h
    obtain ⟨r1, r2, r3⟩ := hr i hi
    cases t with
    | false =>
      refine ⟨Nat.lt_of_lt_of_le hi hM, ?_⟩
      rw [r1, r2, r3]
      rcases h.2 with q | q | q | q | ⟨q, a, a1, a2⟩ | ⟨q, a, a1, a2⟩ | ⟨q, a, q1, q2⟩ | ⟨q, a, b, q1, q2, q3, q4⟩
      · exact Or.inl q
      · exact Or.inr (Or.inl q)
      · exact Or.inr (Or.inr (Or.inl q))
      · exact Or.inr (Or.inr (Or.inr (Or.inl q)))
      · exact Or.inr (Or.inr (Or.inr (Or.inr (Or.inl ⟨q, a, by omega, a2⟩))))
      · exact Or.inr (Or.inr (Or.inr (Or.inr (Or.inr (Or.inl ⟨q, a, by omega, a2⟩)))))
      · exact Or.inr (Or.inr (Or.inr (Or.inr (Or.inr (Or.inr (Or.inl ⟨q, a, q1, ih (by omega) q2⟩))))))
      · exact Or.inr (Or.inr (Or.inr (Or.inr (Or.inr (Or.inr (Or.inr ⟨q, a, b, q1, q2, ih (by omega) q3, ih (by omega) q4⟩))))))
    | true =>
      refine ⟨Nat.lt_of_lt_of_le hi hM, ?_⟩
      rw [r1, r2, r3]
      rcases h.2 with ⟨q, a, a1, a2⟩ | ⟨q, a, q1, q2⟩ | ⟨q, a, b, q1, q2, q3, q4⟩ | ⟨q, a, b, q1, q2, q3, q4⟩
      · exact Or.inl ⟨q, a, by omega, a2⟩
      · exact Or.inr (Or.inl ⟨q, a, q1, ih (by omega) q2⟩)
      · exact Or.inr (Or.inr (Or.inl ⟨q, a, b, q1, q2, ih (by omega) q3, ih (by omega) q4⟩))
      · exact Or.inr (Or.inr (Or.inr ⟨q, a, b, q1, q2, ih (by omega) q3, ih (by omega) q4⟩))
theorem jTm_Tr {M : Nat} {op one two : Nat → Int32} {nc np : Nat} (hM : M ≤ 401) : ∀ {n : Nat} {t : Bool} {i : Nat}, jTm M op one two nc np n t i → jTr op one two nc np n t i := by
  intro n
  induction n with
  | zero => intro t i h; exact h.elim
  | succ n ih =>
    intro t i h
    cases t with
    | false =>
      refine ⟨Nat.lt_of_lt_of_le h.1 hM, ?_⟩
      rcases h.2 with q | q | q | q | q | q | ⟨q, a, q1, q2⟩ | ⟨q, a, b, q1, q2, q3, q4⟩
      · exact Or.inl q
      · exact Or.inr (Or.inl q)
      · exact Or.inr (Or.inr (Or.inl q))
      · exact Or.inr (Or.inr (Or.inr (Or.inl q)))
      · exact Or.inr (Or.inr (Or.inr (Or.inr (Or.inl q))))
      · exact Or.inr (Or.inr (Or.inr (Or.inr (Or.inr (Or.inl q)))))
      · exact Or.inr (Or.inr (Or.inr (Or.inr (Or.inr (Or.inr (Or.inl ⟨q, a, q1, ih q2⟩))))))
      · exact Or.inr (Or.inr (Or.inr (Or.inr (Or.inr (Or.inr (Or.inr ⟨q, a, b, q1, q2, ih q3, ih q4⟩))))))
    | true =>
      refine ⟨Nat.lt_of_lt_of_le h.1 hM, ?_⟩
      rcases h.2 with q | ⟨q, a, q1, q2⟩ | ⟨q, a, b, q1, q2, q3, q4⟩ | ⟨q, a, b, q1, q2, q3, q4⟩
      · exact Or.inl q
      · exact Or.inr (Or.inl ⟨q, a, q1, ih q2⟩)
      · exact Or.inr (Or.inr (Or.inl ⟨q, a, b, q1, q2, ih q3, ih q4⟩))
      · exact Or.inr (Or.inr (Or.inr ⟨q, a, b, q1, q2, ih q3, ih q4⟩))
/-- what a node is worth: over other rows behind, with more levels -/
theorem jmv_cong {M : Nat} (hM : M ≤ 401) {op one two op2 one2 two2 R : Nat → Int32} {nc np : Nat} (hr : ∀ j, j < M → op2 j = op j ∧ one2 j = one j ∧ two2 j = two j) : ∀ {n n2 : Nat} {t : Bool} {i : Nat}, n ≤ n2 → jTm M op one two nc np n t i → jmv op2 one2 two2 R n2 i = jmv op one two R n i := by
  intro n
  induction n with
  | zero => intro n2 t i _ h; exact h.elim
  | succ n ih =>
    intro n2 t i hn h
    obtain ⟨n2, rfl⟩ : ∃ k, n2 = k + 1 := ⟨n2 - 1, by omega⟩
    obtain ⟨r1, r2, r3⟩ := hr i (jTm_lt h)
    have leaf : ∀ o : Int32, op i = o → o ≠ 35 → (18 ≤ o ∧ o ≤ 24) → jmv op2 one2 two2 R (n2 + 1) i = jmv op one two R (n + 1) i := by
      intro o e h1 h2
      rw [jmv_leaf (r1.trans e) h1 h2, jmv_leaf e h1 h2, r2]
    have bin : ∀ (o : Int32) (t2 : Bool), op i = o → o ≠ 35 → ¬ (18 ≤ o ∧ o ≤ 24) → o ≠ 110 → o ≠ 25 → (∃ a b : Nat, one i = nI a ∧ two i = nI b ∧ jTm M op one two nc np n t2 a ∧ jTm M op one two nc np n t2 b) → jmv op2 one2 two2 R (n2 + 1) i = jmv op one two R (n + 1) i := by
      rintro o t2 e h1 h2 h3 h4 ⟨a, b, ea, eb, ta, tb⟩
      have la := jTm_lt ta
      have lb := jTm_lt tb
      rw [jmv_bin (r1.trans e) h1 h2 h3 h4 (r2.trans ea) (by omega) (r3.trans eb) (by omega), jmv_bin e h1 h2 h3 h4 ea (by omega) eb (by omega), ih (by omega) ta, ih (by omega) tb]
    cases t with
    | false =>
      rcases h.2 with q | q | q | q | ⟨q, -⟩ | ⟨q, -⟩ | ⟨q, a, q1, q2⟩ | ⟨q, w⟩
      · rw [jmv, jmv, if_pos (r1.trans q), if_pos q, r2]
      · exact leaf _ q (by decide) (by decide)
      · exact leaf _ q (by decide) (by decide)
      · exact leaf _ q (by decide) (by decide)
      · exact leaf _ q (by decide) (by decide)
      · rcases q with q | q <;> exact leaf _ q (by decide) (by decide)
      · have la := jTm_lt q2
        rw [jmv_neg (r1.trans q) (r2.trans q1) (by omega), jmv_neg q q1 (by omega), ih (by omega) q2]
      · rcases q with q | q | q | q | q | q <;> exact bin _ false q (by decide) (by decide) (by decide) (by decide) w
    | true =>
      rcases h.2 with ⟨q, -⟩ | ⟨q, a, q1, q2⟩ | ⟨q, w⟩ | ⟨q, w⟩
      · exact leaf _ q (by decide) (by decide)
      · have la := jTm_lt q2
        rw [jmv_not (r1.trans q) (r2.trans q1) (by omega), jmv_not q q1 (by omega), ih (by omega) q2]
      · rcases q with q | q <;> exact bin _ true q (by decide) (by decide) (by decide) (by decide) w
      · rcases q with q | q | q | q | q <;> exact bin _ false q (by decide) (by decide) (by decide) (by decide) w
/-- v is a node worth V, among the first m -/
def jNd (w : JW) (nc np m v : Nat) (t : Bool) (V : (Nat → Int32) → Int32) : Prop := m ≤ 401 ∧ jTm m (w.1 60 (w.2.2 41 9)) (w.1 61 (w.2.2 41 9)) (w.1 62 (w.2.2 41 9)) nc np (v + 1) t v ∧ ∀ R, jmv (w.1 60 (w.2.2 41 9)) (w.1 61 (w.2.2 41 9)) (w.1 62 (w.2.2 41 9)) R (v + 1) v = V R
/-- the first m nodes stay -/
def jKn (w w2 : JW) (m : Nat) : Prop := ∀ j, j < m → w2.1 60 (w.2.2 41 9) j = w.1 60 (w.2.2 41 9) j ∧ w2.1 61 (w.2.2 41 9) j = w.1 61 (w.2.2 41 9) j ∧ w2.1 62 (w.2.2 41 9) j = w.1 62 (w.2.2 41 9) j
theorem jKn.refl (w : JW) (m : Nat) : jKn w w m := fun _ _ => ⟨rfl, rfl, rfl⟩
theorem jMF.Kn {w w2 : JW} (h : jMF w w2) (m : Nat) : jKn w w2 m := fun j _ => ⟨by rw [h.2.1 60 _ (by decide)], by rw [h.2.1 61 _ (by decide)], by rw [h.2.1 62 _ (by decide)]⟩
theorem jKn.trans {w w2 w3 : JW} {m m2 : Nat} (h : jKn w w2 m) (h2 : jKn w2 w3 m2) (hf : w2.2 = w.2) (hm : m ≤ m2) : jKn w w3 m := by
  intro j hj
  have e : w2.2.2 41 9 = w.2.2 41 9 := by rw [hf]
  have q := h2 j (by omega)
  rw [e] at q
  have p := h j hj
  exact ⟨q.1.trans p.1, q.2.1.trans p.2.1, q.2.2.trans p.2.2⟩
theorem jNd.kept {w w2 : JW} {nc np m v : Nat} {t : Bool} {V : (Nat → Int32) → Int32} (h : jNd w nc np m v t V) (hf : w2.2 = w.2) {m2 m3 : Nat} (hk : jKn w w2 m2) (hm : m ≤ m2) (h3 : m ≤ m3) (h401 : m3 ≤ 401) : jNd w2 nc np m3 v t V := by
  have e : w2.2.2 41 9 = w.2.2 41 9 := by rw [hf]
  unfold jNd
  rw [e]
  have hr : ∀ j, j < m → w2.1 60 (w.2.2 41 9) j = w.1 60 (w.2.2 41 9) j ∧ w2.1 61 (w.2.2 41 9) j = w.1 61 (w.2.2 41 9) j ∧ w2.1 62 (w.2.2 41 9) j = w.1 62 (w.2.2 41 9) j := fun j hj => hk j (by omega)
  exact ⟨h401, jTm_mono h3 hr (Nat.le_refl _) (Nat.le_refl _) (Nat.le_refl _) h.2.1, fun R => (jmv_cong h.1 hr (Nat.le_refl _) h.2.1).trans (h.2.2 R)⟩
/-- a node is made -/
def jnode (w : JW) (b : Bool) (m : Nat) (x y z : Int32) : JW := jset (jset (jset (jset w 60 b m x) 61 b m y) 62 b m z) 53 b 12 (nI (m + 1))
theorem m_node {w : JW} {b : Bool} {m : Nat} (h : w.1 53 b 12 = nI m) (hm4 : m < 401) (x y z : Int32) : jF MX10_node 0 [jR 53 b, jI x, jI y, jI z] w (jI (nI m)) (jnode w b m x y z) := by
  refine jF_of jp_X10_node rfl (Nat.le_of_ble_eq_true rfl) (fun C hm => ?_)
  have e1 : (jset w 60 b (w.1 53 b 12).toNatClampNeg x).1 53 b 12 = nI m := by rw [jset_bk (by decide)]; exact h
  have e2 : (jset (jset w 60 b (w.1 53 b 12).toNatClampNeg x) 61 b ((jset w 60 b (w.1 53 b 12).toNatClampNeg x).1 53 b 12).toNatClampNeg y).1 53 b 12 = nI m := by rw [jset_bk (by decide)]; exact e1
  have ec : (nI m).toNatClampNeg = m := nI_clamp (by omega)
  refine bk_X10_node_0 hm (by rw [h]; exact vp_in_nI hm4 (by decide)) (by rw [e1]; exact vp_in_nI hm4 (by decide)) (by rw [e2]; exact vp_in_nI hm4 (by decide)) ?_
  rw [jset_at, e2, e1, h, ec]
  have e3 : (jset (jset (jset w 60 b m x) 61 b m y) 62 b m z).1 53 b 12 = nI m := by rw [jset_bk (by decide), jset_bk (by decide), jset_bk (by decide)]; exact h
  rw [e3, nI_1]
  exact ⟨by rw [nI_pred], rfl⟩
theorem jnode_YF {w : JW} {m : Nat} {x y z : Int32} : jYF w (jnode w (w.2.2 41 9) m x y z) := by
  refine ⟨rfl, fun k c hk hc => ?_, fun j hj => ?_, fun j hj => ?_⟩
  · funext i
    unfold jnode
    by_cases q : c = w.2.2 41 9
    · rw [jset_bk (fun e => hc ⟨q, Or.inl e⟩), jset_bk (fun e => hc ⟨q, Or.inr (Or.inr (Or.inr e))⟩), jset_bk (fun e => hc ⟨q, Or.inr (Or.inr (Or.inl e))⟩), jset_bk (fun e => hc ⟨q, Or.inr (Or.inl e)⟩)]
    · rw [jset_b (Or.inr (Or.inl q)), jset_b (Or.inr (Or.inl q)), jset_b (Or.inr (Or.inl q)), jset_b (Or.inr (Or.inl q))]
  · unfold jnode
    rw [jset_bk (by decide), jset_bk (by decide), jset_bk (by decide), jset_bk (by decide)]
  · unfold jnode
    rw [jset_bj hj, jset_bk (by decide), jset_bk (by decide), jset_bk (by decide)]
theorem jnode_Kn {w : JW} {m : Nat} {x y z : Int32} : jKn w (jnode w (w.2.2 41 9) m x y z) m := by
  intro j hj
  unfold jnode
  refine ⟨?_, ?_, ?_⟩
  · rw [jset_bk (by decide), jset_bk (by decide), jset_bk (by decide), jset_bj (by omega)]
  · rw [jset_bk (by decide), jset_bk (by decide), jset_bj (by omega), jset_bk (by decide)]
  · rw [jset_bk (by decide), jset_bj (by omega), jset_bk (by decide), jset_bk (by decide)]
theorem jnode_at {w : JW} {b : Bool} {m : Nat} {x y z : Int32} : (jnode w b m x y z).1 60 b m = x ∧ (jnode w b m x y z).1 61 b m = y ∧ (jnode w b m x y z).1 62 b m = z ∧ (jnode w b m x y z).1 53 b 12 = nI (m + 1) := by
  unfold jnode
  refine ⟨?_, ?_, ?_, jset_at⟩
  · rw [jset_bk (by decide), jset_bk (by decide), jset_bk (by decide), jset_at]
  · rw [jset_bk (by decide), jset_bk (by decide), jset_at]
  · rw [jset_bk (by decide), jset_at]
theorem jnode_MI {T : JTk} {Rc Rp : JNm} {fc fp : Nat → Int32} {w : JW} {n x : Nat} {er : JEr} {m : Nat} (h : jMI T Rc Rp fc fp w n x er m) (hm : m + 1 ≤ n) (a b c : Int32) : jMI T Rc Rp fc fp (jnode w (w.2.2 41 9) m a b c) n x er (m + 1) := by
  have k : ∀ j, (jnode w (w.2.2 41 9) m a b c).1 41 false j = w.1 41 false j := fun j => by
    unfold jnode
    rw [jset_bk (by decide), jset_bk (by decide), jset_bk (by decide), jset_bk (by decide)]
  refine h.of jnode_YF (by rw [k]; exact h.1.1.1) h.1.1.2 (by rw [k]; exact h.1.2.1) (by rw [k]; exact h.1.2.2) (by rw [k]; exact h.2.1.1) h.2.1.2.1 (by rw [k]; exact h.2.1.2.2) jnode_at.2.2.2 hm (fun z => z)
/-- a new node over older ones -/
theorem jNd_new {w : JW} {nc np m : Nat} {t : Bool} {o a z : Int32} {V : (Nat → Int32) → Int32} (hm : m + 1 ≤ 401) (h : ∀ op one two : Nat → Int32, (∀ j, j < m → op j = w.1 60 (w.2.2 41 9) j ∧ one j = w.1 61 (w.2.2 41 9) j ∧ two j = w.1 62 (w.2.2 41 9) j) → op m = o → one m = a → two m = z → jTm (m + 1) op one two nc np (m + 1) t m ∧ ∀ R, jmv op one two R (m + 1) m = V R) : jNd (jnode w (w.2.2 41 9) m o a z) nc np (m + 1) m t V := by
  obtain ⟨q1, q2, q3, -⟩ := jnode_at (w := w) (b := w.2.2 41 9) (m := m) (x := o) (y := a) (z := z)
  exact ⟨hm, h _ _ _ (fun j hj => jnode_Kn j hj) q1 q2 q3⟩
theorem jNd_leaf {w : JW} {nc np m : Nat} {t : Bool} {o a z : Int32} (hm : m + 1 ≤ 401) (h : (t = false ∧ (o = 18 ∨ o = 19 ∨ o = 23 ∨ (o = 20 ∧ ∃ k : Nat, k < nc ∧ a = nI k) ∨ ((o = 21 ∨ o = 22) ∧ ∃ k : Nat, k < np ∧ a = nI k))) ∨ (t = true ∧ o = 24 ∧ ∃ k : Nat, k < np ∧ a = nI k)) : jNd (jnode w (w.2.2 41 9) m o a z) nc np (m + 1) m t (fun R => jrd R o a) := by
  refine jNd_new hm (fun op one two _ e1 e2 _ => ?_)
  have val : o ≠ 35 → (18 ≤ o ∧ o ≤ 24) → ∀ R, jmv op one two R (m + 1) m = jrd R o a := fun h1 h2 R => by rw [jmv_leaf e1 h1 h2, e2]
  rcases h with ⟨rfl, q⟩ | ⟨rfl, q, k, hk, ea⟩
  · refine ⟨⟨Nat.lt_succ_self m, ?_⟩, val (by rcases q with q | q | q | q | q <;> first | (rw [q]; decide) | (rw [q.1]; decide) | (rcases q.1 with q | q <;> rw [q] <;> decide)) (by rcases q with q | q | q | q | q <;> first | (rw [q]; decide) | (rw [q.1]; decide) | (rcases q.1 with q | q <;> rw [q] <;> decide))⟩
    rw [e1, e2]
    rcases q with q | q | q | q | q
    · exact Or.inr (Or.inl q)
    · exact Or.inr (Or.inr (Or.inl q))
    · exact Or.inr (Or.inr (Or.inr (Or.inl q)))
    · exact Or.inr (Or.inr (Or.inr (Or.inr (Or.inl q))))
    · exact Or.inr (Or.inr (Or.inr (Or.inr (Or.inr (Or.inl q)))))
  · refine ⟨⟨Nat.lt_succ_self m, ?_⟩, val (by rw [q]; decide) (by rw [q]; decide)⟩
    rw [e1, e2]
    exact Or.inl ⟨q, k, hk, ea⟩
theorem jNd_val {w : JW} {nc np m : Nat} {a z : Int32} (hm : m + 1 ≤ 401) : jNd (jnode w (w.2.2 41 9) m 35 a z) nc np (m + 1) m false (fun _ => a) := by
  refine jNd_new hm (fun op one two _ e1 e2 _ => ⟨⟨Nat.lt_succ_self m, Or.inl e1⟩, fun R => ?_⟩)
  rw [jmv, if_pos e1, e2]
theorem jNd_neg {w : JW} {nc np m v : Nat} {z : Int32} {V : (Nat → Int32) → Int32} (hm : m + 1 ≤ 401) (h : jNd w nc np m v false V) : jNd (jnode w (w.2.2 41 9) m 110 (nI v) z) nc np (m + 1) m false (fun R => -V R) := by
  have lv := jTm_lt h.2.1
  refine jNd_new hm (fun op one two hr e1 e2 _ => ⟨⟨Nat.lt_succ_self m, ?_⟩, fun R => ?_⟩)
  · exact Or.inr (Or.inr (Or.inr (Or.inr (Or.inr (Or.inr (Or.inl ⟨e1, v, e2, jTm_mono (by omega) hr (Nat.le_refl _) (Nat.le_refl _) (by omega) h.2.1⟩))))))
  · rw [jmv_neg e1 e2 (by omega), jmv_cong h.1 hr (by omega) h.2.1, h.2.2 R]
theorem jNd_not {w : JW} {nc np m v : Nat} {z : Int32} {V : (Nat → Int32) → Int32} (hm : m + 1 ≤ 401) (h : jNd w nc np m v true V) : jNd (jnode w (w.2.2 41 9) m 25 (nI v) z) nc np (m + 1) m true (fun R => 1 - V R) := by
  have lv := jTm_lt h.2.1
  refine jNd_new hm (fun op one two hr e1 e2 _ => ⟨⟨Nat.lt_succ_self m, ?_⟩, fun R => ?_⟩)
  · exact Or.inr (Or.inl ⟨e1, v, e2, jTm_mono (by omega) hr (Nat.le_refl _) (Nat.le_refl _) (by omega) h.2.1⟩)
  · rw [jmv_not e1 e2 (by omega), jmv_cong h.1 hr (by omega) h.2.1, h.2.2 R]
/-- a sign: of sums (false, false), of tests (true, true), a comparison (false, true) -/
def jsgn (t t2 : Bool) (o : Int32) : Prop := (t = false ∧ t2 = false ∧ (o = 28 ∨ o = 29 ∨ o = 42 ∨ o = 43 ∨ o = 45 ∨ o = 47)) ∨ (t = true ∧ t2 = true ∧ (o = 26 ∨ o = 27)) ∨ (t = false ∧ t2 = true ∧ (o = 60 ∨ o = 61 ∨ o = 62 ∨ o = 103 ∨ o = 108))
theorem jNd_bin {w : JW} {nc np m v u : Nat} {t t2 : Bool} {o : Int32} {V U : (Nat → Int32) → Int32} (hm : m + 1 ≤ 401) (h : jNd w nc np m v t V) (h2 : jNd w nc np m u t U) (ho : jsgn t t2 o) : jNd (jnode w (w.2.2 41 9) m o (nI v) (nI u)) nc np (m + 1) m t2 (fun R => jjn (jmap o) (V R) (U R)) := by
  have lv := jTm_lt h.2.1
  have lu := jTm_lt h2.2.1
  refine jNd_new hm (fun op one two hr e1 e2 e3 => ?_)
  have kv := fun (nn : Nat) (hn : v + 1 ≤ nn) => jTm_mono (nc2 := nc) (np2 := np) (M2 := m + 1) (n2 := nn) (by omega) hr (Nat.le_refl _) (Nat.le_refl _) hn h.2.1
  have ku := fun (nn : Nat) (hn : u + 1 ≤ nn) => jTm_mono (nc2 := nc) (np2 := np) (M2 := m + 1) (n2 := nn) (by omega) hr (Nat.le_refl _) (Nat.le_refl _) hn h2.2.1
  have val : o ≠ 35 → ¬ (18 ≤ o ∧ o ≤ 24) → o ≠ 110 → o ≠ 25 → ∀ R, jmv op one two R (m + 1) m = jjn (jmap o) (V R) (U R) := fun a b c d R => by
    rw [jmv_bin e1 a b c d e2 (by omega) e3 (by omega), jmv_cong h.1 hr (by omega) h.2.1, jmv_cong h.1 hr (by omega) h2.2.1, h.2.2 R, h2.2.2 R]
  rcases ho with ⟨rfl, rfl, q⟩ | ⟨rfl, rfl, q⟩ | ⟨rfl, rfl, q⟩
  · refine ⟨⟨Nat.lt_succ_self m, ?_⟩, val (by rcases q with q | q | q | q | q | q <;> rw [q] <;> decide) (by rcases q with q | q | q | q | q | q <;> rw [q] <;> decide) (by rcases q with q | q | q | q | q | q <;> rw [q] <;> decide) (by rcases q with q | q | q | q | q | q <;> rw [q] <;> decide)⟩
    rw [e1]
    exact Or.inr (Or.inr (Or.inr (Or.inr (Or.inr (Or.inr (Or.inr ⟨q, v, u, e2, e3, kv m (by omega), ku m (by omega)⟩))))))
  · refine ⟨⟨Nat.lt_succ_self m, ?_⟩, val (by rcases q with q | q <;> rw [q] <;> decide) (by rcases q with q | q <;> rw [q] <;> decide) (by rcases q with q | q <;> rw [q] <;> decide) (by rcases q with q | q <;> rw [q] <;> decide)⟩
    rw [e1]
    exact Or.inr (Or.inr (Or.inl ⟨q, v, u, e2, e3, kv m (by omega), ku m (by omega)⟩))
  · refine ⟨⟨Nat.lt_succ_self m, ?_⟩, val (by rcases q with q | q | q | q | q <;> rw [q] <;> decide) (by rcases q with q | q | q | q | q <;> rw [q] <;> decide) (by rcases q with q | q | q | q | q <;> rw [q] <;> decide) (by rcases q with q | q | q | q | q <;> rw [q] <;> decide)⟩
    rw [e1]
    exact Or.inr (Or.inr (Or.inr ⟨q, v, u, e2, e3, kv m (by omega), ku m (by omega)⟩))
