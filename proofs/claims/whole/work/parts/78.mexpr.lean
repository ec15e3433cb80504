/-! the reference reads sums and tests: how it ends -/
def jYPm (T : JTk) (Rc Rp : JNm) (fc fp : Nat → Int32) (w : JW) (n x : Nat) (er : JEr) (m : Nat) (t : Bool) (q : Nat × (JEr × ((Nat → Int32) → Int32))) (r : Int32) (m2 : Nat) (w2 : JW) : Prop :=
  jMI T Rc Rp fc fp w2 q.1 x q.2.1 m2 ∧ jYF w w2 ∧ n < q.1 ∧ m ≤ m2 ∧ m2 + n ≤ m + q.1 ∧ jKn w w2 m ∧ (q.2.1.1 = 0 → er.1 = 0 ∧ ∃ v : Nat, r = nI v ∧ jNd w2 Rc.2 Rp.2 m2 v t q.2.2)
def jYP (T : JTk) (Rc Rp : JNm) (fc fp : Nat → Int32) (w : JW) (n x : Nat) (er : JEr) (m : Nat) (t : Bool) (res : JXR) (r : Int32) (w2 : JW) : Prop := match res with
  | .inl f => jFl T w n m f w2
  | .inr q => ∃ m2, jYPm T Rc Rp fc fp w n x er m t q r m2 w2
def jYC (M : JM) (d x : Nat) (t : Bool) (T : JTk) (Rc Rp : JNm) (fc fp : Nat → Int32) (p : JEx) : Prop := ∀ (w : JW) (n : Nat) (er : JEr) (m : Nat), jMI T Rc Rp fc fp w n x er m → jSI M d [jR 41 false] w (jYP T Rc Rp fc fp w n x er m t (p n er))
/-- nothing is done where it has failed -/
def jY0 (M : JM) (d : Nat) : Prop := ∀ w : JW, ¬ w.1 41 false 15 = -1 → jF M d [jR 41 false] w (jI 0) w
theorem jFl.pre {T : JTk} {w w1 w2 : JW} {n n1 m f : Nat} (hf : jMF w w1) (h : jFl T w1 n1 m f w2) (hn : n ≤ n1) : jFl T w n m f w2 := by
  obtain ⟨⟨a, c⟩, d, m2, e, g, i⟩ := h
  rw [hf.o] at e
  exact ⟨⟨a, c⟩, hf.YF.trans d, m2, e, g, by omega⟩
theorem jFl.mf {T : JTk} {w w2 w3 : JW} {n m f : Nat} (h : jFl T w n m f w2) (hf : jMF w2 w3) (e : w3.1 41 false 15 = w2.1 41 false 15) : jFl T w n m f w3 := by
  obtain ⟨⟨a, b⟩, d, m2, g, i⟩ := h
  refine ⟨⟨e.trans a, b⟩, d.trans hf.YF, m2, ?_, i⟩
  rw [hf.2.1 53 _ (by decide)]
  exact g
theorem jFl.o {T : JTk} {w w2 : JW} {n m f : Nat} (h : jFl T w n m f w2) : w2.2.2 41 9 = w.2.2 41 9 := by rw [h.2.1.1]
theorem jFl.node {T : JTk} {w w2 : JW} {n n1 m f : Nat} (h : jFl T w n1 m f w2) (hn : n < n1) (hm : m ≤ n) : ∃ m2 : Nat, w2.1 53 (w.2.2 41 9) 12 = nI m2 ∧ m2 < 401 ∧ ∀ a b c, jFl T w n m f (jnode w2 (w.2.2 41 9) m2 a b c) := by
  have eo := h.o
  obtain ⟨⟨a, b2, b3⟩, d, m2, e, g, i⟩ := h
  refine ⟨m2, e, by omega, fun x y z => ⟨⟨?_, b2, b3⟩, ?_, m2 + 1, jnode_at.2.2.2, by omega, by omega⟩⟩
  · unfold jnode
    rw [jset_bk (by decide), jset_bk (by decide), jset_bk (by decide), jset_bk (by decide)]
    exact a
  · have := d.trans (jnode_YF (w := w2) (m := m2) (x := x) (y := y) (z := z))
    rwa [eo] at this
theorem jYPm.o {T : JTk} {Rc Rp : JNm} {fc fp : Nat → Int32} {w w2 : JW} {n x : Nat} {er : JEr} {m : Nat} {t : Bool} {q : Nat × (JEr × ((Nat → Int32) → Int32))} {r : Int32} {m2 : Nat} (h : jYPm T Rc Rp fc fp w n x er m t q r m2 w2) : w2.2.2 41 9 = w.2.2 41 9 := by rw [h.2.1.1]
theorem jFl.two {T : JTk} {Rc Rp : JNm} {fc fp : Nat → Int32} {w w1 w2 w3 : JW} {n0 n1 x : Nat} {er : JEr} {m : Nat} {t : Bool} {q : Nat × (JEr × ((Nat → Int32) → Int32))} {r : Int32} {m1 f : Nat} (h : jYPm T Rc Rp fc fp w n0 x er m t q r m1 w1) (hf : jMF w1 w2) (hq : q.1 ≤ n1) (h2 : jFl T w2 n1 m1 f w3) : jFl T w (n0 + n1 - q.1) m f w3 := by
  have eo := h.o
  obtain ⟨g1, g2, g3, g4, g5, g6, g7⟩ := h
  obtain ⟨⟨a, b2, b3⟩, d, m2, e, g, i⟩ := h2
  rw [hf.o, eo] at e
  exact ⟨⟨a, b2, b3⟩, (g2.trans hf.YF).trans d, m2, e, by omega, by omega⟩
theorem jFl.le {T : JTk} {w w2 : JW} {n n1 m f : Nat} (h : jFl T w n1 m f w2) (hn : n ≤ n1) : jFl T w n m f w2 := h.pre (jMF.refl w) hn
theorem jYPm.pre {T : JTk} {Rc Rp : JNm} {fc fp : Nat → Int32} {w w1 w2 : JW} {n n1 x : Nat} {er : JEr} {m : Nat} {t : Bool} {q : Nat × (JEr × ((Nat → Int32) → Int32))} {r : Int32} {m2 : Nat} (hf : jMF w w1) (h : jYPm T Rc Rp fc fp w1 n1 x er m t q r m2 w2) (hn : n ≤ n1) : jYPm T Rc Rp fc fp w n x er m t q r m2 w2 := by
  obtain ⟨g1, g2, g3, g4, g5, g6, g7⟩ := h
  exact ⟨g1, hf.YF.trans g2, by omega, g4, by omega, (hf.Kn m).trans g6 hf.1 (Nat.le_refl _), g7⟩
theorem jYPm.post {T : JTk} {Rc Rp : JNm} {fc fp : Nat → Int32} {w w1 w2 : JW} {n n2 x x2 : Nat} {er : JEr} {m : Nat} {t : Bool} {q : Nat × (JEr × ((Nat → Int32) → Int32))} {r : Int32} {m2 : Nat} (h : jYPm T Rc Rp fc fp w n x er m t q r m2 w1) (hf : jMF w1 w2) (hn : q.1 ≤ n2) (hc : jMI T Rc Rp fc fp w2 n2 x2 q.2.1 m2) : jYPm T Rc Rp fc fp w n x2 er m t (n2, q.2) r m2 w2 := by
  obtain ⟨g1, g2, g3, g4, g5, g6, g7⟩ := h
  have h400 := hc.le
  exact ⟨hc, g2.trans hf.YF, Nat.lt_of_lt_of_le g3 hn, g4, Nat.le_trans g5 (by show _ ≤ m + n2; omega), g6.trans (hf.Kn m2) g2.1 g4, fun z => ⟨(g7 z).1, by
    obtain ⟨v, a, b⟩ := (g7 z).2
    exact ⟨v, a, b.kept hf.1 (hf.Kn m2) (Nat.le_refl _) (Nat.le_refl _) (by omega)⟩⟩⟩
/-- a node over one piece -/
theorem jYPm.un {T : JTk} {Rc Rp : JNm} {fc fp : Nat → Int32} {w w2 : JW} {n n1 x : Nat} {er : JEr} {m : Nat} {t : Bool} {q : Nat × (JEr × ((Nat → Int32) → Int32))} {r : Int32} {m2 : Nat} (h : jYPm T Rc Rp fc fp w n1 x er m t q r m2 w2) (hn : n < n1) (hm : m ≤ n) {o : Int32} {g : Int32 → Int32} (hk : ∀ v, m2 + 1 ≤ 401 → jNd w2 Rc.2 Rp.2 m2 v t q.2.2 → jNd (jnode w2 (w2.2.2 41 9) m2 o (nI v) 0) Rc.2 Rp.2 (m2 + 1) m2 t (fun R => g (q.2.2 R))) :
    w2.1 53 (w2.2.2 41 9) 12 = nI m2 ∧ m2 < 401 ∧ jYPm T Rc Rp fc fp w n x er m t (q.1, q.2.1, fun R => g (q.2.2 R)) (nI m2) (m2 + 1) (jnode w2 (w2.2.2 41 9) m2 o r 0) := by
  obtain ⟨g1, g2, g3, g4, g5, g6, g7⟩ := h
  have hl := g1.le
  refine ⟨g1.2.2.2.1.1, by omega, jnode_MI g1 (by omega) _ _ _, g2.trans jnode_YF, by show n < q.1; omega, by omega, by show m2 + 1 + n ≤ m + q.1; omega, g6.trans jnode_Kn g2.1 g4, fun z => ⟨(g7 z).1, m2, rfl, ?_⟩⟩
  obtain ⟨v, rfl, b⟩ := (g7 z).2
  exact hk v (by omega) b
/-- a node over two pieces -/
theorem jYPm.two {T : JTk} {Rc Rp : JNm} {fc fp : Nat → Int32} {w w1 w2 w3 : JW} {n n0 n1 x x2 : Nat} {er : JEr} {m : Nat} {t t2 : Bool} {q p : Nat × (JEr × ((Nat → Int32) → Int32))} {r r2 : Int32} {m1 m2 : Nat} (h : jYPm T Rc Rp fc fp w n0 x er m t q r m1 w1) (hf : jMF w1 w2) (h2 : jYPm T Rc Rp fc fp w2 n1 x2 q.2.1 m1 t p r2 m2 w3) (hm : m ≤ n) (hn0 : n ≤ n0) (hq : q.1 ≤ n1) (hlt : n + q.1 < n0 + n1) {o : Int32} (ho : jsgn t t2 o) :
    w3.1 53 (w3.2.2 41 9) 12 = nI m2 ∧ m2 < 401 ∧ jYPm T Rc Rp fc fp w n x2 er m t2 (p.1, p.2.1, fun R => jjn (jmap o) (q.2.2 R) (p.2.2 R)) (nI m2) (m2 + 1) (jnode w3 (w3.2.2 41 9) m2 o r r2) := by
  obtain ⟨g1, g2, g3, g4, g5, g6, g7⟩ := h
  obtain ⟨f1, f2, f3, f4, f5, f6, f7⟩ := h2
  have hl := f1.le
  have hF := (g2.trans hf.YF).trans f2
  have hK : jKn w1 w3 m1 := (hf.Kn m1).trans f6 hf.1 (Nat.le_refl _)
  refine ⟨f1.2.2.2.1.1, by omega, jnode_MI f1 (by omega) _ _ _, hF.trans jnode_YF, by show n < p.1; omega, by omega, by show m2 + 1 + n ≤ m + p.1; omega, (g6.trans hK g2.1 g4).trans jnode_Kn hF.1 (by omega), fun z => ?_⟩
  obtain ⟨z1, u, rfl, c⟩ := f7 z
  obtain ⟨z0, v, rfl, b⟩ := g7 z1
  exact ⟨z0, m2, rfl, jNd_bin (by omega) (b.kept (hf.YF.trans f2).1 hK (Nat.le_refl _) f4 (by omega)) c ho⟩
theorem jYPm.st {T : JTk} {Rc Rp : JNm} {fc fp : Nat → Int32} {w w2 : JW} {n x : Nat} {er : JEr} {m : Nat} {t : Bool} {q : Nat × (JEr × ((Nat → Int32) → Int32))} {r : Int32} {m2 : Nat} (h : jYPm T Rc Rp fc fp w n x er m t q r m2 w2) : jMI T Rc Rp fc fp w2 q.1 x q.2.1 m2 := h.1
theorem jMI.at {T : JTk} {Rc Rp : JNm} {fc fp : Nat → Int32} {w : JW} {n x : Nat} {er : JEr} {m : Nat} (h : jMI T Rc Rp fc fp w n x er m) : (w.1 41 false 13).toNatClampNeg = n ∧ vp_in (w.1 41 false 13) 402 := by
  have hl := h.le
  rw [h.1.1.1]
  exact ⟨nI_clamp (by omega), vp_in_nI (by omega) (by omega)⟩
