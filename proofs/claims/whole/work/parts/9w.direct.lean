/-! the operations that the law calls itself: teach, errorAt, digest, mean -/
theorem jCTq_41 {s : Nat → Nat} {w w1 : JW} {res : Nat ⊕ (JEr × JLn)} {r : Int32} (h : jCTq s w res r w1) : ∀ k, k = 41 ∨ k = 42 → w1.1 k false = w.1 k false := by
  have k0 : jCF0 w w1 → ∀ k, k = 41 ∨ k = 42 → w1.1 k false = w.1 k false := fun g k hk => g.2.2.2 k false (by omega) (by omega) (by omega) (by omega) (by omega) (by omega)
  have k1 : jCF1 w w1 → ∀ k, k = 41 ∨ k = 42 → w1.1 k false = w.1 k false := fun g k hk => g.2.2.2.1 k false (by omega) (by omega) (by omega) (by omega) (by omega) (by omega) (by omega)
  cases res with
  | inl f => exact k0 h.2.2
  | inr q =>
    obtain ⟨-, -, a2, a3⟩ := h
    by_cases z : q.1.1 = 0
    · exact k1 (a3 z).2.1
    · exact k0 (a2 z).2
theorem jop_teach {n : Nat} {w : JW} (hI : jInv n w) : ∃ P : Int32 → JW → Prop, jSI MX9_teach 50 [jR 0 false] w P ∧ ∀ r w1, P r w1 → jSI MX11_teach 48 [jR 41 false] w1 (fun r2 w2 => r2 = r ∧ jInv (n + 1) w2) := by
  obtain ⟨D, hc, hL, hP⟩ := hI
  obtain ⟨s, L, h1, h0⟩ := hc.2.2.1
  refine ⟨_, c_teach h1, fun r w1 q => ?_⟩
  have h0' : jC0 s L w1 := h0.kept (congrFun (jCTq_41 q 41 (Or.inl rfl)) 2) (jCTq_41 q 42 (Or.inr rfl))
  refine (c_mteach h0').mono (fun r2 w2 q2 => ?_)
  obtain ⟨e, D2, hc2, h3⟩ := teach_cpl hc q q2
  refine ⟨e.symm, D2, hc2, ?_⟩
  rcases h3 with h3 | h3
  · rw [h3]
    exact ⟨hL.up (by omega), hP⟩
  · refine ⟨⟨0, 0, h3 2 (by omega) (by omega), h3 3 (by omega) (by omega), Nat.zero_le _, Nat.zero_le _⟩, fun p hp => ?_⟩
    rw [h3 (21 + p) (by omega) (by omega)]
    exact Int32.le_refl _
theorem jop_errorAt {n : Nat} {w : JW} (hI : jInv n w) : jF MX9_errorAt 0 [jR 0 false] w (jI (w.1 0 false 7)) w ∧ jSI MX11_errorAt 0 [jR 41 false] w (fun r2 w2 => r2 = w.1 0 false 7 ∧ jInv (n + 1) w2) := by
  refine ⟨c_errorAt w, (jSI_F (c_merrorAt w)).mono (fun r2 w2 q => ?_)⟩
  obtain ⟨rfl, rfl⟩ := q
  obtain ⟨D, hc, -⟩ := id hI
  exact ⟨hc.2.2.2.1.symm, hI.qu jQu_T0⟩
theorem jop_digest {n : Nat} {w : JW} (hI : jInv n w) : ∃ P : Int64 → JW → Prop, jSL MX9_digest 6 [jR 0 false] w P ∧ ∀ r w1, P r w1 → jSL MX11_digest 405 [jR 41 false] w1 (fun r2 w2 => r2 = r ∧ jInv (n + 1) w2) := by
  obtain ⟨D, hc, hL, hP⟩ := id hI
  have hWO := hc.1
  obtain ⟨hW, hO, -⟩ := hWO
  obtain ⟨f, x, e⟩ := hc.gm
  have h := c_cdigest (R := w.1 51 false) (f := f) (x := x) hO hW
  rw [e] at h
  refine ⟨_, h, fun r w1 q => ?_⟩
  obtain ⟨rfl, f2, x2, rfl⟩ := q
  have hq := hc.quF f2 x2
  refine jSp.mono (c_mdigest (hc.qu hq).1.2.2 hW ja_51) (fun v w2 q => ?_)
  obtain ⟨rfl, rfl⟩ := q
  refine ⟨_, rfl, ?_, hI.qu (hq.trans jQu_T0)⟩
  rw [hq.r51, hq.2.2.1, hc.len]
/-! the two means compare alike -/
theorem jct_0 {f : Nat → Int32} {n : Nat} (h : ∀ p, p < n → 0 ≤ f p) (h0 : jct (fun p => decide (0 < f p)) n = 0) : jsum f n = 0 := by
  induction n with
  | zero => rfl
  | succ n ih =>
    rw [jct] at h0
    have h1 := ih (fun p hp => h p (by omega)) (by omega)
    have h2 : ¬ 0 < f n := by
      intro z
      rw [if_pos (decide_eq_true z)] at h0
      omega
    have h3 : f n = 0 := (i32_eq0 (h n (by omega))).mpr h2
    rw [jsum, h1, h3]
    rfl
theorem jdiv0 : ∀ c : Nat, c < 13 → c ≠ 0 → FP.ddiv (FP.i2d 0) (FP.i2d (nI c)) = FP.dconst0 := by decide +kernel
theorem jmean_eq {S : Int32} {c : Nat} {r1 r2 : UInt64} (hc : c < 13) (h0 : c = 0 → S = 0) (h1 : jMean1 S (nI c) r1) (h2 : jMean2 S (nI c) r2) : r1 = r2 ∨ (isNaN64 r1 = true ∧ isNaN64 r2 = true) := by
  have hal : ∀ {a b v : UInt64}, alike64 a v = true → alike64 b v = true → a = b ∨ (isNaN64 a = true ∧ isNaN64 b = true) := by
    intro a b v ha hb
    unfold alike64 at ha hb
    rw [Bool.or_eq_true, Bool.and_eq_true, decide_eq_true_eq] at ha hb
    rcases ha with rfl | ⟨ha, hv⟩
    · rcases hb with rfl | ⟨hb, hv⟩
      · exact Or.inl rfl
      · exact Or.inr ⟨hv, hb⟩
    · rcases hb with rfl | ⟨hb, -⟩
      · exact Or.inr ⟨ha, hv⟩
      · exact Or.inr ⟨ha, hb⟩
  have hn : nI c = 0 → c = 0 := fun z => (nI_eqi (a := c) (b := 0) (by omega) (by omega)).mp z
  rcases h1 with ⟨a1, a2⟩ | ⟨a1, a2⟩
  · have hS := h0 (hn a1)
    rcases h2 with ⟨-, b2⟩ | ⟨b1, -⟩
    · exact Or.inl (a2.trans b2.symm)
    · exact absurd hS b1
  · have hc0 : c ≠ 0 := by
      rintro rfl
      exact a1 rfl
    rcases h2 with ⟨b1, b2⟩ | ⟨b1, b2⟩
    · subst b1
      rw [jdiv0 c hc hc0] at a2
      exact hal a2 (by rw [b2]; exact alike64_refl _)
    · exact hal a2 b2
theorem jnan_cmp {a b : UInt64} (h : isNaN64 a = true) : Op.cmpValue (FP.dcmp a b) CmpOp.l = -1 := by
  rw [isNaN64_iff, show (0x7fffffffffffffff : Nat) = 2 ^ 63 - 1 from by decide, Nat.and_two_pow_sub_one_eq_mod] at h
  have h1 : FP.Core.dIsNaN a = true := (FP.Core.isNaN_bits a).mpr h
  have h2 : FP.Core.decode FP.Core.b64 a.toNat = .nan := of_decide_eq_true h1
  show Op.cmpValue (FP.Core.order (FP.Core.decode FP.Core.b64 a.toNat) (FP.Core.decode FP.Core.b64 b.toNat)) CmpOp.l = -1
  rw [h2]
  rfl
theorem jop_mean {n : Nat} {w : JW} (hI : jInv n w) : ∃ P : UInt64 → JW → Prop, jSD MX9_mean 3 [jR 0 false] w P ∧ ∀ r w1, P r w1 → jSD MX11_mean 1 [jR 41 false] w1 (fun r2 w2 => (∀ x, x = r2 → (r = x ∨ (isNaN64 r = true ∧ isNaN64 x = true))) ∧ jInv (n + 1) w2) := by
  obtain ⟨D, hc, hL, hP⟩ := id hI
  have hWO := hc.1
  obtain ⟨hW, hO, hB⟩ := hWO
  have h12 := hW.1.2.1
  refine ⟨_, c_mean hO hW, fun r w1 q => ?_⟩
  obtain ⟨rfl, h1⟩ := q
  have e17 : ∀ p, p < D.1 1 → w1.1 17 false p = w1.1 51 false (21 + p) := fun p hp => by
    rw [← hc.2.1 (21 + p) (by omega), jrow_17 (by omega)]
  rw [jsum_cong (g := fun p => w1.1 51 false (21 + p)) (fun p hp => e17 p hp), jct_cong (g := fun p => decide (0 < w1.1 51 false (21 + p))) (fun p hp => by rw [e17 p hp])] at h1
  intro l Dd ad cs S sz
  refine MetFree.mono (c_mmean hB hW l Dd ad cs S sz) (fun _ _ q => q) (fun _ _ _ _ _ q => q) ?_
  rintro a s o t _ ⟨d, hd, ⟨⟨r2, w2, g1, ⟨rfl, g2⟩, g3⟩, hF⟩, hL2⟩
  refine ⟨d, hd, ⟨⟨r2, _, g1, ⟨fun x hx => ?_, hI.qu jQu_T0⟩, g3⟩, hF⟩, hL2⟩
  subst hx
  exact jmean_eq (Nat.lt_succ_of_le (Nat.le_trans (jct_le _ _) h12)) (fun z => jct_0 (fun p hp => hP p (by omega)) z) h1 g2
