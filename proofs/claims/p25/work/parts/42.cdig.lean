/-! the class's digest -/
theorem jFold_add (f : Nat → Int32) (y : Int64) (a b : Nat) : jFold f y (a + b) = jFold (fun i => f (a + i)) (jFold f y a) b := by
  induction b with
  | zero => rfl
  | succ b ih =>
    show jFold f y (a + b) * 31 + (f (a + b)).toInt64 = _
    rw [ih]
    rfl
theorem jFold_cong {f g : Nat → Int32} {y : Int64} {n : Nat} (h : ∀ i, i < n → f i = g i) : jFold f y n = jFold g y n := by
  induction n with
  | zero => rfl
  | succ n ih => rw [jFold, jFold, ih (fun i hi => h i (by omega)), h n (by omega)]
def jNest (g : Nat → Nat → Int32) (m : Nat) (y : Int64) : Nat → Int64
  | 0 => y
  | n + 1 => jFold (g n) (jNest g m y n) m
theorem jFold_nest (g : Nat → Nat → Int32) {m : Nat} (hm : 0 < m) (y : Int64) (n : Nat) : jFold (fun i => g (i / m) (i % m)) y (m * n) = jNest g m y n := by
  induction n with
  | zero => rfl
  | succ n ih =>
    rw [Nat.mul_succ, jFold_add, ih, jNest]
    exact jFold_cong (fun i hi => by
      show g ((m * n + i) / m) ((m * n + i) % m) = g n i
      rw [Nat.mul_add_div hm, Nat.mul_add_mod, Nat.div_eq_of_lt hi, Nat.mod_eq_of_lt hi, Nat.add_zero])
theorem c_cdigest {w : JW} {D : JD} {R f : Nat → Int32} {x : Int32} (hO : jOrg w (w.2.2 0 6) D) (hW : jWF D) : jSL MX9_digest 6 [jR 0 false] (jgm w false R f x) (fun r w2 => r = jDig D R (w.1 1 false 1) ∧ ∃ f x, w2 = jgm w false R f x) := by
  refine jSL_of jp_X9_digest rfl (Nat.le_of_ble_eq_true rfl) (fun C hm => ?_)
  have h5 := hW.1.1
  have h12 := hW.1.2.1
  have h6 := hW.1.2.2.1
  generalize hlen : w.1 1 false 1 = len
  have hG := fun (f : Nat → Int32) (x : Int32) => jgm_org (t := false) (R := R) (f := f) (x := x) hO
  have e9 : ∀ f x, (jgm w false R f x).1 20 ((jgm w false R f x).2.2 0 6) 9 = nI (D.1 0) := fun f x => (hG f x).1.1
  have e10 : ∀ f x, (jgm w false R f x).1 20 ((jgm w false R f x).2.2 0 6) 10 = nI (D.1 1) := fun f x => (hG f x).1.2.1
  have e11 : ∀ f x, (jgm w false R f x).1 20 ((jgm w false R f x).2.2 0 6) 11 = nI (D.1 2) := fun f x => (hG f x).1.2.2.1
  have s5 : ∀ f x, jW C 0 0 (jQQ C 0 0 (fun v w' => ∃ r, v = jL r ∧ (r = jDig D R len ∧ ∃ f x, w' = jgm w false R f x))) 156 [jR 0 false, jL (jDig4 D R len), jU, jU, jU] [] (jgm w false R f x) := by
    intro f x
    refine bk_X9_digest_156 hm ?_
    unfold jDig
    refine jfor (P := fun i => i ≤ 5 → jW C 0 0 _ 158 [jR 0 false, jL (jFold (fun i => jHgt D (R 0 + nI i) (R 1)) (jDig4 D R len) i), jU, jI (nI i), jU] [] (jgm w false R f x)) 5 ?_ ?_ (Nat.zero_le _)
    · exact fun _ => bk_X9_digest_158 hm (fun _ => bk_X9_digest_203 hm ⟨_, rfl, rfl, _, _, rfl⟩) (fun z => absurd (by decide) z)
    · intro i hi ih _
      refine bk_X9_digest_158 hm (fun z => absurd ((nI_leI (a := 5) (b := i) (by omega) (by omega)).mp z) (by omega)) (fun _ => ?_)
      refine bk_X9_digest_163 hm (c_hgtD (hG f x) hW _ _) (by decide) (bk_X9_digest_194 hm ?_)
      rw [nI_1, show (jgm w false R f x).1 14 false 5 = R 0 from jgm_p (show jpos 14 5 = some 0 from rfl), show (jgm w false R f x).1 14 false 6 = R 1 from jgm_p (show jpos 14 6 = some 1 from rfl)]
      exact ih (by omega)
  have s4 : ∀ f x, jW C 0 0 (jQQ C 0 0 (fun v w' => ∃ r, v = jL r ∧ (r = jDig D R len ∧ ∃ f x, w' = jgm w false R f x))) 130 [jR 0 false, jL (jDig3 D R len), jU, jU, jU] [] (jgm w false R f x) := by
    intro f x
    refine bk_X9_digest_130 hm ?_
    have s5 := s5 f x
    unfold jDig4 at s5
    refine jfor (P := fun i => i ≤ D.1 2 → jW C 0 0 _ 132 [jR 0 false, jL (jDigCs D R (jDig3 D R len) i), jU, jI (nI i), jU] [] (jgm w false R f x)) (D.1 2) ?_ ?_ (Nat.zero_le _)
    · exact fun _ => bk_X9_digest_132 hm (fun _ => s5) (fun z => absurd (by rw [e11]; exact (nI_leI (by omega) (by omega)).mpr (Nat.le_refl _)) z)
    · intro c hc ih _
      refine bk_X9_digest_132 hm (fun z => absurd ((nI_leI (a := D.1 2) (b := c) (by omega) (by omega)).mp (by rw [← e11 f x]; exact z)) (by omega)) (fun _ => ?_)
      refine bk_X9_digest_143 hm (c_digestChord hO hW hc _) (by decide) (bk_X9_digest_149 hm ?_)
      rw [nI_1]
      exact ih (by omega)
  have s3 : ∀ f x, jW C 0 0 (jQQ C 0 0 (fun v w' => ∃ r, v = jL r ∧ (r = jDig D R len ∧ ∃ f x, w' = jgm w false R f x))) 80 [jR 0 false, jL (jDig2 D R len), jU, jU, jU] [] (jgm w false R f x) := by
    intro f x
    refine bk_X9_digest_80 hm ?_
    have s4 := s4 f x
    unfold jDig3 at s4
    rw [jFold_nest (fun p i => jPipe D R p (nI i)) (m := 7) (by omega)] at s4
    refine jfor (P := fun i => i ≤ D.1 1 → jW C 0 0 _ 82 [jR 0 false, jL (jNest (fun p i => jPipe D R p (nI i)) 7 (jDig2 D R len) i), jU, jI (nI i), jU] [] (jgm w false R f x)) (D.1 1) ?_ ?_ (Nat.zero_le _)
    · exact fun _ => bk_X9_digest_82 hm (fun _ => s4) (fun z => absurd (by rw [e10]; exact (nI_leI (by omega) (by omega)).mpr (Nat.le_refl _)) z)
    · intro p hp ih _
      refine bk_X9_digest_82 hm (fun z => absurd ((nI_leI (a := D.1 1) (b := p) (by omega) (by omega)).mp (by rw [← e10 f x]; exact z)) (by omega)) (fun _ => bk_X9_digest_93 hm ?_)
      have ih2 := ih (by omega)
      rw [jNest] at ih2
      generalize jNest (fun p i => jPipe D R p (nI i)) 7 (jDig2 D R len) p = y at ih2 ⊢
      refine jfor (P := fun i => i ≤ 7 → jW C 0 0 _ 96 [jR 0 false, jL (jFold (fun i => jPipe D R p (nI i)) y i), jU, jI (nI p), jI (nI i)] [] (jgm w false R f x)) 7 ?_ ?_ (Nat.zero_le _)
      · refine fun _ => bk_X9_digest_96 hm (fun _ => bk_X9_digest_124 hm ?_) (fun z => absurd (by decide) z)
        rw [nI_1]
        exact ih2
      · intro i hi ih3 _
        refine bk_X9_digest_96 hm (fun z => absurd ((nI_leI (a := 7) (b := i) (by omega) (by omega)).mp z) (by omega)) (fun _ => ?_)
        refine bk_X9_digest_103 hm (c_pipeFact hO hW hp (nI i)) (by decide) (bk_X9_digest_115 hm ?_)
        rw [nI_1]
        exact ih3 (by omega)
  have s2 : ∀ f x, jW C 0 0 (jQQ C 0 0 (fun v w' => ∃ r, v = jL r ∧ (r = jDig D R len ∧ ∃ f x, w' = jgm w false R f x))) 31 [jR 0 false, jL (jDig1 D R len), jU, jU, jU] [] (jgm w false R f x) := by
    intro f x
    refine bk_X9_digest_31 hm ?_
    have s3 := s3
    unfold jDig2 at s3
    rw [jFold_nest (fun c i => jCave D R c (nI i)) (m := 5) (by omega)] at s3
    have key := jfor (P := fun i => i ≤ D.1 0 → ∀ f x, jW C 0 0 (jQQ C 0 0 (fun v w' => ∃ r, v = jL r ∧ (r = jDig D R len ∧ ∃ f x, w' = jgm w false R f x))) 33 [jR 0 false, jL (jNest (fun c i => jCave D R c (nI i)) 5 (jDig1 D R len) i), jU, jI (nI i), jU] [] (jgm w false R f x)) (D.1 0) ?_ ?_
    · exact key (Nat.zero_le _) f x
    · exact fun _ f x => bk_X9_digest_33 hm (fun _ => s3 f x) (fun z => absurd (by rw [e9]; exact (nI_leI (by omega) (by omega)).mpr (Nat.le_refl _)) z)
    · intro c hc ih _ f x
      refine bk_X9_digest_33 hm (fun z => absurd ((nI_leI (a := D.1 0) (b := c) (by omega) (by omega)).mp (by rw [← e9 f x]; exact z)) (by omega)) (fun _ => bk_X9_digest_44 hm ?_)
      have ih2 := ih (by omega)
      rw [show jNest (fun c i => jCave D R c (nI i)) 5 (jDig1 D R len) (c + 1) = jFold (fun i => jCave D R c (nI i)) (jNest (fun c i => jCave D R c (nI i)) 5 (jDig1 D R len) c) 5 from rfl] at ih2
      generalize jNest (fun c i => jCave D R c (nI i)) 5 (jDig1 D R len) c = y at ih2 ⊢
      have key2 := jfor (P := fun i => i ≤ 5 → ∀ f x, jW C 0 0 (jQQ C 0 0 (fun v w' => ∃ r, v = jL r ∧ (r = jDig D R len ∧ ∃ f x, w' = jgm w false R f x))) 47 [jR 0 false, jL (jFold (fun i => jCave D R c (nI i)) y i), jU, jI (nI c), jI (nI i)] [] (jgm w false R f x)) 5 ?_ ?_
      · exact key2 (Nat.zero_le _) f x
      · refine fun _ f x => bk_X9_digest_47 hm (fun _ => bk_X9_digest_74 hm ?_) (fun z => absurd (by decide) z)
        rw [nI_1]
        exact ih2 f x
      · intro i hi ih3 _ f x
        refine bk_X9_digest_47 hm (fun z => absurd ((nI_leI (a := 5) (b := i) (by omega) (by omega)).mp z) (by omega)) (fun _ => ?_)
        refine bq_X9_digest_53 hm (c_caveFact hO hW hc (nI i)) (by decide) (fun r w2 hp => ?_)
        obtain ⟨rfl, f2, x2, rfl⟩ := hp
        refine bk_X9_digest_65 hm ?_
        rw [nI_1]
        exact ih3 (by omega) f2 x2
  refine bk_X9_digest_0 hm ?_
  have s2 := s2 f x
  unfold jDig1 at s2
  refine jfor (P := fun i => i ≤ 14 → jW C 0 0 _ 6 [jR 0 false, jL (jFold (fun i => jCnt D R len (nI i)) 827 i), jU, jI (nI i), jU] [] (jgm w false R f x)) 14 ?_ ?_ (Nat.zero_le _)
  · exact fun _ => bk_X9_digest_6 hm (fun _ => s2) (fun z => absurd (by decide) z)
  · intro i hi ih _
    refine bk_X9_digest_6 hm (fun z => absurd ((nI_leI (a := 14) (b := i) (by omega) (by omega)).mp z) (by omega)) (fun _ => ?_)
    refine bk_X9_digest_12 hm (c_countFact hO hW (nI i)) (by decide) (bk_X9_digest_22 hm ?_)
    rw [nI_1, hlen]
    exact ih (by omega)
