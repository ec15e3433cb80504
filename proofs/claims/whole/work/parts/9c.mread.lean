/-! the reference reads a number, a token -/
theorem nI_mulN (a b : Nat) : nI a * nI b = nI (a * b) := (Int32.ofNat_mul a b).symm
theorem jsym_in2 (z : Nat) : jsym z = 48 ∨ jsym z ≤ 44 := by
  unfold jsym
  repeat (first | (split; · omega) | omega)
theorem l_rdigits {C : JC} {Q : State → Prop} {s : Nat → Nat} {L : Nat} {w : JW} (h : jC0 s L w) (hm : jok C MX11_readNumber 1 0 0) {a : Nat} {x : Int32} : ∀ n i : Nat, i + n = 2000 → a ≤ i → (∀ k, a ≤ k → k < i → jdig (s k)) → jW C 0 0 Q 47 [jR 41 false, jI x, jI (nI a), jI (nI (jskip (fun k => decide (jdig (s k))) n i)), jI (nI (jwo 10 s a (min (jskip (fun k => decide (jdig (s k))) n i - a) 6)))] [] w → jW C 0 0 Q 5 [jR 41 false, jI x, jI (nI a), jI (nI i), jI (nI (jwo 10 s a (min (i - a) 6)))] [] w := by
  have hL := h.1.1
  intro n
  induction n with
  | zero =>
    intro i hi hai hd k
    have e : s i = 300 := h.1.2.2 i (by omega)
    refine bk_X11_readNumber_5 hm (c_mbyteAt h (by omega)) (by decide) (bk_X11_readNumber_10 hm (c_misDigit w _) (by decide) (bk_X11_readNumber_13 hm (fun _ => k) (fun z => ?_)))
    rw [jif0, Decidable.not_not] at z
    omega
  | succ n ih =>
    intro i hi hai hd k
    refine bk_X11_readNumber_5 hm (c_mbyteAt h (by omega)) (by decide) (bk_X11_readNumber_10 hm (c_misDigit w _) (by decide) (bk_X11_readNumber_13 hm (fun z => ?_) (fun z => ?_)))
    · rw [jif0] at z
      rw [jskip_f (fun q => z (of_decide_eq_true q))] at k
      exact k
    · rw [jif0, Decidable.not_not] at z
      rw [jskip_t (decide_eq_true z)] at k
      have hd2 : ∀ k, a ≤ k → k < i + 1 → jdig (s k) := by
        intro k h1 h2
        rcases Nat.lt_or_eq_of_le (Nat.lt_succ_iff.mp h2) with y | y
        · exact hd k h1 y
        · rw [y]
          exact z
      have g := ih (i + 1) (by omega) (by omega) hd2 k
      have hiL : i < L := h.1.in (by omega)
      refine bk_X11_readNumber_16 hm (fun y => bk_X11_readNumber_41 hm ?_) (fun y => ?_)
      · rw [nI_subN hai] at y
        have y2 := (nI_leI (a := 6) (by omega) (by omega)).mp y
        rw [show min (i + 1 - a) 6 = min (i - a) 6 by omega, nI_succ] at g
        exact g
      · rw [nI_subN hai] at y
        have y2 : ¬ 6 ≤ i - a := fun q => y ((nI_leI (a := 6) (by omega) (by omega)).mpr q)
        refine bk_X11_readNumber_24 hm (vp_in_nI (by omega) (by omega)) (bk_X11_readNumber_41 hm ?_)
        rw [nI_clamp (by omega), h.2.2 i hiL, nI_lit 10, nI_mulN, nI_add, nI_lit 48, nI_subN (by omega)]
        have e : 10 * jwo 10 s a (min (i - a) 6) + s i - 48 = jwo 10 s a (min (i + 1 - a) 6) := by
          rw [show min (i + 1 - a) 6 = (i - a) + 1 by omega, show min (i - a) 6 = i - a by omega, jwo, show a + (i - a) = i by omega]
          unfold jdg
          rw [if_pos z]
          omega
        rw [e, ← nI_succ]
        exact g
theorem c_readNumber {s : Nat → Nat} {L : Nat} {w : JW} (h : jC0 s L w) {a t : Nat} (hl : jdig (s a)) (ht : t ≤ 400) : jSV MX11_readNumber 1 [jR 41 false, jI (nI t), jI (nI a)] w (fun w2 => jWt w w2 t ∧ w2.1 46 false t = nI (jte s a - a) ∧ (6 < jte s a - a → w2.1 43 false t = 5) ∧ (¬ 6 < jte s a - a → w2.1 43 false t = 3 ∧ w2.1 44 false t = nI (jwo 10 s a (jte s a - a)))) := by
  have hL := h.1.1
  have haL : a < L := h.1.in (by omega)
  have hte := jte_max h.1 (Nat.le_of_lt haL)
  have hae : a ≤ jte s a := jte_le
  have e1 : jskip (fun k => decide (jdig (s k))) (2000 - a) a = jte s a := by
    rw [show 2000 - a = (2000 - (a + 1)) + 1 by omega, jskip_t (decide_eq_true hl)]
    exact (jte_numb (by omega) hl).1.symm
  refine jSV_of jp_X11_readNumber rfl (Nat.le_of_ble_eq_true rfl) (fun C hm => ?_)
  have g := l_rdigits (C := C) (Q := jQQ C 0 0 (fun v w2 => v = jU ∧ (jWt w w2 t ∧ w2.1 46 false t = nI (jte s a - a) ∧ (6 < jte s a - a → w2.1 43 false t = 5) ∧ (¬ 6 < jte s a - a → w2.1 43 false t = 3 ∧ w2.1 44 false t = nI (jwo 10 s a (jte s a - a)))))) h hm (a := a) (x := nI t) (2000 - a) a (by omega) (Nat.le_refl _) (fun k h1 h2 => by omega)
  rw [e1, show min (a - a) 6 = 0 by omega] at g
  refine bk_X11_readNumber_0 hm (g ?_)
  have W : ∀ y v : Int32, jWt w (jset (jset (jset w 46 false t y) 44 false t v) 43 false t 3) t ∧ jWt w (jset (jset (jset w 46 false t y) 44 false t v) 43 false t 5) t := fun y v => ⟨(((jWt.refl w t).set (by omega)).set (by omega)).set (by omega), (((jWt.refl w t).set (by omega)).set (by omega)).set (by omega)⟩
  refine bk_X11_readNumber_47 hm (vp_in_nI (by omega) (by omega)) (vp_in_nI (by omega) (by omega)) (fun z => ?_) (fun z => ?_)
  · rw [nI_subN hae] at z ⊢
    have z2 := (nI_leI (b := 6) (by omega) (by omega)).mp z
    rw [nI_clamp (by omega)]
    refine bk_X11_readNumber_81 hm (bk_X11_readNumber_82 hm (vp_in_nI (by omega) (by omega)) ⟨rfl, ?_⟩)
    rw [nI_clamp (by omega)]
    refine ⟨(W _ _).1, ?_, fun q => absurd q (by omega), fun _ => ⟨?_, ?_⟩⟩
    · rw [jset_I, jset_I, jset_I, if_neg (by omega), if_neg (by omega), if_pos ⟨rfl, rfl, rfl⟩]
    · rw [jset_I, if_pos ⟨rfl, rfl, rfl⟩]
    · rw [jset_I, jset_I, if_neg (by omega), if_pos ⟨rfl, rfl, rfl⟩, show min (jte s a - a) 6 = jte s a - a by omega]
  · rw [nI_subN hae] at z ⊢
    have z2 : ¬ jte s a - a ≤ 6 := fun q => z ((nI_leI (b := 6) (by omega) (by omega)).mpr q)
    rw [nI_clamp (by omega)]
    refine bk_X11_readNumber_77 hm (bk_X11_readNumber_82 hm (vp_in_nI (by omega) (by omega)) ⟨rfl, ?_⟩)
    rw [nI_clamp (by omega)]
    refine ⟨(W _ _).2, ?_, fun q => ?_, fun q => absurd q (by omega)⟩
    · rw [jset_I, jset_I, jset_I, if_neg (by omega), if_neg (by omega), if_pos ⟨rfl, rfl, rfl⟩]
    · rw [jset_I, if_pos ⟨rfl, rfl, rfl⟩]
/-- token t is read from place a -/
def jRd (s : Nat → Nat) (a t : Nat) (w w2 : JW) : Prop := jWt w w2 t ∧ (¬ (jkd s a = 47 ∨ jkd s a = 48) → w2.1 46 false t = nI (jte s a - a)) ∧ jkv (nI (jkd s a)) (w2.1 43 false t) (w2.1 44 false t) (nI (jwo 10 s a (jte s a - a)))
theorem jsy_sym : ∀ z : Nat, z < 256 → (jsym z = 48 ∨ jsy (nI (jsym z)) = nI z) := by decide +kernel
theorem jsym_no {z : Nat} (h : jsym z = 48) : ¬ (z = 40 ∨ z = 41 ∨ z = 91 ∨ z = 93 ∨ z = 59 ∨ z = 44 ∨ z = 43 ∨ z = 45 ∨ z = 42 ∨ z = 47 ∨ z = 60 ∨ z = 62 ∨ z = 61) := by
  rintro (e | e | e | e | e | e | e | e | e | e | e | e | e) <;> subst e <;> exact absurd h (by decide)
theorem jsym_yes {z : Nat} (h : ¬ (z = 40 ∨ z = 41 ∨ z = 91 ∨ z = 93 ∨ z = 59 ∨ z = 44 ∨ z = 43 ∨ z = 45 ∨ z = 42 ∨ z = 47 ∨ z = 60 ∨ z = 62 ∨ z = 61)) : jsym z = 48 := by
  unfold jsym
  repeat (first | rw [if_neg (by omega)] | rfl)
theorem l_sign {C : JC} {d : Nat} {Q : State → Prop} (hm : jok C MX11_read d 0 0) {w : JW} {x1 x2 : Int32} {z : Nat} (k : ¬ jsym z = 48 → jW C 0 0 Q 143 [jR 41 false, jI x1, jI x2, jI (jc0 z)] [] w) (k2 : jsym z = 48 → jW C 0 0 Q 150 [jR 41 false, jI x1, jI x2, jI (jc0 z)] [] w) : jW C 0 0 Q 65 [jR 41 false, jI x1, jI x2, jI (jc0 z)] [] w := by
  have e : ∀ c : Nat, 1 ≤ c → c < 256 → (jc0 z = nI c ↔ z = c) := fun c h1 h2 => jc0_eq h2 h1
  have y : ∀ c : Nat, 1 ≤ c → c < 256 → (c = 40 ∨ c = 41 ∨ c = 91 ∨ c = 93 ∨ c = 59 ∨ c = 44 ∨ c = 43 ∨ c = 45 ∨ c = 42 ∨ c = 47 ∨ c = 60 ∨ c = 62 ∨ c = 61) → jc0 z = nI c → jW C 0 0 Q 143 [jR 41 false, jI x1, jI x2, jI (jc0 z)] [] w := by
    intro c h1 h2 hc hz
    have hz2 := (e c h1 h2).mp hz
    exact k (fun q => jsym_no q (by rw [hz2]; exact hc))
  refine bk_X11_read_65 hm (y 40 (by omega) (by omega) (by omega)) (fun n1 => bk_X11_read_71 hm (y 41 (by omega) (by omega) (by omega)) (fun n2 => bk_X11_read_77 hm (y 91 (by omega) (by omega) (by omega)) (fun n3 => bk_X11_read_83 hm (y 93 (by omega) (by omega) (by omega)) (fun n4 => bk_X11_read_89 hm (y 59 (by omega) (by omega) (by omega)) (fun n5 => bk_X11_read_95 hm (y 44 (by omega) (by omega) (by omega)) (fun n6 => bk_X11_read_101 hm (y 43 (by omega) (by omega) (by omega)) (fun n7 => bk_X11_read_107 hm (y 45 (by omega) (by omega) (by omega)) (fun n8 => bk_X11_read_113 hm (y 42 (by omega) (by omega) (by omega)) (fun n9 => bk_X11_read_119 hm (y 47 (by omega) (by omega) (by omega)) (fun n10 => bk_X11_read_125 hm (y 60 (by omega) (by omega) (by omega)) (fun n11 => bk_X11_read_131 hm (y 62 (by omega) (by omega) (by omega)) (fun n12 => bk_X11_read_137 hm (fun n13 => ?_) (y 61 (by omega) (by omega) (by omega))))))))))))))
  refine k2 (jsym_yes ?_)
  have f : ∀ c : Nat, 1 ≤ c → c < 256 → ¬ jc0 z = nI c → ¬ z = c := fun c h1 h2 h q => h ((e c h1 h2).mpr q)
  have m1 := f 40 (by omega) (by omega) n1
  have m2 := f 41 (by omega) (by omega) n2
  have m3 := f 91 (by omega) (by omega) n3
  have m4 := f 93 (by omega) (by omega) n4
  have m5 := f 59 (by omega) (by omega) n5
  have m6 := f 44 (by omega) (by omega) n6
  have m7 := f 43 (by omega) (by omega) n7
  have m8 := f 45 (by omega) (by omega) n8
  have m9 := f 42 (by omega) (by omega) n9
  have m10 := f 47 (by omega) (by omega) n10
  have m11 := f 60 (by omega) (by omega) n11
  have m12 := f 62 (by omega) (by omega) n12
  have m13 := f 61 (by omega) (by omega) n13
  omega
/-- not '<', not '>': nothing more -/
theorem l_no2 {C : JC} {d : Nat} {P : JV → JW → Prop} (hm : jok C MX11_read d 0 0) {w : JW} {x1 x2 : Int32} {z : Nat} (h1 : ¬ z = 60) (h2 : ¬ z = 62) (k : P jU w) : jW C 0 0 (jQQ C 0 0 P) 150 [jR 41 false, jI x1, jI x2, jI (jc0 z)] [] w :=
  bk_X11_read_150 hm (fun q => absurd ((jc0_eq (k := 60) (by omega) (by omega)).mp q) h1) (fun _ => bk_X11_read_156 hm (fun _ => bk_X11_read_200 hm k) (fun q => absurd ((jc0_eq (k := 62) (by omega) (by omega)).mp q) h2))
theorem c_read {s : Nat → Nat} {L : Nat} {w : JW} (h : jC0 s L w) {a t : Nat} (ha : a ≤ L) (ht : t ≤ 400) : jSV MX11_read 6 [jR 41 false, jI (nI t), jI (nI a)] w (jRd s a t w) := by
  have hL := h.1.1
  have hae : a ≤ jte s a := jte_le
  have hte := jte_max h.1 ha
  refine jSV_of jp_X11_read rfl (Nat.le_of_ble_eq_true rfl) (fun C hm => ?_)
  have W : ∀ v y : Int32, jWt w (jset (jset (jset w 46 false t 1) 44 false t v) 43 false t y) t := fun v y => (((jWt.refl w t).set (by omega)).set (by omega)).set (by omega)
  have r43 : ∀ v y : Int32, (jset (jset (jset w 46 false t 1) 44 false t v) 43 false t y).1 43 false t = y := by
    intro v y
    rw [jset_I, if_pos ⟨rfl, rfl, rfl⟩]
  have r44 : ∀ v y : Int32, (jset (jset (jset w 46 false t 1) 44 false t v) 43 false t y).1 44 false t = v := by
    intro v y
    rw [jset_I, jset_I, if_neg (by omega), if_pos ⟨rfl, rfl, rfl⟩]
  have r46 : ∀ v y : Int32, (jset (jset (jset w 46 false t 1) 44 false t v) 43 false t y).1 46 false t = 1 := by
    intro v y
    rw [jset_I, jset_I, jset_I, if_neg (by omega), if_neg (by omega), if_pos ⟨rfl, rfl, rfl⟩]
  refine bk_X11_read_0 hm (c_mbyteAt h (by omega)) (by decide) (bk_X11_read_5 hm (vp_in_nI (by omega) (by omega)) (vp_in_nI (by omega) (by omega)) (fun z => ?_) (fun z => ?_))
  · rw [nI_clamp (by omega)] at z ⊢
    rw [jset_I, jset_I, if_neg (by omega), if_neg (by omega), h.2.1] at z
    have haL := (nI_ltI (by omega) (by omega)).mp z
    have hz := h.1.2.1 a haL
    refine bk_X11_read_37 hm (bk_X11_read_38 hm (vp_in_nI (by omega) (by omega)) (c_misLetter _ _) (by decide) (bk_X11_read_43 hm (fun y => ?_) (fun y => ?_)))
    · rw [jif0] at y
      rw [nI_clamp (by omega)]
      refine bk_X11_read_52 hm (c_misDigit _ _) (by decide) (bk_X11_read_56 hm (fun y2 => ?_) (fun y2 => ?_))
      · rw [jif0] at y2
        have ek : jkd s a = if jte s a - a = 2 then (if s a = 60 then 45 else 46) else jsym (s a) := by
          unfold jkd
          rw [if_neg (by omega), if_neg y, if_neg y2]
        refine l_sign hm (fun q => ?_) (fun q => ?_)
        · refine bk_X11_read_143 hm (vp_in_nI (by omega) (by omega)) ?_
          rw [nI_clamp (by omega)]
          have hs := jsym_in (s a)
          have hs2 := (jsym_in2 (s a)).resolve_left q
          have hsy := (jsy_sym (s a) hz).resolve_left q
          have W4 := (W (jc0 (s a)) 5).set (k := 43) (x := 4) (by omega)
          have q43 : (jset (jset (jset (jset w 46 false t 1) 44 false t (jc0 (s a))) 43 false t 5) 43 false t 4).1 43 false t = 4 := by
            rw [jset_I, if_pos ⟨rfl, rfl, rfl⟩]
          have q44 : (jset (jset (jset (jset w 46 false t 1) 44 false t (jc0 (s a))) 43 false t 5) 43 false t 4).1 44 false t = jc0 (s a) := by
            rw [jset_I, if_neg (by omega)]
            exact r44 _ _
          have q46 : (jset (jset (jset (jset w 46 false t 1) 44 false t (jc0 (s a))) 43 false t 5) 43 false t 4).1 46 false t = 1 := by
            rw [jset_I, if_neg (by omega)]
            exact r46 _ _
          generalize hw4 : jset (jset (jset (jset w 46 false t 1) 44 false t (jc0 (s a))) 43 false t 5) 43 false t 4 = w4 at W4 q43 q44 q46 ⊢
          have one : jte s a = a + 1 → jRd s a t w w4 := by
            intro e
            rw [if_neg (by omega)] at ek
            refine ⟨W4, fun _ => ?_, ?_⟩
            · rw [q46, e, show a + 1 - a = 1 by omega]
              rfl
            · rw [q43, q44, ek]
              refine Or.inr (Or.inr (Or.inr (Or.inl ⟨(nI_leI (a := 32) (by omega) (by omega)).mpr (by omega), (nI_leI (b := 46) (by omega) (by omega)).mpr (by omega), rfl, ?_⟩)))
              rw [hsy]
              exact if_pos hz
          by_cases c1 : s a = 60 ∨ s a = 62
          · have et : jte s a = if s (a + 1) = 61 then a + 2 else a + 1 := by
              unfold jte
              rw [if_neg (by omega), if_pos c1]
            have go : jW C 0 0 (jQQ C 0 0 (fun v w' => v = jU ∧ jRd s a t w w')) 162 [jR 41 false, jI (nI t), jI (nI a), jI (jc0 (s a))] [] w4 := by
              have hb := c_mbyteAt (W4.C0 h) (i := a + 1) (by omega)
              rw [nI_succ] at hb
              refine bk_X11_read_162 hm hb (by decide) (bk_X11_read_169 hm (fun n61 => bk_X11_read_200 hm ⟨rfl, ?_⟩) (fun e61 => ?_))
              · refine one ?_
                rw [et, if_neg (fun q2 => n61 ((jc0_eq (k := 61) (by omega) (by omega)).mpr q2))]
              · have e61' := (jc0_eq (k := 61) (by omega) (by omega)).mp e61
                rw [if_pos e61'] at et
                rw [if_pos (by omega)] at ek
                have W5 : ∀ y : Int32, jWt w (jset (jset w4 46 false t 2) 44 false t y) t := fun y => (W4.set (by omega)).set (by omega)
                have fin : ∀ K y : Int32, 32 ≤ K ∧ K ≤ 46 → y = jsy K → nI (jkd s a) = K → jRd s a t w (jset (jset w4 46 false t 2) 44 false t y) := by
                  intro K y hK hy e
                  refine ⟨W5 y, fun _ => ?_, ?_⟩
                  · rw [jset_I, jset_I, if_neg (by omega), if_pos ⟨rfl, rfl, rfl⟩, et, show a + 2 - a = 2 by omega]
                    rfl
                  · rw [jset_I, jset_I, jset_I, jset_I, if_neg (by omega), if_neg (by omega), if_pos ⟨rfl, rfl, rfl⟩, q43, e]
                    exact Or.inr (Or.inr (Or.inr (Or.inl ⟨hK.1, hK.2, rfl, hy⟩)))
                refine bk_X11_read_174 hm (vp_in_nI (by omega) (by omega)) (fun n60 => ?_) (fun e60 => ?_)
                · rw [nI_clamp (by omega)]
                  refine bk_X11_read_197 hm (bk_X11_read_199 hm (vp_in_nI (by omega) (by omega)) (bk_X11_read_200 hm ⟨rfl, ?_⟩))
                  rw [nI_clamp (by omega)]
                  refine fin 46 103 (by decide) (by decide) ?_
                  rw [ek, if_neg (fun q2 => n60 ((jc0_eq (k := 60) (by omega) (by omega)).mpr q2))]
                  rfl
                · rw [nI_clamp (by omega)]
                  refine bk_X11_read_192 hm (bk_X11_read_199 hm (vp_in_nI (by omega) (by omega)) (bk_X11_read_200 hm ⟨rfl, ?_⟩))
                  rw [nI_clamp (by omega)]
                  refine fin 45 108 (by decide) (by decide) ?_
                  rw [ek, if_pos ((jc0_eq (k := 60) (by omega) (by omega)).mp e60)]
                  rfl
            refine bk_X11_read_150 hm (fun _ => go) (fun n60 => bk_X11_read_156 hm (fun n62 => ?_) (fun _ => go))
            rcases c1 with e | e
            · exact absurd ((jc0_eq (k := 60) (by omega) (by omega)).mpr e) n60
            · exact absurd ((jc0_eq (k := 62) (by omega) (by omega)).mpr e) n62
          · refine l_no2 hm (fun e => c1 (Or.inl e)) (fun e => c1 (Or.inr e)) ⟨rfl, one ?_⟩
            unfold jte
            rw [if_neg (by omega), if_neg c1, if_neg y, if_neg y2]
        · have n1 := jsym_no q
          refine l_no2 hm (by omega) (by omega) ⟨rfl, W _ _, fun q2 => ?_, ?_⟩
          · refine absurd ?_ q2
            have et : jte s a = a + 1 := by
              unfold jte
              rw [if_neg (by omega), if_neg (by omega), if_neg y, if_neg y2]
            rw [ek, if_neg (by omega), q]
            exact Or.inr rfl
          · have et : jte s a = a + 1 := by
              unfold jte
              rw [if_neg (by omega), if_neg (by omega), if_neg y, if_neg y2]
            rw [r43, ek, if_neg (by omega), q]
            exact Or.inr (Or.inr (Or.inr (Or.inr (Or.inr ⟨rfl, rfl⟩))))
      · rw [jif0, Decidable.not_not] at y2
        have hq : jsym (s a) = 48 := jsym_yes (by omega)
        refine bq_X11_read_59 hm (c_readNumber ((W _ _).C0 h) y2 ht) (by decide) (fun w3 h3 => ?_)
        have ek : jkd s a = if 6 < jte s a - a then 48 else 31 := by
          unfold jkd
          rw [if_neg (by omega), if_neg y, if_pos y2]
        refine l_sign hm (fun q => absurd hq q) (fun _ => l_no2 hm (by omega) (by omega) ⟨rfl, (W _ _).trans h3.1, fun _ => h3.2.1, ?_⟩)
        by_cases c : 6 < jte s a - a
        · rw [h3.2.2.1 c, ek, if_pos c]
          exact Or.inr (Or.inr (Or.inr (Or.inr (Or.inr ⟨rfl, rfl⟩))))
        · rw [(h3.2.2.2 c).1, (h3.2.2.2 c).2, ek, if_neg c]
          exact Or.inr (Or.inr (Or.inl ⟨rfl, rfl, rfl⟩))
    · rw [jif0, Decidable.not_not] at y
      rw [nI_clamp (by omega)]
      have hq : jsym (s a) = 48 := jsym_yes (by omega)
      refine bq_X11_read_46 hm (c_readWord ((W _ _).C0 h) y ht) (by decide) (fun w3 h3 => ?_)
      refine bk_X11_read_52 hm (c_misDigit _ _) (by decide) (bk_X11_read_56 hm (fun y2 => ?_) (fun y2 => ?_))
      · have ek : jkd s a = if 10 < jte s a - a then 48 else jkw s a (jte s a - a) 30 0 := by
          unfold jkd
          rw [if_neg (by omega), if_pos y]
        have hk := jkw_le s a (jte s a - a) 30 0 rfl
        refine l_sign hm (fun q => absurd hq q) (fun _ => l_no2 hm (by omega) (by omega) ⟨rfl, (W _ _).trans h3.1, fun _ => h3.2.1, ?_⟩)
        by_cases c : 10 < jte s a - a
        · rw [h3.2.2.1 c, ek, if_pos c]
          exact Or.inr (Or.inr (Or.inr (Or.inr (Or.inr ⟨rfl, rfl⟩))))
        · rw [ek, if_neg c]
          obtain ⟨g1, g2⟩ := h3.2.2.2 c
          by_cases c2 : jkw s a (jte s a - a) 30 0 = 30
          · rw [g2 c2, c2]
            exact Or.inr (Or.inl ⟨rfl, rfl⟩)
          · rw [(g1 (by omega)).1, (g1 (by omega)).2]
            exact Or.inl ⟨(nI_leI (a := 0) (by omega) (by omega)).mpr (by omega), (nI_leI (b := 29) (by omega) (by omega)).mpr (by omega), rfl, rfl⟩
      · rw [jif0, Decidable.not_not] at y2
        omega
  · rw [nI_clamp (by omega)] at z ⊢
    rw [jset_I, jset_I, if_neg (by omega), if_neg (by omega), h.2.1] at z
    have haL : ¬ a < L := fun q => z ((nI_ltI (by omega) (by omega)).mpr q)
    have hz := h.1.2.2 a (by omega)
    have ek : jkd s a = 47 := by
      unfold jkd
      rw [if_pos (by omega)]
    have hq : jsym (s a) = 48 := jsym_yes (by omega)
    refine bk_X11_read_33 hm (bk_X11_read_38 hm (vp_in_nI (by omega) (by omega)) (c_misLetter _ _) (by decide) (bk_X11_read_43 hm (fun y => bk_X11_read_52 hm (c_misDigit _ _) (by decide) (bk_X11_read_56 hm (fun y2 => ?_) (fun y2 => ?_))) (fun y => ?_)))
    · rw [nI_clamp (by omega)]
      refine l_sign hm (fun q => absurd hq q) (fun _ => l_no2 hm (by omega) (by omega) ⟨rfl, W _ _, fun q => absurd (Or.inl ek) q, ?_⟩)
      rw [r43, ek]
      exact Or.inr (Or.inr (Or.inr (Or.inr (Or.inl ⟨rfl, rfl⟩))))
    · rw [jif0, Decidable.not_not] at y2
      omega
    · rw [jif0, Decidable.not_not] at y
      omega
