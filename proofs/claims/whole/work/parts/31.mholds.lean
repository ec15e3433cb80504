/-! the reference's tests: holds -/
theorem i32_01 (x : Int32) (h : x = 0 ∨ x = 1) : narrow .boolean (.int x) = .int x := by rcases h with rfl | rfl <;> rfl
theorem jjn_01 (o x y : Int32) (h : o = 42 ∨ o = 43 ∨ o = 44 ∨ o = 45 ∨ o = 46) : jjn o x y = 0 ∨ jjn o x y = 1 := by
  have key : ∀ (c : Prop) [Decidable c], (if c then (1 : Int32) else 0) = 0 ∨ (if c then (1 : Int32) else 0) = 1 := by
    intro c _
    by_cases h : c
    · rw [if_pos h]; exact Or.inr rfl
    · rw [if_neg h]; exact Or.inl rfl
  rcases h with rfl | rfl | rfl | rfl | rfl
  · exact key (x < y)
  · exact key (y < x)
  · exact key (x = y)
  · exact key (x ≤ y)
  · exact key (y ≤ x)
theorem and_01 {x y : Int32} (hx : x = 0 ∨ x = 1) (hy : y = 0 ∨ y = 1) : (x &&& y = 0 ∨ x &&& y = 1) ∧ (x ||| y = 0 ∨ x ||| y = 1) := by
  rcases hx with rfl | rfl <;> rcases hy with rfl | rfl <;> decide
theorem jmv_01 {op one two R : Nat → Int32} {nc np : Nat} (hp : np ≤ 12) : ∀ (n i : Nat), jTr op one two nc np n true i → jmv op one two R n i = 0 ∨ jmv op one two R n i = 1 := by
  intro n
  induction n with
  | zero => intro i h; exact h.elim
  | succ n ih =>
    intro i h
    rcases h.2 with ⟨e, a, ha, ea⟩ | ⟨e, a, ea, ta⟩ | ⟨e, a, b, ea, eb, ta, tb⟩ | ⟨e, a, b, ea, eb, ta, tb⟩
    · rw [jmv_leaf e (by decide) (by decide)]
      show (if 0 < jat 12 (fun j => R (21 + j)) (one i) then (1 : Int32) else 0) = 0 ∨ (if 0 < jat 12 (fun j => R (21 + j)) (one i) then (1 : Int32) else 0) = 1
      by_cases z : 0 < jat 12 (fun j => R (21 + j)) (one i)
      · rw [if_pos z]; exact Or.inr rfl
      · rw [if_neg z]; exact Or.inl rfl
    · rw [jmv_not e ea (jTr_lt ta)]
      rcases ih a ta with z | z <;> rw [z] <;> decide
    · rcases e with e | e
      · rw [jmv_bin e (by decide) (by decide) (by decide) (by decide) ea (jTr_lt ta) eb (jTr_lt tb)]
        exact (and_01 (ih a ta) (ih b tb)).1
      · rw [jmv_bin e (by decide) (by decide) (by decide) (by decide) ea (jTr_lt ta) eb (jTr_lt tb)]
        exact (and_01 (ih a ta) (ih b tb)).2
    · rcases e with e | e | e | e | e <;> rw [jmv_bin e (by decide) (by decide) (by decide) (by decide) ea (jTr_lt ta) eb (jTr_lt tb)] <;> exact jjn_01 _ _ _ (by decide)
theorem i32_le0 {x : Int32} : x ≤ 0 ↔ ¬ 0 < x := by
  rw [Int32.le_iff_toInt_le, Int32.lt_iff_toInt_lt]
  omega
theorem c_mholds (w : JW) (k : Nat) (hA : jIA k false 51) {nc np : Nat} (hc : nc ≤ 5) (hp : np ≤ 12) : ∀ (n i : Nat), jTr (w.1 60 (w.2.2 41 8)) (w.1 61 (w.2.2 41 8)) (w.1 62 (w.2.2 41 8)) nc np n true i →
    jF MX11_holds n [jR 41 false, jI (nI i), jR k false] w (jI (jmv (w.1 60 (w.2.2 41 8)) (w.1 61 (w.2.2 41 8)) (w.1 62 (w.2.2 41 8)) (w.1 k false) n i)) w := by
  intro n
  induction n with
  | zero => intro i h; exact h.elim
  | succ n ih =>
    intro i hT
    refine jF_of jp_X11_holds rfl (Nat.le_of_ble_eq_true rfl) (fun C hm => ?_)
    have hi : i < 401 := hT.1
    have hv : vp_in (nI i) 401 := vp_in_nI hi (by omega)
    have ec : (nI i).toNatClampNeg = i := nI_cl hi
    have hz : ∀ (m j : Nat), jTr (w.1 60 (w.2.2 41 8)) (w.1 61 (w.2.2 41 8)) (w.1 62 (w.2.2 41 8)) nc np m true j → _ := fun m j h => jmv_01 (R := w.1 k false) hp m j h
    have zz := hz _ _ hT
    have sm := c_reckon w k hA hc hp n
    have cm : ∀ o : Int32, w.1 60 (w.2.2 41 8) i = o → (o = 60 ∨ o = 61 ∨ o = 62 ∨ o = 103 ∨ o = 108) → ∃ a b : Nat, w.1 61 (w.2.2 41 8) i = nI a ∧ w.1 62 (w.2.2 41 8) i = nI b ∧ jTr (w.1 60 (w.2.2 41 8)) (w.1 61 (w.2.2 41 8)) (w.1 62 (w.2.2 41 8)) nc np n false a ∧ jTr (w.1 60 (w.2.2 41 8)) (w.1 61 (w.2.2 41 8)) (w.1 62 (w.2.2 41 8)) nc np n false b := by
      intro o eo ho
      rcases hT.2 with q | q | q | q
      · rw [q.1] at eo; subst eo; exact absurd ho (by decide)
      · rw [q.1] at eo; subst eo; exact absurd ho (by decide)
      · rcases q.1 with z | z <;> (rw [z] at eo; subst eo; exact absurd ho (by decide))
      · exact q.2
    have lg : ∀ o : Int32, w.1 60 (w.2.2 41 8) i = o → (o = 26 ∨ o = 27) → ∃ a b : Nat, w.1 61 (w.2.2 41 8) i = nI a ∧ w.1 62 (w.2.2 41 8) i = nI b ∧ jTr (w.1 60 (w.2.2 41 8)) (w.1 61 (w.2.2 41 8)) (w.1 62 (w.2.2 41 8)) nc np n true a ∧ jTr (w.1 60 (w.2.2 41 8)) (w.1 61 (w.2.2 41 8)) (w.1 62 (w.2.2 41 8)) nc np n true b := by
      intro o eo ho
      rcases hT.2 with q | q | q | q
      · rw [q.1] at eo; subst eo; exact absurd ho (by decide)
      · rw [q.1] at eo; subst eo; exact absurd ho (by decide)
      · exact q.2
      · rcases q.1 with z | z | z | z | z <;> (rw [z] at eo; subst eo; exact absurd ho (by decide))
    refine bk_X11_holds_0 hm hv hv hv (fun e => ?_) (fun e => ?_) (fun e => ?_) (fun e => ?_) (fun e => ?_) (fun e => ?_) (fun e => ?_) (fun e => ?_) (fun e1 e2 e3 e4 e5 e6 e7 e8 => ?_) <;> (try rw [ec] at e) <;> (try rw [ec])
    · have : ∃ a : Nat, a < np ∧ w.1 61 (w.2.2 41 8) i = nI a := by
        rcases hT.2 with q | q | q | q
        · exact q.2
        · rw [e] at q; exact absurd q.1 (by decide)
        · rw [e] at q; exact absurd q.1 (by decide)
        · rw [e] at q; exact absurd q.1 (by decide)
      obtain ⟨a, ha, ea⟩ := this
      have e4 : (21 : Int32) + nI a = nI (21 + a) := nI_add 21 a
      have er : jmv (w.1 60 (w.2.2 41 8)) (w.1 61 (w.2.2 41 8)) (w.1 62 (w.2.2 41 8)) (w.1 k false) (n + 1) i = if 0 < w.1 k false (21 + a) then 1 else 0 := by
        rw [jmv_leaf e (by decide) (by decide), ea]
        show (if 0 < jat 12 (fun j => w.1 k false (21 + j)) (nI a) then (1 : Int32) else 0) = _
        rw [jat_nI (by omega) (by decide)]
      rw [ea, er]
      refine bk_X11_holds_104 hm hA (by rw [e4]; exact vp_in_nI (by omega) (by omega)) (fun q => ?_) (fun q => ?_) <;> rw [e4, nI_clamp (by omega)] at q
      · exact bk_X11_holds_117 hm (bk_X11_holds_118 hm rfl ⟨by rw [if_neg (i32_le0.mp q)], rfl⟩)
      · exact bk_X11_holds_113 hm (bk_X11_holds_118 hm rfl ⟨by rw [if_pos (Classical.not_not.mp (fun z => q (i32_le0.mpr z)))], rfl⟩)
    · have : ∃ a : Nat, w.1 61 (w.2.2 41 8) i = nI a ∧ jTr (w.1 60 (w.2.2 41 8)) (w.1 61 (w.2.2 41 8)) (w.1 62 (w.2.2 41 8)) nc np n true a := by
        rcases hT.2 with q | q | q | q
        · rw [e] at q; exact absurd q.1 (by decide)
        · exact q.2
        · rw [e] at q; exact absurd q.1 (by decide)
        · rw [e] at q; exact absurd q.1 (by decide)
      obtain ⟨a, ea, ta⟩ := this
      rw [ea, jmv_not e ea (jTr_lt ta)]
      refine bk_X11_holds_119 hm (ih a ta) (Nat.le_refl _) (bk_X11_holds_125 hm (fun q => bk_X11_holds_132 hm (bk_X11_holds_133 hm rfl ⟨?_, rfl⟩)) (fun q => bk_X11_holds_128 hm (bk_X11_holds_133 hm rfl ⟨?_, rfl⟩)))
      · rcases hz _ _ ta with z | z
        · exact absurd z q
        · rw [z]; rfl
      · rw [q]; rfl
    · obtain ⟨a, b, ea, eb, ta, tb⟩ := lg _ e (by decide)
      have er := jmv_bin (n := n) (R := w.1 k false) e (by decide) (by decide) (by decide) (by decide) ea (jTr_lt ta) eb (jTr_lt tb)
      rw [ea, eb, er]
      exact bk_X11_holds_134 hm (ih a ta) (Nat.le_refl _) (bk_X11_holds_140 hm (ih b tb) (Nat.le_refl _) (bk_X11_holds_147 hm (i32_01 _ (and_01 (hz _ _ ta) (hz _ _ tb)).1) ⟨rfl, rfl⟩))
    · obtain ⟨a, b, ea, eb, ta, tb⟩ := lg _ e (by decide)
      have er := jmv_bin (n := n) (R := w.1 k false) e (by decide) (by decide) (by decide) (by decide) ea (jTr_lt ta) eb (jTr_lt tb)
      rw [ea, eb, er]
      exact bk_X11_holds_149 hm (ih a ta) (Nat.le_refl _) (bk_X11_holds_155 hm (ih b tb) (Nat.le_refl _) (bk_X11_holds_162 hm (i32_01 _ (and_01 (hz _ _ ta) (hz _ _ tb)).2) ⟨rfl, rfl⟩))
    · obtain ⟨a, b, ea, eb, ta, tb⟩ := cm _ e (by decide)
      have er := jmv_bin (n := n) (R := w.1 k false) e (by decide) (by decide) (by decide) (by decide) ea (jTr_lt ta) eb (jTr_lt tb)
      rw [ea, eb, er]
      have e9 : ∀ x y, jjn (jmap 60) x y = if x < y then 1 else 0 := fun x y => rfl
      exact bk_X11_holds_164 hm (sm a ta) (Nat.le_refl _) (bk_X11_holds_170 hm (sm b tb) (Nat.le_refl _) (bk_X11_holds_177 hm (fun q => bk_X11_holds_184 hm (bk_X11_holds_185 hm rfl ⟨by rw [e9, if_neg (i32_not_lt.mpr q)], rfl⟩)) (fun q => bk_X11_holds_180 hm (bk_X11_holds_185 hm rfl ⟨by rw [e9, if_pos (i32_not_le.mp q)], rfl⟩))))
    · obtain ⟨a, b, ea, eb, ta, tb⟩ := cm _ e (by decide)
      have er := jmv_bin (n := n) (R := w.1 k false) e (by decide) (by decide) (by decide) (by decide) ea (jTr_lt ta) eb (jTr_lt tb)
      rw [ea, eb, er]
      have e9 : ∀ x y, jjn (jmap 62) x y = if y < x then 1 else 0 := fun x y => rfl
      exact bk_X11_holds_186 hm (sm a ta) (Nat.le_refl _) (bk_X11_holds_192 hm (sm b tb) (Nat.le_refl _) (bk_X11_holds_199 hm (fun q => bk_X11_holds_206 hm (bk_X11_holds_207 hm rfl ⟨by rw [e9, if_neg (i32_not_lt.mpr q)], rfl⟩)) (fun q => bk_X11_holds_202 hm (bk_X11_holds_207 hm rfl ⟨by rw [e9, if_pos (i32_not_le.mp q)], rfl⟩))))
    · obtain ⟨a, b, ea, eb, ta, tb⟩ := cm _ e (by decide)
      have er := jmv_bin (n := n) (R := w.1 k false) e (by decide) (by decide) (by decide) (by decide) ea (jTr_lt ta) eb (jTr_lt tb)
      rw [ea, eb, er]
      have e9 : ∀ x y, jjn (jmap 103) x y = if y ≤ x then 1 else 0 := fun x y => rfl
      exact bk_X11_holds_230 hm (sm a ta) (Nat.le_refl _) (bk_X11_holds_236 hm (sm b tb) (Nat.le_refl _) (bk_X11_holds_243 hm (fun q => bk_X11_holds_250 hm (bk_X11_holds_251 hm rfl ⟨by rw [e9, if_neg (i32_not_le.mpr q)], rfl⟩)) (fun q => bk_X11_holds_246 hm (bk_X11_holds_251 hm rfl ⟨by rw [e9, if_pos (i32_not_lt.mp q)], rfl⟩))))
    · obtain ⟨a, b, ea, eb, ta, tb⟩ := cm _ e (by decide)
      have er := jmv_bin (n := n) (R := w.1 k false) e (by decide) (by decide) (by decide) (by decide) ea (jTr_lt ta) eb (jTr_lt tb)
      rw [ea, eb, er]
      have e9 : ∀ x y, jjn (jmap 108) x y = if x ≤ y then 1 else 0 := fun x y => rfl
      exact bk_X11_holds_208 hm (sm a ta) (Nat.le_refl _) (bk_X11_holds_214 hm (sm b tb) (Nat.le_refl _) (bk_X11_holds_221 hm (fun q => bk_X11_holds_228 hm (bk_X11_holds_229 hm rfl ⟨by rw [e9, if_neg (i32_not_le.mpr q)], rfl⟩)) (fun q => bk_X11_holds_224 hm (bk_X11_holds_229 hm rfl ⟨by rw [e9, if_pos (i32_not_lt.mp q)], rfl⟩))))
    · rw [ec] at e1 e2 e3 e4 e5 e6 e7 e8
      have e : w.1 60 (w.2.2 41 8) i = 61 := by
        rcases hT.2 with q | q | q | q
        · exact absurd q.1 e1
        · exact absurd q.1 e2
        · rcases q.1 with z | z
          · exact absurd z e3
          · exact absurd z e4
        · rcases q.1 with z | z | z | z | z
          · exact absurd z e5
          · exact z
          · exact absurd z e6
          · exact absurd z e7
          · exact absurd z e8
      obtain ⟨a, b, ea, eb, ta, tb⟩ := cm _ e (by decide)
      have er := jmv_bin (n := n) (R := w.1 k false) e (by decide) (by decide) (by decide) (by decide) ea (jTr_lt ta) eb (jTr_lt tb)
      rw [ea, eb, er]
      have e9 : ∀ x y, jjn (jmap 61) x y = if x = y then 1 else 0 := fun x y => rfl
      exact bk_X11_holds_252 hm (sm a ta) (Nat.le_refl _) (bk_X11_holds_258 hm (sm b tb) (Nat.le_refl _) (bk_X11_holds_265 hm (fun q => bk_X11_holds_272 hm (bk_X11_holds_273 hm rfl ⟨by rw [e9, if_neg q], rfl⟩)) (fun q => bk_X11_holds_268 hm (bk_X11_holds_273 hm rfl ⟨by rw [e9, if_pos q], rfl⟩))))
