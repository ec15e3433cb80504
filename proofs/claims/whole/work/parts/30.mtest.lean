/-! the reference's tests: nodes -/
def jmap (o : Int32) : Int32 := if o = 43 then 38 else if o = 45 then 39 else if o = 42 then 40 else if o = 47 then 41 else if o = 60 then 42 else if o = 62 then 43 else if o = 61 then 44 else if o = 108 then 45 else if o = 103 then 46 else o
def jmv (op one two R : Nat → Int32) : Nat → Nat → Int32
  | 0, _ => 0
  | n + 1, i => if op i = 35 then one i else if 18 ≤ op i ∧ op i ≤ 24 then jrd R (op i) (one i) else if op i = 110 then -(jmv op one two R n (one i).toNatClampNeg) else if op i = 25 then 1 - jmv op one two R n (one i).toNatClampNeg else jjn (jmap (op i)) (jmv op one two R n (one i).toNatClampNeg) (jmv op one two R n (two i).toNatClampNeg)
/-- a node of a sum (false) or of a test (true), so many levels deep at most -/
def jTr (op one two : Nat → Int32) (nc np : Nat) : Nat → Bool → Nat → Prop
  | 0, _, _ => False
  | n + 1, false, i => i < 401 ∧ (op i = 35 ∨ op i = 18 ∨ op i = 19 ∨ op i = 23 ∨ (op i = 20 ∧ ∃ a : Nat, a < nc ∧ one i = nI a) ∨ ((op i = 21 ∨ op i = 22) ∧ ∃ a : Nat, a < np ∧ one i = nI a) ∨ (op i = 110 ∧ ∃ a : Nat, one i = nI a ∧ jTr op one two nc np n false a) ∨
      ((op i = 28 ∨ op i = 29 ∨ op i = 42 ∨ op i = 43 ∨ op i = 45 ∨ op i = 47) ∧ ∃ a b : Nat, one i = nI a ∧ two i = nI b ∧ jTr op one two nc np n false a ∧ jTr op one two nc np n false b))
  | n + 1, true, i => i < 401 ∧ ((op i = 24 ∧ ∃ a : Nat, a < np ∧ one i = nI a) ∨ (op i = 25 ∧ ∃ a : Nat, one i = nI a ∧ jTr op one two nc np n true a) ∨ ((op i = 26 ∨ op i = 27) ∧ ∃ a b : Nat, one i = nI a ∧ two i = nI b ∧ jTr op one two nc np n true a ∧ jTr op one two nc np n true b) ∨
      ((op i = 60 ∨ op i = 61 ∨ op i = 62 ∨ op i = 103 ∨ op i = 108) ∧ ∃ a b : Nat, one i = nI a ∧ two i = nI b ∧ jTr op one two nc np n false a ∧ jTr op one two nc np n false b))
theorem jTr_lt {op one two : Nat → Int32} {nc np n i : Nat} {t : Bool} (h : jTr op one two nc np n t i) : i < 401 := by
  cases n with
  | zero => exact h.elim
  | succ n => cases t <;> exact h.1
theorem jTr_up {op one two : Nat → Int32} {nc np : Nat} : ∀ {n : Nat} {t : Bool} {i : Nat}, jTr op one two nc np n t i → jTr op one two nc np (n + 1) t i := by
  intro n
  induction n with
  | zero => intro t i h; exact h.elim
  | succ n ih =>
    intro t i h
    cases t with
    | false =>
      refine ⟨h.1, ?_⟩
      rcases h.2 with q | q | q | q | q | q | ⟨q, a, q1, q2⟩ | ⟨q, a, b, q1, q2, q3, q4⟩
      · exact Or.inl q
      · exact Or.inr (Or.inl q)
      · exact Or.inr (Or.inr (Or.inl q))
      · exact Or.inr (Or.inr (Or.inr (Or.inl q)))
      · exact Or.inr (Or.inr (Or.inr (Or.inr (Or.inl q))))
      · exact Or.inr (Or.inr (Or.inr (Or.inr (Or.inr (Or.inl q)))))
      · exact Or.inr (Or.inr (Or.inr (Or.inr (Or.inr (Or.inr (Or.inl ⟨q, a, q1, ih q2⟩))))))
      · exact Or.inr (Or.inr (Or.inr (Or.inr (Or.inr (Or.inr (Or.inr ⟨q, a, b, q1, q2, ih q3, ih q4⟩))))))
    | true =>
      refine ⟨h.1, ?_⟩
      rcases h.2 with q | ⟨q, a, q1, q2⟩ | ⟨q, a, b, q1, q2, q3, q4⟩ | ⟨q, a, b, q1, q2, q3, q4⟩
      · exact Or.inl q
      · exact Or.inr (Or.inl ⟨q, a, q1, ih q2⟩)
      · exact Or.inr (Or.inr (Or.inl ⟨q, a, b, q1, q2, ih q3, ih q4⟩))
      · exact Or.inr (Or.inr (Or.inr ⟨q, a, b, q1, q2, ih q3, ih q4⟩))
theorem i32_divm1 (a : Int32) : a / (-1) = -a := by
  have e : ((-1 : Int32)).toInt = -1 := by decide
  rw [← Int32.toInt_inj, Int32.toInt_div, e, Int32.toInt_neg, Int.tdiv_neg, Int.tdiv_one]
theorem c_parts (w : JW) (a b : Int32) : jF MX11_parts 0 [jI a, jI b] w (jI (if b = 0 then 0 else a / b)) w := by
  refine jF_of jp_X11_parts rfl (Nat.le_of_ble_eq_true rfl) (fun C hm => ?_)
  refine bk_X11_parts_0 hm (fun h => bk_X11_parts_8 hm (fun h2 => bk_X11_parts_18 hm h (bk_X11_parts_21 hm ⟨?_, rfl⟩)) (fun h2 => bk_X11_parts_13 hm (bk_X11_parts_21 hm ⟨?_, rfl⟩))) (fun h => bk_X11_parts_4 hm (bk_X11_parts_21 hm ⟨?_, rfl⟩))
  · rw [if_neg h]
  · rw [if_neg h, h2, i32_divm1]
  · rw [if_pos h]
theorem nI_cl {a : Nat} (h : a < 401) : (nI a).toNatClampNeg = a := nI_clamp (by omega)
theorem jmv_leaf {op one two R : Nat → Int32} {n i : Nat} {o : Int32} (e : op i = o) (h : o ≠ 35) (h2 : 18 ≤ o ∧ o ≤ 24) : jmv op one two R (n + 1) i = jrd R o (one i) := by
  rw [jmv, e, if_neg h, if_pos h2]
theorem jmv_neg {op one two R : Nat → Int32} {n i a : Nat} (e : op i = 110) (ea : one i = nI a) (ha : a < 401) : jmv op one two R (n + 1) i = -(jmv op one two R n a) := by
  rw [jmv, e, if_neg (by decide), if_neg (by decide), if_pos rfl, ea, nI_cl ha]
theorem jmv_not {op one two R : Nat → Int32} {n i a : Nat} (e : op i = 25) (ea : one i = nI a) (ha : a < 401) : jmv op one two R (n + 1) i = 1 - (jmv op one two R n a) := by
  rw [jmv, e, if_neg (by decide), if_neg (by decide), if_neg (by decide), if_pos rfl, ea, nI_cl ha]
theorem jmv_bin {op one two R : Nat → Int32} {n i a b : Nat} {o : Int32} (e : op i = o) (h1 : o ≠ 35) (h2 : ¬ (18 ≤ o ∧ o ≤ 24)) (h3 : o ≠ 110) (h4 : o ≠ 25) (ea : one i = nI a) (ha : a < 401) (eb : two i = nI b) (hb : b < 401) : jmv op one two R (n + 1) i = jjn (jmap o) (jmv op one two R n a) (jmv op one two R n b) := by
  rw [jmv, e, if_neg h1, if_neg h2, if_neg h3, if_neg h4, ea, eb, nI_cl ha, nI_cl hb]
theorem c_reckon (w : JW) (k : Nat) (hA : jIA k false 51) {nc np : Nat} (hc : nc ≤ 5) (hp : np ≤ 12) : ∀ (n i : Nat), jTr (w.1 60 (w.2.2 41 8)) (w.1 61 (w.2.2 41 8)) (w.1 62 (w.2.2 41 8)) nc np n false i →
    jF MX11_reckon n [jR 41 false, jI (nI i), jR k false] w (jI (jmv (w.1 60 (w.2.2 41 8)) (w.1 61 (w.2.2 41 8)) (w.1 62 (w.2.2 41 8)) (w.1 k false) n i)) w := by
  intro n
  induction n with
  | zero => intro i h; exact h.elim
  | succ n ih =>
    intro i hT
    refine jF_of jp_X11_reckon rfl (Nat.le_of_ble_eq_true rfl) (fun C hm => ?_)
    have hi : i < 401 := hT.1
    have hv : vp_in (nI i) 401 := vp_in_nI hi (by omega)
    have ec : (nI i).toNatClampNeg = i := nI_cl hi
    have un : (∃ a : Nat, w.1 61 (w.2.2 41 8) i = nI a ∧ jTr (w.1 60 (w.2.2 41 8)) (w.1 61 (w.2.2 41 8)) (w.1 62 (w.2.2 41 8)) nc np n false a) ∨ ¬ w.1 60 (w.2.2 41 8) i = 110 := by
      rcases hT.2 with q | q | q | q | q | q | q | q
      · exact Or.inr (by rw [q]; decide)
      · exact Or.inr (by rw [q]; decide)
      · exact Or.inr (by rw [q]; decide)
      · exact Or.inr (by rw [q]; decide)
      · exact Or.inr (by rw [q.1]; decide)
      · exact Or.inr (by rcases q.1 with z | z <;> rw [z] <;> decide)
      · exact Or.inl q.2
      · exact Or.inr (by rcases q.1 with z | z | z | z | z | z <;> rw [z] <;> decide)
    have bi : ∀ o : Int32, w.1 60 (w.2.2 41 8) i = o → (o = 28 ∨ o = 29 ∨ o = 42 ∨ o = 43 ∨ o = 45 ∨ o = 47) → ∃ a b : Nat, w.1 61 (w.2.2 41 8) i = nI a ∧ w.1 62 (w.2.2 41 8) i = nI b ∧ jTr (w.1 60 (w.2.2 41 8)) (w.1 61 (w.2.2 41 8)) (w.1 62 (w.2.2 41 8)) nc np n false a ∧ jTr (w.1 60 (w.2.2 41 8)) (w.1 61 (w.2.2 41 8)) (w.1 62 (w.2.2 41 8)) nc np n false b := by
      intro o eo ho
      rcases hT.2 with q | q | q | q | q | q | q | q
      · rw [q] at eo; subst eo; exact absurd ho (by decide)
      · rw [q] at eo; subst eo; exact absurd ho (by decide)
      · rw [q] at eo; subst eo; exact absurd ho (by decide)
      · rw [q] at eo; subst eo; exact absurd ho (by decide)
      · rw [q.1] at eo; subst eo; exact absurd ho (by decide)
      · rcases q.1 with z | z <;> (rw [z] at eo; subst eo; exact absurd ho (by decide))
      · rw [q.1] at eo; subst eo; exact absurd ho (by decide)
      · exact q.2
    refine bk_X11_reckon_0 hm hv hv hv (fun e => ?_) (fun e => ?_) (fun e => ?_) (fun e => ?_) (fun e => ?_) (fun e => ?_) (fun e => ?_) (fun e => ?_) (fun e => ?_) (fun e => ?_) (fun e => ?_) (fun e => ?_) (fun e => ?_) (fun e1 e2 e3 e4 e5 e6 e7 e8 e9 e10 e11 e12 e13 => ?_) <;> (try rw [ec] at e) <;> (try rw [ec])
    · exact bk_X11_reckon_146 hm hA (vp_in_nI (n := 0) (by omega) (by omega)) ⟨by rw [jmv_leaf e (by decide) (by decide)]; rfl, rfl⟩
    · exact bk_X11_reckon_153 hm hA (vp_in_nI (n := 1) (by omega) (by omega)) ⟨by rw [jmv_leaf e (by decide) (by decide)]; rfl, rfl⟩
    · have : ∃ a : Nat, a < nc ∧ w.1 61 (w.2.2 41 8) i = nI a := by
        rcases hT.2 with q | q | q | q | q | q | q | q
        · rw [e] at q; exact absurd q (by decide)
        · rw [e] at q; exact absurd q (by decide)
        · rw [e] at q; exact absurd q (by decide)
        · rw [e] at q; exact absurd q (by decide)
        · exact q.2
        · rw [e] at q; exact absurd q.1 (by decide)
        · rw [e] at q; exact absurd q.1 (by decide)
        · rw [e] at q; exact absurd q.1 (by decide)
      obtain ⟨a, ha, ea⟩ := this
      have e4 : (4 : Int32) + nI a = nI (4 + a) := nI_add 4 a
      rw [ea]
      refine bk_X11_reckon_161 hm hA (by rw [e4]; exact vp_in_nI (by omega) (by omega)) ⟨?_, rfl⟩
      rw [jmv_leaf e (by decide) (by decide), e4, nI_clamp (by omega), ea]
      show _ = jI (jat 5 (fun j => w.1 k false (4 + j)) (nI a))
      rw [jat_nI (by omega) (by decide)]
    · have : ∃ a : Nat, a < np ∧ w.1 61 (w.2.2 41 8) i = nI a := by
        rcases hT.2 with q | q | q | q | q | q | q | q
        · rw [e] at q; exact absurd q (by decide)
        · rw [e] at q; exact absurd q (by decide)
        · rw [e] at q; exact absurd q (by decide)
        · rw [e] at q; exact absurd q (by decide)
        · rw [e] at q; exact absurd q.1 (by decide)
        · exact q.2
        · rw [e] at q; exact absurd q.1 (by decide)
        · rw [e] at q; exact absurd q.1 (by decide)
      obtain ⟨a, ha, ea⟩ := this
      have e4 : (9 : Int32) + nI a = nI (9 + a) := nI_add 9 a
      rw [ea]
      refine bk_X11_reckon_167 hm hA (by rw [e4]; exact vp_in_nI (by omega) (by omega)) ⟨?_, rfl⟩
      rw [jmv_leaf e (by decide) (by decide), e4, nI_clamp (by omega), ea]
      show _ = jI (jat 12 (fun j => w.1 k false (9 + j)) (nI a))
      rw [jat_nI (by omega) (by decide)]
    · have : ∃ a : Nat, a < np ∧ w.1 61 (w.2.2 41 8) i = nI a := by
        rcases hT.2 with q | q | q | q | q | q | q | q
        · rw [e] at q; exact absurd q (by decide)
        · rw [e] at q; exact absurd q (by decide)
        · rw [e] at q; exact absurd q (by decide)
        · rw [e] at q; exact absurd q (by decide)
        · rw [e] at q; exact absurd q.1 (by decide)
        · exact q.2
        · rw [e] at q; exact absurd q.1 (by decide)
        · rw [e] at q; exact absurd q.1 (by decide)
      obtain ⟨a, ha, ea⟩ := this
      have e4 : (21 : Int32) + nI a = nI (21 + a) := nI_add 21 a
      rw [ea]
      refine bk_X11_reckon_174 hm hA (by rw [e4]; exact vp_in_nI (by omega) (by omega)) ⟨?_, rfl⟩
      rw [jmv_leaf e (by decide) (by decide), e4, nI_clamp (by omega), ea]
      show _ = jI (jat 12 (fun j => w.1 k false (21 + j)) (nI a))
      rw [jat_nI (by omega) (by decide)]
    · exact bk_X11_reckon_157 hm hA (vp_in_nI (n := 2) (by omega) (by omega)) ⟨by rw [jmv_leaf e (by decide) (by decide)]; rfl, rfl⟩
    · obtain ⟨a, b, ea, eb, ta, tb⟩ := bi _ e (by decide)
      rw [ea, eb]
      refine bk_X11_reckon_189 hm (ih a ta) (Nat.le_refl _) (bk_X11_reckon_195 hm (ih b tb) (Nat.le_refl _) (bk_X11_reckon_202 hm (by omega) ⟨?_, rfl⟩))
      rw [jmv_bin e (by decide) (by decide) (by decide) (by decide) ea (jTr_lt ta) eb (jTr_lt tb)]; rfl
    · obtain ⟨a, b, ea, eb, ta, tb⟩ := bi _ e (by decide)
      rw [ea, eb]
      refine bk_X11_reckon_206 hm (ih a ta) (Nat.le_refl _) (bk_X11_reckon_212 hm (ih b tb) (Nat.le_refl _) (bk_X11_reckon_219 hm (by omega) ⟨?_, rfl⟩))
      rw [jmv_bin e (by decide) (by decide) (by decide) (by decide) ea (jTr_lt ta) eb (jTr_lt tb)]; rfl
    · exact bk_X11_reckon_144 hm ⟨by rw [jmv, e, if_pos rfl], rfl⟩
    · obtain ⟨a, b, ea, eb, ta, tb⟩ := bi _ e (by decide)
      rw [ea, eb]
      refine bk_X11_reckon_223 hm (ih a ta) (Nat.le_refl _) (bk_X11_reckon_229 hm (ih b tb) (Nat.le_refl _) (bk_X11_reckon_236 hm ⟨?_, rfl⟩))
      rw [jmv_bin e (by decide) (by decide) (by decide) (by decide) ea (jTr_lt ta) eb (jTr_lt tb)]; rfl
    · obtain ⟨a, b, ea, eb, ta, tb⟩ := bi _ e (by decide)
      rw [ea, eb]
      refine bk_X11_reckon_255 hm (ih a ta) (Nat.le_refl _) (bk_X11_reckon_261 hm (ih b tb) (Nat.le_refl _) (bk_X11_reckon_268 hm ⟨?_, rfl⟩))
      rw [jmv_bin e (by decide) (by decide) (by decide) (by decide) ea (jTr_lt ta) eb (jTr_lt tb)]; rfl
    · obtain ⟨a, b, ea, eb, ta, tb⟩ := bi _ e (by decide)
      rw [ea, eb]
      refine bk_X11_reckon_238 hm (ih a ta) (Nat.le_refl _) (bk_X11_reckon_244 hm (ih b tb) (Nat.le_refl _) (bk_X11_reckon_251 hm (c_parts w _ _) (by omega) (bk_X11_reckon_254 hm ⟨?_, rfl⟩)))
      rw [jmv_bin e (by decide) (by decide) (by decide) (by decide) ea (jTr_lt ta) eb (jTr_lt tb)]; rfl
    · rcases un with ⟨a, ea, ta⟩ | q
      · rw [ea]
        refine bk_X11_reckon_181 hm (ih a ta) (Nat.le_refl _) (bk_X11_reckon_187 hm ⟨?_, rfl⟩)
        rw [jmv_neg e ea (jTr_lt ta)]
      · exact absurd e q
    · rw [ec] at e1 e2 e3 e4 e5 e6 e7 e8 e9 e10 e11 e12 e13
      have e : w.1 60 (w.2.2 41 8) i = 43 := by
        rcases hT.2 with q | q | q | q | q | q | q | q
        · exact absurd q e9
        · exact absurd q e1
        · exact absurd q e2
        · exact absurd q e6
        · exact absurd q.1 e3
        · rcases q.1 with z | z
          · exact absurd z e4
          · exact absurd z e5
        · exact absurd q.1 e13
        · rcases q.1 with z | z | z | z | z | z
          · exact absurd z e7
          · exact absurd z e8
          · exact absurd z e10
          · exact z
          · exact absurd z e11
          · exact absurd z e12
      obtain ⟨a, b, ea, eb, ta, tb⟩ := bi _ e (by decide)
      rw [ea, eb]
      refine bk_X11_reckon_270 hm (ih a ta) (Nat.le_refl _) (bk_X11_reckon_276 hm (ih b tb) (Nat.le_refl _) (bk_X11_reckon_283 hm ⟨?_, rfl⟩))
      rw [jmv_bin e (by decide) (by decide) (by decide) (by decide) ea (jTr_lt ta) eb (jTr_lt tb)]; rfl
