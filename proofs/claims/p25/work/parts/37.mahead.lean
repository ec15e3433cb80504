/-! the reference looks ahead -/
theorem jw_acs : Cond.static arraycopyName ∈ jGL := jmem 805 (by decide +kernel) rfl
theorem jw_acn : Cond.native arraycopyName ∈ jGL := jmem 806 (by decide +kernel) rfl
theorem jw_138s : Cond.initialized "java/lang/System" ∈ jGL := jmem 64 (by decide +kernel) rfl
theorem jfn_oth {w : JW} {k : Nat} {b : Bool} {f : Nat → Int32} {ad : JAd} {cs : Nat → ClassId} (o : Nat × Bool) (h : o ≠ (k, b)) : jEw ad cs (jfn w k b f) o.1 o.2 = jEw ad cs w o.1 o.2 := by
  have e : (jfn w k b f).1 o.1 o.2 = w.1 o.1 o.2 := by
    funext j
    rw [jfn_I, if_neg (fun q => h (Prod.ext q.1 q.2))]
  unfold jEw
  rw [e]
  rfl
theorem jr_copy {C : JC} {M : JM} {d cl sl : Nat} {Q : State → Prop} {pc : Nat} {ls : List JV} {w : JW} (hm : jok C M d cl sl) {k0 k1 : Nat} {b0 b1 : Bool} {n0 n1 index : Nat} {sp dp n : Int32} (hA0 : jIA k0 b0 n0) (hA1 : jIA k1 b1 n1) (hd1 : 1 ≤ d)
    (hw1 : Cond.methodLink M.2.2.1 index arraycopyName ∈ jGL) (h1 : ¬ sp < 0) (h2 : ¬ dp < 0) (h3 : ¬ n < 0) (h4 : sp.toNatClampNeg + n.toNatClampNeg ≤ n0) (h5 : dp.toNatClampNeg + n.toNatClampNeg ≤ n1) (hln : ls.length = M.2.1) (hd : decode M.1 pc = .ok (.invokestatic index, 3))
    (kk : jW C cl sl Q (pc + 3) ls [] (jfn w k1 b1 (va_cpy (w.1 k0 b0) (w.1 k1 b1) sp.toNatClampNeg dp.toNatClampNeg n.toNatClampNeg))) : jW C cl sl Q pc ls [jI n, jI dp, jR k1 b1, jI sp, jR k0 b0] w := by
  intro H locs a hr hl
  obtain ⟨q0, hj0, hq0⟩ := jWs_at (ad := jad C) (cs := jcs C) (w := w) hA0.1
  obtain ⟨q1, hj1, hq1⟩ := jWs_at (ad := jad C) (cs := jcs C) (w := w) hA1.1
  have hs := jWs_set (ad := jad C) (cs := jcs C) (w := w) (w' := jfn w k1 b1 (va_cpy (w.1 k0 b0) (w.1 k1 b1) sp.toNatClampNeg dp.toNatClampNeg n.toNatClampNeg)) hj1 (fun o _ h => jfn_oth o h)
  have e2 : jEw (jad C) (jcs C) (jfn w k1 b1 (va_cpy (w.1 k0 b0) (w.1 k1 b1) sp.toNatClampNeg dp.toNatClampNeg n.toNatClampNeg)) k1 b1 = .inl (jcs C 0, n1, .inl (va_cpy (w.1 k0 b0) (w.1 k1 b1) sp.toNatClampNeg dp.toNatClampNeg n.toNatClampNeg)) := by
    unfold jEw
    rw [hA1.2.2, jfn_row]
  rw [e2] at hs
  unfold jEw at hq0 hq1
  rw [hA0.2.2] at hq0
  rw [hA1.2.2] at hq1
  have hfr := hm.2.2.2.2.2.2.2.2.2.1
  have h40 := hm.2.2.2.2.2.2.2.2.2.2.1
  refine va_copyi hm.exec hm.code (hm.2.2.1.trans (by rw [← hln]; exact hl.1.symm)) hm.own (hm.hts _ hw1) (hm.hts _ jw_acn) (hm.hts _ jw_acs) (hm.hts _ jw_138s) hm.K hr.1 hr.2.1 hr.2.2 q0 q1 0 0 hq0 hq1 rfl rfl rfl h1 h2 h3 h4 h5 (fun _ _ => rfl) (Nat.le_trans hd1 hfr) ?_ hd (fun H1 locs1 g1 g2 g3 => ?_)
  · have e : nativeFrameWords "java/lang/System" "arraycopy" 5 + 11 ≤ 40 := by decide
    show 0 + _ ≤ _
    omega
  · rw [hs] at g1 g2
    exact kk H1 locs1 a ⟨g1, g2, g3⟩ hl
theorem arrV_ext {cI : ClassId} {N : Nat} {f g : Nat → Value} (h : ∀ j, j < N → f j = g j) : arrV cI N f = arrV cI N g := by
  unfold arrV
  have e : (fun j : Fin N => f j.val) = fun j : Fin N => g j.val := funext fun j => h j.1 j.2
  rw [e]
theorem jWs_get {ad : JAd} {cs : Nat → ClassId} {w : JW} {i : Nat} {q : Nat × va_E} (h : (jWs ad cs w)[i]? = some q) : ∃ o : Nat × Bool, o ∈ jO ∧ q = (ad o.1 o.2, jEw ad cs w o.1 o.2) ∧ ∀ w2 : JW, (jWs ad cs w2)[i]? = some (ad o.1 o.2, jEw ad cs w2 o.1 o.2) := by
  unfold jWs at h
  rw [List.getElem?_map] at h
  cases ho : jO[i]? with
  | none => rw [ho] at h; exact absurd h (by intro q; cases q)
  | some o =>
    rw [ho] at h
    refine ⟨o, List.mem_of_getElem? ho, (Option.some.inj h).symm, fun w2 => ?_⟩
    unfold jWs
    rw [List.getElem?_map, ho]
    rfl
/-- what lies beyond an array's end is not seen -/
theorem jP_ext {D : va_G} {cl : List vw_C} {ad : JAd} {cs : Nat → ClassId} {H : Heap} {w w2 : JW} {k : Nat} {b : Bool} {n : Nat} (hA : jIA k b n) (hs : ∀ o : Nat × Bool, o ∈ jO → o ≠ (k, b) → jEw ad cs w2 o.1 o.2 = jEw ad cs w o.1 o.2) (hc : ∀ i, i < n → w2.1 k b i = w.1 k b i) (h : va_P D cl (jWs ad cs w) H) : va_P D cl (jWs ad cs w2) H := by
  intro i q hq
  obtain ⟨o, ho, rfl, hw⟩ := jWs_get hq
  have h1 := h i _ (hw w)
  by_cases e : o = (k, b)
  · subst e
    unfold jEw at h1 ⊢
    rw [hA.2.2] at h1 ⊢
    exact h1.trans (congrArg some (arrV_ext (fun j hj => congrArg Value.int (hc j hj).symm)))
  · rw [hs o ho e]
    exact h1
theorem jD_ext {A : Nat → Prop} {ad : JAd} {cs : Nat → ClassId} {w w2 : JW} (h : va_D A (jWs ad cs w)) : va_D A (jWs ad cs w2) := by
  constructor
  · intro i j p q hp hq e
    obtain ⟨o, -, rfl, ho⟩ := jWs_get hp
    obtain ⟨o2, -, rfl, ho2⟩ := jWs_get hq
    exact h.1 i j _ _ (ho w) (ho2 w) e
  · intro i q hq
    obtain ⟨o, -, rfl, ho⟩ := jWs_get hq
    exact (h.2 i (ad o.1 o.2, jEw ad cs w o.1 o.2) (ho w) :)
theorem jr_copy0 {C : JC} {M : JM} {d cl sl : Nat} {Q : State → Prop} {pc : Nat} {ls : List JV} {w : JW} (hm : jok C M d cl sl) {k0 k1 : Nat} {b0 b1 : Bool} {n0 index : Nat} (hA0 : jIA k0 b0 n0) (hA1 : jIA k1 b1 n0) (hd1 : 1 ≤ d) {f : Nat → Int32}
    (hw1 : Cond.methodLink M.2.2.1 index arraycopyName ∈ jGL) (hln : ls.length = M.2.1) (hd : decode M.1 pc = .ok (.invokestatic index, 3)) (hf : ∀ i, i < n0 → f i = w.1 k0 b0 i)
    (kk : jW C cl sl Q (pc + 3) ls [] (jfn w k1 b1 f)) : jW C cl sl Q pc ls [jI (nI n0), jI 0, jR k1 b1, jI 0, jR k0 b0] w := by
  have hn := hA0.2.1
  refine jr_copy hm hA0 hA1 hd1 hw1 (by decide) (by decide) (nI_pos hn) (by rw [nI_clamp hn]; exact Nat.le_of_eq (Nat.zero_add _)) (by rw [nI_clamp hn]; exact Nat.le_of_eq (Nat.zero_add _)) hln hd ?_
  have hc : ∀ i, i < n0 → (jfn w k1 b1 f).1 k1 b1 i = (jfn w k1 b1 (va_cpy (w.1 k0 b0) (w.1 k1 b1) (0 : Int32).toNatClampNeg (0 : Int32).toNatClampNeg (nI n0).toNatClampNeg)).1 k1 b1 i := by
    intro i hi
    rw [jfn_row, jfn_row, hf i hi, nI_clamp hn]
    exact (sb_cpy0 hi).symm
  intro H locs a hr hl
  refine kk H locs a ⟨?_, ?_, hr.2.2⟩ hl
  · exact jP_ext hA1 (fun o _ h => (jfn_oth o h).trans (jfn_oth o h).symm) hc hr.1
  · exact jD_ext hr.2.1
theorem jfn52_t {w : JW} {f : Nat → Int32} {D : JD} (h : jBk w (w.2.2 41 8) D) : jBk (jfn w 52 false f) ((jfn w 52 false f).2.2 41 8) D := h.kept (fun k h1 _ => jfn_other (by omega))
/-- in how many hours a pipe sounds, at most 150 -/
def jUnt (D : JD) (R : Nat → Int32) (p : Nat) : Nat → Nat → Int32
  | 0, _ => -1
  | n + 1, i => if 0 < jHours D i R (21 + p) then nI i else jUnt D R p n (i + 1)
