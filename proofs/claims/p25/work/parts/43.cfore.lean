/-! the class looks ahead -/
theorem jpos_lt {k j p : Nat} (h : jpos k j = some p) : p < 51 := by
  unfold jpos at h
  repeat' split at h
  all_goals first
    | (cases h; omega)
    | cases h
theorem jmom_congr {w : JW} {t : Bool} {R S : Nat → Int32} (h : ∀ i, i < 51 → R i = S i) : jmom w t R = jmom w t S := by
  refine jw_ext (fun k b j => ?_) rfl
  unfold jmom
  show (if b = t then _ else _) = if b = t then _ else _
  by_cases hb : b = t
  · rw [if_pos hb, if_pos hb]
    cases hp : jpos k j with
    | none => rfl
    | some p => exact h p (jpos_lt hp)
  · rw [if_neg hb, if_neg hb]
theorem jgm_congr {w : JW} {t : Bool} {R S f : Nat → Int32} {x : Int32} (h : ∀ i, i < 51 → R i = S i) : jgm w t R f x = jgm w t S f x := by
  unfold jgm
  rw [jmom_congr h]
/-- the trial moment becomes the moment now -/
theorem c_again {w : JW} {R S f : Nat → Int32} {x : Int32} (hR : ∀ i, i < 51 → R i = jrow w false i) : jF MX1_become 2 [jR 14 true, jR 14 false] (jgm w true S f x) jU (jgm w true R f x) := by
  have h := c_become (jgm w true S f x) true false
  have e1 : jrow (jgm w true S f x) false = jrow w false := by
    have e : ∀ k, 13 < k → (jgm w true S f x).1 k false = w.1 k false := by
      intro k hk
      unfold jgm
      rw [jgar_k (by omega) (by omega)]
      funext j
      exact jmom_b (by decide)
    unfold jrow
    rw [e 14 (by omega), e 15 (by omega), e 16 (by omega), e 17 (by omega), e 18 (by omega), e 19 (by omega)]
  have e2 : jmom (jgm w true S f x) true (jrow w false) = jgm w true (jrow w false) f x := by
    refine jw_ext (fun k b j => ?_) rfl
    unfold jgm jgar jmom
    simp only [jset_I, jfn_I]
    by_cases hb : b = true
    · subst hb
      cases hp : jpos k j with
      | none => simp
      | some p => simp
    · simp [hb]
  rw [e1, e2] at h
  rw [jgm_congr hR]
  exact h
theorem c_first {w : JW} {R : Nat → Int32} (hR : ∀ i, i < 51 → R i = jrow w false i) : ∃ f x, w = jgm w true (jrow w true) f x ∧ jF MX1_become 2 [jR 14 true, jR 14 false] w jU (jgm w true R f x) := by
  obtain ⟨f, x, e⟩ := jgar_self w
  have e2 : w = jgm w true (jrow w true) f x := by
    unfold jgm
    rw [jmom_self]
    exact e
  refine ⟨f, x, e2, ?_⟩
  have h := c_again (S := jrow w true) (f := f) (x := x) hR
  rw [← e2] at h
  exact h
/-- what a tide gains: the class counts from now -/
def jGain (D : JD) (R : Nat → Int32) (n : Nat) (tide : Int32) : Int32 := (jHours D n (upd R 1 tide) 2 - R 2) - 2 * (jHours D n (upd R 1 tide) 3 - R 3)
theorem c_gain {w : JW} {D : JD} {R S f : Nat → Int32} {x : Int32} (hO : jOrg w (w.2.2 0 6) D) (hW : jWF D) (hR : ∀ i, i < 51 → R i = jrow w false i) (tide : Int32) {n : Nat} (hn : n < 2 ^ 31) :
    jSI MX9_gainByTide 7 [jR 0 false, jI tide, jI (nI n)] (jgm w true S f x) (fun r w2 => r = jGain D R n tide ∧ ∃ S f x, w2 = jgm w true S f x) := by
  refine jSI_of jp_X9_gainByTide rfl (Nat.le_of_ble_eq_true rfl) (fun C hm => ?_)
  refine bk_X9_gainByTide_0 hm (c_again hR) (by decide) ?_
  refine bq_X9_gainByTide_11 hm (by rw [jgm_set (show jpos 14 6 = some 1 from rfl)]; exact c_run hO hW (upd R 1 tide) f x hn) (by decide) (fun w2 hp => ?_)
  obtain ⟨f2, x2, rfl⟩ := hp
  have now : ∀ j p, jpos 14 j = some p → p < 4 → (jgm w true (jHours D n (upd R 1 tide)) f2 x2).1 14 false j = R p := by
    intro j p hp h4
    unfold jgm
    rw [jgar_k (by omega) (by omega), jmom_b (by decide), hR p (by omega)]
    unfold jpos at hp
    simp at hp
    obtain ⟨h5, rfl⟩ := hp
    unfold jrow
    rw [if_pos h4, show 5 + (j - 5) = j by omega]
  refine bk_X9_gainByTide_35 hm ⟨_, rfl, ?_, _, _, _, rfl⟩
  rw [now 7 2 rfl (by omega), now 8 3 rfl (by omega), jgm_p (show jpos 14 7 = some 2 from rfl), jgm_p (show jpos 14 8 = some 3 from rfl)]
  rfl
