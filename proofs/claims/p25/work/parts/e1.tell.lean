/-! THE TURNS: what the class answers to the law -/
theorem jok.less {C : JC} {M : JM} {d cl sl d2 : Nat} (h : jok C M d cl sl) (h1 : d2 ≤ d) : jok C M d2 cl sl := by
  obtain ⟨a1, a2, a3, a4, a5, a6, a7, a8, a9, b1, b2, b3, b4⟩ := h
  exact ⟨a1, a2, a3, a4, a5, a6, a7, a8, a9, Nat.le_trans h1 b1, Nat.le_trans (Nat.mul_le_mul_left 40 h1) b2, b3, b4⟩
theorem jW_mono {C : JC} {cl sl : Nat} {P P2 : JV → JW → Prop} {pc : Nat} {ls st : List JV} {w : JW} (h : ∀ v w', P v w' → P2 v w') (k : jW C cl sl (jQQ C cl sl P) pc ls st w) : jW C cl sl (jQQ C cl sl P2) pc ls st w := by
  intro H locs a hr hl T hT X
  obtain ⟨t, a1, b1⟩ := k H locs a hr hl T hT X
  refine ⟨t, a1, ?_⟩
  unfold jQQ MQ at b1 ⊢
  obtain ⟨o, q1, q2, ⟨⟨v, w2, q3, q4, q5⟩, q6⟩, q7⟩ := b1
  exact ⟨o, q1, q2, ⟨⟨v, w2, q3, h v w2 q4, q5⟩, q6⟩, q7⟩
theorem jrow_cong {w w2 : JW} (h : ∀ k, 14 ≤ k → k ≤ 19 → w2.1 k false = w.1 k false) : jrow w2 false = jrow w false := by
  unfold jrow
  rw [h 14 (by omega) (by omega), h 15 (by omega) (by omega), h 16 (by omega) (by omega), h 17 (by omega) (by omega), h 18 (by omega) (by omega), h 19 (by omega) (by omega)]
theorem jgm_b {w : JW} {t b : Bool} {R f : Nat → Int32} {x : Int32} {k : Nat} (h : b ≠ t) (h1 : k ≠ 12) (h2 : k ≠ 13) : (jgm w t R f x).1 k b = w.1 k b := by
  unfold jgm
  rw [jgar_k h1 h2]
  funext j
  exact if_neg h
theorem jgm_self (w : JW) (t : Bool) : ∃ f x, jgm w t (jrow w t) f x = w := by
  obtain ⟨f, x, e⟩ := jgar_self w
  refine ⟨f, x, ?_⟩
  unfold jgm
  rw [jmom_self]
  exact e.symm
/-- the law's organ between two turns: what it is, its moment's row, the hours gone, its tape's length -/
def kOg (D : JD) (R : Nat → Int32) (n : Nat) (len : Int32) (w : JW) : Prop :=
  jOrg w (w.2.2 0 6) D ∧ jWF D ∧ kFD D ∧ (∀ i, i < 51 → R i = jrow w false i) ∧ kRI n R ∧ w.1 1 false 1 = len
theorem kOg.gF {D : JD} {R : Nat → Int32} {n : Nat} {len : Int32} {w : JW} (h : kOg D R n len w) : ∃ f x, jgm w false R f x = w := by
  obtain ⟨f, x, e⟩ := jgm_self w false
  refine ⟨f, x, ?_⟩
  rw [← jgm_congr (R := jrow w false) (S := R) (fun i hi => (h.2.2.2.1 i hi).symm)]
  exact e
theorem kOg.toF {D : JD} {R R2 : Nat → Int32} {n n2 : Nat} {len : Int32} {w : JW} (h : kOg D R n len w) (h2 : kRI n2 R2) (f : Nat → Int32) (x : Int32) : kOg D R2 n2 len (jgm w false R2 f x) :=
  ⟨jgm_org h.1, h.2.1, h.2.2.1, jgm_row, h2, by rw [jgm_k (by omega)]; exact h.2.2.2.2.2⟩
theorem kOg.toT {D : JD} {R : Nat → Int32} {n : Nat} {len : Int32} {w : JW} (h : kOg D R n len w) (S f : Nat → Int32) (x : Int32) : kOg D R n len (jgm w true S f x) := by
  refine ⟨jgm_org h.1, h.2.1, h.2.2.1, fun i hi => ?_, h.2.2.2.2.1, by rw [jgm_k (by omega)]; exact h.2.2.2.2.2⟩
  rw [jrow_cong (w := w) (fun k h1 h2 => jgm_b (by decide) (by omega) (by omega))]
  exact h.2.2.2.1 i hi
section
variable {D : JD} {R : Nat → Int32} {n : Nat} {len : Int32} {w : JW}
theorem kOg.four (h : kOg D R n len w) : D.1 1 = 4 := h.2.2.1.1.2.1
theorem kno {w : JW} (hO : jOrg w (w.2.2 0 6) D) (hW : jWF D) {p : Nat} (hp : p < D.1 1) : jF MX9_isNoPipe 0 [jR 0 false, jI (nI p)] w (jI 0) w := by
  have h := c_isNoPipe hO hW (nI p)
  have h12 := hW.1.2.1
  rw [if_pos ⟨nI_pos' (by omega), nI_lt hp (by omega)⟩] at h
  exact h
theorem k_count (h : kOg D R n len w) (y : Int32) (h0 : ¬ y < 0) (h1 : y < 14) : jSI MX9_count 8 [jR 0 false, jI y] w (fun r w2 => r = jCnt D R len y ∧ kOg D R n len w2) := by
  obtain ⟨f, x, e⟩ := h.gF
  rw [← e]
  refine jSI_of jp_X9_count rfl (Nat.le_of_ble_eq_true rfl) (fun C hm => ?_)
  refine bk_X9_count_0 hm (fun z => absurd z h0) (fun _ => bk_X9_count_4 hm (fun _ => jW_mono ?_ (c_count_ok (hm.less (by decide)) h.1 h.2.1 y)) (fun z => absurd h1 z))
  rintro v w2 ⟨rfl, rfl⟩
  exact ⟨_, rfl, by rw [h.2.2.2.2.2], h.toF h.2.2.2.2.1 f x⟩
theorem k_pipe (h : kOg D R n len w) {p : Nat} (hp : p < 4) (y : Int32) (h0 : ¬ y < 0) (h1 : y < 7) : jSI MX9_pipe 8 [jR 0 false, jI (nI p), jI y] w (fun r w2 => r = jPipe D R p y ∧ kOg D R n len w2) := by
  obtain ⟨f, x, e⟩ := h.gF
  have hp : p < D.1 1 := by rw [h.four]; exact hp
  have hk := h.toF h.2.2.2.2.1 f x
  rw [← e]
  refine jSI_of jp_X9_pipe rfl (Nat.le_of_ble_eq_true rfl) (fun C hm => ?_)
  refine bk_X9_pipe_0 hm (kno hk.1 h.2.1 hp) (by decide) (bk_X9_pipe_5 hm (fun z => absurd rfl z) (fun _ => bk_X9_pipe_8 hm (fun z => absurd z h0) (fun _ => bk_X9_pipe_12 hm (fun _ => jW_mono ?_ (c_pipe_ok (hm.less (by decide)) h.1 h.2.1 hp y)) (fun z => absurd h1 z))))
  rintro v w2 ⟨rfl, rfl⟩
  exact ⟨_, rfl, rfl, hk⟩
theorem k_cave (h : kOg D R n len w) {c : Nat} (hc : c < 2) (y : Int32) (h0 : ¬ y < 0) (h1 : y < 5) : jSI MX9_cave 8 [jR 0 false, jI (nI c), jI y] w (fun r w2 => r = jCave D R c y ∧ kOg D R n len w2) := by
  obtain ⟨f, x, e⟩ := h.gF
  have hc2 : c < D.1 0 := by rw [h.2.2.1.1.1]; exact hc
  have hk := h.toF h.2.2.2.2.1 f x
  have e9 : (jgm w false R f x).1 20 ((jgm w false R f x).2.2 0 6) 9 = nI (D.1 0) := hk.1.1.1
  have e0 := h.2.2.1.1.1
  rw [← e]
  refine jSI_of jp_X9_cave rfl (Nat.le_of_ble_eq_true rfl) (fun C hm => ?_)
  refine bk_X9_cave_0 hm (fun z => absurd z (nI_pos (by omega))) (fun _ => bk_X9_cave_4 hm (fun z => absurd ((nI_leI (a := D.1 0) (b := c) (by omega) (by omega)).mp (by rw [← e9]; exact z)) (by omega)) (fun _ => bk_X9_cave_15 hm (fun z => absurd z h0) (fun _ => bk_X9_cave_19 hm (fun _ => jW_mono ?_ (c_cave_ok (hm.less (by decide)) h.1 h.2.1 hc2 y)) (fun z => absurd h1 z))))
  rintro v w2 ⟨r, rfl, rfl, f2, x2, rfl⟩
  exact ⟨_, rfl, rfl, h.toF h.2.2.2.2.1 f2 x2⟩
theorem k_chord (h : kOg D R n len w) {c : Nat} (hc : c < 2) (y : Int32) (h0 : ¬ y < 0) (h1 : y < 4) : jSI MX9_chord 8 [jR 0 false, jI (nI c), jI y] w (fun r w2 => r = jChd D R c y ∧ kOg D R n len w2) := by
  obtain ⟨f, x, e⟩ := h.gF
  have hc2 : c < D.1 2 := by rw [h.2.2.1.1.2.2.1]; exact hc
  have hk := h.toF h.2.2.2.2.1 f x
  have e9 : (jgm w false R f x).1 20 ((jgm w false R f x).2.2 0 6) 11 = nI (D.1 2) := hk.1.1.2.2.1
  have e0 := h.2.2.1.1.2.2.1
  rw [← e]
  refine jSI_of jp_X9_chord rfl (Nat.le_of_ble_eq_true rfl) (fun C hm => ?_)
  refine bk_X9_chord_0 hm (fun z => absurd z (nI_pos (by omega))) (fun _ => bk_X9_chord_4 hm (fun z => absurd ((nI_leI (a := D.1 2) (b := c) (by omega) (by omega)).mp (by rw [← e9]; exact z)) (by omega)) (fun _ => bk_X9_chord_15 hm (fun z => absurd z h0) (fun _ => bk_X9_chord_19 hm (fun _ => jW_mono ?_ (c_chord_ok (hm.less (by decide)) h.1 h.2.1 hc2 y)) (fun z => absurd h1 z))))
  rintro v w2 ⟨rfl, rfl⟩
  exact ⟨_, rfl, rfl, hk⟩
theorem k_note (h : kOg D R n len w) {c q : Nat} (hc : c < 2) (hq : q < D.1 (10 + c)) : jSI MX9_note 8 [jR 0 false, jI (nI c), jI (nI q)] w (fun r w2 => r = nI (D.1 (20 + (6 * c + q))) ∧ kOg D R n len w2) := by
  have hc2 : c < D.1 2 := by rw [h.2.2.1.1.2.2.1]; exact hc
  have e9 : w.1 20 (w.2.2 0 6) 11 = nI (D.1 2) := h.1.1.2.2.1
  have e0 := h.2.2.1.1.2.2.1
  have h6 := (h.2.1.2.2.2.1 c hc2).2.1
  refine jSI_of jp_X9_note rfl (Nat.le_of_ble_eq_true rfl) (fun C hm => ?_)
  refine bk_X9_note_0 hm (fun z => absurd z (nI_pos (by omega))) (fun _ => bk_X9_note_4 hm (fun z => absurd ((nI_leI (a := D.1 2) (b := c) (by omega) (by omega)).mp (by rw [← e9]; exact z)) (by omega)) (fun _ => bk_X9_note_15 hm (fun z => absurd z (nI_pos (by omega))) (fun _ => bk_X9_note_19 hm (c_sizeOf w _ (c := c) (by omega)) (by decide) ?_)))
  rw [(h.1.2.2.2.1 c hc2).1]
  refine bk_X9_note_28 hm (fun _ => jW_mono ?_ (c_note_ok (hm.less (by decide)) h.1 h.2.1 hc2 hq)) (fun z => absurd (nI_lt hq (by omega)) z)
  rintro v w2 ⟨rfl, rfl⟩
  exact ⟨_, rfl, rfl, h⟩
theorem k_apart (h : kOg D R n len w) {p q : Nat} (hp : p < 4) (hq : q < 4) : jSI MX9_apart 8 [jR 0 false, jI (nI p), jI (nI q)] w (fun r w2 => r = nI (jEu 40 (D.1 (140 + p)) (D.1 (140 + q))) ∧ kOg D R n len w2) := by
  have hp2 : p < D.1 1 := by rw [h.four]; exact hp
  have hq2 : q < D.1 1 := by rw [h.four]; exact hq
  refine jSI_of jp_X9_apart rfl (Nat.le_of_ble_eq_true rfl) (fun C hm => ?_)
  refine bk_X9_apart_0 hm (kno h.1 h.2.1 hp2) (by decide) (bk_X9_apart_5 hm (fun z => absurd rfl z) (fun _ => bk_X9_apart_8 hm (kno h.1 h.2.1 hq2) (by decide) (bk_X9_apart_13 hm (fun _ => jW_mono ?_ (c_apart_ok (hm.less (by decide)) h.1 h.2.1 hp2 hq2)) (fun z => absurd rfl z))))
  rintro v w2 ⟨rfl, rfl⟩
  exact ⟨_, rfl, rfl, h⟩
theorem k_digest (h : kOg D R n len w) : jSL MX9_digest 6 [jR 0 false] w (fun r w2 => r = jDig D R len ∧ kOg D R n len w2) := by
  obtain ⟨f, x, e⟩ := h.gF
  rw [← e]
  refine (c_cdigest h.1 h.2.1).mono (fun v w2 q => ?_)
  obtain ⟨r, rfl, rfl, f2, x2, rfl⟩ := q
  exact ⟨_, rfl, by rw [h.2.2.2.2.2], h.toF h.2.2.2.2.1 f2 x2⟩
theorem k_foresee (h : kOg D R n len w) : jSI MX9_foresee 8 [jR 0 false, jI 3, jI 3] w (fun r w2 => r = jSlt D (jHours D 3 R) ∧ kOg D R n len w2) := by
  obtain ⟨f, x, e⟩ := jgm_self w true
  rw [← e]
  refine jSI_of jp_X9_foresee rfl (Nat.le_of_ble_eq_true rfl) (fun C hm => ?_)
  refine bk_X9_foresee_0 hm (fun z => absurd z (by decide)) (fun _ => bk_X9_foresee_5 hm (fun _ => bk_X9_foresee_21 hm (fun z => absurd z (by decide)) (fun _ => bk_X9_foresee_25 hm (fun _ => jW_mono ?_ (c_foresee_ok (n := 3) (hm.less (by decide)) h.1 h.2.1 h.2.2.2.1 (by omega) 3)) (fun z => absurd (by decide) z))) (fun z => absurd (by decide) z))
  rintro v w2 ⟨r, rfl, rfl, S, f2, x2, rfl⟩
  exact ⟨_, rfl, rfl, h.toT S f2 x2⟩
theorem k_until (h : kOg D R n len w) {p : Nat} (hp : p < 4) : jSI MX9_until 8 [jR 0 false, jI (nI p)] w (fun r w2 => r = jUnt D R p 151 0 ∧ kOg D R n len w2) := by
  obtain ⟨f, x, e⟩ := jgm_self w true
  have hp2 : p < D.1 1 := by rw [h.four]; exact hp
  have hk := h.toT (jrow w true) f x
  rw [← e]
  refine jSI_of jp_X9_until rfl (Nat.le_of_ble_eq_true rfl) (fun C hm => ?_)
  refine bk_X9_until_0 hm (kno hk.1 h.2.1 hp2) (by decide) (bk_X9_until_5 hm (fun _ => jW_mono ?_ (c_until_ok (hm.less (by decide)) h.1 h.2.1 h.2.2.2.1 hp2)) (fun z => absurd rfl z))
  rintro v w2 ⟨r, rfl, rfl, S, f2, x2, rfl⟩
  exact ⟨_, rfl, rfl, h.toT S f2 x2⟩
theorem k_advise (h : kOg D R n len w) (hn : n ≤ 1000) : jSI MX9_advise 8 [jR 0 false, jI 4] w (fun r w2 => (∃ j : Nat, j ≤ 9 ∧ r = nI j) ∧ kOg D R n len w2) := by
  obtain ⟨f, x, e⟩ := jgm_self w true
  have ha : ∃ j : Nat, j ≤ 9 ∧ (jAdvise D R 4 10).1 = nI j := (jAdvise_low (n := 4) h.2.1 h.2.2.2.2.1.low 9 (by omega)).1
  obtain ⟨j, hj, ej⟩ := ha
  rw [← e]
  refine jSI_of jp_X9_advise rfl (Nat.le_of_ble_eq_true rfl) (fun C hm => ?_)
  refine bk_X9_advise_0 hm (fun z => absurd z (by decide)) (fun _ => bk_X9_advise_5 hm (fun _ => jW_mono ?_ (c_advise_ok (n := 4) (hm.less (by decide)) h.1 h.2.1 h.2.2.2.1 h.2.2.2.2.1.low (by omega) (by omega))) (fun z => absurd (by decide) z))
  rintro v w2 ⟨r, rfl, e2, S, f2, x2, rfl⟩
  exact ⟨_, rfl, ⟨j, hj, e2.trans ej⟩, h.toT S f2 x2⟩
theorem k_best (h : kOg D R n len w) : jSI MX9_best 8 [jR 0 false, jI 4] w (fun r w2 => (r = -1 ∨ ∃ j : Nat, j < 4 ∧ r = nI j) ∧ kOg D R n len w2) := by
  obtain ⟨f, x, e⟩ := jgm_self w true
  rw [← e]
  refine jSI_of jp_X9_best rfl (Nat.le_of_ble_eq_true rfl) (fun C hm => ?_)
  refine bk_X9_best_0 hm (fun z => absurd z (by decide)) (fun _ => bk_X9_best_5 hm (fun _ => jW_mono ?_ (c_best_ok (n := 4) (hm.less (by decide)) h.1 h.2.1 h.2.2.2.1 (by omega))) (fun z => absurd (by decide) z))
  rintro v w2 ⟨r, rfl, rfl, S, f2, x2, rfl⟩
  refine ⟨_, rfl, ?_, h.toT S f2 x2⟩
  rw [h.four]
  exact kBest D R 4 4
theorem k_setTide (h : kOg D R n len w) {t : Nat} (ht : t ≤ 9) : jSI MX9_setTide 8 [jR 0 false, jI (nI t)] w (fun _ w2 => kOg D (upd R 1 (nI t)) n len w2) := by
  obtain ⟨f, x, e⟩ := h.gF
  rw [← e]
  refine jSI_of jp_X9_setTide rfl (Nat.le_of_ble_eq_true rfl) (fun C hm => ?_)
  refine bk_X9_setTide_0 hm (fun z => absurd z (nI_pos (by omega))) (fun _ => bk_X9_setTide_4 hm (fun _ => jW_mono ?_ (c_setTide_ok hm)) (fun z => absurd (nI_le (b := 9) ht (by omega)) z))
  rintro v w2 ⟨rfl, rfl⟩
  refine ⟨_, rfl, ?_⟩
  rw [jgm_set (jpos_14 (i := 1) (by omega))]
  exact h.toF (h.2.2.2.2.1.tide ht) f x
theorem k_clean (h : kOg D R n len w) {p : Nat} (hp : p < 4) : jSI MX9_clean 8 [jR 0 false, jI (nI p)] w (fun _ w2 => kOg D (upd R (9 + p) 0) n len w2) := by
  obtain ⟨f, x, e⟩ := h.gF
  have hp2 : p < D.1 1 := by rw [h.four]; exact hp
  have hk := h.toF h.2.2.2.2.1 f x
  rw [← e]
  refine jSI_of jp_X9_clean rfl (Nat.le_of_ble_eq_true rfl) (fun C hm => ?_)
  refine bk_X9_clean_0 hm (kno hk.1 h.2.1 hp2) (by decide) (bk_X9_clean_5 hm (fun _ => jW_mono ?_ (c_clean_ok (hm.less (by decide)) (p := p) (by omega))) (fun z => absurd rfl z))
  rintro v w2 ⟨rfl, rfl⟩
  refine ⟨_, rfl, ?_⟩
  rw [jgm_set (jpos_16 (i := p) (by omega))]
  exact h.toF (h.2.2.2.2.1.clean hp) f x
theorem k_cut (h : kOg D R n len w) {p : Nat} (hp : p < 4) (hv : 2 ≤ D.1 (140 + p)) : jSI MX9_cut 8 [jR 0 false, jI (nI p), jI 1] w (fun _ w2 => ∃ D2, kOg D2 R n len w2) := by
  have hp2 : p < D.1 1 := by rw [h.four]; exact hp
  have h40 := (h.2.2.1.2.2.2.1 p hp).2
  refine jSI_of jp_X9_cut rfl (Nat.le_of_ble_eq_true rfl) (fun C hm => ?_)
  refine bk_X9_cut_0 hm (kno h.1 h.2.1 hp2) (by decide) (bk_X9_cut_5 hm (fun _ => bk_X9_cut_18 hm (c_atN (ja_24 _) w (by omega)) (by decide) ?_) (fun z => absurd rfl z))
  rw [(h.1.2.2.1 p hp2).2.1]
  refine bk_X9_cut_29 hm (fun z => absurd z (by decide)) (fun _ => bk_X9_cut_35 hm (fun _ => jW_mono ?_ (c_cut_ok (hm.less (by decide)) (p := p) (by omega) 1 _)) (fun z => absurd (nI_lt (a := 1) (by omega) (by omega)) z))
  rintro v w2 ⟨rfl, rfl⟩
  refine ⟨_, rfl, jCutD D p (D.1 (140 + p) - 1), ?_⟩
  rw [show nI (D.1 (140 + p)) - 1 = nI (D.1 (140 + p) - 1) from pk_sub (b := 1) (by omega)]
  refine ⟨h.1.cut h.2.1 hp2, jCutD_WF h.2.1 (by omega) (by omega), h.2.2.1.cut hp (by omega) (by omega), fun i hi => ?_, h.2.2.2.2.1, by rw [jset_k (by omega)]; exact h.2.2.2.2.2⟩
  rw [jrow_cong (w := w) (fun k h1 h2 => jset_k (by omega))]
  exact h.2.2.2.1 i hi
theorem k_pass (h : kOg D R n len w) : jSI MX9_pass 8 [jR 0 false, jI 3] w (fun r w2 => r = jHours D 3 R 2 - R 2 ∧ kOg D (jHours D 3 R) (n + 3) len w2) := by
  obtain ⟨f, x, e⟩ := h.gF
  rw [← e]
  refine jSI_of jp_X9_pass rfl (Nat.le_of_ble_eq_true rfl) (fun C hm => ?_)
  refine bk_X9_pass_0 hm (fun z => absurd z (by decide)) (fun _ => bk_X9_pass_5 hm (fun _ => ?_) (fun z => absurd (by decide) z))
  refine bq_X9_pass_21 hm (c_run (n := 3) h.1 h.2.1 R f x (by omega)) (by decide) (fun w2 hp => ?_)
  obtain ⟨f2, x2, rfl⟩ := hp
  refine bk_X9_pass_45 hm ⟨_, rfl, ?_, h.toF (kHours h.2.2.1 h.2.1 h.2.2.2.2.1 3).1 f2 x2⟩
  rw [jgm_heard, jgm_heard]
end
