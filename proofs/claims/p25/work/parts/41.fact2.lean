/-! what the class tells of a cave, a pipe, a chord -/
theorem c_caveFact {w : JW} {D : JD} {R f : Nat → Int32} {x : Int32} (hO : jOrg w (w.2.2 0 6) D) (hW : jWF D) {c : Nat} (hc : c < D.1 0) (y : Int32) : jSI MX9_caveFact 5 [jR 0 false, jI (nI c), jI y] (jgm w false R f x) (fun r w2 => r = jCave D R c y ∧ ∃ f x, w2 = jgm w false R f x) := by
  refine jSI_of jp_X9_caveFact rfl (Nat.le_of_ble_eq_true rfl) (fun C hm => ?_)
  have hG := jgm_org (t := false) (R := R) (f := f) (x := x) hO
  have h5 := hW.1.1
  have h12 := hW.1.2.1
  obtain ⟨b1, b2⟩ := hG.2.1 c hc
  refine bk_X9_caveFact_0 hm ?_ ?_ ?_ ?_ ?_
  · intro h; subst h; exact bk_X9_caveFact_32 hm (c_atN (ja_21 _) _ (by omega)) (by decide) (bk_X9_caveFact_43 hm ⟨_, rfl, b1, _, _, rfl⟩)
  · intro h; subst h; exact bk_X9_caveFact_44 hm (c_atN (ja_22 _) _ (by omega)) (by decide) (bk_X9_caveFact_55 hm ⟨_, rfl, b2, _, _, rfl⟩)
  · intro h; subst h; exact bk_X9_caveFact_56 hm (c_atN (ja_15 _) _ (by omega)) (by decide) (bk_X9_caveFact_67 hm ⟨_, rfl, jgm_p (jpos_15 (i := c) (by omega)), _, _, rfl⟩)
  · intro h; subst h
    refine bk_X9_caveFact_68 hm (c_pipesIn _ _ (nI c) hG.1.2.1 (by omega)) (by decide) (bk_X9_caveFact_76 hm ⟨_, rfl, ?_, _, _, rfl⟩)
    refine congrArg nI (jct_cong (fun p hp => ?_))
    have hd := (hW.2.2.1 p hp).1
    rw [show (jgm w false R f x).1 23 ((jgm w false R f x).2.2 0 6) p = nI (D.1 (100 + p)) from (hG.2.2.1 p hp).1]
    exact decide_eq_decide.mpr (nI_eq (by omega) (by omega))
  · intro n0 n1 n2 n3
    have e : jCave D R c y = if jShut D R c then 1 else 0 := by
      unfold jCave
      rw [if_neg n0, if_neg n1, if_neg n2, if_neg n3]
    rw [e]
    refine bq_X9_caveFact_77 hm (c_isShut hO hW R f x hc) (by decide) (fun r w2 hp => ?_)
    obtain ⟨rfl, f2, x2, rfl⟩ := hp
    refine bk_X9_caveFact_93 hm (fun z => bk_X9_caveFact_100 hm (bk_X9_caveFact_101 hm ⟨_, rfl, ?_, _, _, rfl⟩)) (fun z => bk_X9_caveFact_96 hm (bk_X9_caveFact_101 hm ⟨_, rfl, ?_, _, _, rfl⟩)) <;> rw [ite_ne0] at z
    · rw [if_neg z]
    · rw [if_pos (Classical.not_not.mp z)]
theorem c_pipeFact {w : JW} {D : JD} {R f : Nat → Int32} {x : Int32} (hO : jOrg w (w.2.2 0 6) D) (hW : jWF D) {p : Nat} (hp : p < D.1 1) (y : Int32) : jF MX9_pipeFact 2 [jR 0 false, jI (nI p), jI y] (jgm w false R f x) (jI (jPipe D R p y)) (jgm w false R f x) := by
  refine jF_of jp_X9_pipeFact rfl (Nat.le_of_ble_eq_true rfl) (fun C hm => ?_)
  have hG := jgm_org (t := false) (R := R) (f := f) (x := x) hO
  have h12 := hW.1.2.1
  obtain ⟨b1, b2, b3⟩ := hG.2.2.1 p hp
  refine bk_X9_pipeFact_0 hm ?_ ?_ ?_ ?_ ?_ ?_ ?_
  · intro h; subst h; exact bk_X9_pipeFact_40 hm (c_atN (ja_23 _) _ (by omega)) (by decide) (bk_X9_pipeFact_51 hm ⟨congrArg jI b1, rfl⟩)
  · intro h; subst h; exact bk_X9_pipeFact_52 hm (c_atN (ja_24 _) _ (by omega)) (by decide) (bk_X9_pipeFact_63 hm ⟨congrArg jI b2, rfl⟩)
  · intro h; subst h; exact bk_X9_pipeFact_64 hm (c_atN (ja_25 _) _ (by omega)) (by decide) (bk_X9_pipeFact_75 hm ⟨congrArg jI b3, rfl⟩)
  · intro h; subst h; exact bk_X9_pipeFact_76 hm (c_atN (ja_16 _) _ (by omega)) (by decide) (bk_X9_pipeFact_87 hm ⟨congrArg jI (jgm_p (jpos_16 (i := p) (by omega))), rfl⟩)
  · intro h; subst h
    refine bk_X9_pipeFact_88 hm (c_atN (ja_16 _) _ (by omega)) (by decide) (bk_X9_pipeFact_104 hm (c_needD hG hW hp _) (by decide) (bk_X9_pipeFact_107 hm ⟨congrArg jI ?_, rfl⟩))
    rw [jgm_p (jpos_16 (i := p) (by omega))]
    rfl
  · intro h; subst h; exact bk_X9_pipeFact_108 hm (c_atN (ja_17 _) _ (by omega)) (by decide) (bk_X9_pipeFact_119 hm ⟨congrArg jI (jgm_p (jpos_17 (i := p) (by omega))), rfl⟩)
  · intro n0 n1 n2 n3 n4 n5
    refine bk_X9_pipeFact_120 hm (c_atN (ja_18 _) _ (by omega)) (by decide) (bk_X9_pipeFact_131 hm ⟨congrArg jI ?_, rfl⟩)
    unfold jPipe
    rw [if_neg n0, if_neg n1, if_neg n2, if_neg n3, if_neg n4, if_neg n5]
    exact jgm_p (jpos_18 (i := p) (by omega))
def jMaxL0 (D : JD) (c : Nat) : Nat → Int32
  | 0 => 0
  | n + 1 => if jMaxL0 D c n < nI (D.1 (140 + D.1 (20 + (6 * c + n)))) then nI (D.1 (140 + D.1 (20 + (6 * c + n)))) else jMaxL0 D c n
theorem jMaxL0_eq {D : JD} {c n : Nat} (hn : 1 ≤ n) (h : ∀ i, i < n → 1 ≤ D.1 (140 + D.1 (20 + (6 * c + i))) ∧ D.1 (140 + D.1 (20 + (6 * c + i))) ≤ 40) : jMaxL0 D c n = jMaxL D c n := by
  induction n with
  | zero => omega
  | succ n ih =>
    cases n with
    | zero =>
      obtain ⟨h1, h2⟩ := h 0 (by omega)
      show (if (0 : Int32) < nI _ then nI _ else 0) = if (1 : Int32) < nI _ then nI _ else 1
      generalize D.1 (140 + D.1 (20 + (6 * c + 0))) = a at h1 h2 ⊢
      rw [if_pos (show (0 : Int32) < nI a from nI_lt (a := 0) (by omega) (by omega))]
      by_cases e : a = 1
      · subst e; rfl
      · rw [if_pos (show (1 : Int32) < nI a from nI_lt (a := 1) (by omega) (by omega))]
    | succ m =>
      rw [jMaxL0, jMaxL, ih (by omega) (fun i hi => h i (by omega))]
theorem c_spanOf {w : JW} {o : Bool} {D : JD} (hG : jOrg w o D) (hW : jWF D) {c : Nat} (hc : c < D.1 2) : jF MX3_spanOf 2 [jR 20 o, jI (nI c)] w (jI (jWide D c)) w := by
  refine jF_of jp_X3_spanOf rfl (Nat.le_of_ble_eq_true rfl) (fun C hm => ?_)
  have h6 := hW.1.2.2.1
  have h12 := hW.1.2.1
  obtain ⟨b1, b2⟩ := hG.2.2.2.1 c hc
  obtain ⟨s1, s6, hq⟩ := hW.2.2.2.1 c hc
  refine bk_X3_spanOf_0 hm (c_sizeOf w o (by omega)) (by decide) (bk_X3_spanOf_10 hm ?_)
  have e : jWide D c = jMaxL0 D c (D.1 (10 + c)) - jMinL D c (D.1 (10 + c)) := by
    unfold jWide
    rw [jMaxL0_eq s1 (fun i hi => ⟨(hW.2.2.1 _ (hq i hi)).2.1, (hW.2.2.1 _ (hq i hi)).2.2⟩)]
  rw [b1, e]
  refine jfor (P := fun i => i ≤ D.1 (10 + c) → jW C 0 0 _ 15 [jR 20 o, jI (nI c), jI (jMinL D c i), jI (jMaxL0 D c i), jI (nI (D.1 (10 + c))), jI (nI i), jU] [] w) (D.1 (10 + c)) ?_ ?_ (Nat.zero_le _)
  · exact fun _ => bk_X3_spanOf_15 hm (fun _ => bk_X3_spanOf_58 hm ⟨rfl, rfl⟩) (fun z => absurd ((nI_leI (by omega) (by omega)).mpr (Nat.le_refl _)) z)
  · intro i hi ih _
    refine bk_X3_spanOf_15 hm (fun z => absurd ((nI_leI (a := D.1 (10 + c)) (b := i) (by omega) (by omega)).mp z) (by omega)) (fun _ => ?_)
    have ih2 := ih (by omega)
    rw [jMinL, jMaxL0] at ih2
    have n2 := hq i hi
    refine bk_X3_spanOf_22 hm (c_noteAt w o (c := c) (p := i) (by omega) (by omega)) (by decide) (bk_X3_spanOf_33 hm (by rw [b2 i hi]; exact c_atN (ja_24 o) w (by omega)) (by decide) (bk_X3_spanOf_36 hm (by decide) ?_))
    rw [(hG.2.2.1 _ n2).2.1, nI_1]
    exact ih2
theorem c_chordFact {w : JW} {D : JD} {R f : Nat → Int32} {x : Int32} (hO : jOrg w (w.2.2 0 6) D) (hW : jWF D) {c : Nat} (hc : c < D.1 2) (y : Int32) : jF MX9_chordFact 3 [jR 0 false, jI (nI c), jI y] (jgm w false R f x) (jI (jChd D R c y)) (jgm w false R f x) := by
  refine jF_of jp_X9_chordFact rfl (Nat.le_of_ble_eq_true rfl) (fun C hm => ?_)
  have hG := jgm_org (t := false) (R := R) (f := f) (x := x) hO
  have h6 := hW.1.2.2.1
  refine bk_X9_chordFact_0 hm ?_ ?_ ?_ ?_
  · intro h; subst h; exact bk_X9_chordFact_28 hm (c_sizeOf _ _ (by omega)) (by decide) (bk_X9_chordFact_36 hm ⟨congrArg jI (hG.2.2.2.1 c hc).1, rfl⟩)
  · intro h; subst h
    refine bk_X9_chordFact_37 hm (c_ringsD hG hW jgm_17 hc) (by decide) (bk_X9_chordFact_49 hm (fun z => bk_X9_chordFact_56 hm (bk_X9_chordFact_57 hm ⟨?_, rfl⟩)) (fun z => bk_X9_chordFact_52 hm (bk_X9_chordFact_57 hm ⟨?_, rfl⟩))) <;> rw [ite_ne0] at z
    · exact congrArg jI (if_neg z).symm
    · exact congrArg jI (if_pos (Classical.not_not.mp z)).symm
  · intro h; subst h; exact bk_X9_chordFact_58 hm (c_spanOf hG hW hc) (by decide) (bk_X9_chordFact_66 hm ⟨rfl, rfl⟩)
  · intro n0 n1 n2
    refine bk_X9_chordFact_67 hm (c_atN (ja_19 _) _ (by omega)) (by decide) (bk_X9_chordFact_78 hm ⟨congrArg jI ?_, rfl⟩)
    unfold jChd
    rw [if_neg n0, if_neg n1, if_neg n2]
    exact jgm_p (jpos_19 (i := c) (by omega))
theorem c_digestChord {w : JW} {D : JD} {R f : Nat → Int32} {x : Int32} (hO : jOrg w (w.2.2 0 6) D) (hW : jWF D) {c : Nat} (hc : c < D.1 2) (y : Int64) : jF MX9_digestChord 4 [jR 0 false, jL y, jI (nI c)] (jgm w false R f x) (jL (jDigC D R c y)) (jgm w false R f x) := by
  refine jF_of jp_X9_digestChord rfl (Nat.le_of_ble_eq_true rfl) (fun C hm => ?_)
  have hG := jgm_org (t := false) (R := R) (f := f) (x := x) hO
  have h6 := hW.1.2.2.1
  have h12 := hW.1.2.1
  obtain ⟨b1, b2⟩ := hG.2.2.2.1 c hc
  obtain ⟨s1, s6, hq⟩ := hW.2.2.2.1 c hc
  refine bk_X9_digestChord_0 hm ?_
  unfold jDigC
  have notes : ∀ y2 : Int64, jW C 0 0 (jQQ C 0 0 (fun v w' => v = jL (jFold (fun i => nI (D.1 (20 + (6 * c + i)))) y2 (D.1 (10 + c))) ∧ w' = jgm w false R f x)) 35 [jR 0 false, jU, jU, jI (nI c), jL y2, jU, jU, jU] [] (jgm w false R f x) := by
    intro y2
    refine bk_X9_digestChord_35 hm (c_sizeOf _ _ (by omega)) (by decide) (bk_X9_digestChord_43 hm ?_)
    rw [show (jgm w false R f x).1 26 ((jgm w false R f x).2.2 0 6) c = nI (D.1 (10 + c)) from b1]
    refine jfor (P := fun i => i ≤ D.1 (10 + c) → jW C 0 0 _ 48 [jR 0 false, jU, jU, jI (nI c), jL (jFold (fun i => nI (D.1 (20 + (6 * c + i)))) y2 i), jU, jI (nI (D.1 (10 + c))), jI (nI i)] [] (jgm w false R f x)) (D.1 (10 + c)) ?_ ?_ (Nat.zero_le _)
    · exact fun _ => bk_X9_digestChord_48 hm (fun _ => bk_X9_digestChord_81 hm ⟨rfl, rfl⟩) (fun z => absurd ((nI_leI (by omega) (by omega)).mpr (Nat.le_refl _)) z)
    · intro i hi ih _
      refine bk_X9_digestChord_48 hm (fun z => absurd ((nI_leI (a := D.1 (10 + c)) (b := i) (by omega) (by omega)).mp z) (by omega)) (fun _ => ?_)
      refine bk_X9_digestChord_55 hm (c_noteAt _ _ (c := c) (p := i) (by omega) (by omega)) (by decide) (bk_X9_digestChord_71 hm ?_)
      rw [show (jgm w false R f x).1 27 ((jgm w false R f x).2.2 0 6) (6 * c + i) = nI (D.1 (20 + (6 * c + i))) from b2 i hi, nI_1]
      exact ih (by omega)
  refine jfor (P := fun i => i ≤ 4 → jW C 0 0 _ 6 [jR 0 false, jU, jU, jI (nI c), jL (jFold (fun i => jChd D R c (nI i)) y i), jU, jI (nI i), jU] [] (jgm w false R f x)) 4 ?_ ?_ (Nat.zero_le _)
  · exact fun _ => bk_X9_digestChord_6 hm (fun _ => notes _) (fun z => absurd (by decide) z)
  · intro i hi ih _
    refine bk_X9_digestChord_6 hm (fun z => absurd ((nI_leI (a := 4) (b := i) (by omega) (by omega)).mp z) (by omega)) (fun _ => ?_)
    refine bk_X9_digestChord_12 hm (c_chordFact hO hW hc (nI i)) (by decide) (bk_X9_digestChord_25 hm ?_)
    rw [nI_1]
    exact ih (by omega)
