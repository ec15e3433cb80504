
/-! THE ORGAN that the list tells -/
/-- what is known of it -/
def kFD (D : JD) : Prop :=
  (D.1 0 = 2 ∧ D.1 1 = 4 ∧ D.1 2 = 2 ∧ D.1 3 = 2 ∧ D.1 10 = 2 ∧ D.1 11 = 3) ∧ (D.1 20 = 0 ∧ D.1 21 = 1 ∧ D.1 26 = 1 ∧ D.1 27 = 2 ∧ D.1 28 = 3) ∧
  (∀ p, p < 4 → D.1 (100 + p) = p / 2) ∧ (∀ p, p < 4 → 1 ≤ D.1 (140 + p) ∧ D.1 (140 + p) ≤ 40) ∧ (∀ p, p < 4 → D.2.1 4 p = 0 ∨ D.2.1 4 p = 1) ∧
  (∀ c, c < 2 → ∃ m d : Nat, D.2.1 0 c = nI m ∧ 1 ≤ m ∧ m ≤ 9 ∧ D.2.1 1 c = nI d ∧ 1 ≤ d ∧ d ≤ 5) ∧ (∀ j, j < 2 → ∃ h : Nat, D.2.1 7 j = nI h ∧ h ≤ 30)
theorem sPipe {x y l : Nat} {r : Bool} : kSg (ePipe x y l r) = true := by
  unfold ePipe
  cases r <;> rfl
theorem kEs_sg (xs : JS0) : kSg (kEs xs) = true := by
  refine kSg_app rfl (kSg_app rfl (kSg_app sPipe (kSg_app sPipe (kSg_app sPipe (kSg_app sPipe (kSg_app rfl (kSg_app rfl (kSg_app rfl (kSg_app rfl (kSg_app rfl (kSg_app rfl (kSg_app rfl (kSg_app rfl rfl)))))))))))))
theorem lPipe {x y l : Nat} {r : Bool} : (ePipe x y l r).length ≤ 8 := by
  unfold ePipe
  cases r <;> exact Nat.le_of_ble_eq_true rfl
theorem kEs_len (xs : JS0) : (kEs xs).length < 400 := by
  have h : ∀ p, (kPp xs p).length ≤ 8 := fun p => lPipe
  unfold kEs
  simp only [List.length_append]
  have e1 : ∀ b c m d, (eCave b c m d).length = 7 := fun _ _ _ _ => rfl
  have e2 : ∀ p, (kSw xs p).length = 8 := fun _ => rfl
  have e3 : (eSil (nQf xs) (nQt xs)).length = 6 := rfl
  have e4 : eChX.length = 6 ∧ eChY.length = 7 ∧ eSh2.length = 14 ∧ eCl2.length = 7 := ⟨rfl, rfl, rfl, rfl⟩
  have e5 : (eSh1 (nMi xs)).length = 8 ∧ (eCl1 (nMs xs)).length = 8 := ⟨rfl, rfl⟩
  have h0 := h 0
  have h1 := h 1
  have h2 := h 2
  have h3 := h 3
  rw [e1, e1, e2, e2, e3, e4.1, e4.2.1, e4.2.2.1, e4.2.2.2, e5.1, e5.2]
  omega
/-- the organ, but for its orders' tests -/
def kL8 (xs : JS0) (c0 c1 t0 t1 t2 t3 : Nat) : JLn := jaSwell (jaSwell (jaPipe (jaPipe (jaPipe (jaPipe (jaCave (jaCave jL0 c0 (nI (nMo xs 0)) (nI (nDe xs 0))) c1 (nI (nMo xs 1)) (nI (nDe xs 1))) t0 0 (nLo xs 0) (if decide (nRe xs 0 = 1) = true then 1 else 0)) t1 0 (nLo xs 1) (if decide (nRe xs 1 = 1) = true then 1 else 0)) t2 1 (nLo xs 2) (if decide (nRe xs 2 = 1) = true then 1 else 0)) t3 1 (nLo xs 3) (if decide (nRe xs 3 = 1) = true then 1 else 0)) (nI (nHi xs 0)) (nI (nEv xs 0)) (nI (nFr xs 0))) (nI (nHi xs 1)) (nI (nEv xs 1)) (nI (nFr xs 1))
def kLz (xs : JS0) (c0 c1 t0 t1 t2 t3 t4 t5 : Nat) (f1 f2 f3 f4 : (Nat → Int32) → Bool) : JLn := jaOrd (jaOrd (jaOrd (jaOrd (jaChord (jaChord (jaSil (kL8 xs c0 c1 t0 t1 t2 t3) (nI (nQf xs)) (nI (nQt xs))) t4 2 kCx) t5 3 kCy) 15 0 f1) 15 1 f2) 16 1 f3) 16 3 f4
set_option maxRecDepth 20000 in
theorem kLz_FD (xs : JS0) (c0 c1 t0 t1 t2 t3 t4 t5 : Nat) (f1 f2 f3 f4 : (Nat → Int32) → Bool) : kFD (kLz xs c0 c1 t0 t1 t2 t3 t4 t5 f1 f2 f3 f4).1 := by
  obtain ⟨hk, -⟩ := nNum xs
  refine ⟨⟨rfl, rfl, rfl, rfl, rfl, rfl⟩, ⟨rfl, rfl, rfl, rfl, rfl⟩, fun p hp => ?_, fun p hp => ?_, fun p hp => ?_, fun c hc => ?_, fun j hj => ?_⟩
  · rcases (show p = 0 ∨ p = 1 ∨ p = 2 ∨ p = 3 by omega) with rfl | rfl | rfl | rfl <;> rfl
  · have h1 : 1 ≤ nLo xs p ∧ nLo xs p ≤ 40 := ⟨Nat.le_add_right 1 _, (hk p).2.2.1⟩
    have e : (kLz xs c0 c1 t0 t1 t2 t3 t4 t5 f1 f2 f3 f4).1.1 (140 + p) = nLo xs p := by
      rcases (show p = 0 ∨ p = 1 ∨ p = 2 ∨ p = 3 by omega) with rfl | rfl | rfl | rfl <;> rfl
    rw [e]
    exact h1
  · have e : (kLz xs c0 c1 t0 t1 t2 t3 t4 t5 f1 f2 f3 f4).1.2.1 4 p = if decide (nRe xs p = 1) = true then 1 else 0 := by
      rcases (show p = 0 ∨ p = 1 ∨ p = 2 ∨ p = 3 by omega) with rfl | rfl | rfl | rfl <;> rfl
    rw [e]
    split
    · exact Or.inr rfl
    · exact Or.inl rfl
  · refine ⟨nMo xs c, nDe xs c, ?_, Nat.le_add_right 1 _, (hk c).1, ?_, Nat.le_add_right 1 _, (hk c).2.1⟩
    · rcases (show c = 0 ∨ c = 1 by omega) with rfl | rfl <;> rfl
    · rcases (show c = 0 ∨ c = 1 by omega) with rfl | rfl <;> rfl
  · refine ⟨nHi xs j, ?_, (hk j).2.2.2.2.1⟩
    rcases (show j = 0 ∨ j = 1 by omega) with rfl | rfl <;> rfl
theorem kI0 {T : JTk} {cn : Nat → Nat} {N : Nat} : kInv T cn N jL0 [] [] [] := ⟨⟨rfl, rfl, rfl⟩, ⟨Nat.zero_le _, fun k h => absurd h (Nat.not_lt_zero k)⟩, ⟨Nat.zero_le _, fun k h => absurd h (Nat.not_lt_zero k)⟩, ⟨Nat.zero_le _, fun k h => absurd h (Nat.not_lt_zero k)⟩⟩
theorem kne {x : Nat} {l : List Nat} (h : (l.all (fun y => y != x)) = true) : ∀ y ∈ l, y ≠ x := by
  intro y hy e
  have := List.all_eq_true.mp h y hy
  subst e
  simp at this
set_option maxRecDepth 20000 in
theorem kTold (xs : JS0) (hl : (kList xs).length ≤ 2000) : ∃ L : JLn, jlAll (jTT (kS (kList xs) (kList xs).length)) 400 0 (0, 0) jL0 = .inr ((0, 0), L) ∧ kFD L.1 := by
  rw [kList_eq] at hl ⊢
  obtain ⟨cn, hH, hN, h47⟩ := kTT (kEs_ok xs) (kEs_sg xs) hl (kEs_len xs)
  generalize jTT (kS (kTx (kEs xs)) (kTx (kEs xs)).length) = T at hH hN h47 ⊢
  generalize hNN : (kEs xs).length = N at hH hN h47
  obtain ⟨hk, q1, q2, q3, q4⟩ := nNum xs
  unfold kEs at hH hNN
  obtain ⟨H0, hH⟩ := kHas_app hH
  obtain ⟨H1, hH⟩ := kHas_app hH
  obtain ⟨H2, hH⟩ := kHas_app hH
  obtain ⟨H3, hH⟩ := kHas_app hH
  obtain ⟨H4, hH⟩ := kHas_app hH
  obtain ⟨H5, hH⟩ := kHas_app hH
  obtain ⟨H6, hH⟩ := kHas_app hH
  obtain ⟨H7, hH⟩ := kHas_app hH
  obtain ⟨H8, hH⟩ := kHas_app hH
  obtain ⟨H9, hH⟩ := kHas_app hH
  obtain ⟨H10, hH⟩ := kHas_app hH
  obtain ⟨H11, hH⟩ := kHas_app hH
  obtain ⟨H12, hH⟩ := kHas_app hH
  obtain ⟨H13, H14⟩ := kHas_app hH
  have gm : ∀ k, 1 ≤ nMo xs k ∧ nMo xs k ≤ 9 := fun k => ⟨Nat.le_add_right 1 _, (hk k).1⟩
  have gd : ∀ k, 1 ≤ nDe xs k ∧ nDe xs k ≤ 9 := fun k => ⟨Nat.le_add_right 1 _, by have := (hk k).2.1; omega⟩
  have gl : ∀ k, 1 ≤ nLo xs k ∧ nLo xs k ≤ 40 := fun k => ⟨Nat.le_add_right 1 _, (hk k).2.2.1⟩
  have gh : ∀ k, 1 ≤ nHi xs k ∧ nHi xs k ≤ 30 := fun k => ⟨Nat.le_add_right 1 _, (hk k).2.2.2.2.1⟩
  have ge : ∀ k, 1 ≤ nEv xs k ∧ nEv xs k ≤ 24 := fun k => ⟨Nat.le_add_right 1 _, by have := (hk k).2.2.2.2.2.1; omega⟩
  have gf : ∀ k, nFr xs k ≤ 99 := fun k => by have := (hk k).2.2.2.2.2.2; omega
  obtain ⟨e0, I0⟩ := A_cave hN kI0 H0 (gm 0) (gd 0) (kne rfl) (show 0 < 5 by omega) 399
  obtain ⟨e1, I1⟩ := A_cave hN I0 H1 (gm 1) (gd 1) (kne rfl) (show 1 < 5 by omega) 398
  obtain ⟨e2, I2⟩ := A_pipe (i := 0) hN I1 H2 (gl 0) (kne rfl) (show 0 < 12 by omega) rfl (fun j hj => absurd hj (Nat.not_lt_zero j)) 397
  obtain ⟨e3, I3⟩ := A_pipe (i := 0) hN I2 H3 (gl 1) (kne rfl) (show 1 < 12 by omega) rfl (fun j hj => absurd hj (Nat.not_lt_zero j)) 396
  have g98 : ∀ j, j < 1 → kCs[j]? ≠ some 98 := fun j hj => by
    obtain rfl : j = 0 := by omega
    decide
  obtain ⟨e4, I4⟩ := A_pipe (i := 1) hN I3 H4 (gl 2) (kne rfl) (show 2 < 12 by omega) rfl g98 395
  obtain ⟨e5, I5⟩ := A_pipe (i := 1) hN I4 H5 (gl 3) (kne rfl) (show 3 < 12 by omega) rfl g98 394
  obtain ⟨e6, I6⟩ := A_swell I5 H6 (gh 0) (ge 0) (gf 0) (show (0 : Nat) < 5 by omega) 393
  obtain ⟨e7, I7⟩ := A_swell I6 H7 (gh 1) (ge 1) (gf 1) (show (1 : Nat) < 5 by omega) 392
  obtain ⟨e8, I8⟩ := A_sil I7 H8 (by omega) (by omega) (show (0 : Nat) < 3 by omega) 391
  obtain ⟨e9, I9⟩ := A_chX hN I8 H9 (kne rfl) (show 0 < 6 by omega) 390
  obtain ⟨e10, I10⟩ := A_chY hN I9 H10 (kne rfl) (show 1 < 6 by omega) 389
  obtain ⟨f1, e11, I11⟩ := A_sh1 hN I10 H11 (show (0 : Nat) < 16 by omega) 388
  obtain ⟨f2, e12, I12⟩ := A_sh2 hN I11 H12 (show (1 : Nat) < 16 by omega) 387
  obtain ⟨f3, e13, I13⟩ := A_cl1 hN I12 H13 (show (2 : Nat) < 16 by omega) 386
  obtain ⟨f4, e14, I14⟩ := A_cl2 hN I13 H14 (show (3 : Nat) < 16 by omega) 385
  refine ⟨_, e0.trans <| e1.trans <| e2.trans <| e3.trans <| e4.trans <| e5.trans <| e6.trans <| e7.trans <| e8.trans <| e9.trans <| e10.trans <| e11.trans <| e12.trans <| e13.trans <| e14.trans <| kl_end ?_, ?_⟩
  rotate_left
  · exact kLz_FD xs _ _ _ _ _ _ _ _ f1 f2 f3 f4
  have := H14.1
  rw [← h47]
  simp only [List.length_append] at hNN
  rw [← hNN]
  have e7 : eCl2.length = 7 := rfl
  rw [e7]
  refine congrArg T.1 ?_
  omega

