
/-! THE LIST, spelt -/
theorem kl_2 : jkt 2 = [48, 49, 50, 51, 52, 53, 54, 55, 56, 57] := by decide +kernel
theorem kl_3 : jkt 3 = [99, 97, 118, 101, 32, 97, 32, 109, 111, 117, 116, 104, 32] := by decide +kernel
theorem kl_4 : jkt 4 = [32, 100, 101, 101, 112, 32] := by decide +kernel
theorem kl_5 : jkt 5 = [59, 32, 99, 97, 118, 101, 32, 98, 32, 109, 111, 117, 116, 104, 32] := by decide +kernel
theorem kl_6 : jkt 6 = [59] := by decide +kernel
theorem kl_7 : jkt 7 = [112, 32, 105, 110, 32, 97] := by decide +kernel
theorem kl_8 : jkt 8 = [113, 32, 105, 110, 32, 97] := by decide +kernel
theorem kl_9 : jkt 9 = [114, 32, 105, 110, 32, 98] := by decide +kernel
theorem kl_10 : jkt 10 = [116, 32, 105, 110, 32, 98] := by decide +kernel
theorem kl_11 : jkt 11 = [32, 112, 105, 112, 101, 32] := by decide +kernel
theorem kl_12 : jkt 12 = [32, 108, 101, 110, 103, 116, 104, 32] := by decide +kernel
theorem kl_13 : jkt 13 = [32, 114, 101, 101, 100, 59] := by decide +kernel
theorem kl_14 : jkt 14 = [32, 115, 119, 101, 108, 108, 32, 104, 105, 103, 104, 32] := by decide +kernel
theorem kl_15 : jkt 15 = [32, 101, 118, 101, 114, 121, 32] := by decide +kernel
theorem kl_16 : jkt 16 = [32, 102, 114, 111, 109, 32] := by decide +kernel
theorem kl_17 : jkt 17 = [32, 115, 105, 108, 101, 110, 99, 101, 32, 102, 114, 111, 109, 32] := by decide +kernel
theorem kl_18 : jkt 18 = [32, 116, 111, 32] := by decide +kernel
theorem kl_19 : jkt 19 = [59, 32, 99, 104, 111, 114, 100, 32, 120, 32, 111, 102, 32, 112, 32, 113, 59, 32, 99, 104, 111, 114, 100, 32, 121, 32, 111, 102, 32, 113, 32, 114, 32, 116, 59] := by decide +kernel
theorem kl_20 : jkt 20 = [32, 115, 104, 117, 116, 32, 97, 32, 119, 104, 101, 110, 32, 112, 114, 101, 115, 115, 117, 114, 101, 32, 97, 32, 62, 61, 32] := by decide +kernel
theorem kl_21 : jkt 21 = [59, 32, 115, 104, 117, 116, 32, 98, 32, 119, 104, 101, 110, 32, 115, 111, 117, 110, 100, 115, 32, 112, 32, 97, 110, 100, 32, 108, 111, 117, 100, 32, 112, 32, 62, 32, 108, 111, 117, 100, 32, 114, 32, 43, 32, 51, 59, 32, 99, 108, 101, 97, 110, 32, 113, 32, 119, 104, 101, 110, 32, 115, 105, 108, 116, 32, 113, 32, 62, 61, 32] := by decide +kernel
theorem kl_22 : jkt 22 = [59, 32, 99, 108, 101, 97, 110, 32, 116, 32, 119, 104, 101, 110, 32, 104, 111, 117, 114, 32, 61, 32, 53, 59] := by decide +kernel
theorem kl_23 : jkt 23 = [99, 97, 118, 101] := by decide +kernel
theorem kl_24 : jkt 24 = [109, 111, 117, 116, 104] := by decide +kernel
theorem kl_25 : jkt 25 = [100, 101, 101, 112] := by decide +kernel
theorem kl_26 : jkt 26 = [112, 105, 112, 101] := by decide +kernel
theorem kl_27 : jkt 27 = [105, 110] := by decide +kernel
theorem kl_28 : jkt 28 = [108, 101, 110, 103, 116, 104] := by decide +kernel
theorem kl_29 : jkt 29 = [114, 101, 101, 100] := by decide +kernel
theorem kl_30 : jkt 30 = [115, 119, 101, 108, 108] := by decide +kernel
theorem kl_31 : jkt 31 = [104, 105, 103, 104] := by decide +kernel
theorem kl_32 : jkt 32 = [101, 118, 101, 114, 121] := by decide +kernel
theorem kl_33 : jkt 33 = [102, 114, 111, 109] := by decide +kernel
theorem kl_34 : jkt 34 = [115, 105, 108, 101, 110, 99, 101] := by decide +kernel
theorem kl_35 : jkt 35 = [116, 111] := by decide +kernel
theorem kl_36 : jkt 36 = [99, 104, 111, 114, 100] := by decide +kernel
theorem kl_37 : jkt 37 = [111, 102] := by decide +kernel
theorem kl_38 : jkt 38 = [115, 104, 117, 116] := by decide +kernel
theorem kl_39 : jkt 39 = [99, 108, 101, 97, 110] := by decide +kernel
theorem kl_40 : jkt 40 = [119, 104, 101, 110] := by decide +kernel
theorem kl_41 : jkt 41 = [104, 111, 117, 114] := by decide +kernel
theorem kl_42 : jkt 42 = [116, 105, 100, 101] := by decide +kernel
theorem kl_43 : jkt 43 = [112, 114, 101, 115, 115, 117, 114, 101] := by decide +kernel
theorem kl_44 : jkt 44 = [115, 105, 108, 116] := by decide +kernel
theorem kl_45 : jkt 45 = [108, 111, 117, 100] := by decide +kernel
theorem kl_46 : jkt 46 = [108, 105, 115, 116, 101, 110, 101, 114, 115] := by decide +kernel
theorem kl_47 : jkt 47 = [115, 111, 117, 110, 100, 115] := by decide +kernel
theorem kl_48 : jkt 48 = [110, 111, 116] := by decide +kernel
theorem kl_49 : jkt 49 = [97, 110, 100] := by decide +kernel
theorem kl_50 : jkt 50 = [111, 114] := by decide +kernel
theorem kl_51 : jkt 51 = [109, 105, 110] := by decide +kernel
theorem kl_52 : jkt 52 = [109, 97, 120] := by decide +kernel
abbrev kKw (b i : Nat) : KE := (b, jkt (i + 23), i, 0)
abbrev kNm (c : Nat) : KE := (1, [c], 30, c)
abbrev kNu (v : Nat) : KE := (1, kdg v, 31, v)
abbrev kSe : KE := (0, [59], 36, 0)
abbrev kGe : KE := (1, [62, 61], 46, 0)
abbrev kGt : KE := (1, [62], 43, 0)
abbrev kPl : KE := (1, [43], 38, 0)
abbrev kEq : KE := (1, [61], 44, 0)
def eCave (b c m d : Nat) : List KE := [kKw b 0, kNm c, kKw 1 1, kNu m, kKw 1 2, kNu d, kSe]
def ePipe (c cv l : Nat) (r : Bool) : List KE := [kKw 1 3, kNm c, kKw 1 4, kNm cv, kKw 1 5, kNu l] ++ (if r = true then [kKw 1 6, kSe] else [kSe])
def eSwell (h e f : Nat) : List KE := [kKw 1 7, kKw 1 8, kNu h, kKw 1 9, kNu e, kKw 1 10, kNu f, kSe]
def eSil (f t : Nat) : List KE := [kKw 1 11, kKw 1 10, kNu f, kKw 1 12, kNu t, kSe]
def eChX : List KE := [kKw 1 13, kNm 120, kKw 1 14, kNm 112, kNm 113, kSe]
def eChY : List KE := [kKw 1 13, kNm 121, kKw 1 14, kNm 113, kNm 114, kNm 116, kSe]
def eSh1 (m : Nat) : List KE := [kKw 1 15, kNm 97, kKw 1 17, kKw 1 20, kNm 97, kGe, kNu m, kSe]
def eSh2 : List KE := [kKw 1 15, kNm 98, kKw 1 17, kKw 1 24, kNm 112, kKw 1 26, kKw 1 22, kNm 112, kGt, kKw 1 22, kNm 114, kPl, kNu 3, kSe]
def eCl1 (v : Nat) : List KE := [kKw 1 16, kNm 113, kKw 1 17, kKw 1 21, kNm 113, kGe, kNu v, kSe]
def eCl2 : List KE := [kKw 1 16, kNm 116, kKw 1 17, kKw 1 18, kEq, kNu 5, kSe]
def kpl (p : Nat) : Nat := if p = 0 then 112 else if p = 1 then 113 else if p = 2 then 114 else 116
def kpc (p : Nat) : Nat := if p < 2 then 97 else 98
/-! the law's numbers -/
abbrev nMo (xs : JS0) (k : Nat) : Nat := 1 + kbl (kcl xs k) 9
abbrev nDe (xs : JS0) (k : Nat) : Nat := 1 + kbl (kcl xs k >>> (4 &&& 31)) 5
abbrev nLo (xs : JS0) (p : Nat) : Nat := 1 + kbl (kcl xs (2 + p)) 40
abbrev nRe (xs : JS0) (p : Nat) : Nat := kbl (kcl xs (2 + p) >>> (6 &&& 31)) 2
abbrev nHi (xs : JS0) (p : Nat) : Nat := 1 + kbl (kcl xs (6 + p)) 30
abbrev nEv (xs : JS0) (p : Nat) : Nat := 1 + kbl (kcl xs (6 + p) >>> (5 &&& 31)) 6
abbrev nFr (xs : JS0) (p : Nat) : Nat := kbl (kcl xs (6 + p) >>> (9 &&& 31)) 20
abbrev nQf (xs : JS0) : Nat := kbl (kcl xs 8) 24
abbrev nQt (xs : JS0) : Nat := kbl (kcl xs 8 >>> (5 &&& 31)) 24
abbrev nMi (xs : JS0) : Nat := 5 + kbl (kcl xs 9) 60
abbrev nMs (xs : JS0) : Nat := 1 + kbl (kcl xs 9 >>> (6 &&& 31)) 20
set_option maxRecDepth 20000 in
theorem kTA_eq (xs : JS0) : kTA xs = kTx (eCave 0 97 (nMo xs 0) (nDe xs 0) ++ eCave 1 98 (nMo xs 1) (nDe xs 1)) := by
  rw [kTx_app]
  unfold kTA eCave
  simp only [kTx, kSp, List.replicate, List.append_assoc, List.nil_append, List.append_nil, Nat.reduceAdd, Nat.zero_add, kl_3, kl_4, kl_5, kl_6, kl_23, kl_24, kl_25]
  rfl
theorem kTW_eq (xs : JS0) (p : Nat) (u : List Nat) : kTW xs p u = u ++ kTx (eSwell (nHi xs p) (nEv xs p) (nFr xs p)) := by
  unfold kTW eSwell
  simp only [kTx, kSp, List.replicate, List.append_assoc, List.nil_append, List.append_nil, Nat.reduceAdd, Nat.zero_add, kl_14, kl_15, kl_16, kl_6, kl_30, kl_31, kl_32, kl_33]
  rfl
theorem kTP_eq (xs : JS0) {p : Nat} (hp : p < 4) (u : List Nat) : kTP xs p u = u ++ kTx (ePipe (kpl p) (kpc p) (nLo xs p) (decide (nRe xs p = 1))) := by
  unfold kTP ePipe
  by_cases hr : nRe xs p = 1
  · rw [if_pos hr, if_pos (decide_eq_true hr)]
    unfold kpl kpc
    rcases (show p = 0 ∨ p = 1 ∨ p = 2 ∨ p = 3 by omega) with rfl | rfl | rfl | rfl
    · simp only [kTx, kSp, List.replicate, List.append_assoc, List.nil_append, List.append_nil, Nat.reduceAdd, Nat.zero_add, kTx_app, kl_11, kl_12, kl_13, kl_7, kl_26, kl_27, kl_28, kl_29]
      rfl
    · simp only [kTx, kSp, List.replicate, List.append_assoc, List.nil_append, List.append_nil, Nat.reduceAdd, Nat.zero_add, kTx_app, kl_11, kl_12, kl_13, kl_8, kl_26, kl_27, kl_28, kl_29]
      rfl
    · simp only [kTx, kSp, List.replicate, List.append_assoc, List.nil_append, List.append_nil, Nat.reduceAdd, Nat.zero_add, kTx_app, kl_11, kl_12, kl_13, kl_9, kl_26, kl_27, kl_28, kl_29]
      rfl
    · simp only [kTx, kSp, List.replicate, List.append_assoc, List.nil_append, List.append_nil, Nat.reduceAdd, Nat.zero_add, kTx_app, kl_11, kl_12, kl_13, kl_10, kl_26, kl_27, kl_28, kl_29]
      rfl
  · rw [if_neg hr, decide_eq_false hr, if_neg Bool.false_ne_true]
    unfold kpl kpc
    rcases (show p = 0 ∨ p = 1 ∨ p = 2 ∨ p = 3 by omega) with rfl | rfl | rfl | rfl
    · simp only [kTx, kSp, List.replicate, List.append_assoc, List.nil_append, List.append_nil, Nat.reduceAdd, Nat.zero_add, kTx_app, kl_11, kl_12, kl_6, kl_7, kl_26, kl_27, kl_28]
      rfl
    · simp only [kTx, kSp, List.replicate, List.append_assoc, List.nil_append, List.append_nil, Nat.reduceAdd, Nat.zero_add, kTx_app, kl_11, kl_12, kl_6, kl_8, kl_26, kl_27, kl_28]
      rfl
    · simp only [kTx, kSp, List.replicate, List.append_assoc, List.nil_append, List.append_nil, Nat.reduceAdd, Nat.zero_add, kTx_app, kl_11, kl_12, kl_6, kl_9, kl_26, kl_27, kl_28]
      rfl
    · simp only [kTx, kSp, List.replicate, List.append_assoc, List.nil_append, List.append_nil, Nat.reduceAdd, Nat.zero_add, kTx_app, kl_11, kl_12, kl_6, kl_10, kl_26, kl_27, kl_28]
      rfl
set_option maxRecDepth 20000 in
theorem kTS_eq (xs : JS0) (u : List Nat) : kTS xs u = u ++ kTx (eSil (nQf xs) (nQt xs) ++ (eChX ++ eChY)) := by
  rw [kTx_app, kTx_app]
  unfold kTS eSil eChX eChY
  simp only [kTx, kSp, List.replicate, List.append_assoc, List.nil_append, List.append_nil, Nat.reduceAdd, Nat.zero_add, kl_17, kl_18, kl_19, kl_34, kl_33, kl_35, kl_36, kl_37]
  rfl
theorem kdg_3 : kdg 3 = [51] := rfl
theorem kdg_5 : kdg 5 = [53] := rfl
set_option maxRecDepth 20000 in
theorem kTF_eq (xs : JS0) (u : List Nat) : kTF xs u = u ++ kTx (eSh1 (nMi xs) ++ (eSh2 ++ (eCl1 (nMs xs) ++ eCl2))) := by
  rw [kTx_app, kTx_app, kTx_app]
  unfold kTF eSh1 eSh2 eCl1 eCl2
  simp only [kTx, kSp, List.replicate, List.append_assoc, List.nil_append, List.append_nil, Nat.reduceAdd, Nat.zero_add, kdg_3, kdg_5, kl_20, kl_21, kl_22, kl_38, kl_40, kl_43, kl_47, kl_49, kl_45, kl_39, kl_44, kl_41]
  rfl
abbrev kPp (xs : JS0) (p : Nat) : List KE := ePipe (kpl p) (kpc p) (nLo xs p) (decide (nRe xs p = 1))
abbrev kSw (xs : JS0) (p : Nat) : List KE := eSwell (nHi xs p) (nEv xs p) (nFr xs p)
/-- the list's tokens -/
def kEs (xs : JS0) : List KE := eCave 0 97 (nMo xs 0) (nDe xs 0) ++ (eCave 1 98 (nMo xs 1) (nDe xs 1) ++ (kPp xs 0 ++ (kPp xs 1 ++ (kPp xs 2 ++ (kPp xs 3 ++ (kSw xs 0 ++ (kSw xs 1 ++ (eSil (nQf xs) (nQt xs) ++ (eChX ++ (eChY ++ (eSh1 (nMi xs) ++ (eSh2 ++ (eCl1 (nMs xs) ++ eCl2)))))))))))))
theorem kList_eq (xs : JS0) : kList xs = kTx (kEs xs) := by
  unfold kList kEs
  rw [kTF_eq, kTS_eq, kTW_eq, kTW_eq, kTP_eq xs (by omega), kTP_eq xs (by omega), kTP_eq xs (by omega), kTP_eq xs (by omega), kTA_eq]
  simp only [kTx_app, List.append_assoc]
/-! each token is right before what follows -/
theorem kOk_kw : ∀ i, i < 30 → (jlet ((jkt (i + 23)).getD 0 0) ∧ (∀ x ∈ jkt (i + 23), kaln x) ∧ 1 ≤ (jkt (i + 23)).length ∧ (jkt (i + 23)).length ≤ 10 ∧ i = kwk (jkt (i + 23))) := by decide +kernel
theorem kOk_nm : ∀ c, c < 123 → 97 ≤ c → kwk [c] = 30 := by decide +kernel
theorem kOk_nu : ∀ v, v < 100 → ((∀ x ∈ kdg v, jdig x) ∧ 1 ≤ (kdg v).length ∧ (kdg v).length ≤ 6 ∧ v = kdec (kdg v) 0) := by decide +kernel
theorem oKw {b i c : Nat} (hb : b ≤ 1) (hi : i < 30) (hc : ¬ kaln c) : kOk (kKw b i) c := by
  obtain ⟨h1, h2, h3, h4, h5⟩ := kOk_kw i hi
  exact ⟨hb, Or.inl ⟨h1, h2, h3, h4, hc, h5⟩⟩
theorem oNm {x c : Nat} (h1 : 97 ≤ x) (h2 : x < 123) (hc : ¬ kaln c) : kOk (kNm x) c := ⟨Nat.le_refl _, Or.inl ⟨⟨h1, by show x ≤ 122; omega⟩, fun y hy => by
  have : y = x := by simpa using hy
  subst this
  exact Or.inl ⟨h1, by omega⟩, Nat.le_refl _, (show 1 ≤ 10 by omega), hc, (kOk_nm x h2 h1).symm⟩⟩
theorem oNu {v c : Nat} (hv : v < 100) (hc : ¬ jdig c) : kOk (kNu v) c := by
  obtain ⟨h1, h2, h3, h4⟩ := kOk_nu v hv
  exact ⟨Nat.le_refl _, Or.inr (Or.inl ⟨h1, h2, h3, hc, rfl, h4⟩)⟩
theorem oSe {c : Nat} : kOk kSe c := ⟨Nat.zero_le _, Or.inr (Or.inr (Or.inl ⟨59, rfl, by decide, by decide, by decide, by decide, by decide, by decide, rfl⟩))⟩
theorem oPl {c : Nat} : kOk kPl c := ⟨Nat.le_refl _, Or.inr (Or.inr (Or.inl ⟨43, rfl, by decide, by decide, by decide, by decide, by decide, by decide, rfl⟩))⟩
theorem oEq {c : Nat} : kOk kEq c := ⟨Nat.le_refl _, Or.inr (Or.inr (Or.inl ⟨61, rfl, by decide, by decide, by decide, by decide, by decide, by decide, rfl⟩))⟩
theorem oGe {c : Nat} : kOk kGe c := ⟨Nat.le_refl _, Or.inr (Or.inr (Or.inr (Or.inl ⟨rfl, rfl⟩)))⟩
theorem oGt {c : Nat} (hc : c ≠ 61) : kOk kGt c := ⟨Nat.le_refl _, Or.inr (Or.inr (Or.inr (Or.inr ⟨rfl, hc, rfl⟩)))⟩
theorem kfc_1 {u : List Nat} {k v c : Nat} {es : List KE} : kfc ((1, u, k, v) :: es) c = 32 := rfl
theorem kfc_s {es : List KE} {c : Nat} : kfc (kSe :: es) c = 59 := rfl
theorem na32 : ¬ kaln 32 := by decide
theorem na59 : ¬ kaln 59 := by decide
theorem nd32 : ¬ jdig 32 := by decide
theorem nd59 : ¬ jdig 59 := by decide
theorem gCave {b x m d : Nat} (c : Nat) (hb : b ≤ 1) (hx : 97 ≤ x) (hx2 : x < 123) (hm : m < 100) (hd : d < 100) : kGL (eCave b x m d) c := ⟨oKw hb (by omega) na32, oNm (by omega) (by omega) na32, oKw (Nat.le_refl 1) (by omega) na32, oNu hm nd32, oKw (Nat.le_refl 1) (by omega) na32, oNu hd nd59, oSe, trivial⟩
theorem gSwell {h e f : Nat} (c : Nat) (hh : h < 100) (he : e < 100) (hf : f < 100) : kGL (eSwell h e f) c := ⟨oKw (Nat.le_refl 1) (by omega) na32, oKw (Nat.le_refl 1) (by omega) na32, oNu hh nd32, oKw (Nat.le_refl 1) (by omega) na32, oNu he nd32, oKw (Nat.le_refl 1) (by omega) na32, oNu hf nd59, oSe, trivial⟩
theorem gSil {f t : Nat} (c : Nat) (hf : f < 100) (ht : t < 100) : kGL (eSil f t) c := ⟨oKw (Nat.le_refl 1) (by omega) na32, oKw (Nat.le_refl 1) (by omega) na32, oNu hf nd32, oKw (Nat.le_refl 1) (by omega) na32, oNu ht nd59, oSe, trivial⟩
theorem gChX  (c : Nat)  : kGL (eChX ) c := ⟨oKw (Nat.le_refl 1) (by omega) na32, oNm (by omega) (by omega) na32, oKw (Nat.le_refl 1) (by omega) na32, oNm (by omega) (by omega) na32, oNm (by omega) (by omega) na59, oSe, trivial⟩
theorem gChY  (c : Nat)  : kGL (eChY ) c := ⟨oKw (Nat.le_refl 1) (by omega) na32, oNm (by omega) (by omega) na32, oKw (Nat.le_refl 1) (by omega) na32, oNm (by omega) (by omega) na32, oNm (by omega) (by omega) na32, oNm (by omega) (by omega) na59, oSe, trivial⟩
theorem gSh1 {m : Nat} (c : Nat) (hm : m < 100) : kGL (eSh1 m) c := ⟨oKw (Nat.le_refl 1) (by omega) na32, oNm (by omega) (by omega) na32, oKw (Nat.le_refl 1) (by omega) na32, oKw (Nat.le_refl 1) (by omega) na32, oNm (by omega) (by omega) na32, oGe, oNu hm nd59, oSe, trivial⟩
theorem gSh2  (c : Nat)  : kGL (eSh2 ) c := ⟨oKw (Nat.le_refl 1) (by omega) na32, oNm (by omega) (by omega) na32, oKw (Nat.le_refl 1) (by omega) na32, oKw (Nat.le_refl 1) (by omega) na32, oNm (by omega) (by omega) na32, oKw (Nat.le_refl 1) (by omega) na32, oKw (Nat.le_refl 1) (by omega) na32, oNm (by omega) (by omega) na32, oGt (show (32 : Nat) ≠ 61 by decide), oKw (Nat.le_refl 1) (by omega) na32, oNm (by omega) (by omega) na32, oPl, oNu (by omega) nd59, oSe, trivial⟩
theorem gCl1 {v : Nat} (c : Nat) (hv : v < 100) : kGL (eCl1 v) c := ⟨oKw (Nat.le_refl 1) (by omega) na32, oNm (by omega) (by omega) na32, oKw (Nat.le_refl 1) (by omega) na32, oKw (Nat.le_refl 1) (by omega) na32, oNm (by omega) (by omega) na32, oGe, oNu hv nd59, oSe, trivial⟩
theorem gCl2  (c : Nat)  : kGL (eCl2 ) c := ⟨oKw (Nat.le_refl 1) (by omega) na32, oNm (by omega) (by omega) na32, oKw (Nat.le_refl 1) (by omega) na32, oKw (Nat.le_refl 1) (by omega) na32, oEq, oNu (by omega) nd59, oSe, trivial⟩
theorem gPipe {x y l : Nat} {r : Bool} (c : Nat) (hx : 97 ≤ x) (hx2 : x < 123) (hy : 97 ≤ y) (hy2 : y < 123) (hl : l < 100) : kGL (ePipe x y l r) c := by
  unfold ePipe
  cases r with
  | true => exact ⟨oKw (Nat.le_refl 1) (by omega) na32, oNm hx hx2 na32, oKw (Nat.le_refl 1) (by omega) na32, oNm hy hy2 na32, oKw (Nat.le_refl 1) (by omega) na32, oNu hl nd32, oKw (Nat.le_refl 1) (by omega) na59, oSe, trivial⟩
  | false => exact ⟨oKw (Nat.le_refl 1) (by omega) na32, oNm hx hx2 na32, oKw (Nat.le_refl 1) (by omega) na32, oNm hy hy2 na32, oKw (Nat.le_refl 1) (by omega) na32, oNu hl nd59, oSe, trivial⟩
theorem kpl_ok (p : Nat) : 97 ≤ kpl p ∧ kpl p < 123 := by
  unfold kpl
  repeat (first | split | omega)
theorem kpc_ok (p : Nat) : 97 ≤ kpc p ∧ kpc p < 123 := by
  unfold kpc
  split <;> omega
theorem nNum (xs : JS0) : (∀ k, nMo xs k ≤ 9 ∧ nDe xs k ≤ 5 ∧ nLo xs k ≤ 40 ∧ nRe xs k < 2 ∧ nHi xs k ≤ 30 ∧ nEv xs k ≤ 6 ∧ nFr xs k < 20) ∧ nQf xs < 24 ∧ nQt xs < 24 ∧ nMi xs < 65 ∧ nMs xs ≤ 20 := by
  have h : ∀ (v : Int32) (n : Nat), 0 < n → kbl v n < n := fun v n h => kbl_lt v h
  refine ⟨fun k => ⟨?_, ?_, ?_, h _ 2 (by omega), ?_, ?_, h _ 20 (by omega)⟩, h _ 24 (by omega), h _ 24 (by omega), ?_, ?_⟩
  · have := h (kcl xs k) 9 (by omega); show 1 + kbl (kcl xs k) 9 ≤ 9; omega
  · have := h (kcl xs k >>> (4 &&& 31)) 5 (by omega); show 1 + kbl (kcl xs k >>> (4 &&& 31)) 5 ≤ 5; omega
  · have := h (kcl xs (2 + k)) 40 (by omega); show 1 + kbl (kcl xs (2 + k)) 40 ≤ 40; omega
  · have := h (kcl xs (6 + k)) 30 (by omega); show 1 + kbl (kcl xs (6 + k)) 30 ≤ 30; omega
  · have := h (kcl xs (6 + k) >>> (5 &&& 31)) 6 (by omega); show 1 + kbl (kcl xs (6 + k) >>> (5 &&& 31)) 6 ≤ 6; omega
  · have := h (kcl xs 9) 60 (by omega); show 5 + kbl (kcl xs 9) 60 < 65; omega
  · have := h (kcl xs 9 >>> (6 &&& 31)) 20 (by omega); show 1 + kbl (kcl xs 9 >>> (6 &&& 31)) 20 ≤ 20; omega
theorem kEs_ok (xs : JS0) : kGL (kEs xs) 300 := by
  obtain ⟨hk, h1, h2, h3, h4⟩ := nNum xs
  have gp : ∀ p c, kGL (kPp xs p) c := fun p c => gPipe c (kpl_ok p).1 (kpl_ok p).2 (kpc_ok p).1 (kpc_ok p).2 (by have := (hk p).2.2.1; omega)
  have gw : ∀ p c, kGL (kSw xs p) c := fun p c => gSwell c (by have := (hk p).2.2.2.2.1; omega) (by have := (hk p).2.2.2.2.2.1; omega) (by have := (hk p).2.2.2.2.2.2; omega)
  have gc : ∀ b x k c, b ≤ 1 → 97 ≤ x → x < 123 → kGL (eCave b x (nMo xs k) (nDe xs k)) c := fun b x k c hb h1 h2 => gCave c hb h1 h2 (by have := (hk k).1; omega) (by have := (hk k).2.1; omega)
  refine kGL_app _ _ _ (gc _ _ _ _ (by omega) (by omega) (by omega)) (kGL_app _ _ _ (gc _ _ _ _ (by omega) (by omega) (by omega)) (kGL_app _ _ _ (gp 0 _) (kGL_app _ _ _ (gp 1 _) (kGL_app _ _ _ (gp 2 _) (kGL_app _ _ _ (gp 3 _) (kGL_app _ _ _ (gw 0 _) (kGL_app _ _ _ (gw 1 _) (kGL_app _ _ _ (gSil _ (by omega) (by omega)) (kGL_app _ _ _ (gChX _) (kGL_app _ _ _ (gChY _) (kGL_app _ _ _ (gSh1 _ (by omega)) (kGL_app _ _ _ (gSh2 _) (kGL_app _ _ _ (gCl1 _ (by omega)) (gCl2 _))))))))))))))

