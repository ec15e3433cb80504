/-! the first world -/
def jw0f (k : Nat) : Nat → Int32 := match k with
  | 0 => fun j => if j = 7 then -1 else 0
  | 14 => fun j => if j = 6 then 4 else 0
  | 41 => fun j => if j = 3 then -1 else 0
  | 51 => upd (fun _ => 0) 1 4
  | _ => fun _ => 0
def jw0 : JW := (fun k _ => jw0f k, fun _ _ => 0, fun k j => (k == 7 && j == 4) || (k == 41 && j == 9))
def jDz : JD := (fun _ => 0, fun _ _ => 0, fun _ _ => true)
theorem jw0_row : ∀ i : Nat, i < 51 → jrow jw0 false i = jw0.1 51 false i := by decide +kernel
theorem jw0_inv : jInv 0 jw0 := by
  refine ⟨jDz, ⟨⟨⟨⟨Nat.zero_le _, Nat.zero_le _, Nat.zero_le _, Nat.zero_le _, Nat.zero_le _, Nat.zero_le _⟩, fun j hj => absurd hj (Nat.not_lt_zero _), fun j hj => absurd hj (Nat.not_lt_zero _), fun j hj => absurd hj (Nat.not_lt_zero _), fun j hj => absurd hj (Nat.not_lt_zero _), fun j hj => absurd hj (Nat.not_lt_zero _)⟩, ⟨⟨rfl, rfl, rfl, rfl, rfl, rfl⟩, fun j hj => absurd hj (Nat.not_lt_zero _), fun j hj => absurd hj (Nat.not_lt_zero _), fun j hj => absurd hj (Nat.not_lt_zero _), fun j hj => absurd hj (Nat.not_lt_zero _), fun j hj => absurd hj (Nat.not_lt_zero _), fun j hj => absurd hj (Nat.not_lt_zero _)⟩, ⟨⟨rfl, rfl, rfl, rfl, rfl, rfl⟩, fun j hj => absurd hj (Nat.not_lt_zero _), fun j hj => absurd hj (Nat.not_lt_zero _), fun j hj => absurd hj (Nat.not_lt_zero _), fun j hj => absurd hj (Nat.not_lt_zero _), fun j hj => absurd hj (Nat.not_lt_zero _), fun j hj => absurd hj (Nat.not_lt_zero _)⟩⟩, jw0_row, ⟨fun _ => 300, 0, ⟨⟨Nat.zero_le _, fun j hj => absurd hj (Nat.not_lt_zero _), fun _ _ => rfl⟩, rfl, fun j hj => absurd hj (Nat.not_lt_zero _)⟩, ⟨⟨Nat.zero_le _, fun j hj => absurd hj (Nat.not_lt_zero _), fun _ _ => rfl⟩, rfl, fun j hj => absurd hj (Nat.not_lt_zero _)⟩⟩, rfl, rfl, rfl⟩, ⟨0, 0, by decide, by decide, Nat.zero_le _, Nat.zero_le _⟩, ?_⟩
  have h : ∀ p : Nat, p < 12 → 0 ≤ jw0.1 51 false (21 + p) := by decide +kernel
  exact h
/-- the addresses, by kind and which -/
def jad0 (t : List Nat) (b q98 : Nat) (S : JT) : JAd := fun k c => if k < 64 then t.getD (2 * k + c.toNat) 0 else if k = 97 then b else if k = 98 then q98 else if k = 99 then S.2.2.1 else if k < 200 then S.1 (k - 100) else S.2.1 (k - 200)
theorem jad0_S {t : List Nat} {b q98 : Nat} {S : JT} (h : S.2.2.2 = .null ∨ S.2.2.2 = .ref q98) : jadS (jad0 t b q98 S) S := by
  refine ⟨fun j hj => ⟨?_, ?_⟩, rfl, h⟩
  · unfold jad0
    rw [if_neg (by omega), if_neg (by omega), if_neg (by omega), if_neg (by omega), if_pos (by omega), Nat.add_sub_cancel_left]
  · unfold jad0
    rw [if_neg (by omega), if_neg (by omega), if_neg (by omega), if_neg (by omega), if_neg (by omega), Nat.add_sub_cancel_left]
theorem jw0_nd : va_nd [0, 1, 2, 3, 4, 5, 6, 7, 8, 9, 10, 32, 33, 34, 35, 41, 36, 42, 37, 43, 38, 44, 39, 45, 40, 46, 47, 11, 48, 12, 49, 13, 50, 14, 51, 15, 52, 16, 53, 17, 54, 18, 55, 19, 56, 20, 57, 21, 58, 22, 59, 23, 60, 24, 61, 25, 62, 26, 63, 27, 64, 28, 65, 29, 66, 30, 67, 31, 68, 69, 70, 71, 72, 73, 94, 95, 96, 97, 98, 99, 74, 84, 75, 85, 76, 86, 77, 87, 78, 88, 79, 89, 80, 90, 81, 91, 82, 92, 83, 93, 100] = true := by decide +kernel
set_option maxHeartbeats 16000000 in
set_option maxRecDepth 20000 in
/-- what the constructors have made is the first world -/
theorem jw0_rep {D : va_G} {cs : Nat → ClassId} {A : Nat → Prop} {H : Heap} {x y o b q98 : Nat} {S : JT} {Y Z : va_W} (hY : kP9 x cs Y) (hZ : kP11 y cs Z) (hP : va_P D vwCl ((Y ++ Z) ++ [(o, .inl (cs 2, 1, .inr (.inl (fun _ => 0))))]) H) (hD : va_D A ((Y ++ Z) ++ [(o, .inl (cs 2, 1, .inr (.inl (fun _ => 0))))])) :
    ∃ t : List Nat, (jad0 t b q98 S 0 false = x ∧ jad0 t b q98 S 41 false = y ∧ jad0 t b q98 S 63 false = o) ∧ va_P D vwCl (jWs (jad0 t b q98 S) cs jw0) H ∧ va_D A (jWs (jad0 t b q98 S) cs jw0) := by
  obtain ⟨w0, w1, w2, w3, w4, w5, w6, Y0, Y1, Y2, Y3, Y4, Y5, Y6, g0, g1, g2, g3, g4, g5x, g6x, rfl⟩ := hY
  obtain ⟨t0, rfl⟩ := g0
  obtain ⟨u0, u1, u2, rfl⟩ := g1
  obtain ⟨r0, r1, r2, r3, ZR, gR, rfl⟩ := g2
  obtain ⟨da0, da1, da2, da3, da4, da5, da6, dw7, dw8, ZdA, ZdB, ⟨db0, db1, db2, db3, db4, rfl⟩, ⟨dc0, dc1, dc2, dc3, dc4, dc5, rfl⟩, rfl⟩ := gR
  obtain ⟨p0, ZJ, ⟨p1, rfl⟩, rfl⟩ := g3
  obtain ⟨m0, m1, m2, m3, m4, rfl⟩ := g4
  obtain ⟨n0, n1, n2, n3, n4, rfl⟩ := g5x
  obtain ⟨ea0, ea1, ea2, ea3, ea4, ea5, ea6, ew7, ew8, ZeA, ZeB, ⟨eb0, eb1, eb2, eb3, eb4, rfl⟩, ⟨ec0, ec1, ec2, ec3, ec4, ec5, rfl⟩, rfl⟩ := g6x
  obtain ⟨f0, f1, f2, f3, f4, g5, g6, f7, f8, f9, f10, f11, f12, ZK, ZL, ⟨h0, h1, h2, h3, h4, h5, h6, h7, h8, rfl⟩, ⟨k0, k1, k2, k3, k4, k5, k6, k7, k8, rfl⟩, rfl⟩ := hZ
  refine ⟨[x, 0, w0, 0, t0, 0, w1, 0, u0, 0, u1, 0, u2, 0, w2, 0, r0, 0, r1, 0, r2, 0, w3, 0, p0, 0, p1, 0, w4, w5, m0, n0, m1, n1, m2, n2, m3, n3, m4, n4, w6, r3, ea0, da0, ea1, da1, ea2, da2, ea3, da3, ea4, da4, ea5, da5, ea6, da6, ew7, dw7, eb0, db0, eb1, db1, eb2, db2, eb3, db3, eb4, db4, ew8, dw8, ec0, dc0, ec1, dc1, ec2, dc2, ec3, dc3, ec4, dc4, ec5, dc5, y, 0, f0, 0, f1, 0, f2, 0, f3, 0, f4, 0, f7, 0, f8, 0, f9, 0, f10, 0, f11, 0, f12, 0, g5, g6, h0, k0, h1, k1, h2, k2, h3, k3, h4, k4, h5, k5, h6, k6, h7, k7, h8, k8, o, 0], ⟨rfl, rfl, rfl⟩, ?_, ?_⟩
  · exact hP.sub [0, 1, 2, 3, 4, 5, 6, 7, 8, 9, 10, 32, 33, 34, 35, 41, 36, 42, 37, 43, 38, 44, 39, 45, 40, 46, 47, 11, 48, 12, 49, 13, 50, 14, 51, 15, 52, 16, 53, 17, 54, 18, 55, 19, 56, 20, 57, 21, 58, 22, 59, 23, 60, 24, 61, 25, 62, 26, 63, 27, 64, 28, 65, 29, 66, 30, 67, 31, 68, 69, 70, 71, 72, 73, 94, 95, 96, 97, 98, 99, 74, 84, 75, 85, 76, 86, 77, 87, 78, 88, 79, 89, 80, 90, 81, 91, 82, 92, 83, 93, 100] rfl
  · exact hD.sub [0, 1, 2, 3, 4, 5, 6, 7, 8, 9, 10, 32, 33, 34, 35, 41, 36, 42, 37, 43, 38, 44, 39, 45, 40, 46, 47, 11, 48, 12, 49, 13, 50, 14, 51, 15, 52, 16, 53, 17, 54, 18, 55, 19, 56, 20, 57, 21, 58, 22, 59, 23, 60, 24, 61, 25, 62, 26, 63, 27, 64, 28, 65, 29, 66, 30, 67, 31, 68, 69, 70, 71, 72, 73, 94, 95, 96, 97, 98, 99, 74, 84, 75, 85, 76, 86, 77, 87, 78, 88, 79, 89, 80, 90, 81, 91, 82, 92, 83, 93, 100] jw0_nd rfl
