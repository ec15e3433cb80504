/-! the first world -/
def jw0f (k : Nat) : Nat → Int32 := match k with
  | 0 => fun j => if j = 7 then -1 else 0
  | 14 => fun j => if j = 6 then 4 else 0
  | _ => fun _ => 0
def jw0 : JW := (fun k _ => jw0f k, fun _ _ => 0, fun k j => (k == 7 && j == 4))
theorem jw0_len : jw0.1 1 false 1 = 0 := rfl
theorem jw0_row0 : jrow jw0 false 0 = 0 := rfl
theorem jw0_row1 : jrow jw0 false 1 = 4 := rfl
/-- the addresses, by kind and which -/
def kad (t : List Nat) (h v q98 : Nat) (S : JT) : JAd := fun k c => if k < 41 then t.getD (2 * k + c.toNat) 0 else if k = 95 then v else if k = 96 then h else if k = 97 then S.2.2.2.1.1 else if k = 98 then q98 else if k < 200 then S.1 (k - 100) else S.2.1 (k - 200)
theorem kad_S {t : List Nat} {h v q98 : Nat} {S : JT} (hq : S.2.2.1 = .null ∨ S.2.2.1 = .ref q98) (hT : ∀ x, S.2.2.2.2 = some x → h = x.1 ∧ v = x.2.1) : jadS (kad t h v q98 S) S := by
  refine ⟨fun j hj => ⟨?_, ?_⟩, rfl, hq, fun x hx => hT x hx⟩
  · unfold kad
    rw [if_neg (by omega), if_neg (by omega), if_neg (by omega), if_neg (by omega), if_neg (by omega), if_pos (by omega), Nat.add_sub_cancel_left]
  · unfold kad
    rw [if_neg (by omega), if_neg (by omega), if_neg (by omega), if_neg (by omega), if_neg (by omega), if_neg (by omega), Nat.add_sub_cancel_left]
set_option maxRecDepth 20000 in
theorem kad_Ws (t : List Nat) (h v q h2 v2 q2 : Nat) (S S2 : JT) (cs : Nat → ClassId) (w : JW) : jWs (kad t h v q S) cs w = jWs (kad t h2 v2 q2 S2) cs w := rfl
def kPlc : List Nat := [0, 1, 2, 3, 4, 5, 6, 7, 8, 9, 10, 32, 33, 34, 35, 41, 36, 42, 37, 43, 38, 44, 39, 45, 40, 46, 47, 11, 48, 12, 49, 13, 50, 14, 51, 15, 52, 16, 53, 17, 54, 18, 55, 19, 56, 20, 57, 21, 58, 22, 59, 23, 60, 24, 61, 25, 62, 26, 63, 27, 64, 28, 65, 29, 66, 30, 67, 31]
theorem kPlc_nd : va_nd kPlc = true := by decide +kernel
set_option maxHeartbeats 16000000 in
set_option maxRecDepth 20000 in
/-- what the constructors have made is the first world -/
theorem jw0_rep {cs : Nat → ClassId} {x : Nat} {Y : va_W} (hY : kP9 x cs Y) (h v q98 : Nat) (S : JT) : ∃ t : List Nat, t.getD 0 0 = x ∧ kPlc.map (fun i => Y[i]?) = (jWs (kad t h v q98 S) cs jw0).map some := by
  obtain ⟨w0, w1, w2, w3, w4, w5, w6, Y0, Y1, Y2, Y3, Y4, Y5, Y6, g0, g1, g2, g3, g4, g5x, g6x, rfl⟩ := hY
  obtain ⟨t0, rfl⟩ := g0
  obtain ⟨u0, u1, u2, rfl⟩ := g1
  obtain ⟨r0, r1, r2, r3, ZR, gR, rfl⟩ := g2
  obtain ⟨da0, da1, da2, da3, da4, da5, da6, dw7, dw8, ZdA, ZdB, ⟨db0, db1, db2, db3, db4, rfl⟩, ⟨dc0, dc1, dc2, dc3, dc4, dc5, rfl⟩, rfl⟩ := gR
  obtain ⟨p0, ZJ, ⟨p1, rfl⟩, rfl⟩ := g3
  obtain ⟨m0, m1, m2, m3, m4, rfl⟩ := g4
  obtain ⟨n0, n1, n2, n3, n4, rfl⟩ := g5x
  obtain ⟨ea0, ea1, ea2, ea3, ea4, ea5, ea6, ew7, ew8, ZeA, ZeB, ⟨eb0, eb1, eb2, eb3, eb4, rfl⟩, ⟨ec0, ec1, ec2, ec3, ec4, ec5, rfl⟩, rfl⟩ := g6x
  exact ⟨[x, 0, w0, 0, t0, 0, w1, 0, u0, 0, u1, 0, u2, 0, w2, 0, r0, 0, r1, 0, r2, 0, w3, 0, p0, 0, p1, 0, w4, w5, m0, n0, m1, n1, m2, n2, m3, n3, m4, n4, w6, r3, ea0, da0, ea1, da1, ea2, da2, ea3, da3, ea4, da4, ea5, da5, ea6, da6, ew7, dw7, eb0, db0, eb1, db1, eb2, db2, eb3, db3, eb4, db4, ew8, dw8, ec0, dc0, ec1, dc1, ec2, dc2, ec3, dc3, ec4, dc4, ec5, dc5], rfl, rfl⟩
