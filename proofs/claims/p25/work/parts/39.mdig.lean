/-! the reference's digest -/
def jFold (f : Nat → Int32) (y : Int64) : Nat → Int64
  | 0 => y
  | n + 1 => jFold f y n * 31 + (f n).toInt64
def jDigC (D : JD) (R : Nat → Int32) (c : Nat) (y : Int64) : Int64 := jFold (fun i => nI (D.1 (20 + (6 * c + i)))) (jFold (fun i => jChd D R c (nI i)) y 4) (D.1 (10 + c))
def jDigCs (D : JD) (R : Nat → Int32) (y : Int64) : Nat → Int64
  | 0 => y
  | c + 1 => jDigC D R c (jDigCs D R y c)
def jDig1 (D : JD) (R : Nat → Int32) (len : Int32) : Int64 := jFold (fun i => jCnt D R len (nI i)) 827 14
def jDig2 (D : JD) (R : Nat → Int32) (len : Int32) : Int64 := jFold (fun i => jCave D R (i / 5) (nI (i % 5))) (jDig1 D R len) (5 * D.1 0)
def jDig3 (D : JD) (R : Nat → Int32) (len : Int32) : Int64 := jFold (fun i => jPipe D R (i / 7) (nI (i % 7))) (jDig2 D R len) (7 * D.1 1)
def jDig4 (D : JD) (R : Nat → Int32) (len : Int32) : Int64 := jDigCs D R (jDig3 D R len) (D.1 2)
def jDig (D : JD) (R : Nat → Int32) (len : Int32) : Int64 := jFold (fun i => jHgt D (R 0 + nI i) (R 1)) (jDig4 D R len) 5
