/-! a method that may throw: an answer serves it too -/
def jXQ (C : JC) (cl sl : Nat) (P : JV → JW → Prop) (XC : String → State → State → Prop) : State → Prop := vx_MQ (jbe C) (jQc (jD C) (jad C) (jcs C) (jA C) P) XC (jar C) (js C) cl sl (jA C)
theorem jx_ret {C : JC} {cl sl : Nat} {P : JV → JW → Prop} {XC : String → State → State → Prop} {pc : Nat} {ls st : List JV} {w : JW} (k : jW C cl sl (jQQ C cl sl P) pc ls st w) : jW C cl sl (jXQ C cl sl P XC) pc ls st w := fun H locs a hr hl => vx_ret (k H locs a hr hl)
