/-! methods that may throw -/
def jxw (X : String) (ic : Nat) : List Cond := vx_atS RX9 ic X ["java/lang/RuntimeException", "java/lang/Exception"]
/-- the tables' words that stay true, with those of a throw -/
def jxk (w : Cond) : Bool := (w.onTables && w.keepsH) || (match w with | .declares _ => true | .castable _ _ => true | _ => false)
def jGX (U : State) : Prop := (∀ w ∈ lw_tbl.filter jxk, va_Nw w U) ∧ va_Nc "java/lang/IllegalArgumentException" "java/lang/IndexOutOfBoundsException" U ∧ va_Nc "java/lang/IndexOutOfBoundsException" "java/lang/IllegalArgumentException" U
theorem jGX_warm {s U : State} (hW : s.WarmedH U.vm) (h : jGX s) : jGX U := by
  refine ⟨fun w hw => ?_, h.2.1.moved hW.alike, h.2.2.moved hW.alike⟩
  have h1 := h.1 w hw
  have h2 := (List.mem_filter.mp hw).2
  unfold jxk at h2
  rw [Bool.or_eq_true] at h2
  rcases h2 with h2 | h2
  · rw [Bool.and_eq_true] at h2
    have h3 := Cond.onTables_warmH (args' := #[]) (T := U) hW h2.1 h2.2 h1
    exact va_tabs h2.1 (rfl : (U.setVm U.vm).vm = U.vm) h3
  · cases w with
    | declares x => exact va_Nw.warmD hW h1
    | castable x y => exact va_Nw.warmC hW h1
    | _ => exact absurd (show false = true from h2) (by decide)
theorem jGX_use {s : State} {args : Array Value} (h : jGX s) {w : Cond} (hw : w ∈ lw_tbl) (hk : jxk w = true) (ht : w.onTables = true) : w.before args s = true := (h.1 w (List.mem_filter.mpr ⟨hw, hk⟩)).use ht
theorem jx_at1 : ∀ w ∈ jxw "java/lang/IllegalStateException" 68, w ∈ lw_tbl := by decide +kernel
theorem jx_at2 : ∀ w ∈ jxw "java/lang/IllegalArgumentException" 82, w ∈ lw_tbl := by decide +kernel
theorem jx_at3 : ∀ w ∈ jxw "java/lang/IndexOutOfBoundsException" 112, w ∈ lw_tbl := by decide +kernel
theorem jx_k1 : (jxw "java/lang/IllegalStateException" 68).all (fun w => jxk w && w.onTables) = true := by decide +kernel
theorem jx_k2 : (jxw "java/lang/IllegalArgumentException" 82).all (fun w => jxk w && w.onTables) = true := by decide +kernel
theorem jx_k3 : (jxw "java/lang/IndexOutOfBoundsException" 112).all (fun w => jxk w && w.onTables) = true := by decide +kernel
