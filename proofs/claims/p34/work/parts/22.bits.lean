/-! the reference's methods that only look -/
section RF1
variable {m : aM} {s : aS0} {ch x y p h : Int32} {k d : Nat} {Q : Int32 → aM → Prop}
theorem bP_b {b : Bool} : bP (b = true) = if b = true then 1 else 0 := rfl
theorem bP_bf {b : Bool} (h : b = false) : bP (b = true) = 0 := by rw [h]; rfl
theorem bP_bt {b : Bool} (h : b = true) : bP (b = true) = 1 := by rw [h]; rfl
end RF1
