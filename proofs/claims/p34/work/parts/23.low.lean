/-! the reference's offers, reviews, hours -/
section RF2
variable {m : aM} {s : aS0} {ch x y p h : Int32} {k d : Nat} {Q : Int32 → aM → Prop} {Qv : aM → Prop}
theorem nI_z0 (k : Nat) : nI k + 0 = nI k := by rw [nI0, nI_add, Nat.add_zero]
/-- what a change of cells above the numbers leaves -/
theorem C3_of {s s' : aS0} (h : C3 s) (h1 : s' 1 = s 1) (h2 : s' 2 = s 2) (h3 : s' 3 = s 3) : C3 s' := by
  unfold C3 nS nE nD at *
  rw [h1, h2, h3]
  exact h
theorem C3_upd {i : Nat} {v : Int32} (h : C3 s) (hi : 4 ≤ i ∨ i = 0) : C3 (upd s i v) := C3_of h (upd_n (by omega)) (upd_n (by omega)) (upd_n (by omega))
theorem nD_upd {i : Nat} {v : Int32} (hi : ¬ i = 3) : nD (upd s i v) = nD s := by
  unfold nD
  rw [upd_n (by omega)]
theorem mRevS_3 {i : Nat} (hi : i < 104) : mRevS k s i = s i := by
  unfold mRevS
  split
  · exact upd_n (by omega)
  · rfl
theorem itN_lo {f : Nat → aS0 → aS0} {i : Nat} (hf : ∀ k s, f k s i = s i) : ∀ n, itN f s n i = s i
  | 0 => rfl
  | n + 1 => by
    show f n (itN f s n) i = s i
    rw [hf, itN_lo hf n]
end RF2
