/-! what ties both sides; a recorded act -/
/-- the class's act on a state -/
def ActC (A : aS0 → Int32 × aS0) (qa : Nat) (args : List aV) : Prop := ∀ (m : aM) (b : Nat) (s : aS0) (Q : Int32 → aM → Prop), RpH m b s → (∀ m', RpH m' b (A s).2 → Fr b m m' → Q (A s).1 m') → Mi qa (.inr (0, b) :: args) m Q
