/-! what the document's words say, over the reference's row s -/
abbrev aS0 : Type := Nat → Int32
def nS (s : aS0) : Nat := (s 1).toNatClampNeg
def nE (s : aS0) : Nat := (s 2).toNatClampNeg
def nD (s : aS0) : Nat := (s 3).toNatClampNeg
def mBarBy (s : aS0) (ch x y p : Int32) (k : Nat) : Bool := decide (¬ (s (8 + 5 * k + 4)) = 0 ∧ (¬ ((s (8 + 5 * k + 2)) - ch) < (-1) ∧ ¬ 1 < ((s (8 + 5 * k + 2)) - ch)) ∧ nearP x y (s (8 + 5 * k + 0)) (s (8 + 5 * k + 1)) ((if (s (8 + 5 * k + 2)) - ch = 0 then radI (s (8 + 5 * k + 3)) else radI (s (8 + 5 * k + 3)) * s 5 / 100) + rchI p))
def mOn (s : aS0) (h : Int32) (k : Nat) : Bool := decide ((s (48 + 7 * k + 6)) = 0 ∧ ¬ h < (s (48 + 7 * k + 4)) ∧ ¬ ((s (48 + 7 * k + 5)) - 1) < h)
def mResBy (s : aS0) (ch x y p h : Int32) (k : Nat) : Bool := decide ((s (48 + 7 * k + 3)) = ch ∧ nearP x y (s (48 + 7 * k + 0)) (s (48 + 7 * k + 1)) ((s (48 + 7 * k + 2)) + rchI p)) && mOn s h k
def mBar (s : aS0) (ch x y p : Int32) : Bool := anyN (mBarBy s ch x y p) (nS s)
def mRes (s : aS0) (ch x y p h : Int32) : Bool := anyN (mResBy s ch x y p h) (nE s)
def mAlw (s : aS0) (ch x y p : Int32) : Bool := !mBar s ch x y p && !mRes s ch x y p (s 0)
def mAlwF (s : aS0) (d : Nat) (ch p : Int32) : Bool := mAlw s ch (s (104 + 10 * d + 0)) (s (104 + 10 * d + 1)) p
def mHas (s : aS0) (d : Nat) : Bool := decide (¬ (s (104 + 10 * d + 3)) = (-6))
def mNear (s : aS0) (d : Nat) (ch p : Int32) (k : Nat) : Bool := decide (¬ k = d ∧ (s (104 + 10 * k + 3)) = ch ∧ nearP (s (104 + 10 * d + 0)) (s (104 + 10 * d + 1)) (s (104 + 10 * k + 0)) (s (104 + 10 * k + 1)) (rchI p + rchI (s (104 + 10 * k + 4))))
def mFree (s : aS0) (d : Nat) (ch p : Int32) : Bool := !anyN (mNear s d ch p) (nD s)
def mOth (s : aS0) (d ch : Int32) : Nat := cntN (fun k => decide (¬ nI k = d ∧ (s (104 + 10 * k + 3)) = ch)) (nD s)
def mOffS (s : aS0) (d : Nat) (p : Int32) (c : Nat) (z : Int32 × Int32) : Int32 × Int32 :=
  if (mAlwF s d (nI c) p && mFree s d (nI c) p) = true then (if z.1 = (-6) ∨ nI (mOth s (nI d) (nI c)) < z.2 then (nI c, nI (mOth s (nI d) (nI c))) else z) else z
def mOff (s : aS0) (d : Nat) (p : Int32) : Int32 := (itN (mOffS s d p) ((-6), 0) 8).1
def mLA (s : aS0) (d : Nat) : Bool := mAlwF s d (s (104 + 10 * d + 3)) (s (104 + 10 * d + 4))
def mRevS (k : Nat) (s : aS0) : aS0 := if mHas s k = true then upd s (104 + 10 * k + 6) (if mLA s k = true then (-6) else if (s (104 + 10 * k + 6)) = (-6) then s 0 else (s (104 + 10 * k + 6))) else s
def mRev (s : aS0) : aS0 := itN mRevS s (nD s)
def mEnds (s : aS0) (k : Nat) : aS0 := upd (upd (upd (upd s (104 + 10 * k + 3) (-6)) (104 + 10 * k + 4) (-6)) (104 + 10 * k + 5) (-6)) (104 + 10 * k + 6) (-6)
def mNot (s : aS0) : Nat := cntN (fun k => decide (¬ (s (104 + 10 * k + 6)) = (-6))) (nD s)
def mLs (s : aS0) : Nat := cntN (mHas s) (nD s)
def mHop (s : aS0) (k : Nat) (ch p : Int32) : aS0 := upd (upd (upd (upd s (104 + 10 * k + 3) ch) (104 + 10 * k + 4) p) (104 + 10 * k + 6) (-6)) (104 + 10 * k + 7) ((s (104 + 10 * k + 7)) + 1)
def mStr (s : aS0) (k : Nat) : aS0 := upd (mEnds s k) (104 + 10 * k + 8) ((s (104 + 10 * k + 8)) + 1)
def mAskN (s : aS0) (k : Nat) : Nat → Int32 × aS0
  | 0 => (0, mStr s k)
  | p + 1 => if mOff s k (nI p) = (-6) then mAskN s k p else (1, mHop s k (mOff s k (nI p)) (nI p))
def mAsk (s : aS0) (k : Nat) : Int32 × aS0 := mAskN s k ((s (104 + 10 * k + 4)).toNatClampNeg + 1)
def mEndS (k : Nat) (s : aS0) : aS0 := if mHas s k = true ∧ ¬ s 0 < (s (104 + 10 * k + 5)) then mEnds s k else s
def mEndL (s : aS0) : aS0 := itN mEndS s (nD s)
def mHopS (k : Nat) (z : Int32 × aS0) : Int32 × aS0 := if iR (z.2 0 + nI k) (z.2 6) = 0 ∧ ¬ (z.2 (104 + 10 * k + 6)) = (-6) then (z.1 + (mAsk z.2 k).1, (mAsk z.2 k).2) else z
def mHopL (s : aS0) : Int32 × aS0 := itN mHopS (0, s) (nD s)
def mCutS (k : Nat) (s : aS0) : aS0 := if ¬ (s (104 + 10 * k + 6)) = (-6) ∧ ¬ (s 0 - s 7) < (s (104 + 10 * k + 6)) then upd (mEnds s k) (104 + 10 * k + 9) ((s (104 + 10 * k + 9)) + 1) else s
def mCutL (s : aS0) : aS0 := itN mCutS s (nD s)
def mP1 (s : aS0) : Int32 × aS0 := ((mHopL (mRev (mEndL (upd s 0 (s 0 + 1))))).1, mCutL (mHopL (mRev (mEndL (upd s 0 (s 0 + 1))))).2)
def mPn (s : aS0) (n : Nat) : Int32 × aS0 := itN (fun _ z => (z.1 + (mP1 z.2).1, (mP1 z.2).2)) (0, s) n
/-! what holds of every state -/
def rg (v : Int32) (B : Nat) : Prop := ∃ n, n ≤ B ∧ v = nI n
def stW (s : aS0) (k : Nat) : Prop := rg (s (8 + 5 * k + 2)) 7 ∧ rg (s (8 + 5 * k + 3)) 4 ∧ ((s (8 + 5 * k + 4)) = 0 ∨ (s (8 + 5 * k + 4)) = 1)
def evW (s : aS0) (k : Nat) : Prop := rg (s (48 + 7 * k + 4)) 9999 ∧ rg (s (48 + 7 * k + 5)) 9999 ∧ ((s (48 + 7 * k + 6)) = 0 ∨ (s (48 + 7 * k + 6)) = 1)
def dvW (s : aS0) (k : Nat) : Prop := rg (s (104 + 10 * k + 2)) 3 ∧ (((s (104 + 10 * k + 3)) = (-6) ∧ (s (104 + 10 * k + 4)) = (-6) ∧ (s (104 + 10 * k + 5)) = (-6) ∧ (s (104 + 10 * k + 6)) = (-6)) ∨ (rg (s (104 + 10 * k + 3)) 7 ∧ rg (s (104 + 10 * k + 4)) 3 ∧ rg (s (104 + 10 * k + 5)) 200000 ∧ ((s (104 + 10 * k + 6)) = (-6) ∨ rg (s (104 + 10 * k + 6)) 100000)))
def WF (s : aS0) : Prop := rg (s 0) 100000 ∧ rg (s 1) 8 ∧ rg (s 2) 8 ∧ rg (s 3) 16 ∧ rg (s 5) 100 ∧ (rg (s 6) 12 ∧ ¬ s 6 = 0) ∧ rg (s 7) 20 ∧ (∀ k, k < nS s → stW s k) ∧ (∀ k, k < nE s → evW s k) ∧ (∀ k, k < nD s → dvW s k)
theorem rg_n {v : Int32} {B : Nat} (h : rg v B) (hB : B < 2 ^ 31) : v = nI v.toNatClampNeg ∧ v.toNatClampNeg ≤ B := by
  obtain ⟨n, h1, rfl⟩ := h
  rw [nI_clamp (by omega)]
  exact ⟨rfl, h1⟩
theorem WF_S {s : aS0} (h : WF s) : s 1 = nI (nS s) ∧ nS s ≤ 8 := rg_n h.2.1 (by omega)
theorem WF_E {s : aS0} (h : WF s) : s 2 = nI (nE s) ∧ nE s ≤ 8 := rg_n h.2.2.1 (by omega)
theorem WF_D {s : aS0} (h : WF s) : s 3 = nI (nD s) ∧ nD s ≤ 16 := rg_n h.2.2.2.1 (by omega)
/-- only the numbers of things matter where a row is walked -/
def C3 (s : aS0) : Prop := (s 1 = nI (nS s) ∧ nS s ≤ 8) ∧ (s 2 = nI (nE s) ∧ nE s ≤ 8) ∧ (s 3 = nI (nD s) ∧ nD s ≤ 16)
theorem WF_C {s : aS0} (h : WF s) : C3 s := ⟨WF_S h, WF_E h, WF_D h⟩
