/-! the law's six rows hold the row s: reading, writing -/
def aAd (c b i : Nat) : Option Nat := if b = 0 then (if c = 34 ∧ i < 8 then some i else if c = 35 ∧ i < 40 then some (8 + i) else if c = 36 ∧ i < 56 then some (48 + i) else if c = 37 ∧ i < 64 then some (104 + 10 * (i / 4) + i % 4) else if c = 38 ∧ i < 48 then some (104 + 10 * (i / 3) + (4 + i % 3)) else if c = 39 ∧ i < 48 then some (104 + 10 * (i / 3) + (7 + i % 3)) else none) else none
def aIn (J : Nat) : Nat × Nat := if J < 8 then (34, J) else if J < 48 then (35, J - 8) else if J < 104 then (36, J - 48) else if (J - 104) % 10 < 4 then (37, 4 * ((J - 104) / 10) + (J - 104) % 10) else if (J - 104) % 10 < 7 then (38, 3 * ((J - 104) / 10) + ((J - 104) % 10 - 4)) else (39, 3 * ((J - 104) / 10) + ((J - 104) % 10 - 7))
theorem aAd_in {c b i J : Nat} (h : aAd c b i = some J) : b = 0 ∧ aIn J = (c, i) := by
  unfold aAd at h
  split at h
  · rename_i hb
    refine ⟨hb, ?_⟩
    unfold aIn
    split at h
    · rename_i q; obtain ⟨rfl, q⟩ := q; cases h; rw [if_pos q]
    split at h
    · rename_i q; obtain ⟨rfl, q⟩ := q; cases h; rw [if_neg (by omega), if_pos (by omega), show 8 + i - 8 = i by omega]
    split at h
    · rename_i q; obtain ⟨rfl, q⟩ := q; cases h; rw [if_neg (by omega), if_neg (by omega), if_pos (by omega), show 48 + i - 48 = i by omega]
    split at h
    · rename_i q; obtain ⟨rfl, q⟩ := q; cases h; rw [if_neg (by omega), if_neg (by omega), if_neg (by omega), if_pos (by omega), show 4 * ((104 + 10 * (i / 4) + i % 4 - 104) / 10) + (104 + 10 * (i / 4) + i % 4 - 104) % 10 = i by omega]
    split at h
    · rename_i q; obtain ⟨rfl, q⟩ := q; cases h; rw [if_neg (by omega), if_neg (by omega), if_neg (by omega), if_neg (by omega), if_pos (by omega), show 3 * ((104 + 10 * (i / 3) + (4 + i % 3) - 104) / 10) + ((104 + 10 * (i / 3) + (4 + i % 3) - 104) % 10 - 4) = i by omega]
    split at h
    · rename_i q; obtain ⟨rfl, q⟩ := q; cases h; rw [if_neg (by omega), if_neg (by omega), if_neg (by omega), if_neg (by omega), if_neg (by omega), show 3 * ((104 + 10 * (i / 3) + (7 + i % 3) - 104) / 10) + ((104 + 10 * (i / 3) + (7 + i % 3) - 104) % 10 - 7) = i by omega]
    · cases h
  · cases h
theorem aAd_o {c b i : Nat} (h : c < 34 ∨ 40 ≤ c) : aAd c b i = none := by
  unfold aAd
  split
  · rw [if_neg (by omega), if_neg (by omega), if_neg (by omega), if_neg (by omega), if_neg (by omega), if_neg (by omega)]
  · rfl
def setS (m : aM) (s : Nat → Int32) : aM := fun c b i => match aAd c b i with
  | some J => s J
  | none => m c b i
section SST
variable {m m' : aM} {s s' : Nat → Int32} {c b i J k : Nat} {v : Int32}
theorem S_ad (h : aAd c b i = some J) : setS m s c b i = s J := by
  unfold setS
  rw [h]
theorem S_no (h : aAd c b i = none) : setS m s c b i = m c b i := by
  unfold setS
  rw [h]
theorem S_o (h : c < 34 ∨ 40 ≤ c) : setS m s c = m c := by
  funext b i
  exact S_no (aAd_o h)
theorem S_S : setS (setS m s) s' = setS m s' := by
  funext c b i
  cases h : aAd c b i with
  | none => rw [S_no h, S_no h, S_no h]
  | some J => rw [S_ad h, S_ad h]
theorem U_ad (h : aAd c b i = some J) : a_up (setS m s) c b i v = setS m (upd s J v) := by
  funext c' b' i'
  by_cases e : c' = c ∧ b' = b ∧ i' = i
  · obtain ⟨rfl, rfl, rfl⟩ := e
    rw [S_ad h]
    simp [a_up, upd]
  · have e1 : a_up (setS m s) c b i v c' b' i' = setS m s c' b' i' := by
      unfold a_up
      rw [if_neg e]
    rw [e1]
    cases h' : aAd c' b' i' with
    | none => rw [S_no h', S_no h']
    | some J' =>
      rw [S_ad h', S_ad h']
      have hne : ¬ J' = J := by
        rintro rfl
        obtain ⟨b1, q1⟩ := aAd_in h
        obtain ⟨b2, q2⟩ := aAd_in h'
        rw [q1] at q2
        cases q2
        exact e ⟨rfl, b2.trans b1.symm, rfl⟩
      unfold upd
      rw [if_neg hne]
/-- a memory whose law's rows are those of s -/
theorem S_eq (h : ∀ c, 34 ≤ c → c < 40 → m' c = setS m s c) : m' = setS m' s := by
  funext c b i
  cases h' : aAd c b i with
  | none => rw [S_no h']
  | some J =>
    have hc : ¬ (c < 34 ∨ 40 ≤ c) := fun z => by rw [aAd_o z] at h'; cases h'
    rw [S_ad h', h c (by omega) (by omega), S_ad h']
theorem aG_ (h : i < 8) : aAd 34 0 i = some i := by simp [aAd, h]
theorem aA_ (h : i < 40) : aAd 35 0 i = some (8 + i) := by simp [aAd, h]
theorem aE_ (h : i < 56) : aAd 36 0 i = some (48 + i) := by simp [aAd, h]
theorem aD_ {f : Nat} (hk : k < 16) (hf : f < 4) : aAd 37 0 (4 * k + f) = some (104 + 10 * k + f) := by
  unfold aAd
  rw [if_pos rfl, if_neg (by omega), if_neg (by omega), if_neg (by omega), if_pos (by omega), show (4 * k + f) / 4 = k by omega, show (4 * k + f) % 4 = f by omega]
theorem aP_ {f : Nat} (hk : k < 16) (hf : f < 3) : aAd 38 0 (3 * k + f) = some (104 + 10 * k + (4 + f)) := by
  unfold aAd
  rw [if_pos rfl, if_neg (by omega), if_neg (by omega), if_neg (by omega), if_neg (by omega), if_pos (by omega), show (3 * k + f) / 3 = k by omega, show (3 * k + f) % 3 = f by omega]
theorem aC_ {f : Nat} (hk : k < 16) (hf : f < 3) : aAd 39 0 (3 * k + f) = some (104 + 10 * k + (7 + f)) := by
  unfold aAd
  rw [if_pos rfl, if_neg (by omega), if_neg (by omega), if_neg (by omega), if_neg (by omega), if_neg (by omega), if_pos (by omega), show (3 * k + f) / 3 = k by omega, show (3 * k + f) % 3 = f by omega]
theorem jx (a k f : Nat) : nI a * nI k + nI f = nI (a * k + f) := by rw [pk_mul, nI_add]
theorem rG0 : setS m s 34 0 0 = s 0 := S_ad (aG_ (by omega))
theorem uG0 : a_up (setS m s) 34 0 0 v = setS m (upd s 0 v) := U_ad (aG_ (by omega))
theorem rG1 : setS m s 34 0 1 = s 1 := S_ad (aG_ (by omega))
theorem uG1 : a_up (setS m s) 34 0 1 v = setS m (upd s 1 v) := U_ad (aG_ (by omega))
theorem rG2 : setS m s 34 0 2 = s 2 := S_ad (aG_ (by omega))
theorem uG2 : a_up (setS m s) 34 0 2 v = setS m (upd s 2 v) := U_ad (aG_ (by omega))
theorem rG3 : setS m s 34 0 3 = s 3 := S_ad (aG_ (by omega))
theorem uG3 : a_up (setS m s) 34 0 3 v = setS m (upd s 3 v) := U_ad (aG_ (by omega))
theorem rG4 : setS m s 34 0 4 = s 4 := S_ad (aG_ (by omega))
theorem uG4 : a_up (setS m s) 34 0 4 v = setS m (upd s 4 v) := U_ad (aG_ (by omega))
theorem rG5 : setS m s 34 0 5 = s 5 := S_ad (aG_ (by omega))
theorem uG5 : a_up (setS m s) 34 0 5 v = setS m (upd s 5 v) := U_ad (aG_ (by omega))
theorem rG6 : setS m s 34 0 6 = s 6 := S_ad (aG_ (by omega))
theorem uG6 : a_up (setS m s) 34 0 6 v = setS m (upd s 6 v) := U_ad (aG_ (by omega))
theorem rG7 : setS m s 34 0 7 = s 7 := S_ad (aG_ (by omega))
theorem uG7 : a_up (setS m s) 34 0 7 v = setS m (upd s 7 v) := U_ad (aG_ (by omega))
theorem eA0 (k : Nat) : (5 : Int32) * nI k = nI (5 * k + 0) := by rw [show (5 : Int32) = nI 5 from rfl, pk_mul]; rfl
theorem gA0 (h : k < 8) : a_in ((5 : Int32) * nI k) 40 = true := a_in_I (eA0 k) (by omega) (by omega)
theorem xA0 (h : k < 8) : ((5 : Int32) * nI k).toNatClampNeg = 5 * k + 0 := ix_G (eA0 k) (by omega)
theorem dA0 (h : k < 8) : aAd 35 0 (5 * k + 0) = some (8 + 5 * k + 0) := (aA_ (by omega)).trans (congrArg some (by omega))
theorem rA0 (h : k < 8) : setS m s 35 0 ((5 : Int32) * nI k).toNatClampNeg = s (8 + 5 * k + 0) := by rw [xA0 h]; exact S_ad (dA0 h)
theorem uA0 (h : k < 8) : a_up (setS m s) 35 0 ((5 : Int32) * nI k).toNatClampNeg v = setS m (upd s (8 + 5 * k + 0) v) := by rw [xA0 h]; exact U_ad (dA0 h)
theorem eA1 (k : Nat) : (5 : Int32) * nI k + 1 = nI (5 * k + 1) := jx 5 k 1
theorem gA1 (h : k < 8) : a_in ((5 : Int32) * nI k + 1) 40 = true := a_in_I (eA1 k) (by omega) (by omega)
theorem xA1 (h : k < 8) : ((5 : Int32) * nI k + 1).toNatClampNeg = 5 * k + 1 := ix_G (eA1 k) (by omega)
theorem dA1 (h : k < 8) : aAd 35 0 (5 * k + 1) = some (8 + 5 * k + 1) := (aA_ (by omega)).trans (congrArg some (by omega))
theorem rA1 (h : k < 8) : setS m s 35 0 ((5 : Int32) * nI k + 1).toNatClampNeg = s (8 + 5 * k + 1) := by rw [xA1 h]; exact S_ad (dA1 h)
theorem uA1 (h : k < 8) : a_up (setS m s) 35 0 ((5 : Int32) * nI k + 1).toNatClampNeg v = setS m (upd s (8 + 5 * k + 1) v) := by rw [xA1 h]; exact U_ad (dA1 h)
theorem eA2 (k : Nat) : (5 : Int32) * nI k + 2 = nI (5 * k + 2) := jx 5 k 2
theorem gA2 (h : k < 8) : a_in ((5 : Int32) * nI k + 2) 40 = true := a_in_I (eA2 k) (by omega) (by omega)
theorem xA2 (h : k < 8) : ((5 : Int32) * nI k + 2).toNatClampNeg = 5 * k + 2 := ix_G (eA2 k) (by omega)
theorem dA2 (h : k < 8) : aAd 35 0 (5 * k + 2) = some (8 + 5 * k + 2) := (aA_ (by omega)).trans (congrArg some (by omega))
theorem rA2 (h : k < 8) : setS m s 35 0 ((5 : Int32) * nI k + 2).toNatClampNeg = s (8 + 5 * k + 2) := by rw [xA2 h]; exact S_ad (dA2 h)
theorem uA2 (h : k < 8) : a_up (setS m s) 35 0 ((5 : Int32) * nI k + 2).toNatClampNeg v = setS m (upd s (8 + 5 * k + 2) v) := by rw [xA2 h]; exact U_ad (dA2 h)
theorem eA3 (k : Nat) : (5 : Int32) * nI k + 3 = nI (5 * k + 3) := jx 5 k 3
theorem gA3 (h : k < 8) : a_in ((5 : Int32) * nI k + 3) 40 = true := a_in_I (eA3 k) (by omega) (by omega)
theorem xA3 (h : k < 8) : ((5 : Int32) * nI k + 3).toNatClampNeg = 5 * k + 3 := ix_G (eA3 k) (by omega)
theorem dA3 (h : k < 8) : aAd 35 0 (5 * k + 3) = some (8 + 5 * k + 3) := (aA_ (by omega)).trans (congrArg some (by omega))
theorem rA3 (h : k < 8) : setS m s 35 0 ((5 : Int32) * nI k + 3).toNatClampNeg = s (8 + 5 * k + 3) := by rw [xA3 h]; exact S_ad (dA3 h)
theorem uA3 (h : k < 8) : a_up (setS m s) 35 0 ((5 : Int32) * nI k + 3).toNatClampNeg v = setS m (upd s (8 + 5 * k + 3) v) := by rw [xA3 h]; exact U_ad (dA3 h)
theorem eA4 (k : Nat) : (5 : Int32) * nI k + 4 = nI (5 * k + 4) := jx 5 k 4
theorem gA4 (h : k < 8) : a_in ((5 : Int32) * nI k + 4) 40 = true := a_in_I (eA4 k) (by omega) (by omega)
theorem xA4 (h : k < 8) : ((5 : Int32) * nI k + 4).toNatClampNeg = 5 * k + 4 := ix_G (eA4 k) (by omega)
theorem dA4 (h : k < 8) : aAd 35 0 (5 * k + 4) = some (8 + 5 * k + 4) := (aA_ (by omega)).trans (congrArg some (by omega))
theorem rA4 (h : k < 8) : setS m s 35 0 ((5 : Int32) * nI k + 4).toNatClampNeg = s (8 + 5 * k + 4) := by rw [xA4 h]; exact S_ad (dA4 h)
theorem uA4 (h : k < 8) : a_up (setS m s) 35 0 ((5 : Int32) * nI k + 4).toNatClampNeg v = setS m (upd s (8 + 5 * k + 4) v) := by rw [xA4 h]; exact U_ad (dA4 h)
theorem eE0 (k : Nat) : (7 : Int32) * nI k = nI (7 * k + 0) := by rw [show (7 : Int32) = nI 7 from rfl, pk_mul]; rfl
theorem gE0 (h : k < 8) : a_in ((7 : Int32) * nI k) 56 = true := a_in_I (eE0 k) (by omega) (by omega)
theorem xE0 (h : k < 8) : ((7 : Int32) * nI k).toNatClampNeg = 7 * k + 0 := ix_G (eE0 k) (by omega)
theorem dE0 (h : k < 8) : aAd 36 0 (7 * k + 0) = some (48 + 7 * k + 0) := (aE_ (by omega)).trans (congrArg some (by omega))
theorem rE0 (h : k < 8) : setS m s 36 0 ((7 : Int32) * nI k).toNatClampNeg = s (48 + 7 * k + 0) := by rw [xE0 h]; exact S_ad (dE0 h)
theorem uE0 (h : k < 8) : a_up (setS m s) 36 0 ((7 : Int32) * nI k).toNatClampNeg v = setS m (upd s (48 + 7 * k + 0) v) := by rw [xE0 h]; exact U_ad (dE0 h)
theorem eE1 (k : Nat) : (7 : Int32) * nI k + 1 = nI (7 * k + 1) := jx 7 k 1
theorem gE1 (h : k < 8) : a_in ((7 : Int32) * nI k + 1) 56 = true := a_in_I (eE1 k) (by omega) (by omega)
theorem xE1 (h : k < 8) : ((7 : Int32) * nI k + 1).toNatClampNeg = 7 * k + 1 := ix_G (eE1 k) (by omega)
theorem dE1 (h : k < 8) : aAd 36 0 (7 * k + 1) = some (48 + 7 * k + 1) := (aE_ (by omega)).trans (congrArg some (by omega))
theorem rE1 (h : k < 8) : setS m s 36 0 ((7 : Int32) * nI k + 1).toNatClampNeg = s (48 + 7 * k + 1) := by rw [xE1 h]; exact S_ad (dE1 h)
theorem uE1 (h : k < 8) : a_up (setS m s) 36 0 ((7 : Int32) * nI k + 1).toNatClampNeg v = setS m (upd s (48 + 7 * k + 1) v) := by rw [xE1 h]; exact U_ad (dE1 h)
theorem eE2 (k : Nat) : (7 : Int32) * nI k + 2 = nI (7 * k + 2) := jx 7 k 2
theorem gE2 (h : k < 8) : a_in ((7 : Int32) * nI k + 2) 56 = true := a_in_I (eE2 k) (by omega) (by omega)
theorem xE2 (h : k < 8) : ((7 : Int32) * nI k + 2).toNatClampNeg = 7 * k + 2 := ix_G (eE2 k) (by omega)
theorem dE2 (h : k < 8) : aAd 36 0 (7 * k + 2) = some (48 + 7 * k + 2) := (aE_ (by omega)).trans (congrArg some (by omega))
theorem rE2 (h : k < 8) : setS m s 36 0 ((7 : Int32) * nI k + 2).toNatClampNeg = s (48 + 7 * k + 2) := by rw [xE2 h]; exact S_ad (dE2 h)
theorem uE2 (h : k < 8) : a_up (setS m s) 36 0 ((7 : Int32) * nI k + 2).toNatClampNeg v = setS m (upd s (48 + 7 * k + 2) v) := by rw [xE2 h]; exact U_ad (dE2 h)
theorem eE3 (k : Nat) : (7 : Int32) * nI k + 3 = nI (7 * k + 3) := jx 7 k 3
theorem gE3 (h : k < 8) : a_in ((7 : Int32) * nI k + 3) 56 = true := a_in_I (eE3 k) (by omega) (by omega)
theorem xE3 (h : k < 8) : ((7 : Int32) * nI k + 3).toNatClampNeg = 7 * k + 3 := ix_G (eE3 k) (by omega)
theorem dE3 (h : k < 8) : aAd 36 0 (7 * k + 3) = some (48 + 7 * k + 3) := (aE_ (by omega)).trans (congrArg some (by omega))
theorem rE3 (h : k < 8) : setS m s 36 0 ((7 : Int32) * nI k + 3).toNatClampNeg = s (48 + 7 * k + 3) := by rw [xE3 h]; exact S_ad (dE3 h)
theorem uE3 (h : k < 8) : a_up (setS m s) 36 0 ((7 : Int32) * nI k + 3).toNatClampNeg v = setS m (upd s (48 + 7 * k + 3) v) := by rw [xE3 h]; exact U_ad (dE3 h)
theorem eE4 (k : Nat) : (7 : Int32) * nI k + 4 = nI (7 * k + 4) := jx 7 k 4
theorem gE4 (h : k < 8) : a_in ((7 : Int32) * nI k + 4) 56 = true := a_in_I (eE4 k) (by omega) (by omega)
theorem xE4 (h : k < 8) : ((7 : Int32) * nI k + 4).toNatClampNeg = 7 * k + 4 := ix_G (eE4 k) (by omega)
theorem dE4 (h : k < 8) : aAd 36 0 (7 * k + 4) = some (48 + 7 * k + 4) := (aE_ (by omega)).trans (congrArg some (by omega))
theorem rE4 (h : k < 8) : setS m s 36 0 ((7 : Int32) * nI k + 4).toNatClampNeg = s (48 + 7 * k + 4) := by rw [xE4 h]; exact S_ad (dE4 h)
theorem uE4 (h : k < 8) : a_up (setS m s) 36 0 ((7 : Int32) * nI k + 4).toNatClampNeg v = setS m (upd s (48 + 7 * k + 4) v) := by rw [xE4 h]; exact U_ad (dE4 h)
theorem eE5 (k : Nat) : (7 : Int32) * nI k + 5 = nI (7 * k + 5) := jx 7 k 5
theorem gE5 (h : k < 8) : a_in ((7 : Int32) * nI k + 5) 56 = true := a_in_I (eE5 k) (by omega) (by omega)
theorem xE5 (h : k < 8) : ((7 : Int32) * nI k + 5).toNatClampNeg = 7 * k + 5 := ix_G (eE5 k) (by omega)
theorem dE5 (h : k < 8) : aAd 36 0 (7 * k + 5) = some (48 + 7 * k + 5) := (aE_ (by omega)).trans (congrArg some (by omega))
theorem rE5 (h : k < 8) : setS m s 36 0 ((7 : Int32) * nI k + 5).toNatClampNeg = s (48 + 7 * k + 5) := by rw [xE5 h]; exact S_ad (dE5 h)
theorem uE5 (h : k < 8) : a_up (setS m s) 36 0 ((7 : Int32) * nI k + 5).toNatClampNeg v = setS m (upd s (48 + 7 * k + 5) v) := by rw [xE5 h]; exact U_ad (dE5 h)
theorem eE6 (k : Nat) : (7 : Int32) * nI k + 6 = nI (7 * k + 6) := jx 7 k 6
theorem gE6 (h : k < 8) : a_in ((7 : Int32) * nI k + 6) 56 = true := a_in_I (eE6 k) (by omega) (by omega)
theorem xE6 (h : k < 8) : ((7 : Int32) * nI k + 6).toNatClampNeg = 7 * k + 6 := ix_G (eE6 k) (by omega)
theorem dE6 (h : k < 8) : aAd 36 0 (7 * k + 6) = some (48 + 7 * k + 6) := (aE_ (by omega)).trans (congrArg some (by omega))
theorem rE6 (h : k < 8) : setS m s 36 0 ((7 : Int32) * nI k + 6).toNatClampNeg = s (48 + 7 * k + 6) := by rw [xE6 h]; exact S_ad (dE6 h)
theorem uE6 (h : k < 8) : a_up (setS m s) 36 0 ((7 : Int32) * nI k + 6).toNatClampNeg v = setS m (upd s (48 + 7 * k + 6) v) := by rw [xE6 h]; exact U_ad (dE6 h)
theorem eD0 (k : Nat) : (4 : Int32) * nI k = nI (4 * k + 0) := by rw [show (4 : Int32) = nI 4 from rfl, pk_mul]; rfl
theorem gD0 (h : k < 16) : a_in ((4 : Int32) * nI k) 64 = true := a_in_I (eD0 k) (by omega) (by omega)
theorem xD0 (h : k < 16) : ((4 : Int32) * nI k).toNatClampNeg = 4 * k + 0 := ix_G (eD0 k) (by omega)
theorem dD0 (h : k < 16) : aAd 37 0 (4 * k + 0) = some (104 + 10 * k + 0) := (aD_ h (by omega))
theorem rD0 (h : k < 16) : setS m s 37 0 ((4 : Int32) * nI k).toNatClampNeg = s (104 + 10 * k + 0) := by rw [xD0 h]; exact S_ad (dD0 h)
theorem uD0 (h : k < 16) : a_up (setS m s) 37 0 ((4 : Int32) * nI k).toNatClampNeg v = setS m (upd s (104 + 10 * k + 0) v) := by rw [xD0 h]; exact U_ad (dD0 h)
theorem eD1 (k : Nat) : (4 : Int32) * nI k + 1 = nI (4 * k + 1) := jx 4 k 1
theorem gD1 (h : k < 16) : a_in ((4 : Int32) * nI k + 1) 64 = true := a_in_I (eD1 k) (by omega) (by omega)
theorem xD1 (h : k < 16) : ((4 : Int32) * nI k + 1).toNatClampNeg = 4 * k + 1 := ix_G (eD1 k) (by omega)
theorem dD1 (h : k < 16) : aAd 37 0 (4 * k + 1) = some (104 + 10 * k + 1) := (aD_ h (by omega))
theorem rD1 (h : k < 16) : setS m s 37 0 ((4 : Int32) * nI k + 1).toNatClampNeg = s (104 + 10 * k + 1) := by rw [xD1 h]; exact S_ad (dD1 h)
theorem uD1 (h : k < 16) : a_up (setS m s) 37 0 ((4 : Int32) * nI k + 1).toNatClampNeg v = setS m (upd s (104 + 10 * k + 1) v) := by rw [xD1 h]; exact U_ad (dD1 h)
theorem eD2 (k : Nat) : (4 : Int32) * nI k + 2 = nI (4 * k + 2) := jx 4 k 2
theorem gD2 (h : k < 16) : a_in ((4 : Int32) * nI k + 2) 64 = true := a_in_I (eD2 k) (by omega) (by omega)
theorem xD2 (h : k < 16) : ((4 : Int32) * nI k + 2).toNatClampNeg = 4 * k + 2 := ix_G (eD2 k) (by omega)
theorem dD2 (h : k < 16) : aAd 37 0 (4 * k + 2) = some (104 + 10 * k + 2) := (aD_ h (by omega))
theorem rD2 (h : k < 16) : setS m s 37 0 ((4 : Int32) * nI k + 2).toNatClampNeg = s (104 + 10 * k + 2) := by rw [xD2 h]; exact S_ad (dD2 h)
theorem uD2 (h : k < 16) : a_up (setS m s) 37 0 ((4 : Int32) * nI k + 2).toNatClampNeg v = setS m (upd s (104 + 10 * k + 2) v) := by rw [xD2 h]; exact U_ad (dD2 h)
theorem eD3 (k : Nat) : (4 : Int32) * nI k + 3 = nI (4 * k + 3) := jx 4 k 3
theorem gD3 (h : k < 16) : a_in ((4 : Int32) * nI k + 3) 64 = true := a_in_I (eD3 k) (by omega) (by omega)
theorem xD3 (h : k < 16) : ((4 : Int32) * nI k + 3).toNatClampNeg = 4 * k + 3 := ix_G (eD3 k) (by omega)
theorem dD3 (h : k < 16) : aAd 37 0 (4 * k + 3) = some (104 + 10 * k + 3) := (aD_ h (by omega))
theorem rD3 (h : k < 16) : setS m s 37 0 ((4 : Int32) * nI k + 3).toNatClampNeg = s (104 + 10 * k + 3) := by rw [xD3 h]; exact S_ad (dD3 h)
theorem uD3 (h : k < 16) : a_up (setS m s) 37 0 ((4 : Int32) * nI k + 3).toNatClampNeg v = setS m (upd s (104 + 10 * k + 3) v) := by rw [xD3 h]; exact U_ad (dD3 h)
theorem eP0 (k : Nat) : (3 : Int32) * nI k = nI (3 * k + 0) := by rw [show (3 : Int32) = nI 3 from rfl, pk_mul]; rfl
theorem gP0 (h : k < 16) : a_in ((3 : Int32) * nI k) 48 = true := a_in_I (eP0 k) (by omega) (by omega)
theorem xP0 (h : k < 16) : ((3 : Int32) * nI k).toNatClampNeg = 3 * k + 0 := ix_G (eP0 k) (by omega)
theorem dP0 (h : k < 16) : aAd 38 0 (3 * k + 0) = some (104 + 10 * k + 4) := (aP_ h (by omega))
theorem rP0 (h : k < 16) : setS m s 38 0 ((3 : Int32) * nI k).toNatClampNeg = s (104 + 10 * k + 4) := by rw [xP0 h]; exact S_ad (dP0 h)
theorem uP0 (h : k < 16) : a_up (setS m s) 38 0 ((3 : Int32) * nI k).toNatClampNeg v = setS m (upd s (104 + 10 * k + 4) v) := by rw [xP0 h]; exact U_ad (dP0 h)
theorem eP1 (k : Nat) : (3 : Int32) * nI k + 1 = nI (3 * k + 1) := jx 3 k 1
theorem gP1 (h : k < 16) : a_in ((3 : Int32) * nI k + 1) 48 = true := a_in_I (eP1 k) (by omega) (by omega)
theorem xP1 (h : k < 16) : ((3 : Int32) * nI k + 1).toNatClampNeg = 3 * k + 1 := ix_G (eP1 k) (by omega)
theorem dP1 (h : k < 16) : aAd 38 0 (3 * k + 1) = some (104 + 10 * k + 5) := (aP_ h (by omega))
theorem rP1 (h : k < 16) : setS m s 38 0 ((3 : Int32) * nI k + 1).toNatClampNeg = s (104 + 10 * k + 5) := by rw [xP1 h]; exact S_ad (dP1 h)
theorem uP1 (h : k < 16) : a_up (setS m s) 38 0 ((3 : Int32) * nI k + 1).toNatClampNeg v = setS m (upd s (104 + 10 * k + 5) v) := by rw [xP1 h]; exact U_ad (dP1 h)
theorem eP2 (k : Nat) : (3 : Int32) * nI k + 2 = nI (3 * k + 2) := jx 3 k 2
theorem gP2 (h : k < 16) : a_in ((3 : Int32) * nI k + 2) 48 = true := a_in_I (eP2 k) (by omega) (by omega)
theorem xP2 (h : k < 16) : ((3 : Int32) * nI k + 2).toNatClampNeg = 3 * k + 2 := ix_G (eP2 k) (by omega)
theorem dP2 (h : k < 16) : aAd 38 0 (3 * k + 2) = some (104 + 10 * k + 6) := (aP_ h (by omega))
theorem rP2 (h : k < 16) : setS m s 38 0 ((3 : Int32) * nI k + 2).toNatClampNeg = s (104 + 10 * k + 6) := by rw [xP2 h]; exact S_ad (dP2 h)
theorem uP2 (h : k < 16) : a_up (setS m s) 38 0 ((3 : Int32) * nI k + 2).toNatClampNeg v = setS m (upd s (104 + 10 * k + 6) v) := by rw [xP2 h]; exact U_ad (dP2 h)
theorem eC0 (k : Nat) : (3 : Int32) * nI k = nI (3 * k + 0) := by rw [show (3 : Int32) = nI 3 from rfl, pk_mul]; rfl
theorem gC0 (h : k < 16) : a_in ((3 : Int32) * nI k) 48 = true := a_in_I (eC0 k) (by omega) (by omega)
theorem xC0 (h : k < 16) : ((3 : Int32) * nI k).toNatClampNeg = 3 * k + 0 := ix_G (eC0 k) (by omega)
theorem dC0 (h : k < 16) : aAd 39 0 (3 * k + 0) = some (104 + 10 * k + 7) := (aC_ h (by omega))
theorem rC0 (h : k < 16) : setS m s 39 0 ((3 : Int32) * nI k).toNatClampNeg = s (104 + 10 * k + 7) := by rw [xC0 h]; exact S_ad (dC0 h)
theorem uC0 (h : k < 16) : a_up (setS m s) 39 0 ((3 : Int32) * nI k).toNatClampNeg v = setS m (upd s (104 + 10 * k + 7) v) := by rw [xC0 h]; exact U_ad (dC0 h)
theorem eC1 (k : Nat) : (3 : Int32) * nI k + 1 = nI (3 * k + 1) := jx 3 k 1
theorem gC1 (h : k < 16) : a_in ((3 : Int32) * nI k + 1) 48 = true := a_in_I (eC1 k) (by omega) (by omega)
theorem xC1 (h : k < 16) : ((3 : Int32) * nI k + 1).toNatClampNeg = 3 * k + 1 := ix_G (eC1 k) (by omega)
theorem dC1 (h : k < 16) : aAd 39 0 (3 * k + 1) = some (104 + 10 * k + 8) := (aC_ h (by omega))
theorem rC1 (h : k < 16) : setS m s 39 0 ((3 : Int32) * nI k + 1).toNatClampNeg = s (104 + 10 * k + 8) := by rw [xC1 h]; exact S_ad (dC1 h)
theorem uC1 (h : k < 16) : a_up (setS m s) 39 0 ((3 : Int32) * nI k + 1).toNatClampNeg v = setS m (upd s (104 + 10 * k + 8) v) := by rw [xC1 h]; exact U_ad (dC1 h)
theorem eC2 (k : Nat) : (3 : Int32) * nI k + 2 = nI (3 * k + 2) := jx 3 k 2
theorem gC2 (h : k < 16) : a_in ((3 : Int32) * nI k + 2) 48 = true := a_in_I (eC2 k) (by omega) (by omega)
theorem xC2 (h : k < 16) : ((3 : Int32) * nI k + 2).toNatClampNeg = 3 * k + 2 := ix_G (eC2 k) (by omega)
theorem dC2 (h : k < 16) : aAd 39 0 (3 * k + 2) = some (104 + 10 * k + 9) := (aC_ h (by omega))
theorem rC2 (h : k < 16) : setS m s 39 0 ((3 : Int32) * nI k + 2).toNatClampNeg = s (104 + 10 * k + 9) := by rw [xC2 h]; exact S_ad (dC2 h)
theorem uC2 (h : k < 16) : a_up (setS m s) 39 0 ((3 : Int32) * nI k + 2).toNatClampNeg v = setS m (upd s (104 + 10 * k + 9) v) := by rw [xC2 h]; exact U_ad (dC2 h)
end SST
