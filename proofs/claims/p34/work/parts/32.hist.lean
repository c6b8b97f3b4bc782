/-! history, on both sides -/
def RpH (m : aM) (b : Nat) (s : aS0) : Prop := Rp m b s ∧ rg (s 0) 9999
def HsC (m : aM) (o c : Nat) (rows : Nat → aS0) : Prop := o < 6 ∧ c ≤ 5 ∧ m 28 0 1 = nI o ∧ m 28 0 2 = nI c ∧ ∀ i, i < c → RpH m (2 + (o + i) % 6) (rows i)
def pushN (c : Nat) : Nat := if c < 5 then c + 1 else 5
def pushR (c : Nat) (rows : Nat → aS0) (s : aS0) : Nat → aS0 := if c < 5 then (fun i => if i = c then s else rows i) else (fun i => if i = 4 then s else rows (i + 1))
theorem RpH_Fr {m m' : aM} {b b' : Nat} {s : aS0} (h : RpH m b' s) (hF : Fr b m m') (hb : ¬ b' = b) : RpH m' b' s := ⟨Rp_Fr h.1 hF hb, h.2⟩
/-- a memory that is the same in the class's blocks and in the tables -/
theorem Rp_same {m m' : aM} {b : Nat} {s : aS0} (h : Rp m b s) (h1 : ∀ c, c < 27 → m' c b = m c b) (h2 : ∀ c, 41 ≤ c → m' c 0 = m c 0) : Rp m' b s := Rp_cp h (Cst_of h.1 h2) (fun c hc j _ => by rw [h1 c hc])
theorem RpH_same {m m' : aM} {b : Nat} {s : aS0} (h : RpH m b s) (h1 : ∀ c, c < 27 → m' c b = m c b) (h2 : ∀ c, 41 ≤ c → m' c 0 = m c 0) : RpH m' b s := ⟨Rp_same h.1 h1 h2, h.2⟩
theorem HsC_Fr {m m' : aM} {o c b : Nat} {rows : Nat → aS0} (h : HsC m o c rows) (hF : Fr b m m') (hb : ∀ i, i < c → ¬ 2 + (o + i) % 6 = b) : HsC m' o c rows := by
  obtain ⟨h1, h2, h3, h4, h5⟩ := h
  exact ⟨h1, h2, by rw [hF 28 0 (Or.inl (by omega))]; exact h3, by rw [hF 28 0 (Or.inl (by omega))]; exact h4, fun i hi => RpH_Fr (h5 i hi) hF (hb i hi)⟩
section HIS
variable {m : aM} {s : aS0} {o c : Nat} {rows : Nat → aS0} {Qv : aM → Prop} {Q : Int32 → aM → Prop}
theorem iR_n {a d : Nat} (ha : a < 2 ^ 31) (h0 : 0 < d) (hd : d < 2 ^ 31) : iR (nI a) (nI d) = nI (a % d) := pk_rem ha h0 hd
theorem K_27 (hH : HsC m o c rows) (hR : RpH m 0 s) (hQ : ∀ m1, HsC m1 o c rows → RpH m1 0 s → RpH m1 (2 + (o + c) % 6) s → Fr (2 + (o + c) % 6) m m1 → Qv m1) : Mv 27 [.inr (28, 0), .inr (0, 0)] m Qv := by
  have hH0 := hH
  obtain ⟨lo, lc, e1, e2, hB⟩ := hH
  refine T_27 ?_
  have ei : iR (m 28 0 1 + m 28 0 2) 6 = nI ((o + c) % 6) := by
    rw [e1, e2, nI_add]
    exact iR_n (d := 6) (by omega) (by omega) (by omega)
  rw [ei, ixK (by omega), show a_el 29 ((o + c) % 6) = 2 + (o + c) % 6 from rfl]
  refine ⟨inK (by omega) (by omega), ?_⟩
  refine K_30 (by omega) hR.1 ?_
  intro m1 h1 hF
  exact hQ m1 (HsC_Fr hH0 hF (fun i hi => by omega)) (RpH_Fr hR hF (by omega)) ⟨h1, hR.2⟩ hF
theorem K_28 (hH : HsC m o c rows) (hN : RpH m (2 + (o + c) % 6) s) (hQ : ∀ m1 o1, HsC m1 o1 (pushN c) (pushR c rows s) → (∀ c' d, ¬ c' = 28 → m1 c' d = m c' d) → Qv m1) : Mv 28 [.inr (28, 0)] m Qv := by
  obtain ⟨lo, lc, e1, e2, hB⟩ := hH
  refine T_28 ?_
  rw [e1, e2]
  by_cases h5 : c < 5
  · refine i_pos (nI_lt (b := 5) h5 (by omega)) ?_
    intro m2 em
    have oth : ∀ c' d, ¬ c' = 28 → m2 c' d = m c' d := fun c' d h => by rw [em]; exact up_of (Or.inl h)
    refine hQ m2 o ?_ oth
    unfold pushN pushR
    rw [if_pos h5, if_pos h5]
    refine ⟨lo, by omega, by rw [em, up_o (by omega)]; exact e1, by rw [em, up_e, nI_1], fun i hi => ?_⟩
    dsimp only
    by_cases hic : i = c
    · rw [if_pos hic, hic]
      exact RpH_same hN (fun c' hc' => oth c' _ (by omega)) (fun c' hc' => oth c' _ (by omega))
    · rw [if_neg hic]
      exact RpH_same (hB i (by omega)) (fun c' hc' => oth c' _ (by omega)) (fun c' hc' => oth c' _ (by omega))
  · refine i_neg (nI_nlt (a := c) (b := 5) (by omega) (by omega)) ?_
    intro m2 em
    have oth : ∀ c' d, ¬ c' = 28 → m2 c' d = m c' d := fun c' d h => by rw [em]; exact up_of (Or.inl h)
    obtain rfl : c = 5 := by omega
    refine hQ m2 ((o + 1) % 6) ?_ oth
    unfold pushN pushR
    rw [if_neg (by omega), if_neg (by omega)]
    refine ⟨by omega, by omega, ?_, by rw [em, up_o (by omega)]; exact e2, fun i hi => ?_⟩
    · rw [em, up_e, nI_1]
      exact iR_n (d := 6) (by omega) (by omega) (by omega)
    · dsimp only
      by_cases hic : i = 4
      · rw [if_pos hic, hic, show ((o + 1) % 6 + 4) % 6 = (o + 5) % 6 by omega]
        exact RpH_same hN (fun c' hc' => oth c' _ (by omega)) (fun c' hc' => oth c' _ (by omega))
      · rw [if_neg hic, show ((o + 1) % 6 + i) % 6 = (o + (i + 1)) % 6 by omega]
        exact RpH_same (hB (i + 1) (by omega)) (fun c' hc' => oth c' _ (by omega)) (fun c' hc' => oth c' _ (by omega))
theorem K_91 {v : Int32} (hH : HsC m o c rows) (hN : RpH m (2 + (o + c) % 6) s) (h1 : v < 0 → Q v m) (h2 : ¬ v < 0 → ∀ m1 o1, HsC m1 o1 (pushN c) (pushR c rows s) → (∀ c' d, ¬ c' = 28 → m1 c' d = m c' d) → Q v m1) : Mi 91 [.inr (27, 0), .inl v] m Q := by
  refine T_91 ?_
  by_cases hv : v < 0
  · exact i_pos hv (h1 hv)
  · refine i_neg hv (K_28 hH hN ?_)
    intro m1 o1 q1 q2
    exact h2 hv m1 o1 q1 q2
end HIS
