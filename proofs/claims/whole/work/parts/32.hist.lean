/-! history, on both sides -/
def RpH (m : aM) (b : Nat) (s : aS0) : Prop := Rp m b s ∧ rg (s 0) 9999
def HsC (m : aM) (o c : Nat) (rows : Nat → aS0) : Prop := o < 6 ∧ c ≤ 5 ∧ m 28 0 1 = nI o ∧ m 28 0 2 = nI c ∧ ∀ i, i < c → RpH m (2 + (o + i) % 6) (rows i)
def HsR (m : aM) (c : Nat) (rows : Nat → aS0) : Prop := c ≤ 5 ∧ m 34 0 5 = nI c ∧ ∀ i, i < c → ∀ j, j < 264 → m 36 0 (264 * i + j) = rows i j
def pushN (c : Nat) : Nat := if c < 5 then c + 1 else 5
def pushR (c : Nat) (rows : Nat → aS0) (s : aS0) : Nat → aS0 := if c < 5 then (fun i => if i = c then s else rows i) else (fun i => if i = 4 then s else rows (i + 1))
theorem RpH_Fr {m m' : aM} {b b' : Nat} {s : aS0} (h : RpH m b' s) (hF : Fr b m m') (hb : ¬ b' = b) : RpH m' b' s := ⟨Rp_Fr h.1 hF hb, h.2⟩
/-- a memory that is the same in the class's blocks and in the tables -/
theorem Rp_same {m m' : aM} {b : Nat} {s : aS0} (h : Rp m b s) (h1 : ∀ c, c < 27 → m' c b = m c b) (h2 : ∀ c, 41 ≤ c → m' c 0 = m c 0) : Rp m' b s := Rp_cp h (Cst_of h.1 h2) (fun c hc j _ => by rw [h1 c hc])
theorem RpH_same {m m' : aM} {b : Nat} {s : aS0} (h : RpH m b s) (h1 : ∀ c, c < 27 → m' c b = m c b) (h2 : ∀ c, 41 ≤ c → m' c 0 = m c 0) : RpH m' b s := ⟨Rp_same h.1 h1 h2, h.2⟩
theorem HsC_Fr {m m' : aM} {o c b : Nat} {rows : Nat → aS0} (h : HsC m o c rows) (hF : Fr b m m') (hb : ∀ i, i < c → ¬ 2 + (o + i) % 6 = b) : HsC m' o c rows := by
  obtain ⟨h1, h2, h3, h4, h5⟩ := h
  exact ⟨h1, h2, by rw [hF 28 0 (Or.inl (by omega))]; exact h3, by rw [hF 28 0 (Or.inl (by omega))]; exact h4, fun i hi => RpH_Fr (h5 i hi) hF (hb i hi)⟩
section HIS
variable {m : aM} {s : aS0} {o c : Nat} {rows : Nat → aS0} {Qv : aM → Prop} {Q : Int32 → aM → Prop}
theorem iR_n {a d : Nat} (ha : a < 2 ^ 31) (h0 : 0 < d) (hd : d < 2 ^ 31) : iR (nI a) (nI d) = nI (a % d) := pk_rem ha h0 hd
theorem K_27 (hH : HsC m o c rows) (hR : RpH m 0 s) (hQ : ∀ m1, HsC m1 o c rows → RpH m1 0 s → RpH m1 (2 + (o + c) % 6) s → Fr (2 + (o + c) % 6) m m1 → Qv m1) : Mv 27 [.inr (28, 0), .inr (0, 0)] m Qv := by
  have hH0 := hH
  obtain ⟨lo, lc, e1, e2, hB⟩ := hH
  refine T_27 ?_
  have ei : iR (m 28 0 1 + m 28 0 2) 6 = nI ((o + c) % 6) := by
    rw [e1, e2, nI_add]
    exact iR_n (d := 6) (by omega) (by omega) (by omega)
  rw [ei, ixK (by omega), show a_el 29 ((o + c) % 6) = 2 + (o + c) % 6 from rfl]
  refine ⟨inK (by omega) (by omega), ?_⟩
  refine K_30 (by omega) hR.1 ?_
  intro m1 h1 hF
  exact hQ m1 (HsC_Fr hH0 hF (fun i hi => by omega)) (RpH_Fr hR hF (by omega)) ⟨h1, hR.2⟩ hF
theorem K_28 (hH : HsC m o c rows) (hN : RpH m (2 + (o + c) % 6) s) (hQ : ∀ m1 o1, HsC m1 o1 (pushN c) (pushR c rows s) → (∀ c' d, ¬ c' = 28 → m1 c' d = m c' d) → Qv m1) : Mv 28 [.inr (28, 0)] m Qv := by
  obtain ⟨lo, lc, e1, e2, hB⟩ := hH
  refine T_28 ?_
  rw [e1, e2]
  by_cases h5 : c < 5
  · refine i_pos (nI_lt (b := 5) h5 (by omega)) ?_
    intro m2 em
    have oth : ∀ c' d, ¬ c' = 28 → m2 c' d = m c' d := fun c' d h => by rw [em]; exact up_of (Or.inl h)
    refine hQ m2 o ?_ oth
    unfold pushN pushR
    rw [if_pos h5, if_pos h5]
    refine ⟨lo, by omega, by rw [em, up_o (by omega)]; exact e1, by rw [em, up_e, nI_1], fun i hi => ?_⟩
    dsimp only
    by_cases hic : i = c
    · rw [if_pos hic, hic]
      exact RpH_same hN (fun c' hc' => oth c' _ (by omega)) (fun c' hc' => oth c' _ (by omega))
    · rw [if_neg hic]
      exact RpH_same (hB i (by omega)) (fun c' hc' => oth c' _ (by omega)) (fun c' hc' => oth c' _ (by omega))
  · refine i_neg (nI_nlt (a := c) (b := 5) (by omega) (by omega)) ?_
    intro m2 em
    have oth : ∀ c' d, ¬ c' = 28 → m2 c' d = m c' d := fun c' d h => by rw [em]; exact up_of (Or.inl h)
    obtain rfl : c = 5 := by omega
    refine hQ m2 ((o + 1) % 6) ?_ oth
    unfold pushN pushR
    rw [if_neg (by omega), if_neg (by omega)]
    refine ⟨by omega, by omega, ?_, by rw [em, up_o (by omega)]; exact e2, fun i hi => ?_⟩
    · rw [em, up_e, nI_1]
      exact iR_n (d := 6) (by omega) (by omega) (by omega)
    · dsimp only
      by_cases hic : i = 4
      · rw [if_pos hic, hic, show ((o + 1) % 6 + 4) % 6 = (o + 5) % 6 by omega]
        exact RpH_same hN (fun c' hc' => oth c' _ (by omega)) (fun c' hc' => oth c' _ (by omega))
      · rw [if_neg hic, show ((o + 1) % 6 + i) % 6 = (o + (i + 1)) % 6 by omega]
        exact RpH_same (hB (i + 1) (by omega)) (fun c' hc' => oth c' _ (by omega)) (fun c' hc' => oth c' _ (by omega))
theorem K_91 {v : Int32} (hH : HsC m o c rows) (hN : RpH m (2 + (o + c) % 6) s) (h1 : v < 0 → Q v m) (h2 : ¬ v < 0 → ∀ m1 o1, HsC m1 o1 (pushN c) (pushR c rows s) → (∀ c' d, ¬ c' = 28 → m1 c' d = m c' d) → Q v m1) : Mi 91 [.inr (27, 0), .inl v] m Q := by
  refine T_91 ?_
  by_cases hv : v < 0
  · exact i_pos hv (h1 hv)
  · refine i_neg hv (K_28 hH hN ?_)
    intro m1 o1 q1 q2
    exact h2 hv m1 o1 q1 q2
/-- a part of a row of the reference copied -/
def rcp (m : aM) (c0 o0 c1 o1 n : Nat) : aM := fun c b j => if c = c1 ∧ b = 0 ∧ o1 ≤ j ∧ j < o1 + n then m c0 0 (j - o1 + o0) else m c b j
theorem rcp_0 {c0 o0 c1 o1 : Nat} : rcp m c0 o0 c1 o1 0 = m := by
  funext c b j
  unfold rcp
  rw [if_neg (by omega)]
theorem rcp_o {c0 o0 c1 o1 n c b j : Nat} (h : ¬ c = c1 ∨ ¬ b = 0 ∨ j < o1 ∨ o1 + n ≤ j) : rcp m c0 o0 c1 o1 n c b j = m c b j := by
  unfold rcp
  rw [if_neg (by omega)]
theorem rcp_of {c0 o0 c1 o1 n c b : Nat} (h : ¬ c = c1 ∨ ¬ b = 0) : rcp m c0 o0 c1 o1 n c b = m c b := by
  funext j
  exact rcp_o (by omega)
theorem rcp_i {c0 o0 c1 o1 n k : Nat} (h : k < n) : rcp m c0 o0 c1 o1 n c1 0 (o1 + k) = m c0 0 (o0 + k) := by
  unfold rcp
  rw [if_pos (by omega)]
  congr 1
  omega
theorem rcp_s {c0 o0 c1 o1 k : Nat} (h : ¬ c0 = c1 ∨ o1 ≤ o0) : a_up (rcp m c0 o0 c1 o1 k) c1 0 (o1 + k) (rcp m c0 o0 c1 o1 k c0 0 (o0 + k)) = rcp m c0 o0 c1 o1 (k + 1) := by
  rw [rcp_o (by omega)]
  funext c b j
  by_cases hj : c = c1 ∧ b = 0 ∧ j = o1 + k
  · obtain ⟨rfl, rfl, rfl⟩ := hj
    rw [up_e, rcp_i (by omega)]
  · rw [up_o (by omega)]
    by_cases hr : c = c1 ∧ b = 0 ∧ o1 ≤ j ∧ j < o1 + k
    · unfold rcp
      rw [if_pos hr, if_pos (by omega)]
    · rw [rcp_o (by omega), rcp_o (by omega)]
theorem lit_add (a k : Nat) : nI a + nI k = nI (a + k) := nI_add a k
theorem R_98_59 {a : Nat} (ha : m 34 0 5 = nI a) (la : a ≤ 4) (hQ : Qv (a_up (rcp m 35 0 36 (264 * a) 264) 34 0 5 (nI (a + 1)))) : H_98_59 0 m Qv := by
  refine dn0 (n := 264) (P := fun k => H_98_59 (nI k) (rcp m 35 0 36 (264 * a) k) Qv) ?_ ?_ |> fun h => by rwa [rcp_0] at h
  · refine T_98_59 (i_neg (by decide) ?_)
    intro m5 e5
    subst e5
    rw [rcp_of (by omega), ha, nI_1]
    exact hQ
  · intro k hk ih
    refine T_98_59 (i_pos (nI_lt (b := 264) hk (by omega)) ⟨inK (by omega) (by omega), ?_⟩)
    have ei : (264 : Int32) * (rcp m 35 0 36 (264 * a) k) 34 0 5 + nI k = nI (264 * a + k) := by
      rw [rcp_of (by omega), ha, show (264 : Int32) = nI 264 from rfl, pk_mul, nI_add]
    rw [ei]
    refine ⟨inK (by omega) (by omega), ?_⟩
    intro m4 e4
    subst e4
    rw [ixK (by omega), ixK (by omega), nI_1]
    have := rcp_s (m := m) (c0 := 35) (o0 := 0) (c1 := 36) (o1 := 264 * a) (k := k) (Or.inl (by omega))
    rw [Nat.zero_add] at this
    rw [this]
    exact ih
theorem R_98_18 (ha : m 34 0 5 = nI 5) (hQ : Qv (a_up (rcp (a_up (rcp m 36 264 36 0 1056) 34 0 5 (nI 4)) 35 0 36 1056 264) 34 0 5 (nI 5))) : H_98_18 0 m Qv := by
  refine dn0 (n := 1056) (P := fun k => H_98_18 (nI k) (rcp m 36 264 36 0 k) Qv) ?_ ?_ |> fun h => by rwa [rcp_0] at h
  · refine T_98_18 (i_neg (by decide) ?_)
    intro m5 e5
    subst e5
    rw [rcp_of (by omega), ha, show nI 5 - 1 = nI 4 from nI_pred 4]
    exact R_98_59 (a := 4) up_e (by omega) hQ
  · intro k hk ih
    refine T_98_18 (i_pos (nI_lt (b := 1056) hk (by omega)) ?_)
    have ei : nI k + 264 = nI (264 + k) := by rw [show (264 : Int32) = nI 264 from rfl, nI_add, Nat.add_comm]
    rw [ei]
    refine ⟨inK (by omega) (by omega), inK (by omega) (by omega), ?_⟩
    intro m4 e4
    subst e4
    rw [ixK (by omega), ixK (by omega), nI_1]
    have := rcp_s (m := m) (c0 := 36) (o0 := 264) (c1 := 36) (o1 := 0) (k := k) (Or.inr (by omega))
    rw [Nat.zero_add] at this
    rw [this]
    exact ih
def Rec (m m1 : aM) : Prop := (¬ m 34 0 6 = 0 ∧ m1 = m) ∨ (m 34 0 6 = 0 ∧ (∀ c d, ¬ c = 36 → ¬ c = 34 → m1 c d = m c d) ∧ (∀ j, ¬ j = 5 → m1 34 0 j = m 34 0 j) ∧ ∀ c rows, HsR m c rows → HsR m1 (pushN c) (pushR c rows (m 35 0)))
def pOk (m : aM) : Prop := m 34 0 6 = 0 → ∃ c, c ≤ 5 ∧ m 34 0 5 = nI c
theorem R_98 (hp : pOk m) (hQ : ∀ m1, Rec m m1 → Qv m1) : Mv 98 [.inr (34, 0)] m Qv := by
  refine T_98 ?_
  by_cases hr : m 34 0 6 = 0
  · refine i_pos hr ?_
    obtain ⟨c, lc, ec⟩ := hp hr
    by_cases h5 : c = 5
    · subst h5
      refine i_pos (by rw [ec]; rfl) (R_98_18 ec (hQ _ (Or.inr ⟨hr, ?_, ?_, ?_⟩)))
      · intro c d h1 h2
        rw [up_of (by omega), rcp_of (by omega), up_of (by omega), rcp_of (by omega)]
      · intro j hj
        rw [up_o (by omega), rcp_o (by omega), up_o (by omega), rcp_o (by omega)]
      · intro c2 rows h
        obtain ⟨l2, e2, hB⟩ := h
        obtain rfl : c2 = 5 := (nI_eq (by omega) (by omega)).mp (e2.symm.trans ec)
        refine ⟨by decide, up_e, fun i hi j hj => ?_⟩
        have hi : i < 5 := hi
        show _ = (if i = 4 then m 35 0 else rows (i + 1)) j
        rw [up_o (by omega)]
        by_cases h4 : i = 4
        · rw [if_pos h4, h4, show 264 * 4 + j = 1056 + j by omega, rcp_i hj, up_o (by omega), rcp_o (by omega), Nat.zero_add]
        · rw [if_neg h4, rcp_o (by omega), up_o (by omega), show 264 * i + j = 0 + (264 * i + j) by omega, rcp_i (by omega), show 264 + (264 * i + j) = 264 * (i + 1) + j by omega]
          exact hB (i + 1) (by omega) j hj
    · refine i_neg (by rw [ec, show (5 : Int32) = nI 5 from rfl, nI_eq (by omega) (by omega)]; exact h5) (R_98_59 ec (by omega) (hQ _ (Or.inr ⟨hr, ?_, ?_, ?_⟩)))
      · intro c d h1 h2
        rw [up_of (by omega), rcp_of (by omega)]
      · intro j hj
        rw [up_o (by omega), rcp_o (by omega)]
      · intro c2 rows h
        obtain ⟨l2, e2, hB⟩ := h
        obtain rfl : c2 = c := (nI_eq (by omega) (by omega)).mp (e2.symm.trans ec)
        have hlt : c2 < 5 := by omega
        unfold pushN pushR
        rw [if_pos hlt, if_pos hlt]
        refine ⟨by omega, up_e, fun i hi j hj => ?_⟩
        dsimp only
        rw [up_o (by omega)]
        by_cases h4 : i = c2
        · rw [if_pos h4, h4, rcp_i hj, Nat.zero_add]
        · rw [if_neg h4, rcp_o (by omega)]
          exact hB i (by omega) j hj
  · exact i_neg hr (hQ m (Or.inl ⟨hr, rfl⟩))
end HIS
