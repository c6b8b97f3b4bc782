/-! the acts: events, devices, settings -/
section AC2
variable {m : aM} {s : aS0} {b k : Nat} {v x y : Int32} {Q : Int32 → aM → Prop} {Qv : aM → Prop}
theorem rg_of2 {lo : Int32} {B C : Nat} (hl : rg lo C) (hC : C < 2 ^ 31) (hB : B < 2 ^ 31) (h : ¬ (v < lo ∨ nI B < v)) : rg v B := by
  refine rg_of hB (fun z => h (z.elim (fun q => Or.inl ?_) Or.inr))
  obtain ⟨n, ln, rfl⟩ := hl
  rw [Int32.lt_iff_toInt_lt, nI_toInt (by omega)]
  rw [Int32.lt_iff_toInt_lt] at q
  have : (0 : Int32).toInt = 0 := by decide +kernel
  omega
theorem lt_suc {a : Nat} (ha : a < 10000) : v < nI a + 1 ↔ ¬ nI a < v := by
  rw [nI_1, Int32.lt_iff_toInt_lt, Int32.lt_iff_toInt_lt, nI_toInt (by omega), nI_toInt (by omega)]
  omega
def aNewE (s : aS0) (x y r ch f t : Int32) : aS0 := upd (upd (upd (upd (upd (upd (upd (upd s (48 + 7 * nE s + 0) x) (48 + 7 * nE s + 1) y) (48 + 7 * nE s + 2) r) (48 + 7 * nE s + 3) ch) (48 + 7 * nE s + 4) f) (48 + 7 * nE s + 5) t) (48 + 7 * nE s + 6) 0) 2 (s 2 + 1)
def aAddE (x y r ch f t : Int32) (s : aS0) : Int32 × aS0 := if (x < 0 ∨ 99 < x) ∨ (y < 0 ∨ 99 < y) then ((-2), s) else if r < 1 ∨ 30 < r then ((-2), s) else if ch < 0 ∨ 7 < ch then ((-2), s) else if f < s 0 ∨ 9998 < f then ((-2), s) else if t < f + 1 ∨ 9999 < t then ((-2), s) else if s 2 < 8 then (s 2, mRev (aNewE s x y r ch f t)) else ((-4), s)
theorem aNewE_o {r ch f t : Int32} {i : Nat} (h : i < 48 + 7 * nE s ∨ 48 + 7 * nE s + 7 ≤ i) (h2 : ¬ i = 2) : aNewE s x y r ch f t i = s i := by
  unfold aNewE
  rw [upd_n h2, upd_n (by omega), upd_n (by omega), upd_n (by omega), upd_n (by omega), upd_n (by omega), upd_n (by omega), upd_n (by omega)]
theorem C_32 {r ch f t : Int32} : ActC (aAddE x y r ch f t) 32 [.inl x, .inl y, .inl r, .inl ch, .inl f, .inl t] := by
  intro m b s Q hR hQ
  have hN := hR.1.2.1
  obtain ⟨eE, lE⟩ := WF_E (Rp_W hR.1)
  refine T_32 ?_
  unfold aAddE at hQ
  by_cases h1 : (x < 0 ∨ 99 < x) ∨ (y < 0 ∨ 99 < y)
  · rw [if_pos h1] at hQ; exact i_pos h1 (hQ m hR Fr_rf)
  rw [if_neg h1] at hQ
  refine i_neg h1 ?_
  by_cases h2 : r < 1 ∨ 30 < r
  · rw [if_pos h2] at hQ; exact i_pos h2 (hQ m hR Fr_rf)
  rw [if_neg h2] at hQ
  refine i_neg h2 ?_
  by_cases h3 : ch < 0 ∨ 7 < ch
  · rw [if_pos h3] at hQ; exact i_pos h3 (hQ m hR Fr_rf)
  rw [if_neg h3] at hQ
  refine i_neg h3 ?_
  rw [hN.1]
  by_cases h4 : f < s 0 ∨ 9998 < f
  · rw [if_pos h4] at hQ; exact i_pos h4 (hQ m hR Fr_rf)
  rw [if_neg h4] at hQ
  refine i_neg h4 ?_
  by_cases h5 : t < f + 1 ∨ 9999 < t
  · rw [if_pos h5] at hQ; exact i_pos h5 (hQ m hR Fr_rf)
  rw [if_neg h5] at hQ
  refine i_neg h5 ?_
  rw [hN.2.2.2.2.2.2.1]
  by_cases h6 : s 2 < 8
  · rw [if_pos h6] at hQ
    dsimp only at hQ
    refine i_pos h6 ?_
    have hk : nE s < 8 := by
      rw [eE] at h6
      exact (nI_ltI (b := 8) (by omega) (by omega)).mp h6
    have ek : (s 2).toNatClampNeg = nE s := rfl
    rw [ek]
    refine ⟨by rw [eE]; exact inK hk (by omega), ?_⟩
    intro m8 e8 m9 e9 m10 e10 m11 e11 m12 e12 m13 e13 m14 e14 m15 e15
    have rf : rg f 9998 := rg_of2 (B := 9998) hR.2 (by omega) (by omega) h4
    have rt : rg t 9999 := rg_of2 (B := 9999) (rg_1 rf) (by omega) (by omega) h5
    have hF : Fr b m m15 := by
      rw [e15, e14, e13, e12, e11, e10, e9, e8]
      exact Fr_tr (Fr_up (by omega)) (Fr_tr (Fr_up (by omega)) (Fr_tr (Fr_up (by omega)) (Fr_tr (Fr_up (by omega)) (Fr_tr (Fr_up (by omega)) (Fr_tr (Fr_up (by omega)) (Fr_tr (Fr_up (by omega)) (Fr_up (by omega))))))))
    have hR4 : Rp m15 b (aNewE s x y r ch f t) := by
      refine add_E hR.1 rfl hk (fun i hi h => aNewE_o hi h) ?_ ?_ hF ?_ ?_ ?_
      · unfold aNewE
        rw [upd_e, eE, nI_1]
      · unfold aNewE
        refine ⟨?_, ?_, Or.inl ?_⟩
        · rw [upd_n (by omega), upd_n (by omega), upd_n (by omega), upd_e]; exact rg_le rf (by omega)
        · rw [upd_n (by omega), upd_n (by omega), upd_e]; exact rt
        · rw [upd_n (by omega), upd_e]
      · intro c j hc h1 h2
        rw [e15, up_o (by omega), e14, up_o (by omega), e13, up_o (by omega), e12, up_o (by omega), e11, up_o (by omega), e10, up_o (by omega), e9, up_o (by omega), e8, up_o (by omega)]
      · rw [e15, up_e, e14, up_o (by omega), e13, up_o (by omega), e12, up_o (by omega), e11, up_o (by omega), e10, up_o (by omega), e9, up_o (by omega), e8, up_o (by omega), hN.2.2.2.2.2.2.1, eE, nI_1]
      · unfold aNewE Re
        refine ⟨?_, ?_, ?_, ?_, ?_, ?_, ?_⟩
        · rw [upd_n (by omega), upd_n (by omega), upd_n (by omega), upd_n (by omega), upd_n (by omega), upd_n (by omega), upd_n (by omega), upd_e, e15, up_o (by omega), e14, up_o (by omega), e13, up_o (by omega), e12, up_o (by omega), e11, up_o (by omega), e10, up_o (by omega), e9, up_o (by omega), e8, up_e]
        · rw [upd_n (by omega), upd_n (by omega), upd_n (by omega), upd_n (by omega), upd_n (by omega), upd_n (by omega), upd_e, e15, up_o (by omega), e14, up_o (by omega), e13, up_o (by omega), e12, up_o (by omega), e11, up_o (by omega), e10, up_o (by omega), e9, up_e]
        · rw [upd_n (by omega), upd_n (by omega), upd_n (by omega), upd_n (by omega), upd_n (by omega), upd_e, e15, up_o (by omega), e14, up_o (by omega), e13, up_o (by omega), e12, up_o (by omega), e11, up_o (by omega), e10, up_e]
        · rw [upd_n (by omega), upd_n (by omega), upd_n (by omega), upd_n (by omega), upd_e, e15, up_o (by omega), e14, up_o (by omega), e13, up_o (by omega), e12, up_o (by omega), e11, up_e]
        · rw [upd_n (by omega), upd_n (by omega), upd_n (by omega), upd_e, e15, up_o (by omega), e14, up_o (by omega), e13, up_o (by omega), e12, up_e]
        · rw [upd_n (by omega), upd_n (by omega), upd_e, e15, up_o (by omega), e14, up_o (by omega), e13, up_e]
        · rw [upd_n (by omega), upd_e, e15, up_o (by omega), e14, up_e]
    refine K_43 hR4 ?_
    intro m5 hR5 hF5
    refine hQ m5 ⟨hR5, ?_⟩ (Fr_tr hF hF5)
    rw [mRev_lo (by omega), aNewE_o (by omega) (by omega)]
    exact hR.2
  · rw [if_neg h6] at hQ
    exact i_neg h6 (hQ m hR Fr_rf)
def aNewD (s : aS0) (x y p : Int32) : aS0 := upd (upd (upd (upd (mEnds (upd (upd (upd s (104 + 10 * nD s + 0) x) (104 + 10 * nD s + 1) y) (104 + 10 * nD s + 2) p) (nD s)) (104 + 10 * nD s + 7) 0) (104 + 10 * nD s + 8) 0) (104 + 10 * nD s + 9) 0) 3 (s 3 + 1)
def aAddD (x y p : Int32) (s : aS0) : Int32 × aS0 := if (x < 0 ∨ 99 < x) ∨ (y < 0 ∨ 99 < y) then ((-2), s) else if p < 0 ∨ 3 < p then ((-2), s) else if s 3 < 16 then (s 3, aNewD s x y p) else ((-4), s)
theorem aNewD_o {p : Int32} {i : Nat} (h : i < 104 + 10 * nD s ∨ 104 + 10 * nD s + 10 ≤ i) (h2 : ¬ i = 3) : aNewD s x y p i = s i := by
  unfold aNewD
  rw [upd_n h2, upd_n (by omega), upd_n (by omega), upd_n (by omega), mEnds_o (by omega), upd_n (by omega), upd_n (by omega), upd_n (by omega)]
theorem aNewD_w {p : Int32} : aNewD s x y p (104 + 10 * nD s + 0) = x ∧ aNewD s x y p (104 + 10 * nD s + 1) = y ∧ aNewD s x y p (104 + 10 * nD s + 2) = p ∧ aNewD s x y p (104 + 10 * nD s + 3) = (-6) ∧ aNewD s x y p (104 + 10 * nD s + 4) = (-6) ∧ aNewD s x y p (104 + 10 * nD s + 5) = (-6) ∧ aNewD s x y p (104 + 10 * nD s + 6) = (-6) ∧ aNewD s x y p (104 + 10 * nD s + 7) = 0 ∧ aNewD s x y p (104 + 10 * nD s + 8) = 0 ∧ aNewD s x y p (104 + 10 * nD s + 9) = 0 := by
  unfold aNewD
  obtain ⟨w3, w4, w5, w6⟩ := mEnds_w (s := upd (upd (upd s (104 + 10 * nD s + 0) x) (104 + 10 * nD s + 1) y) (104 + 10 * nD s + 2) p) (k := nD s)
  refine ⟨?_, ?_, ?_, ?_, ?_, ?_, ?_, ?_, ?_, ?_⟩
  · rw [upd_n (by omega), upd_n (by omega), upd_n (by omega), upd_n (by omega), mEnds_o (by omega), upd_n (by omega), upd_n (by omega), upd_e]
  · rw [upd_n (by omega), upd_n (by omega), upd_n (by omega), upd_n (by omega), mEnds_o (by omega), upd_n (by omega), upd_e]
  · rw [upd_n (by omega), upd_n (by omega), upd_n (by omega), upd_n (by omega), mEnds_o (by omega), upd_e]
  · rw [upd_n (by omega), upd_n (by omega), upd_n (by omega), upd_n (by omega), w3]
  · rw [upd_n (by omega), upd_n (by omega), upd_n (by omega), upd_n (by omega), w4]
  · rw [upd_n (by omega), upd_n (by omega), upd_n (by omega), upd_n (by omega), w5]
  · rw [upd_n (by omega), upd_n (by omega), upd_n (by omega), upd_n (by omega), w6]
  · rw [upd_n (by omega), upd_n (by omega), upd_n (by omega), upd_e]
  · rw [upd_n (by omega), upd_n (by omega), upd_e]
  · rw [upd_n (by omega), upd_e]
theorem C_33 {p : Int32} : ActC (aAddD x y p) 33 [.inl x, .inl y, .inl p] := by
  intro m b s Q hR hQ
  have hN := hR.1.2.1
  obtain ⟨eD, lD⟩ := WF_D (Rp_W hR.1)
  refine T_33 ?_
  unfold aAddD at hQ
  by_cases h1 : (x < 0 ∨ 99 < x) ∨ (y < 0 ∨ 99 < y)
  · rw [if_pos h1] at hQ; exact i_pos h1 (hQ m hR Fr_rf)
  rw [if_neg h1] at hQ
  refine i_neg h1 ?_
  by_cases h2 : p < 0 ∨ 3 < p
  · rw [if_pos h2] at hQ; exact i_pos h2 (hQ m hR Fr_rf)
  rw [if_neg h2] at hQ
  refine i_neg h2 ?_
  rw [hN.2.2.2.2.2.2.2]
  by_cases h6 : s 3 < 16
  · rw [if_pos h6] at hQ
    dsimp only at hQ
    refine i_pos h6 ?_
    have hk : nD s < 16 := by
      rw [eD] at h6
      exact (nI_ltI (b := 16) (by omega) (by omega)).mp h6
    have ek : (s 3).toNatClampNeg = nD s := rfl
    rw [ek]
    refine ⟨by rw [eD]; exact inK hk (by omega), ?_⟩
    intro m5 e5 m6 e6 m7 e7 m8 e8 m9 e9 m10 e10 m11 e11 m12 e12
    have hF : Fr b m m12 := by
      rw [e12, e11, e10, e9, e8, e7, e6, e5]
      exact Fr_tr (Fr_up (by omega)) (Fr_tr (Fr_up (by omega)) (Fr_tr (Fr_up (by omega)) (Fr_tr (Fr_up (by omega)) (Fr_tr (Fr_up (by omega)) (Fr_tr (Fr_up (by omega)) (Fr_tr Fr_rem (Fr_up (by omega))))))))
    have lo : ∀ c j, (¬ (c = 19 ∧ j = nD s) ∧ ¬ (c = 22 ∧ j = nD s) ∧ ¬ (c = 3 ∧ j = 10)) → m12 c b j = m10 c b j := by
      intro c j h
      rw [e12, up_o (by omega), e11]
      unfold cRem
      rw [up_o (by omega), up_o (by omega)]
    obtain ⟨w0, w1, w2, w3, w4, w5, w6, w7, w8, w9⟩ := aNewD_w (s := s) (x := x) (y := y) (p := p)
    refine hQ m12 ⟨add_D hR.1 rfl hk (fun i hi h => aNewD_o hi h) ?_ ⟨?_, Or.inl ⟨w3, w4, w5, w6⟩⟩ hF ?_ ?_ ?_, ?_⟩ hF
    · unfold aNewD
      rw [upd_e, eD, nI_1]
    · rw [w2]; exact rg_of (by omega) h2
    · intro c j hc h1 h2
      rw [lo c j (by omega), e10, up_o (by omega), e9, up_o (by omega), e8, up_o (by omega), e7, up_o (by omega), e6, up_o (by omega), e5, up_o (by omega)]
    · rw [e12, up_e, e11]
      unfold cRem
      rw [up_o (by omega), up_o (by omega), e10, up_o (by omega), e9, up_o (by omega), e8, up_o (by omega), e7, up_o (by omega), e6, up_o (by omega), e5, up_o (by omega), hN.2.2.2.2.2.2.2, eD, nI_1]
    · unfold Rd
      rw [w0, w1, w2, w3, w6, w7, w8, w9]
      refine ⟨?_, ?_, ?_, ?_, ?_, ?_, ?_, ?_, fun z => absurd rfl z⟩
      · rw [lo _ _ (by omega), e10, up_o (by omega), e9, up_o (by omega), e8, up_o (by omega), e7, up_o (by omega), e6, up_o (by omega), e5, up_e]
      · rw [lo _ _ (by omega), e10, up_o (by omega), e9, up_o (by omega), e8, up_o (by omega), e7, up_o (by omega), e6, up_e]
      · rw [lo _ _ (by omega), e10, up_o (by omega), e9, up_o (by omega), e8, up_o (by omega), e7, up_e]
      · rw [e12, up_o (by omega), e11]
        unfold cRem
        rw [up_o (by omega), up_e]
        rfl
      · rw [e12, up_o (by omega), e11]
        unfold cRem
        rw [up_e]
        rfl
      · rw [lo _ _ (by omega), e10, up_o (by omega), e9, up_o (by omega), e8, up_e]
      · rw [lo _ _ (by omega), e10, up_o (by omega), e9, up_e]
      · rw [lo _ _ (by omega), e10, up_e]
    · rw [aNewD_o (by omega) (by omega)]
      exact hR.2
  · rw [if_neg h6] at hQ
    exact i_neg h6 (hQ m hR Fr_rf)
def aSet (x v : Int32) (s : aS0) : Int32 × aS0 := if x < 0 ∨ 2 < x then ((-1), s) else if v < (if x = 1 then 1 else 0) ∨ (if x = 0 then 100 else if x = 1 then 12 else 20) < v then ((-2), s) else (s (5 + x.toNatClampNeg), mRev (upd s (5 + x.toNatClampNeg) v))
theorem WF_set {j : Nat} (hW : WF s) (hj : j < 3) (h : ¬ (v < (if nI j = 1 then 1 else 0) ∨ (if nI j = 0 then 100 else if nI j = 1 then 12 else 20) < v)) : WF (upd s (5 + j) v) := by
  refine WF_one hW (by omega) (fun e => ?_) (fun e => ?_) (fun e => ?_) (fun k hk => ⟨by omega, by omega, by omega⟩) (fun k hk => ⟨by omega, by omega, by omega⟩)
  · obtain rfl : j = 0 := by omega
    rw [if_neg (by decide), if_pos (by decide)] at h
    exact rg_of (B := 100) (by omega) h
  · obtain rfl : j = 1 := by omega
    rw [if_pos (by decide), if_neg (by decide), if_pos (by decide)] at h
    refine ⟨rg_of2 (B := 12) (lo := 1) (C := 1) ⟨1, by omega, rfl⟩ (by omega) (by omega) h, fun z => h (Or.inl ?_)⟩
    rw [z]
    decide
  · obtain rfl : j = 2 := by omega
    rw [if_neg (by decide), if_neg (by decide), if_neg (by decide)] at h
    exact rg_of (B := 20) (by omega) h
theorem set_nn {j : Nat} (hW : WF s) (hj : j < 3) : ¬ s (5 + j) < 0 := by
  obtain ⟨-, -, -, -, h5, h6, h7, -⟩ := hW
  rcases (show j = 0 ∨ j = 1 ∨ j = 2 by omega) with rfl | rfl | rfl
  · exact rg_nn (B := 100) h5 (by omega)
  · exact rg_nn (B := 12) h6.1 (by omega)
  · exact rg_nn (B := 20) h7 (by omega)
theorem C_34 : ActC (aSet x v) 34 [.inl x, .inl v] := by
  intro m b s Q hR hQ
  have hN := hR.1.2.1
  have hC := hR.1.1
  refine T_34 ?_
  unfold aSet at hQ
  by_cases h1 : x < 0 ∨ 2 < x
  · rw [if_pos h1] at hQ; exact i_pos h1 (hQ m hR Fr_rf)
  rw [if_neg h1] at hQ
  refine i_neg h1 ?_
  obtain ⟨j, lj, rfl⟩ := rg_of (B := 2) (by omega) h1
  rw [ixK (by omega)] at hQ ⊢
  refine ⟨inK (by omega) (by omega), ?_⟩
  have e44 : m 44 0 j = (if nI j = 1 then 1 else 0) := by
    rcases (show j = 0 ∨ j = 1 ∨ j = 2 by omega) with rfl | rfl | rfl
    · exact hC.2.2.1.1
    · exact hC.2.2.1.2.1
    · exact hC.2.2.1.2.2
  have e45 : m 45 0 j = (if nI j = 0 then 100 else if nI j = 1 then 12 else 20) := by
    rcases (show j = 0 ∨ j = 1 ∨ j = 2 by omega) with rfl | rfl | rfl
    · exact hC.2.2.2.1
    · exact hC.2.2.2.2.1
    · exact hC.2.2.2.2.2
  have e26 : m 26 b j = s (5 + j) := by
    rcases (show j = 0 ∨ j = 1 ∨ j = 2 by omega) with rfl | rfl | rfl
    · exact hN.2.2.1
    · exact hN.2.2.2.1
    · exact hN.2.2.2.2.1
  rw [e44, e45, e26]
  by_cases h2 : v < (if nI j = 1 then 1 else 0) ∨ (if nI j = 0 then 100 else if nI j = 1 then 12 else 20) < v
  · rw [if_pos h2] at hQ; exact i_pos h2 (hQ m hR Fr_rf)
  rw [if_neg h2] at hQ
  refine i_neg h2 ?_
  intro m4 e4
  subst e4
  have hR4 : Rp (a_up m 26 b j v) b (upd s (5 + j) v) := Rp_lo hR.1 (Or.inr (Or.inr (Or.inl ⟨by omega, by omega, rfl, by omega⟩))) (WF_set (Rp_W hR.1) (by omega) h2)
  refine K_43 hR4 ?_
  intro m5 hR5 hF5
  refine hQ m5 ⟨hR5, ?_⟩ (Fr_tr (Fr_up (by omega)) hF5)
  show rg (mRev _ 0) 9999
  rw [mRev_lo (by omega), upd_n (by omega)]
  exact hR.2
end AC2
