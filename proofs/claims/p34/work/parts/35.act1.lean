/-! the acts, first half: adding, settings, waking and cancelling -/
section AC1
variable {m : aM} {s : aS0} {b k : Nat} {v x y : Int32} {Q : Int32 → aM → Prop} {Qv : aM → Prop}
theorem nin {a c : Int32} : (¬ x < a ∧ ¬ c < x) ↔ ¬ (x < a ∨ c < x) := not_or.symm
theorem rg_of {B : Nat} (hB : B < 2 ^ 31) (h : ¬ (v < 0 ∨ nI B < v)) : rg v B := by
  obtain ⟨j, hj, rfl⟩ := nI_of (fun z => h (Or.inl z))
  refine ⟨j, ?_, rfl⟩
  rcases Nat.lt_or_ge B j with q | q
  · exact absurd (nI_lt q hj) (fun z => h (Or.inr z))
  · exact q
theorem rg_nn {B : Nat} (h : rg v B) (hB : B < 2 ^ 31) : ¬ v < 0 := by
  obtain ⟨n, hn, rfl⟩ := h
  exact nI_pos (by omega)
def aNewS (s : aS0) (x y ch p : Int32) : aS0 := upd (upd (upd (upd (upd (upd s (8 + 5 * nS s + 0) x) (8 + 5 * nS s + 1) y) (8 + 5 * nS s + 2) ch) (8 + 5 * nS s + 3) p) (8 + 5 * nS s + 4) 0) 1 (s 1 + 1)
def aAddS (x y ch p : Int32) (s : aS0) : Int32 × aS0 := if (x < 0 ∨ 99 < x) ∨ (y < 0 ∨ 99 < y) then ((-2), s) else if ch < 0 ∨ 7 < ch then ((-2), s) else if p < 0 ∨ 4 < p then ((-2), s) else if s 1 < 8 then (s 1, aNewS s x y ch p) else ((-4), s)
theorem C_31 {ch p : Int32} : ActC (aAddS x y ch p) 31 [.inl x, .inl y, .inl ch, .inl p] := by
  intro m b s Q hR hQ
  have hN := hR.1.2.1
  obtain ⟨eS, lS⟩ := WF_S (Rp_W hR.1)
  refine T_31 ?_
  unfold aAddS at hQ
  by_cases h1 : (x < 0 ∨ 99 < x) ∨ (y < 0 ∨ 99 < y)
  · rw [if_pos h1] at hQ; exact i_pos h1 (hQ m hR Fr_rf)
  rw [if_neg h1] at hQ
  refine i_neg h1 ?_
  by_cases h2 : ch < 0 ∨ 7 < ch
  · rw [if_pos h2] at hQ; exact i_pos h2 (hQ m hR Fr_rf)
  rw [if_neg h2] at hQ
  refine i_neg h2 ?_
  by_cases h3 : p < 0 ∨ 4 < p
  · rw [if_pos h3] at hQ; exact i_pos h3 (hQ m hR Fr_rf)
  rw [if_neg h3] at hQ
  refine i_neg h3 ?_
  rw [hN.2.2.2.2.2.1]
  by_cases h4 : s 1 < 8
  · rw [if_pos h4] at hQ
    dsimp only at hQ
    refine i_pos h4 ?_
    have hk : nS s < 8 := by
      rw [eS] at h4
      exact (nI_ltI (b := 8) (by omega) (by omega)).mp h4
    have ek : (s 1).toNatClampNeg = nS s := rfl
    rw [ek]
    refine ⟨by rw [eS]; exact inK hk (by omega), ?_⟩
    intro m6 e6 m7 e7 m8 e8 m9 e9 m10 e10 m11 e11
    subst e6 e7 e8 e9 e10 e11
    have hF : Fr b m (a_up (a_up (a_up (a_up (a_up (a_up m 4 b (nS s) x) 5 b (nS s) y) 6 b (nS s) ch) 7 b (nS s) p) 8 b (nS s) 0) 1 b 5 ((a_up (a_up (a_up (a_up (a_up m 4 b (nS s) x) 5 b (nS s) y) 6 b (nS s) ch) 7 b (nS s) p) 8 b (nS s) 0) 1 b 5 + 1)) := Fr_tr (Fr_up (by omega)) (Fr_tr (Fr_up (by omega)) (Fr_tr (Fr_up (by omega)) (Fr_tr (Fr_up (by omega)) (Fr_tr (Fr_up (by omega)) (Fr_up (by omega))))))
    refine hQ _ ⟨add_S (m' := _) hR.1 rfl hk ?_ ?_ ?_ hF ?_ ?_ ?_, ?_⟩ hF
    · intro i hi h1
      unfold aNewS
      rw [upd_n h1, upd_n (by omega), upd_n (by omega), upd_n (by omega), upd_n (by omega), upd_n (by omega)]
    · unfold aNewS
      rw [upd_e, eS, nI_1]
    · unfold aNewS
      refine ⟨?_, ?_, Or.inl ?_⟩
      · rw [upd_n (by omega), upd_n (by omega), upd_n (by omega), upd_e]; exact rg_of (by omega) h2
      · rw [upd_n (by omega), upd_n (by omega), upd_e]; exact rg_of (by omega) h3
      · rw [upd_n (by omega), upd_e]
    · intro c j hc h1 h2
      rw [up_o (by omega), up_o (by omega), up_o (by omega), up_o (by omega), up_o (by omega), up_o (by omega)]
    · rw [up_e, up_o (by omega), up_o (by omega), up_o (by omega), up_o (by omega), up_o (by omega), hN.2.2.2.2.2.1, eS, nI_1]
    · unfold aNewS Rs
      refine ⟨?_, ?_, ?_, ?_, ?_⟩
      · rw [up_o (by omega), up_o (by omega), up_o (by omega), up_o (by omega), up_o (by omega), up_e, upd_n (by omega), upd_n (by omega), upd_n (by omega), upd_n (by omega), upd_n (by omega), upd_e]
      · rw [up_o (by omega), up_o (by omega), up_o (by omega), up_o (by omega), up_e, upd_n (by omega), upd_n (by omega), upd_n (by omega), upd_n (by omega), upd_e]
      · rw [up_o (by omega), up_o (by omega), up_o (by omega), up_e, upd_n (by omega), upd_n (by omega), upd_n (by omega), upd_e]
      · rw [up_o (by omega), up_o (by omega), up_e, upd_n (by omega), upd_n (by omega), upd_e]
      · rw [up_o (by omega), up_e, upd_n (by omega), upd_e]
    · show rg (aNewS s x y ch p 0) 9999
      unfold aNewS
      rw [upd_n (by omega), upd_n (by omega), upd_n (by omega), upd_n (by omega), upd_n (by omega), upd_n (by omega)]
      exact hR.2
  · rw [if_neg h4] at hQ
    exact i_neg h4 (hQ m hR Fr_rf)
def aTurn (x w : Int32) (s : aS0) : Int32 × aS0 := if ¬ x < 0 ∧ x < s 1 then (if (s (8 + 5 * x.toNatClampNeg + 4)) = w then ((-3), s) else (nI (mNot (mRev (upd s (8 + 5 * x.toNatClampNeg + 4) w))), mRev (upd s (8 + 5 * x.toNatClampNeg + 4) w))) else ((-1), s)
theorem not_le (s : aS0) (h : nD s ≤ 16) : ¬ nI (mNot s) < 0 := nI_pos (by have := cntN_le (fun k => decide (¬ (s (104 + 10 * k + 6)) = (-6))) (nD s); unfold mNot; omega)
theorem nD_rev : nD (mRev s) = nD s := nD_lo (mRev_lo (by omega))
theorem C_35 {w : Int32} (hw : w = 0 ∨ w = 1) : ActC (aTurn x w) 35 [.inl x, .inl w] := by
  intro m b s Q hR hQ
  have hN := hR.1.2.1
  have hW := Rp_W hR.1
  obtain ⟨eS, lS⟩ := WF_S hW
  refine T_35 ?_
  unfold aTurn at hQ
  rw [hN.2.2.2.2.2.1]
  by_cases h1 : ¬ x < 0 ∧ x < s 1
  · rw [if_pos h1] at hQ
    refine i_pos h1 ?_
    obtain ⟨k, hk, rfl⟩ := has_nI (eS ▸ h1) (by omega)
    rw [ixK (by omega)] at hQ ⊢
    obtain ⟨s0, s1, s2, s3, s4⟩ := hR.1.2.2.1 k hk
    rw [s4]
    refine ⟨inK (by omega) (by omega), ?_⟩
    by_cases h2 : (s (8 + 5 * k + 4)) = w
    · rw [if_pos h2] at hQ
      exact i_pos h2 (hQ m hR Fr_rf)
    · rw [if_neg h2] at hQ
      dsimp only at hQ
      refine i_neg h2 ?_
      intro m4 e4
      subst e4
      have hR4 : Rp (a_up m 8 b k w) b (upd s (8 + 5 * k + 4) w) := Rp_lo hR.1 (Or.inr (Or.inr (Or.inr (Or.inl ⟨k, 4, by omega, by omega, rfl, rfl, rfl⟩)))) (WF_awake hW (by omega) hw)
      refine K_43 hR4 ?_
      intro m5 hR5 hF5
      refine K_17 hR5 ?_
      refine hQ m5 ⟨hR5, ?_⟩ (Fr_tr (Fr_up (by omega)) hF5)
      show rg (mRev _ 0) 9999
      rw [mRev_lo (by omega), upd_n (by omega)]
      exact hR.2
  · rw [if_neg h1] at hQ
    exact i_neg h1 (hQ m hR Fr_rf)
def aCanc (x : Int32) (s : aS0) : Int32 × aS0 := if ¬ x < 0 ∧ x < s 2 then (if (s (48 + 7 * x.toNatClampNeg + 6)) = 1 then ((-3), s) else if s 0 < (s (48 + 7 * x.toNatClampNeg + 5)) then (nI (mNot (mRev (upd s (48 + 7 * x.toNatClampNeg + 6) 1))), mRev (upd s (48 + 7 * x.toNatClampNeg + 6) 1)) else ((-3), s)) else ((-1), s)
theorem C_36 : ActC (aCanc x) 36 [.inl x] := by
  intro m b s Q hR hQ
  have hN := hR.1.2.1
  have hW := Rp_W hR.1
  obtain ⟨eE, lE⟩ := WF_E hW
  refine T_36 ?_
  unfold aCanc at hQ
  rw [hN.2.2.2.2.2.2.1]
  by_cases h1 : ¬ x < 0 ∧ x < s 2
  · rw [if_pos h1] at hQ
    refine i_pos h1 ?_
    obtain ⟨k, hk, rfl⟩ := has_nI (eE ▸ h1) (by omega)
    rw [ixK (by omega)] at hQ ⊢
    obtain ⟨e0, e1, e2, e3, e4, e5, e6⟩ := hR.1.2.2.2.1 k hk
    rw [e5, e6, hN.1]
    refine ⟨inK (by omega) (by omega), ?_⟩
    by_cases h2 : (s (48 + 7 * k + 6)) = 1
    · rw [if_pos h2] at hQ
      exact i_pos h2 (hQ m hR Fr_rf)
    rw [if_neg h2] at hQ
    refine i_neg h2 ?_
    by_cases h3 : s 0 < (s (48 + 7 * k + 5))
    · rw [if_pos h3] at hQ
      dsimp only at hQ
      refine i_pos h3 ?_
      intro m5 em
      subst em
      have hR4 : Rp (a_up m 15 b k 1) b (upd s (48 + 7 * k + 6) 1) := Rp_lo hR.1 (Or.inr (Or.inr (Or.inr (Or.inr ⟨k, 6, by omega, by omega, rfl, rfl, rfl⟩)))) (WF_canc hW (by omega) (Or.inr rfl))
      refine K_43 hR4 ?_
      intro m5 hR5 hF5
      refine K_17 hR5 ?_
      refine hQ m5 ⟨hR5, ?_⟩ (Fr_tr (Fr_up (by omega)) hF5)
      show rg (mRev _ 0) 9999
      rw [mRev_lo (by omega), upd_n (by omega)]
      exact hR.2
    · rw [if_neg h3] at hQ
      exact i_neg h3 (hQ m hR Fr_rf)
  · rw [if_neg h1] at hQ
    exact i_neg h1 (hQ m hR Fr_rf)
end AC1
