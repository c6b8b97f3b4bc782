/-! the law's hour -/
section LW4
variable {m : aM} {s : aS0} {ch x y p : Int32} {k d : Nat} {Q : Int32 → aM → Prop} {Qv : aM → Prop}
/-- what a step over one device leaves -/
theorem endS_o {z : aS0} {j i : Nat} (h : i < 104 + 10 * j + 3 ∨ 104 + 10 * j + 7 ≤ i) : mEndS j z i = z i := by
  unfold mEndS
  split
  · exact mEnds_o h
  · rfl
theorem endN_o (n : Nat) : ∀ i, (∀ j, j < n → i < 104 + 10 * j + 3 ∨ 104 + 10 * j + 7 ≤ i) → itN mEndS s n i = s i := by
  induction n with
  | zero => exact fun _ _ => rfl
  | succ n ih =>
    intro i hi
    show mEndS n (itN mEndS s n) i = s i
    rw [endS_o (hi n (by omega)), ih i (fun j hj => hi j (by omega))]
theorem cut_i {z : aS0} (h0 : rg (z 0) 100000) (h7 : rg (z 7) 20) (h6 : rg (z (104 + 10 * k + 6)) 100000) : (z 0 - (z (104 + 10 * k + 6)) < z 7) ↔ (z 0 - z 7 < (z (104 + 10 * k + 6))) := by
  obtain ⟨a, la, ea⟩ := h0
  obtain ⟨b, lb, eb⟩ := h7
  obtain ⟨c, lc, ec⟩ := h6
  rw [ea, eb, ec]
  have e1 := pk_sub_toInt (a := a) (b := c) (by omega) (by omega)
  have e2 := pk_sub_toInt (a := a) (b := b) (by omega) (by omega)
  rw [Int32.lt_iff_toInt_lt, Int32.lt_iff_toInt_lt, e1, e2, nI_toInt (by omega), nI_toInt (by omega)]
  omega
theorem M_109_245 {hops : Int32} (hW : WF s) (hQ : Q hops (setS m (mCutL s))) : H_109_245 hops 0 (setS m s) Q := by
  obtain ⟨eD, lD⟩ := WF_D hW
  refine dn0 (n := nD s) (P := fun k => H_109_245 hops (nI k) (setS m (itN mCutS s k)) Q) ?_ ?_
  · refine T_109_245 ?_
    rw [rG3, itN_lo (fun k s => mCutS_lo (by omega)), eD]
    exact i_ge (Nat.le_refl _) (by omega) hQ
  · intro k hk ih
    have hk16 : k < 16 := by omega
    have hz1 : itN mCutS s (k + 1) = mCutS k (itN mCutS s k) := rfl
    have hz3 : itN mCutS s k 3 = s 3 := itN_lo (fun k s => mCutS_lo (by omega)) k
    have hWz : WF (itN mCutS s k) := itN_P (P := WF) hW (fun _ _ => WF_cutS) k
    rw [hz1] at ih
    generalize itN mCutS s k = z at *
    have hkz : k < nD z := by unfold nD; rw [hz3]; exact hk
    have hd := WF_dv hWz hkz
    refine T_109_245 ?_
    rw [rG3, hz3, eD]
    refine i_lt hk (by omega) ?_
    simp only [rD0 hk16, gD0 hk16, rD1 hk16, gD1 hk16, rD2 hk16, gD2 hk16, rD3 hk16, gD3 hk16, rP0 hk16, gP0 hk16, rP1 hk16, gP1 hk16, rP2 hk16, gP2 hk16, rC0 hk16, gC0 hk16, rC1 hk16, gC1 hk16, rC2 hk16, gC2 hk16, true_and, nI_1, rG0, rG7]
    by_cases h6 : (z (104 + 10 * k + 6)) = (-6)
    · refine i_pos (by rw [h6]; exact neg6) ?_
      rwa [mCutS, if_neg (fun q => q.1 h6)] at ih
    · have l6 := (dv_notice hd h6).2.2.2
      refine i_neg (rg_nn l6 (by omega)) ?_
      have hci := cut_i (z := z) (k := k) hWz.1 hWz.2.2.2.2.2.2.1 l6
      by_cases h7 : (z 0 - z 7) < (z (104 + 10 * k + 6))
      · refine i_pos (hci.mpr h7) ?_
        rwa [mCutS, if_neg (fun q => q.2 h7)] at ih
      · refine i_neg (fun q => h7 (hci.mp q)) (M_106 hk16 ?_)
        intro m6 e6
        subst e6
        rw [mCutS, if_pos ⟨h6, h7⟩] at ih
        rw [uC2 hk16, rC2 hk16, mEnds_o (by omega)]
        exact ih
theorem sub0r (v : Int32) : v - 0 = v := by simp
theorem add0r (v : Int32) : v + 0 = v := by simp
theorem M_109_120 {hops : Int32} {z : aS0} (hWz : WF z) (hk : k < nD z) : ∀ j, j ≤ 4 → H_109_73 (hops + (mAskN z k j).1) (nI (k + 1)) (setS m (mAskN z k j).2) Q → H_109_120 hops (nI k) (nI j - 1) (-6) (setS m z) Q := by
  obtain ⟨eD, lD⟩ := WF_D hWz
  have hk16 : k < 16 := by omega
  intro j
  induction j with
  | zero =>
    intro _ hq
    refine T_109_120 (i_pos (by decide +kernel) (i_pos neg6 (M_106 hk16 ⟨gP1 hk16, ?_⟩)))
    intro m5 e5
    subst e5
    have hq' : H_109_73 (hops + 0) (nI (k + 1)) (setS m (mStr z k)) Q := hq
    rw [add0r] at hq'
    rw [uC1 hk16, rC1 hk16, mEnds_o (by omega), nI_1]
    exact hq'
  | succ j ih =>
    intro hj hq
    rw [nI_pred]
    refine T_109_120 (i_neg (nI_pos (by omega)) (i_pos neg6 (M_104 hWz hk ⟨j, by omega, rfl⟩ ?_)))
    unfold mAskN at hq
    by_cases ho : mOff z k (nI j) = (-6)
    · rw [if_pos ho] at hq
      rw [ho]
      exact i_pos neg6 (ih (by omega) hq)
    · rw [if_neg ho] at hq
      have hc := (mOff_rg z k (nI j)).elim (fun w => absurd w ho) id
      refine i_neg (rg_nn hc (by omega)) ?_
      rw [sub0r]
      refine T_109_120 (i_neg (nI_pos (by omega)) (i_neg (rg_nn hc (by omega)) ⟨gD3 hk16, ?_⟩))
      intro m18 e18
      refine ⟨gP0 hk16, ?_⟩
      intro m20 e20
      refine ⟨gP2 hk16, ?_⟩
      intro m22 e22 m23 e23
      subst e18 e20 e22 e23
      rw [uD3 hk16, uP0 hk16, uP2 hk16, uC0 hk16, rC0 hk16, nI_1]
      rw [upd_n (by omega), upd_n (by omega), upd_n (by omega)]
      exact hq
theorem M_109_73 (h : WF s) (hQ : Q (mHopL s).1 (setS m (mCutL (mHopL s).2))) : H_109_73 0 0 (setS m s) Q := by
  obtain ⟨eD, lD⟩ := WF_D h
  have key : ∀ k, k ≤ nD s → H_109_73 (itN mHopS (0, s) k).1 (nI k) (setS m (itN mHopS (0, s) k).2) Q := by
    refine dn ?_ ?_
    · refine T_109_73 ?_
      rw [rG3, show (itN mHopS (0, s) (nD s)).2 3 = s 3 from itN_lo2 (fun k z => mHopS_lo (by omega)) _, eD]
      refine i_ge (Nat.le_refl _) (by omega) ?_
      exact M_109_245 (WF_hopN h _ (Nat.le_refl _)) hQ
    · intro k hk ih
      have hk16 : k < 16 := by omega
      have hz1 : itN mHopS (0, s) (k + 1) = mHopS k (itN mHopS (0, s) k) := rfl
      have hz3 : (itN mHopS (0, s) k).2 3 = s 3 := itN_lo2 (fun k z => mHopS_lo (by omega)) k
      have hz6 : (itN mHopS (0, s) k).2 6 = s 6 := itN_lo2 (fun k z => mHopS_lo (by omega)) k
      have hW := WF_hopN h k (by omega)
      rw [hz1] at ih
      generalize itN mHopS (0, s) k = z at *
      obtain ⟨hz, z⟩ := z
      dsimp only at *
      have hkz : k < nD z := by unfold nD; rw [hz3]; exact hk
      have hd := WF_dv hW hkz
      refine T_109_73 ?_
      rw [rG3, hz3, eD]
      refine i_lt hk (by omega) ?_
      simp only [rD0 hk16, gD0 hk16, rD1 hk16, gD1 hk16, rD2 hk16, gD2 hk16, rD3 hk16, gD3 hk16, rP0 hk16, gP0 hk16, rP1 hk16, gP1 hk16, rP2 hk16, gP2 hk16, rC0 hk16, gC0 hk16, rC1 hk16, gC1 hk16, rC2 hk16, gC2 hk16, true_and, nI_1, rG0, rG6]
      refine ⟨by rw [hz6]; exact h.2.2.2.2.2.1.2, ?_⟩
      by_cases h7 : iR (z 0 + nI k) (z 6) = 0
      · refine i_pos h7 ?_
        by_cases h6 : (z (104 + 10 * k + 6)) = (-6)
        · refine i_pos (by rw [h6]; exact neg6) ?_
          rwa [mHopS, if_neg (fun q => q.2 h6)] at ih
        · refine i_neg (rg_nn (dv_notice hd h6).2.2.2 (by omega)) ?_
          obtain ⟨l3, l4, l5, -⟩ := dv_notice hd h6
          obtain ⟨e4, le4⟩ := rg_n l4 (by omega)
          rw [mHopS, if_pos ⟨h7, h6⟩] at ih
          dsimp only at ih
          unfold mAsk at ih
          have := M_109_120 (m := m) (Q := Q) (hops := hz) hW hkz ((z (104 + 10 * k + 4)).toNatClampNeg + 1) (by omega) ih
          rw [nI_pred, ← e4] at this
          exact this
      · refine i_neg h7 ?_
        rwa [mHopS, if_neg (fun q => h7 q.1)] at ih
  exact key 0 (Nat.zero_le _)
theorem M_109 (h : WF s) (h0 : rg (s 0) 99999) (hE : ∀ k, k < nD s → ¬ (s (104 + 10 * k + 3)) = (-6) → s 0 < (s (104 + 10 * k + 5))) (hQ : Q (mP1 s).1 (setS m (mP1 s).2)) : Mi 109 [.inr (34, 0), .inr (35, 0), .inr (36, 0), .inr (37, 0), .inr (38, 0), .inr (39, 0)] (setS m s) Q := by
  refine T_109 ?_
  intro m1 e1
  subst e1
  rw [rG0, uG0]
  have hW1 : WF (upd s 0 (s 0 + 1)) := WF_hour h (rg_1 h0)
  have hE1 : ∀ k, k < nD (upd s 0 (s 0 + 1)) → ¬ (upd s 0 (s 0 + 1)) (104 + 10 * k + 3) = (-6) → ((upd s 0 (s 0 + 1)) (104 + 10 * k + 5) = (upd s 0 (s 0 + 1)) 0 ↔ ¬ (upd s 0 (s 0 + 1)) 0 < (upd s 0 (s 0 + 1)) (104 + 10 * k + 5)) := by
    intro k hk
    rw [upd_n (by omega), upd_n (by omega), upd_e]
    rw [nD_upd (by omega)] at hk
    intro h3
    have h5 := hE k hk h3
    obtain ⟨e, le, ee⟩ := (dv_lease (WF_dv h hk) h3).2.2.1
    obtain ⟨a, la, ea⟩ := h0
    rw [ee, ea] at h5 ⊢
    rw [nI_ltI (by omega) (by omega)] at h5
    rw [nI_1, nI_eq (by omega) (by omega), nI_ltI (by omega) (by omega)]
    omega
  unfold mP1 at hQ
  generalize upd s 0 (s 0 + 1) = s1 at *
  obtain ⟨eD, lD⟩ := WF_D hW1
  refine dn0 (n := nD s1) (P := fun k => H_109_13 0 (nI k) (setS m (itN mEndS s1 k)) Q) ?_ ?_
  · refine T_109_13 ?_
    rw [rG3, itN_lo (fun k s => mEndS_lo (by omega)), eD]
    refine i_ge (Nat.le_refl _) (by omega) ?_
    have hW2 : WF (itN mEndS s1 (nD s1)) := WF_endL hW1
    exact M_105 hW2 (M_109_73 (WF_rev hW2) hQ)
  · intro k hk ih
    have hk16 : k < 16 := by omega
    have hz1 : itN mEndS s1 (k + 1) = mEndS k (itN mEndS s1 k) := rfl
    have hz3 : itN mEndS s1 k 3 = s1 3 := itN_lo (fun k s => mEndS_lo (by omega)) k
    have hz0 : itN mEndS s1 k 0 = s1 0 := itN_lo (fun k s => mEndS_lo (by omega)) k
    have hzD : ∀ f, f < 10 → itN mEndS s1 k (104 + 10 * k + f) = s1 (104 + 10 * k + f) := fun f hf => endN_o k _ (fun j hj => by omega)
    have hWz : WF (itN mEndS s1 k) := itN_P (P := WF) hW1 (fun _ _ => WF_endS) k
    rw [hz1] at ih
    generalize itN mEndS s1 k = z at *
    have hkz : k < nD z := by unfold nD; rw [hz3]; exact hk
    have hd := WF_dv hWz hkz
    refine T_109_13 ?_
    rw [rG3, hz3, eD]
    refine i_lt hk (by omega) ?_
    simp only [rD0 hk16, gD0 hk16, rD1 hk16, gD1 hk16, rD2 hk16, gD2 hk16, rD3 hk16, gD3 hk16, rP0 hk16, gP0 hk16, rP1 hk16, gP1 hk16, rP2 hk16, gP2 hk16, rC0 hk16, gC0 hk16, rC1 hk16, gC1 hk16, rC2 hk16, gC2 hk16, true_and, nI_1, rG0]
    by_cases h3 : ¬ (z (104 + 10 * k + 3)) = (-6)
    · refine i_neg (rg_nn (dv_lease hd h3).1 (by omega)) ?_
      have he := hE1 k hk (by rw [← hzD 3 (by omega)]; exact h3)
      rw [← hzD 5 (by omega), ← hz0] at he
      by_cases h5 : z 0 < (z (104 + 10 * k + 5))
      · refine i_neg (fun q => he.mp q h5) ?_
        rwa [mEndS, if_neg (fun q => q.2 h5)] at ih
      · refine i_pos (he.mpr h5) (M_106 hk16 ?_)
        rwa [mEndS, if_pos ⟨decide_eq_true h3, h5⟩] at ih
    · have h3' : (z (104 + 10 * k + 3)) = (-6) := Decidable.not_not.mp h3
      refine i_pos (by rw [h3']; exact neg6) ?_
      rwa [mEndS, if_neg (fun q => h3 (of_decide_eq_true q.1))] at ih
end LW4
