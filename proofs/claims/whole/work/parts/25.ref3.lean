/-! the reference's hour -/
section RF3
variable {m : aM} {s : aS0} {ch x y p h : Int32} {k d : Nat} {Q : Int32 → aM → Prop} {Qv : aM → Prop}
theorem R_130_121 {hops : Int32} (hC : C3 s) (hQ : Q hops (setS m (mCutL s))) : H_130_121 hops 0 (setS m s) Q := by
  obtain ⟨-, -, e1, l1⟩ := hC
  refine dn0 (n := nD s) (P := fun k => H_130_121 hops (nI k) (setS m (itN mCutS s k)) Q) ?_ ?_
  · refine T_130_121 ?_
    rw [S_s, itN_lo (fun k s => mCutS_lo (by omega)), e1]
    exact i_ge (Nat.le_refl _) (by omega) hQ
  · intro k hk ih
    have hk16 : k < 16 := by omega
    have hz1 : itN mCutS s (k + 1) = mCutS k (itN mCutS s k) := rfl
    have hz3 : itN mCutS s k 3 = s 3 := itN_lo (fun k s => mCutS_lo (by omega)) k
    rw [hz1] at ih
    generalize itN mCutS s k = z at *
    refine T_130_121 ?_
    rw [S_s, hz3, e1]
    refine i_lt hk (by omega) ?_
    simp only [S_s, ixD0 hk16, inD0 hk16, ixD1 hk16, inD1 hk16, ixD2 hk16, inD2 hk16, ixD3 hk16, inD3 hk16, ixD4 hk16, inD4 hk16, ixD5 hk16, inD5 hk16, ixD6 hk16, inD6 hk16, ixD7 hk16, inD7 hk16, ixD8 hk16, inD8 hk16, ixD9 hk16, inD9 hk16, true_and, nI_1]
    by_cases h6 : (z (104 + 10 * k + 6)) = (-6)
    · refine i_pos h6 ?_
      rwa [mCutS, if_neg (fun q => q.1 h6)] at ih
    · refine i_neg h6 ?_
      by_cases h7 : (z 0 - z 7) < (z (104 + 10 * k + 6))
      · refine i_pos h7 ?_
        rwa [mCutS, if_neg (fun q => q.2 h7)] at ih
      · refine i_neg h7 ?_
        intro m8 e8 m10 e10
        subst e8
        subst e10
        rw [mCutS, if_pos ⟨h6, h7⟩] at ih
        rw [S_ends hk16, S_up, S_s, mEnds_o (by omega)]
        exact ih
theorem R_130_64 (h : WF s) (hQ : Q (mHopL s).1 (setS m (mCutL (mHopL s).2))) : H_130_64 0 0 (setS m s) Q := by
  have hC := WF_C h
  obtain ⟨-, -, e1, l1⟩ := WF_C h
  have key : ∀ k, k ≤ nD s → H_130_64 (itN mHopS (0, s) k).1 (nI k) (setS m (itN mHopS (0, s) k).2) Q := by
    refine dn ?_ ?_
    · refine T_130_64 ?_
      rw [S_s, show (itN mHopS (0, s) (nD s)).2 3 = s 3 from itN_lo2 (fun k z => mHopS_lo (by omega)) _, e1]
      refine i_ge (Nat.le_refl _) (by omega) ?_
      exact R_130_121 (WF_C (WF_hopN h _ (Nat.le_refl _))) hQ
    · intro k hk ih
      have hk16 : k < 16 := by omega
      have hz1 : itN mHopS (0, s) (k + 1) = mHopS k (itN mHopS (0, s) k) := rfl
      have hz3 : (itN mHopS (0, s) k).2 3 = s 3 := itN_lo2 (fun k z => mHopS_lo (by omega)) k
      have hz6 : (itN mHopS (0, s) k).2 6 = s 6 := itN_lo2 (fun k z => mHopS_lo (by omega)) k
      have hW := WF_hopN h k (by omega)
      rw [hz1] at ih
      generalize itN mHopS (0, s) k = z at *
      obtain ⟨hz, z⟩ := z
      dsimp only at *
      refine T_130_64 ?_
      rw [S_s, hz3, e1]
      refine i_lt hk (by omega) ?_
      simp only [S_s, ixD0 hk16, inD0 hk16, ixD1 hk16, inD1 hk16, ixD2 hk16, inD2 hk16, ixD3 hk16, inD3 hk16, ixD4 hk16, inD4 hk16, ixD5 hk16, inD5 hk16, ixD6 hk16, inD6 hk16, ixD7 hk16, inD7 hk16, ixD8 hk16, inD8 hk16, ixD9 hk16, inD9 hk16, true_and, nI_1]
      refine ⟨by rw [hz6]; exact h.2.2.2.2.2.1.2, ?_⟩
      by_cases h7 : iR (z 0 + nI k) (z 6) = 0
      · refine i_pos h7 ?_
        by_cases h6 : (z (104 + 10 * k + 6)) = (-6)
        · refine i_pos h6 ?_
          rwa [mHopS, if_neg (fun q => q.2 h6)] at ih
        · refine i_neg h6 ?_
          have hkz : k < nD z := by unfold nD; rw [hz3]; exact hk
          refine R_129 (WF_C hW) hk16 (hop_ok hW hkz h6).1 ?_
          rwa [mHopS, if_pos ⟨h7, h6⟩] at ih
      · refine i_neg h7 ?_
        rwa [mHopS, if_neg (fun q => h7 q.1)] at ih
  exact key 0 (Nat.zero_le _)
theorem R_130_14 (h : WF s) (hQ : Q (mHopL (mRev (mEndL s))).1 (setS m (mCutL (mHopL (mRev (mEndL s))).2))) : H_130_14 0 0 (setS m s) Q := by
  obtain ⟨-, -, e1, l1⟩ := WF_C h
  refine dn0 (n := nD s) (P := fun k => H_130_14 0 (nI k) (setS m (itN mEndS s k)) Q) ?_ ?_
  · refine T_130_14 ?_
    rw [S_s, itN_lo (fun k s => mEndS_lo (by omega)), e1]
    refine i_ge (Nat.le_refl _) (by omega) ?_
    have hW : WF (itN mEndS s (nD s)) := WF_endL h
    exact R_125 (WF_C hW) (R_130_64 (WF_rev hW) hQ)
  · intro k hk ih
    have hk16 : k < 16 := by omega
    have hz1 : itN mEndS s (k + 1) = mEndS k (itN mEndS s k) := rfl
    have hz3 : itN mEndS s k 3 = s 3 := itN_lo (fun k s => mEndS_lo (by omega)) k
    rw [hz1] at ih
    generalize itN mEndS s k = z at *
    refine T_130_14 ?_
    rw [S_s, hz3, e1]
    refine i_lt hk (by omega) ?_
    simp only [S_s, ixD0 hk16, inD0 hk16, ixD1 hk16, inD1 hk16, ixD2 hk16, inD2 hk16, ixD3 hk16, inD3 hk16, ixD4 hk16, inD4 hk16, ixD5 hk16, inD5 hk16, ixD6 hk16, inD6 hk16, ixD7 hk16, inD7 hk16, ixD8 hk16, inD8 hk16, ixD9 hk16, inD9 hk16, true_and, nI_1]
    by_cases h3 : ¬ (z (104 + 10 * k + 3)) = (-6)
    · refine i_pos h3 ?_
      by_cases h5 : z 0 < (z (104 + 10 * k + 5))
      · refine i_pos h5 ?_
        rwa [mEndS, if_neg (fun q => q.2 h5)] at ih
      · refine i_neg h5 ?_
        intro m8 e8
        subst e8
        rw [mEndS, if_pos ⟨decide_eq_true h3, h5⟩] at ih
        rw [S_ends hk16]
        exact ih
    · refine i_neg h3 ?_
      rwa [mEndS, if_neg (fun q => h3 (of_decide_eq_true q.1))] at ih
theorem R_130 (h : WF s) (h0 : rg (s 0) 99999) (hQ : Q (mP1 s).1 (setS m (mP1 s).2)) : Mi 130 [.inr (34, 0)] (setS m s) Q := by
  refine T_130 ?_
  intro m1 e1
  subst e1
  rw [S_up, S_s]
  refine R_130_14 (WF_hour h (rg_1 h0)) ?_
  unfold mP1 at hQ
  exact hQ
end RF3
