/-! the class's review and hours -/
section CL3
variable {m : aM} {s : aS0} {ch x y p h : Int32} {b k d : Nat} {Q : Int32 → aM → Prop} {Qv : aM → Prop}
theorem nD_lo {s' : aS0} (h : s' 3 = s 3) : nD s' = nD s := by unfold nD; rw [h]
theorem K_43 (hR : Rp m b s) (hQ : ∀ m', Rp m' b (mRev s) → Fr b m m' → Qv m') : Mv 43 [.inr (0, b)] m Qv := by
  refine T_43 ?_
  have lD := Rp_ld hR
  refine dn0 (n := nD s) (P := fun k => ∀ m', Rp m' b (itN mRevS s k) → Fr b m m' → H_43_2 b (nI k) m' Qv) ?_ ?_ m hR Fr_rf
  · intro m' hR' hF
    refine T_43_2 ?_
    rw [Rp_nd hR', nD_lo (itN_lo (fun k s => mRevS_3 (by omega)) _)]
    exact i_ge (Nat.le_refl _) (by omega) (hQ m' hR' hF)
  · intro k hk ih m' hR' hF
    have hz1 : itN mRevS s (k + 1) = mRevS k (itN mRevS s k) := rfl
    have hz3 : nD (itN mRevS s k) = nD s := nD_lo (itN_lo (fun k s => mRevS_3 (by omega)) _)
    rw [hz1] at ih
    generalize itN mRevS s k = z at *
    have hkz : k < nD z := by rw [hz3]; exact hk
    obtain ⟨q0, q1, q2, q3, q6, q7, q8, q9, q4⟩ := Rp_d hR' hkz
    have hW := Rp_W hR'
    have hd := WF_dv hW hkz
    refine T_43_2 ?_
    rw [Rp_nd hR', hz3]
    refine i_lt hk (by omega) ⟨inK (by omega) (by omega), ?_⟩
    rw [ixK (by omega), nI_1, q3]
    by_cases h3 : ¬ (z (104 + 10 * k + 3)) = (-6)
    · refine i_pos ((nz_i (dv3 hd) (by omega)).mpr h3) ?_
      have hh : mHas z k = true := decide_eq_true h3
      refine K_52 hR' hkz h3 ?_
      have hWr : WF (mRevS k z) := WF_revS hW
      cases ha : mLA z k with
      | false =>
        refine i_pos (bP_bf rfl) ?_
        rw [q6]
        by_cases h6 : (z (104 + 10 * k + 6)) = (-6)
        · refine i_neg (fun w => (nz_i (dv6 hd) (by omega)).mp w h6) ?_
          intro m8 e8
          subst e8
          have e : mRevS k z = upd z (104 + 10 * k + 6) (z 0) := by simp only [mRevS, hh, ha, h6, if_true, Bool.false_eq_true, if_false]
          rw [e] at ih hWr
          rw [hR'.2.1.1]
          refine ih _ ?_ (Fr_tr hF (Fr_up (by omega)))
          have := Rp_not (v := z 0) hR' hWr
          rwa [nz_n (rg_6 hW.1 (by omega))] at this
        · refine i_pos ((nz_i (dv6 hd) (by omega)).mpr h6) ?_
          have e : mRevS k z = z := by simp only [mRevS, hh, ha, h6, if_true, Bool.false_eq_true, if_false]; exact upd_id
          rw [e] at ih
          exact ih m' hR' hF
      | true =>
        refine i_neg (by decide) ?_
        intro m8 e8
        subst e8
        have e : mRevS k z = upd z (104 + 10 * k + 6) (-6) := by simp only [mRevS, hh, ha, if_true]
        rw [e] at ih hWr
        exact ih _ (Rp_not (v := -6) hR' hWr) (Fr_tr hF (Fr_up (by omega)))
    · refine i_neg (fun w => h3 ((nz_i (dv3 hd) (by omega)).mp w)) ?_
      have e : mRevS k z = z := by
        have hh : mHas z k = false := decide_eq_false h3
        simp only [mRevS, hh, Bool.false_eq_true, if_false]
      rw [e] at ih
      exact ih m' hR' hF
theorem K_42 (hR : Rp m b s) (hQ : ∀ m', Rp m' b (mEndL s) → Fr b m m' → Qv m') : Mv 42 [.inr (0, b)] m Qv := by
  refine T_42 ?_
  have lD := Rp_ld hR
  refine dn0 (n := nD s) (P := fun k => ∀ m', Rp m' b (itN mEndS s k) → Fr b m m' → H_42_2 b (nI k) m' Qv) ?_ ?_ m hR Fr_rf
  · intro m' hR' hF
    refine T_42_2 ?_
    rw [Rp_nd hR', nD_lo (itN_lo (fun k s => mEndS_lo (by omega)) _)]
    exact i_ge (Nat.le_refl _) (by omega) (hQ m' hR' hF)
  · intro k hk ih m' hR' hF
    have hz1 : itN mEndS s (k + 1) = mEndS k (itN mEndS s k) := rfl
    have hz3 : nD (itN mEndS s k) = nD s := nD_lo (itN_lo (fun k s => mEndS_lo (by omega)) _)
    rw [hz1] at ih
    generalize itN mEndS s k = z at *
    have hkz : k < nD z := by rw [hz3]; exact hk
    obtain ⟨q0, q1, q2, q3, q6, q7, q8, q9, q4⟩ := Rp_d hR' hkz
    have hd := WF_dv (Rp_W hR') hkz
    refine T_42_2 ?_
    rw [Rp_nd hR', hz3]
    refine i_lt hk (by omega) ⟨inK (by omega) (by omega), ?_⟩
    rw [ixK (by omega), nI_1, q3]
    by_cases h3 : ¬ (z (104 + 10 * k + 3)) = (-6)
    · refine i_pos ((nz_i (dv3 hd) (by omega)).mpr h3) ?_
      rw [(q4 h3).2, hR'.2.1.1]
      by_cases h5 : z 0 < (z (104 + 10 * k + 5))
      · refine i_pos h5 ?_
        rw [mEndS, if_neg (fun q => q.2 h5)] at ih
        exact ih m' hR' hF
      · refine i_neg h5 ?_
        intro m5 e5
        subst e5
        rw [mEndS, if_pos ⟨decide_eq_true h3, h5⟩] at ih
        exact ih _ (Rp_rem hR') (Fr_tr hF Fr_rem)
    · refine i_neg (fun w => h3 ((nz_i (dv3 hd) (by omega)).mp w)) ?_
      rw [mEndS, if_neg (fun q => h3 (of_decide_eq_true q.1))] at ih
      exact ih m' hR' hF
theorem rem_o {c : Nat} (h : ¬ c = 19 ∧ ¬ c = 22) : cRem m b k c b k = m c b k := by
  unfold cRem
  rw [up_o (by omega), up_o (by omega)]
theorem K_44 (hR : Rp m b s) (hQ : ∀ m', Rp m' b (mCutL s) → Fr b m m' → Qv m') : Mv 44 [.inr (0, b)] m Qv := by
  refine T_44 ?_
  have lD := Rp_ld hR
  refine dn0 (n := nD s) (P := fun k => ∀ m', Rp m' b (itN mCutS s k) → Fr b m m' → H_44_2 b (nI k) m' Qv) ?_ ?_ m hR Fr_rf
  · intro m' hR' hF
    refine T_44_2 ?_
    rw [Rp_nd hR', nD_lo (itN_lo (fun k s => mCutS_lo (by omega)) _)]
    exact i_ge (Nat.le_refl _) (by omega) (hQ m' hR' hF)
  · intro k hk ih m' hR' hF
    have hz1 : itN mCutS s (k + 1) = mCutS k (itN mCutS s k) := rfl
    have hz3 : nD (itN mCutS s k) = nD s := nD_lo (itN_lo (fun k s => mCutS_lo (by omega)) _)
    rw [hz1] at ih
    generalize itN mCutS s k = z at *
    have hkz : k < nD z := by rw [hz3]; exact hk
    obtain ⟨q0, q1, q2, q3, q6, q7, q8, q9, q4⟩ := Rp_d hR' hkz
    have hd := WF_dv (Rp_W hR') hkz
    refine T_44_2 ?_
    rw [Rp_nd hR', hz3]
    refine i_lt hk (by omega) ⟨inK (by omega) (by omega), ?_⟩
    rw [ixK (by omega), nI_1, q6, hR'.2.1.1, hR'.2.1.2.2.2.2.1]
    by_cases h6 : ¬ (z (104 + 10 * k + 6)) = (-6)
    · refine i_pos ((nz_i (dv6 hd) (by omega)).mpr h6) ?_
      rw [nz_n h6]
      by_cases h5 : (z 0 - z 7) < (z (104 + 10 * k + 6))
      · refine i_pos h5 ?_
        rw [mCutS, if_neg (fun q => q.2 h5)] at ih
        exact ih m' hR' hF
      · refine i_neg h5 ?_
        intro m5 e5 m6 e6
        subst e5
        subst e6
        rw [mCutS, if_pos ⟨h6, h5⟩] at ih
        rw [rem_o (by omega), q9]
        exact ih _ (Rp_hi (f := 9) (Rp_rem hR') (by omega)) (Fr_tr hF (Fr_tr Fr_rem (Fr_up (by omega))))
    · refine i_neg (fun w => h6 ((nz_i (dv6 hd) (by omega)).mp w)) ?_
      rw [mCutS, if_neg (fun q => h6 q.1)] at ih
      exact ih m' hR' hF
theorem K_47 (hR : Rp m b s) (hk : k < nD s) (h6 : ¬ (s (104 + 10 * k + 6)) = (-6)) (hQ : ∀ m', Rp m' b (mAsk s k).2 → Fr b m m' → Q (mAsk s k).1 m') : Mi 47 [.inr (0, b), .inl (nI k)] m Q := by
  have lD := Rp_ld hR
  have hW := Rp_W hR
  obtain ⟨l3, l4, l5, -⟩ := dv_notice (WF_dv hW hk) h6
  have h3 := rg_6 l3 (by omega)
  obtain ⟨q0, q1, q2, q3, q6, q7, q8, q9, q4⟩ := Rp_d hR hk
  refine T_47 ?_
  rw [ixK (by omega), (q4 h3).1]
  refine ⟨inK (by omega) (by omega), ?_⟩
  obtain ⟨e4, le4⟩ := rg_n l4 (by omega)
  unfold mAsk at hQ
  generalize (s (104 + 10 * k + 4)).toNatClampNeg = p0 at *
  rw [e4]
  have key : ∀ j, j ≤ 4 → (∀ m', Rp m' b (mAskN s k j).2 → Fr b m m' → Q (mAskN s k j).1 m') → H_47_10 b (nI k) (nI j - 1) m Q := by
    intro j
    induction j with
    | zero =>
      intro _ hq
      refine T_47_10 ?_
      refine i_pos (by decide) ⟨inK (by omega) (by omega), ?_⟩
      intro m3 e3 m4 e4
      subst e3
      subst e4
      rw [ixK (by omega), rem_o (by omega), q8]
      exact hq _ (Rp_hi (f := 8) (Rp_rem hR) (by omega)) (Fr_tr Fr_rem (Fr_up (by omega)))
    | succ j ih =>
      intro hj hq
      rw [nI_pred]
      refine T_47_10 ?_
      refine i_neg (nI_pos (by omega)) ?_
      refine K_50 hR hk ⟨j, by omega, rfl⟩ ?_
      by_cases ho : mOff s k (nI j) = (-6)
      · refine i_pos ho ?_
        rw [show nI j + (-1) = nI j - 1 from (Int32.sub_eq_add_neg _ _).symm]
        refine ih (by omega) ?_
        simpa only [mAskN, ho, if_true] using hq
      · refine i_neg ho ⟨inK (by omega) (by omega), ?_⟩
        intro m9 e9 m10 e10
        subst e9
        subst e10
        have hc := (mOff_rg s k (nI j)).elim (fun z => absurd z ho) id
        rw [ixK (by omega), put_o (by omega)]
        unfold mAskN at hq
        rw [if_neg ho] at hq
        exact hq _ (Rp_hop hR h3 hc (WF_hop hW (fun _ => l5) hc ⟨j, by omega, rfl⟩)) (Fr_tr Fr_put (Fr_up (by omega)))
  have := key (p0 + 1) (by omega) hQ
  rwa [nI_pred] at this
theorem K_41 (hR : Rp m b s) (h0 : rg (s 0) 99999) (hQ : ∀ m', Rp m' b (mP1 s).2 → Fr b m m' → Q (mP1 s).1 m') : Mi 41 [.inr (0, b)] m Q := by
  refine T_41 ?_
  intro m1 e1
  subst e1
  rw [hR.2.1.1]
  refine K_42 (Rp_hour hR (rg_1 h0)) ?_
  intro m2 hR2 hF2
  refine K_43 hR2 ?_
  intro m3 hR3 hF3
  unfold mP1 at hQ
  generalize mRev (mEndL (upd s 0 (s 0 + 1))) = s3 at *
  have hF : Fr b m m3 := Fr_tr (Fr_up (by omega)) (Fr_tr hF2 hF3)
  have lD := Rp_ld hR3
  have hW := Rp_W hR3
  have key : ∀ k, k ≤ nD s3 → ∀ m', Rp m' b (itN mHopS (0, s3) k).2 → Fr b m m' → H_41_22 b (itN mHopS (0, s3) k).1 (nI k) m' Q := by
    refine dn ?_ ?_
    · intro m' hR' hF'
      refine T_41_22 ?_
      rw [Rp_nd hR', nD_lo (show (itN mHopS (0, s3) (nD s3)).2 3 = s3 3 from itN_lo2 (fun k z => mHopS_lo (by omega)) _)]
      refine i_ge (Nat.le_refl _) (by omega) ?_
      refine K_44 hR' ?_
      intro m4 hR4 hF4
      exact hQ m4 hR4 (Fr_tr hF' hF4)
    · intro k hk ih m' hR' hF'
      have hz1 : itN mHopS (0, s3) (k + 1) = mHopS k (itN mHopS (0, s3) k) := rfl
      have hz3 : nD (itN mHopS (0, s3) k).2 = nD s3 := nD_lo (show (itN mHopS (0, s3) k).2 3 = s3 3 from itN_lo2 (fun k z => mHopS_lo (by omega)) _)
      have hz6 : (itN mHopS (0, s3) k).2 6 = s3 6 := itN_lo2 (fun k z => mHopS_lo (by omega)) k
      rw [hz1] at ih
      generalize itN mHopS (0, s3) k = z at *
      obtain ⟨hp, z⟩ := z
      dsimp only at *
      have hkz : k < nD z := by rw [hz3]; exact hk
      have hd := WF_dv (Rp_W hR') hkz
      refine T_41_22 ?_
      rw [Rp_nd hR', hz3]
      refine i_lt hk (by omega) ⟨inK (by omega) (by omega), ?_⟩
      rw [ixK (by omega), nI_1, (Rp_d hR' hkz).2.2.2.2.1, hR'.2.1.1, hR'.2.1.2.2.2.1]
      by_cases h6 : ¬ (z (104 + 10 * k + 6)) = (-6)
      · refine i_pos ((nz_i (dv6 hd) (by omega)).mpr h6) ⟨by rw [hz6]; exact hW.2.2.2.2.2.1.2, ?_⟩
        by_cases h7 : iR (z 0 + nI k) (z 6) = 0
        · refine i_pos h7 ?_
          refine K_47 hR' hkz h6 ?_
          intro m5 hR5 hF5
          rw [mHopS, if_pos ⟨h7, h6⟩] at ih
          exact ih m5 hR5 (Fr_tr hF' hF5)
        · refine i_neg h7 ?_
          rw [mHopS, if_neg (fun q => h7 q.1)] at ih
          exact ih m' hR' hF'
      · refine i_neg (fun w => h6 ((nz_i (dv6 hd) (by omega)).mp w)) ?_
        rw [mHopS, if_neg (fun q => h6 q.2)] at ih
        exact ih m' hR' hF'
  exact key 0 (Nat.zero_le _) m3 hR3 hF
end CL3
