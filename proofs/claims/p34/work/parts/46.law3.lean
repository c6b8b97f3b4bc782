/-! the law's review, ends, notices, leases -/
section LW3
variable {m : aM} {s : aS0} {ch x y p : Int32} {k d : Nat} {Q : Int32 → aM → Prop} {Qv : aM → Prop}
theorem neg6 : (-6 : Int32) < 0 := by decide
theorem M_105 (hW : WF s) (hQ : Qv (setS m (mRev s))) : Mv 105 [.inr (34, 0), .inr (35, 0), .inr (36, 0), .inr (37, 0), .inr (38, 0)] (setS m s) Qv := by
  obtain ⟨eD, lD⟩ := WF_D hW
  refine T_105 ?_
  refine dn0 (n := nD s) (P := fun k => H_105_3 (nI k) (setS m (itN mRevS s k)) Qv) ?_ ?_
  · refine T_105_3 ?_
    rw [rG3, itN_lo (fun k s => mRevS_3 (by omega)), eD]
    exact i_ge (Nat.le_refl _) (by omega) hQ
  · intro k hk ih
    have hk16 : k < 16 := by omega
    have hz1 : itN mRevS s (k + 1) = mRevS k (itN mRevS s k) := rfl
    have hz3 : itN mRevS s k 3 = s 3 := itN_lo (fun k s => mRevS_3 (by omega)) k
    have hWz : WF (itN mRevS s k) := itN_P (P := WF) hW (fun _ _ => WF_revS) k
    rw [hz1] at ih
    generalize itN mRevS s k = z at *
    have hkz : k < nD z := by unfold nD; rw [hz3]; exact hk
    have hd := WF_dv hWz hkz
    refine T_105_3 ?_
    rw [rG3, hz3, eD]
    refine i_lt hk (by omega) ?_
    simp only [rD0 hk16, gD0 hk16, rD1 hk16, gD1 hk16, rD2 hk16, gD2 hk16, rD3 hk16, gD3 hk16, rP0 hk16, gP0 hk16, rP1 hk16, gP1 hk16, rP2 hk16, gP2 hk16, rC0 hk16, gC0 hk16, rC1 hk16, gC1 hk16, rC2 hk16, gC2 hk16, true_and, nI_1]
    by_cases h3 : ¬ (z (104 + 10 * k + 3)) = (-6)
    · obtain ⟨l3, l4, l5, l6⟩ := dv_lease hd h3
      refine i_neg (rg_nn l3 (by omega)) ?_
      have hh : mHas z k = true := decide_eq_true h3
      refine M_103 hWz hk16 l3 l4 ?_
      have hla : mAlwF z k (z (104 + 10 * k + 3)) (z (104 + 10 * k + 4)) = mLA z k := rfl
      rw [hla]
      cases ha : mLA z k with
      | false =>
        refine i_pos (bP_bf rfl) ?_
        simp only [rD0 hk16, gD0 hk16, rD1 hk16, gD1 hk16, rD2 hk16, gD2 hk16, rD3 hk16, gD3 hk16, rP0 hk16, gP0 hk16, rP1 hk16, gP1 hk16, rP2 hk16, gP2 hk16, rC0 hk16, gC0 hk16, rC1 hk16, gC1 hk16, rC2 hk16, gC2 hk16, true_and, rG0]
        by_cases h6 : (z (104 + 10 * k + 6)) = (-6)
        · refine i_pos (by rw [h6]; exact neg6) ?_
          intro m9 e9
          subst e9
          rw [uP2 hk16]
          simpa only [mRevS, hh, ha, h6, if_true, Bool.false_eq_true, if_false] using ih
        · refine i_neg (rg_nn (l6.resolve_left h6) (by omega)) ?_
          intro m9 e9
          subst e9
          rw [uP2 hk16]
          simpa only [mRevS, hh, ha, h6, if_true, Bool.false_eq_true, if_false] using ih
      | true =>
        refine i_neg (by decide) ?_
        intro m9 e9
        subst e9
        rw [uP2 hk16]
        simpa only [mRevS, hh, ha, if_true] using ih
    · have h3' : (z (104 + 10 * k + 3)) = (-6) := Decidable.not_not.mp h3
      refine i_pos (by rw [h3']; exact neg6) ?_
      have hh : mHas z k = false := decide_eq_false h3
      simpa only [mRevS, hh, Bool.false_eq_true, if_false] using ih
theorem M_106 (hk : k < 16) (hQ : Qv (setS m (mEnds s k))) : Mv 106 [.inr (37, 0), .inr (38, 0), .inl (nI k)] (setS m s) Qv := by
  refine T_106 ⟨gD3 hk, ?_⟩
  intro m2 e2
  subst e2
  rw [uD3 hk]
  have st : ∀ (j : Nat) (z : aS0), j < 3 → H_106_11 (nI k) (nI (j + 1)) (setS m (upd z (104 + 10 * k + (4 + j)) (-6))) Qv → H_106_11 (nI k) (nI j) (setS m z) Qv := by
    intro j z hj h
    have ej : (3 : Int32) * nI k + nI j = nI (3 * k + j) := jx 3 k j
    refine T_106_11 (i_pos (nI_lt (b := 3) hj (by omega)) ⟨a_in_I ej (by omega) (by omega), ?_⟩)
    intro m3 e3
    subst e3
    rw [ix_G ej (by omega), U_ad (aP_ hk hj), nI_1]
    exact h
  exact st 0 _ (by omega) (st 1 _ (by omega) (st 2 _ (by omega) (T_106_11 (i_neg (by decide +kernel) hQ))))
theorem M_107 (hW : WF s) (hQ : Q (nI (mNot s)) (setS m s)) : Mi 107 [.inr (34, 0), .inr (38, 0)] (setS m s) Q := by
  obtain ⟨eD, lD⟩ := WF_D hW
  refine T_107 ?_
  refine dn0 (n := nD s) (P := fun k => H_107_4 (nI (cntN (fun k => decide (¬ (s (104 + 10 * k + 6)) = (-6))) k)) (nI k) (setS m s) Q) ?_ ?_
  · refine T_107_4 ?_
    rw [rG3, eD]
    exact i_ge (Nat.le_refl _) (by omega) hQ
  · intro k hk ih
    have hk16 : k < 16 := by omega
    have hd := WF_dv hW hk
    refine T_107_4 ?_
    rw [rG3, eD]
    refine i_lt hk (by omega) ?_
    simp only [rD0 hk16, gD0 hk16, rD1 hk16, gD1 hk16, rD2 hk16, gD2 hk16, rD3 hk16, gD3 hk16, rP0 hk16, gP0 hk16, rP1 hk16, gP1 hk16, rP2 hk16, gP2 hk16, rC0 hk16, gC0 hk16, rC1 hk16, gC1 hk16, rC2 hk16, gC2 hk16, true_and, nI_1, nI_z0]
    unfold cntN at ih
    by_cases h3 : (s (104 + 10 * k + 6)) = (-6)
    · refine i_pos (by rw [h3]; exact neg6) ?_
      rwa [if_neg (by simp [h3]), Nat.add_zero] at ih
    · refine i_neg (rg_nn (dv_notice hd h3).2.2.2 (by omega)) ?_
      rwa [if_pos (by simp [h3])] at ih
theorem M_108 (hW : WF s) (hQ : Q (nI (mLs s)) (setS m s)) : Mi 108 [.inr (34, 0), .inr (37, 0)] (setS m s) Q := by
  obtain ⟨eD, lD⟩ := WF_D hW
  refine T_108 ?_
  refine dn0 (n := nD s) (P := fun k => H_108_4 (nI (cntN (mHas s) k)) (nI k) (setS m s) Q) ?_ ?_
  · refine T_108_4 ?_
    rw [rG3, eD]
    exact i_ge (Nat.le_refl _) (by omega) hQ
  · intro k hk ih
    have hk16 : k < 16 := by omega
    have hd := WF_dv hW hk
    refine T_108_4 ?_
    rw [rG3, eD]
    refine i_lt hk (by omega) ?_
    simp only [rD0 hk16, gD0 hk16, rD1 hk16, gD1 hk16, rD2 hk16, gD2 hk16, rD3 hk16, gD3 hk16, rP0 hk16, gP0 hk16, rP1 hk16, gP1 hk16, rP2 hk16, gP2 hk16, rC0 hk16, gC0 hk16, rC1 hk16, gC1 hk16, rC2 hk16, gC2 hk16, true_and, nI_1, nI_z0]
    unfold cntN at ih
    by_cases h3 : ¬ (s (104 + 10 * k + 3)) = (-6)
    · refine i_neg (rg_nn (dv_lease hd h3).1 (by omega)) ?_
      rwa [if_pos (by simp [mHas, h3])] at ih
    · have h3' : (s (104 + 10 * k + 3)) = (-6) := Decidable.not_not.mp h3
      refine i_pos (by rw [h3']; exact neg6) ?_
      rwa [if_neg (by simp [mHas, h3']), Nat.add_zero] at ih
end LW3
