/-! the reference's offers, reviews, hours -/
section RF2
variable {m : aM} {s : aS0} {ch x y p h : Int32} {k d : Nat} {Q : Int32 → aM → Prop} {Qv : aM → Prop}
theorem nI_z0 (k : Nat) : nI k + 0 = nI k := by rw [nI0, nI_add, Nat.add_zero]
theorem R_122 {dd : Int32} (hC : C3 s) (hQ : Q (nI (mOth s dd ch)) (setS m s)) : Mi 122 [.inr (34, 0), .inl dd, .inl ch] (setS m s) Q := by
  obtain ⟨-, -, e1, l1⟩ := hC
  refine T_122 ?_
  refine dn0 (n := nD s) (P := fun k => H_122_5 dd ch (nI (cntN (fun k => decide (¬ nI k = dd ∧ (s (104 + 10 * k + 3)) = ch)) k)) (nI k) (setS m s) Q) ?_ ?_
  · refine T_122_5 ?_
    rw [S_s, e1]
    exact i_ge (Nat.le_refl _) (by omega) hQ
  · intro k hk ih
    have hk16 : k < 16 := by omega
    refine T_122_5 ?_
    rw [S_s, e1]
    refine i_lt hk (by omega) ?_
    simp only [S_s, ixD0 hk16, inD0 hk16, ixD1 hk16, inD1 hk16, ixD2 hk16, inD2 hk16, ixD3 hk16, inD3 hk16, ixD4 hk16, inD4 hk16, ixD5 hk16, inD5 hk16, ixD6 hk16, inD6 hk16, ixD7 hk16, inD7 hk16, ixD8 hk16, inD8 hk16, ixD9 hk16, inD9 hk16, true_and, nI_1, nI_z0]
    unfold cntN at ih
    by_cases hkd : nI k = dd
    · refine i_pos hkd ?_
      rwa [if_neg (by simp [hkd]), Nat.add_zero] at ih
    · refine i_neg hkd ?_
      by_cases h3 : (s (104 + 10 * k + 3)) = ch
      · refine i_pos h3 ?_
        rwa [if_pos (by simp [hkd, h3])] at ih
      · refine i_neg h3 ?_
        rwa [if_neg (by simp [h3]), Nat.add_zero] at ih
theorem R_123 (hC : C3 s) (hd : d < 16) (hQ : Q (mOff s d p) (setS m s)) : Mi 123 [.inr (34, 0), .inl (nI d), .inl p] (setS m s) Q := by
  refine T_123 ?_
  refine dn0 (n := 8) (P := fun k => H_123_9 (nI d) p (itN (mOffS s d p) ((-6), 0) k).1 (itN (mOffS s d p) ((-6), 0) k).2 (nI k) (setS m s) Q) ?_ ?_
  · refine T_123_9 ?_
    exact i_neg (by decide) hQ
  · intro k hk ih
    refine T_123_9 ?_
    refine i_pos (nI_lt (b := 8) hk (by omega)) ?_
    rw [nI_1]
    generalize hz : itN (mOffS s d p) ((-6), 0) k = z at ih ⊢
    have hz1 : itN (mOffS s d p) ((-6), 0) (k + 1) = mOffS s d p k z := by rw [← hz]; rfl
    rw [hz1] at ih
    refine R_119 hC hd ?_
    cases ha : mAlwF s d (nI k) p with
    | false =>
      refine i_pos (bP_bf rfl) ?_
      have e : mOffS s d p k z = z := by simp only [mOffS, ha, Bool.false_and, Bool.false_eq_true, if_false]
      rwa [e] at ih
    | true =>
      refine i_neg (by decide) ?_
      refine R_121 hC hd ?_
      cases hf : mFree s d (nI k) p with
      | false =>
        refine i_pos (bP_bf rfl) ?_
        have e : mOffS s d p k z = z := by simp only [mOffS, ha, hf, Bool.and_false, Bool.false_eq_true, if_false]
        rwa [e] at ih
      | true =>
        refine i_neg (by decide) ?_
        refine R_122 hC ?_
        by_cases h6 : z.1 = (-6)
        · refine i_pos h6 ?_
          have e : mOffS s d p k z = (nI k, nI (mOth s (nI d) (nI k))) := by simp only [mOffS, ha, hf, Bool.and_self, if_true, if_pos (Or.inl h6 : z.1 = (-6) ∨ nI (mOth s (nI d) (nI k)) < z.2)]
          rwa [e] at ih
        · refine i_neg h6 ?_
          by_cases h7 : nI (mOth s (nI d) (nI k)) < z.2
          · refine i_pos h7 ?_
            have e : mOffS s d p k z = (nI k, nI (mOth s (nI d) (nI k))) := by simp only [mOffS, ha, hf, Bool.and_self, if_true, if_pos (Or.inr h7 : z.1 = (-6) ∨ nI (mOth s (nI d) (nI k)) < z.2)]
            rwa [e] at ih
          · refine i_neg h7 ?_
            have e : mOffS s d p k z = z := by simp only [mOffS, ha, hf, Bool.and_self, if_true, if_neg (fun q : z.1 = (-6) ∨ nI (mOth s (nI d) (nI k)) < z.2 => q.elim h6 h7)]
            rwa [e] at ih
/-- what a change of cells above the numbers leaves -/
theorem C3_of {s s' : aS0} (h : C3 s) (h1 : s' 1 = s 1) (h2 : s' 2 = s 2) (h3 : s' 3 = s 3) : C3 s' := by
  unfold C3 nS nE nD at *
  rw [h1, h2, h3]
  exact h
theorem C3_upd {i : Nat} {v : Int32} (h : C3 s) (hi : 4 ≤ i ∨ i = 0) : C3 (upd s i v) := C3_of h (upd_n (by omega)) (upd_n (by omega)) (upd_n (by omega))
theorem nD_upd {i : Nat} {v : Int32} (hi : ¬ i = 3) : nD (upd s i v) = nD s := by
  unfold nD
  rw [upd_n (by omega)]
theorem mRevS_3 {i : Nat} (hi : i < 104) : mRevS k s i = s i := by
  unfold mRevS
  split
  · exact upd_n (by omega)
  · rfl
theorem itN_lo {f : Nat → aS0 → aS0} {i : Nat} (hf : ∀ k s, f k s i = s i) : ∀ n, itN f s n i = s i
  | 0 => rfl
  | n + 1 => by
    show f n (itN f s n) i = s i
    rw [hf, itN_lo hf n]
theorem R_125 (hC : C3 s) (hQ : Qv (setS m (mRev s))) : Mv 125 [.inr (34, 0)] (setS m s) Qv := by
  have hC' := hC
  obtain ⟨-, -, e1, l1⟩ := hC'
  refine T_125 ?_
  refine dn0 (n := nD s) (P := fun k => H_125_2 (nI k) (setS m (itN mRevS s k)) Qv) ?_ ?_
  · refine T_125_2 ?_
    rw [S_s, itN_lo (fun k s => mRevS_3 (by omega)), e1]
    exact i_ge (Nat.le_refl _) (by omega) hQ
  · intro k hk ih
    have hk16 : k < 16 := by omega
    have hz1 : itN mRevS s (k + 1) = mRevS k (itN mRevS s k) := rfl
    have hz3 : itN mRevS s k 3 = s 3 := itN_lo (fun k s => mRevS_3 (by omega)) k
    have hCz : C3 (itN mRevS s k) := C3_of hC (itN_lo (fun k s => mRevS_3 (by omega)) k) (itN_lo (fun k s => mRevS_3 (by omega)) k) hz3
    rw [hz1] at ih
    generalize itN mRevS s k = z at *
    refine T_125_2 ?_
    rw [S_s, hz3, e1]
    refine i_lt hk (by omega) ?_
    simp only [S_s, ixD0 hk16, inD0 hk16, ixD1 hk16, inD1 hk16, ixD2 hk16, inD2 hk16, ixD3 hk16, inD3 hk16, ixD4 hk16, inD4 hk16, ixD5 hk16, inD5 hk16, ixD6 hk16, inD6 hk16, ixD7 hk16, inD7 hk16, ixD8 hk16, inD8 hk16, ixD9 hk16, inD9 hk16, true_and, nI_1]
    by_cases h3 : ¬ (z (104 + 10 * k + 3)) = (-6)
    · refine i_pos h3 ?_
      have hh : mHas z k = true := decide_eq_true h3
      refine R_124 hCz hk16 ?_
      cases ha : mLA z k with
      | false =>
        refine i_pos (bP_bf rfl) ?_
        by_cases h6 : (z (104 + 10 * k + 6)) = (-6)
        · rw [S_s]
          refine i_pos h6 ?_
          intro m9 e9
          subst e9
          rw [S_up, S_s]
          simpa only [mRevS, hh, ha, h6, if_true, Bool.false_eq_true, if_false] using ih
        · rw [S_s]
          refine i_neg h6 ?_
          intro m9 e9
          subst e9
          rw [S_up]
          simpa only [mRevS, hh, ha, h6, if_true, Bool.false_eq_true, if_false] using ih
      | true =>
        refine i_neg (by decide) ?_
        intro m9 e9
        subst e9
        rw [S_up]
        simpa only [mRevS, hh, ha, if_true] using ih
    · refine i_neg h3 ?_
      have hh : mHas z k = false := decide_eq_false h3
      simpa only [mRevS, hh, Bool.false_eq_true, if_false] using ih
theorem S_ends (hk : k < 16) : rEnds (setS m s) (nI k) = setS m (mEnds s k) := by
  unfold rEnds mEnds
  simp only [ixD0 hk, inD0 hk, ixD1 hk, inD1 hk, ixD2 hk, inD2 hk, ixD3 hk, inD3 hk, ixD4 hk, inD4 hk, ixD5 hk, inD5 hk, ixD6 hk, inD6 hk, ixD7 hk, inD7 hk, ixD8 hk, inD8 hk, ixD9 hk, inD9 hk, S_up]
theorem R_127 (hC : C3 s) (hQ : Q (nI (mNot s)) (setS m s)) : Mi 127 [.inr (34, 0)] (setS m s) Q := by
  obtain ⟨-, -, e1, l1⟩ := hC
  refine T_127 ?_
  refine dn0 (n := nD s) (P := fun k => H_127_4 (nI (cntN (fun k => decide (¬ (s (104 + 10 * k + 6)) = (-6))) k)) (nI k) (setS m s) Q) ?_ ?_
  · refine T_127_4 ?_
    rw [S_s, e1]
    exact i_ge (Nat.le_refl _) (by omega) hQ
  · intro k hk ih
    have hk16 : k < 16 := by omega
    refine T_127_4 ?_
    rw [S_s, e1]
    refine i_lt hk (by omega) ?_
    simp only [S_s, ixD0 hk16, inD0 hk16, ixD1 hk16, inD1 hk16, ixD2 hk16, inD2 hk16, ixD3 hk16, inD3 hk16, ixD4 hk16, inD4 hk16, ixD5 hk16, inD5 hk16, ixD6 hk16, inD6 hk16, ixD7 hk16, inD7 hk16, ixD8 hk16, inD8 hk16, ixD9 hk16, inD9 hk16, true_and, nI_1, nI_z0]
    unfold cntN at ih
    by_cases h3 : (s (104 + 10 * k + 6)) = (-6)
    · refine i_pos h3 ?_
      rwa [if_neg (by simp [h3]), Nat.add_zero] at ih
    · refine i_neg h3 ?_
      rwa [if_pos (by simp [h3])] at ih
theorem R_128 (hC : C3 s) (hQ : Q (nI (mLs s)) (setS m s)) : Mi 128 [.inr (34, 0)] (setS m s) Q := by
  obtain ⟨-, -, e1, l1⟩ := hC
  refine T_128 ?_
  refine dn0 (n := nD s) (P := fun k => H_128_4 (nI (cntN (mHas s) k)) (nI k) (setS m s) Q) ?_ ?_
  · refine T_128_4 ?_
    rw [S_s, e1]
    exact i_ge (Nat.le_refl _) (by omega) hQ
  · intro k hk ih
    have hk16 : k < 16 := by omega
    refine T_128_4 ?_
    rw [S_s, e1]
    refine i_lt hk (by omega) ?_
    simp only [S_s, ixD0 hk16, inD0 hk16, ixD1 hk16, inD1 hk16, ixD2 hk16, inD2 hk16, ixD3 hk16, inD3 hk16, ixD4 hk16, inD4 hk16, ixD5 hk16, inD5 hk16, ixD6 hk16, inD6 hk16, ixD7 hk16, inD7 hk16, ixD8 hk16, inD8 hk16, ixD9 hk16, inD9 hk16, true_and, nI_1, nI_z0]
    unfold cntN at ih
    by_cases h3 : ¬ (s (104 + 10 * k + 3)) = (-6)
    · refine i_pos h3 ?_
      rwa [if_pos (by simp [mHas, h3])] at ih
    · refine i_neg h3 ?_
      rwa [if_neg (by simp [mHas]; simpa using h3), Nat.add_zero] at ih
theorem R_129 (hC : C3 s) (hk : k < 16) (hw : rg (s (104 + 10 * k + 4)) 3) (hQ : Q (mAsk s k).1 (setS m (mAsk s k).2)) : Mi 129 [.inr (34, 0), .inl (nI k)] (setS m s) Q := by
  refine T_129 ?_
  simp only [S_s, ixD0 hk, inD0 hk, ixD1 hk, inD1 hk, ixD2 hk, inD2 hk, ixD3 hk, inD3 hk, ixD4 hk, inD4 hk, ixD5 hk, inD5 hk, ixD6 hk, inD6 hk, ixD7 hk, inD7 hk, ixD8 hk, inD8 hk, ixD9 hk, inD9 hk, true_and]
  obtain ⟨e4, l4⟩ := rg_n hw (by omega)
  unfold mAsk at hQ
  generalize hp0 : (s (104 + 10 * k + 4)).toNatClampNeg = p0 at *
  rw [e4]
  have key : ∀ j, j ≤ 4 → (Q (mAskN s k j).1 (setS m (mAskN s k j).2)) → H_129_7 (nI k) (nI j - 1) (setS m s) Q := by
    intro j
    induction j with
    | zero =>
      intro _ hq
      refine T_129_7 ?_
      refine i_pos (by decide) ?_
      simp only [ixD0 hk, inD0 hk, ixD1 hk, inD1 hk, ixD2 hk, inD2 hk, ixD3 hk, inD3 hk, ixD4 hk, inD4 hk, ixD5 hk, inD5 hk, ixD6 hk, inD6 hk, ixD7 hk, inD7 hk, ixD8 hk, inD8 hk, ixD9 hk, inD9 hk, true_and]
      intro m6 e6 m8 e8
      subst e6
      subst e8
      simp only [ixD0 hk, inD0 hk, ixD1 hk, inD1 hk, ixD2 hk, inD2 hk, ixD3 hk, inD3 hk, ixD4 hk, inD4 hk, ixD5 hk, inD5 hk, ixD6 hk, inD6 hk, ixD7 hk, inD7 hk, ixD8 hk, inD8 hk, ixD9 hk, inD9 hk, S_ends hk, S_up, S_s]
      rw [show mEnds s k (104 + 10 * k + 8) = (s (104 + 10 * k + 8)) by unfold mEnds; rw [upd_n (by omega), upd_n (by omega), upd_n (by omega), upd_n (by omega)]]
      exact hq
    | succ j ih =>
      intro hj hq
      rw [nI_pred]
      refine T_129_7 ?_
      refine i_neg (nI_pos (by omega)) ?_
      refine R_123 hC hk ?_
      by_cases h6 : mOff s k (nI j) = (-6)
      · refine i_pos h6 ?_
        rw [show nI j + (-1) = nI j - 1 from (Int32.sub_eq_add_neg _ _).symm]
        refine ih (by omega) ?_
        simpa only [mAskN, h6, if_true] using hq
      · refine i_neg h6 ?_
        simp only [ixD0 hk, inD0 hk, ixD1 hk, inD1 hk, ixD2 hk, inD2 hk, ixD3 hk, inD3 hk, ixD4 hk, inD4 hk, ixD5 hk, inD5 hk, ixD6 hk, inD6 hk, ixD7 hk, inD7 hk, ixD8 hk, inD8 hk, ixD9 hk, inD9 hk, true_and]
        intro m13 e13 m15 e15 m17 e17 m19 e19
        subst e13
        subst e15
        subst e17
        subst e19
        simp only [ixD0 hk, inD0 hk, ixD1 hk, inD1 hk, ixD2 hk, inD2 hk, ixD3 hk, inD3 hk, ixD4 hk, inD4 hk, ixD5 hk, inD5 hk, ixD6 hk, inD6 hk, ixD7 hk, inD7 hk, ixD8 hk, inD8 hk, ixD9 hk, inD9 hk, S_up, S_s]
        rw [show (upd (upd (upd s (104 + 10 * k + 3) (mOff s k (nI j))) (104 + 10 * k + 4) (nI j)) (104 + 10 * k + 6) (-6)) (104 + 10 * k + 7) = (s (104 + 10 * k + 7)) by rw [upd_n (by omega), upd_n (by omega), upd_n (by omega)]]
        simpa only [mAskN, if_neg h6, mHop] using hq
  have := key (p0 + 1) (by omega) hQ
  rwa [nI_pred] at this
end RF2
