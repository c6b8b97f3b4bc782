/-! the reference's methods that only look -/
section RF1
variable {m : aM} {s : aS0} {ch x y p h : Int32} {k d : Nat} {Q : Int32 → aM → Prop}
theorem R_114 (hk : k < 8) (hQ : Q (bP (mBarBy s ch x y p k = true)) (setS m s)) : Mi 114 [.inr (34, 0), .inl (nI k), .inl ch, .inl x, .inl y, .inl p] (setS m s) Q := by
  refine T_114 ?_
  simp only [S_s, ixS0 hk, inS0 hk, ixS1 hk, inS1 hk, ixS2 hk, inS2 hk, ixS3 hk, inS3 hk, ixS4 hk, inS4 hk, true_and]
  by_cases h4 : (s (8 + 5 * k + 4)) = 0
  · refine i_pos h4 ?_
    rwa [bP_f (by simp only [mBarBy, decide_eq_true_eq, h4, not_true_eq_false, false_and, not_false_eq_true])] at hQ
  · refine i_neg h4 ?_
    by_cases h2 : ¬ ((s (8 + 5 * k + 2)) - ch) < (-1) ∧ ¬ 1 < ((s (8 + 5 * k + 2)) - ch)
    · refine i_pos h2 ?_
      by_cases h0 : (s (8 + 5 * k + 2)) - ch = 0
      · refine i_pos h0 ?_
        rwa [bP_iff (show mBarBy s ch x y p k = true ↔ _ by simp only [mBarBy, decide_eq_true_eq, if_pos h0]; exact ⟨fun z => z.2.2, fun z => ⟨h4, h2, z⟩⟩)] at hQ
      · refine i_neg h0 ?_
        rwa [bP_iff (show mBarBy s ch x y p k = true ↔ _ by simp only [mBarBy, decide_eq_true_eq, if_neg h0]; exact ⟨fun z => z.2.2, fun z => ⟨h4, h2, z⟩⟩)] at hQ
    · refine i_neg h2 ?_
      rwa [bP_f (by simp only [mBarBy, decide_eq_true_eq]; exact fun z => h2 z.2.1)] at hQ
theorem R_115 (hk : k < 8) (hQ : Q (bP (mOn s h k = true)) (setS m s)) : Mi 115 [.inr (34, 0), .inl (nI k), .inl h] (setS m s) Q := by
  refine T_115 ?_
  simp only [S_s, ixE0 hk, inE0 hk, ixE1 hk, inE1 hk, ixE2 hk, inE2 hk, ixE3 hk, inE3 hk, ixE4 hk, inE4 hk, ixE5 hk, inE5 hk, ixE6 hk, inE6 hk, true_and]
  by_cases h6 : (s (48 + 7 * k + 6)) = 0
  · refine i_pos h6 ?_
    by_cases h2 : ¬ h < (s (48 + 7 * k + 4)) ∧ ¬ ((s (48 + 7 * k + 5)) - 1) < h
    · refine i_pos h2 ?_
      rwa [bP_t (by simp only [mOn, decide_eq_true_eq]; exact ⟨h6, h2⟩)] at hQ
    · refine i_neg h2 ?_
      rwa [bP_f (by simp only [mOn, decide_eq_true_eq]; exact fun z => h2 z.2)] at hQ
  · refine i_neg h6 ?_
    rwa [bP_f (by simp only [mOn, decide_eq_true_eq]; exact fun z => h6 z.1)] at hQ
theorem bP_b {b : Bool} : bP (b = true) = if b = true then 1 else 0 := rfl
theorem bP_bf {b : Bool} (h : b = false) : bP (b = true) = 0 := by rw [h]; rfl
theorem bP_bt {b : Bool} (h : b = true) : bP (b = true) = 1 := by rw [h]; rfl
/-- a loop's step 'is = is || f k' -/
theorem R_116 (hC : C3 s) (hQ : Q (bP (mBar s ch x y p = true)) (setS m s)) : Mi 116 [.inr (34, 0), .inl ch, .inl x, .inl y, .inl p] (setS m s) Q := by
  obtain ⟨⟨e1, l1⟩, -, -⟩ := hC
  refine T_116 ?_
  refine dn0 (n := nS s) (P := fun k => H_116_6 ch x y p (bP (anyN (mBarBy s ch x y p) k = true)) (nI k) (setS m s) Q) ?_ ?_
  · refine T_116_6 ?_
    rw [S_s, e1]
    refine i_ge (Nat.le_refl _) (by omega) ⟨bP_01, hQ⟩
  · intro k hk ih
    refine T_116_6 ?_
    rw [S_s, e1]
    refine i_lt hk (by omega) ?_
    rw [nI_1]
    cases hb : anyN (mBarBy s ch x y p) k with
    | false =>
      refine i_pos (bP_bf rfl) ?_
      refine R_114 (by omega) ?_
      cases hc : mBarBy s ch x y p k with
      | false =>
        refine i_pos (bP_bf rfl) ?_
        rwa [bP_bf (by simp only [anyN, hb, hc, Bool.or_self])] at ih
      | true =>
        refine i_neg (by rw [bP_bt rfl]; decide) ?_
        rwa [bP_bt (by simp only [anyN, hb, hc, Bool.or_true])] at ih
    | true =>
      refine i_neg (by rw [bP_bt rfl]; decide) ?_
      rwa [bP_bt (by simp only [anyN, hb, Bool.true_or])] at ih
theorem R_117 (hC : C3 s) (hQ : Q (bP (mRes s ch x y p h = true)) (setS m s)) : Mi 117 [.inr (34, 0), .inl ch, .inl x, .inl y, .inl p, .inl h] (setS m s) Q := by
  obtain ⟨-, ⟨e1, l1⟩, -⟩ := hC
  refine T_117 ?_
  refine dn0 (n := nE s) (P := fun k => H_117_6 ch x y p h (bP (anyN (mResBy s ch x y p h) k = true)) (nI k) (setS m s) Q) ?_ ?_
  · refine T_117_6 ?_
    rw [S_s, e1]
    refine i_ge (Nat.le_refl _) (by omega) ⟨bP_01, hQ⟩
  · intro k hk ih
    have hk8 : k < 8 := by omega
    refine T_117_6 ?_
    rw [S_s, e1]
    refine i_lt hk (by omega) ?_
    simp only [S_s, ixE0 hk8, inE0 hk8, ixE1 hk8, inE1 hk8, ixE2 hk8, inE2 hk8, ixE3 hk8, inE3 hk8, ixE4 hk8, inE4 hk8, ixE5 hk8, inE5 hk8, ixE6 hk8, inE6 hk8, true_and, nI_1]
    have hno : ∀ (z : mResBy s ch x y p h k = false), if bP (anyN (mResBy s ch x y p h) k = true) = 0 then H_117_6 ch x y p h 0 (nI (k + 1)) (setS m s) Q else H_117_6 ch x y p h 1 (nI (k + 1)) (setS m s) Q := by
      intro z
      cases hb : anyN (mResBy s ch x y p h) k with
      | false => refine i_pos (bP_bf rfl) ?_; rwa [bP_bf (by simp only [anyN, hb, z, Bool.or_self])] at ih
      | true => refine i_neg (by rw [bP_bt rfl]; decide) ?_; rwa [bP_bt (by simp only [anyN, hb, Bool.true_or])] at ih
    by_cases h3 : (s (48 + 7 * k + 3)) = ch
    · refine i_pos h3 ?_
      by_cases hn : nearP x y (s (48 + 7 * k + 0)) (s (48 + 7 * k + 1)) ((s (48 + 7 * k + 2)) + rchI p)
      · refine i_pos hn ?_
        cases hb : anyN (mResBy s ch x y p h) k with
        | true => refine i_neg (by rw [bP_bt rfl]; decide) ?_; rwa [bP_bt (by simp only [anyN, hb, Bool.true_or])] at ih
        | false =>
          refine i_pos (bP_bf rfl) ?_
          refine R_115 hk8 ?_
          have e : mResBy s ch x y p h k = mOn s h k := by
            unfold mResBy
            rw [decide_eq_true ⟨h3, hn⟩, Bool.true_and]
          cases hc : mOn s h k with
          | false =>
            refine i_pos (bP_bf rfl) ?_
            rwa [bP_bf (by simp only [anyN, hb, e, hc, Bool.or_self])] at ih
          | true =>
            refine i_neg (by rw [bP_bt rfl]; decide) ?_
            rwa [bP_bt (by simp only [anyN, hb, e, hc, Bool.or_true])] at ih
      · refine i_neg hn ?_
        exact hno (by unfold mResBy; rw [decide_eq_false (fun z => hn z.2), Bool.false_and])
    · refine i_neg h3 ?_
      exact hno (by unfold mResBy; rw [decide_eq_false (fun z => h3 z.1), Bool.false_and])
theorem R_118 (hC : C3 s) (hQ : Q (bP (mAlw s ch x y p = true)) (setS m s)) : Mi 118 [.inr (34, 0), .inl ch, .inl x, .inl y, .inl p] (setS m s) Q := by
  refine T_118 (R_116 hC ?_)
  cases hb : mBar s ch x y p with
  | true =>
    refine i_neg (by rw [bP_bt rfl]; decide) ?_
    rwa [bP_bf (by simp only [mAlw, hb, Bool.not_true, Bool.false_and])] at hQ
  | false =>
    refine i_pos (bP_bf rfl) ?_
    rw [S_s]
    refine R_117 hC ?_
    cases hc : mRes s ch x y p (s 0) with
    | true =>
      refine i_neg (by rw [bP_bt rfl]; decide) ?_
      rwa [bP_bf (by simp only [mAlw, hb, hc, Bool.not_true, Bool.and_false])] at hQ
    | false =>
      refine i_pos (bP_bf rfl) ?_
      rwa [bP_bt (by simp only [mAlw, hb, hc, Bool.not_false, Bool.and_self])] at hQ
theorem R_119 (hC : C3 s) (hd : d < 16) (hQ : Q (bP (mAlwF s d ch p = true)) (setS m s)) : Mi 119 [.inr (34, 0), .inl (nI d), .inl ch, .inl p] (setS m s) Q := by
  refine T_119 ?_
  simp only [S_s, ixD0 hd, inD0 hd, ixD1 hd, inD1 hd, ixD2 hd, inD2 hd, ixD3 hd, inD3 hd, ixD4 hd, inD4 hd, ixD5 hd, inD5 hd, ixD6 hd, inD6 hd, ixD7 hd, inD7 hd, ixD8 hd, inD8 hd, ixD9 hd, inD9 hd, true_and]
  exact R_118 hC ⟨bP_01, hQ⟩
theorem R_124 (hC : C3 s) (hd : d < 16) (hQ : Q (bP (mLA s d = true)) (setS m s)) : Mi 124 [.inr (34, 0), .inl (nI d)] (setS m s) Q := by
  refine T_124 ?_
  simp only [S_s, ixD0 hd, inD0 hd, ixD1 hd, inD1 hd, ixD2 hd, inD2 hd, ixD3 hd, inD3 hd, ixD4 hd, inD4 hd, ixD5 hd, inD5 hd, ixD6 hd, inD6 hd, ixD7 hd, inD7 hd, ixD8 hd, inD8 hd, ixD9 hd, inD9 hd, true_and]
  exact R_119 hC hd ⟨bP_01, hQ⟩
theorem R_121 (hC : C3 s) (hd : d < 16) (hQ : Q (bP (mFree s d ch p = true)) (setS m s)) : Mi 121 [.inr (34, 0), .inl (nI d), .inl ch, .inl p] (setS m s) Q := by
  obtain ⟨-, -, e1, l1⟩ := hC
  refine T_121 ?_
  refine dn0 (n := nD s) (P := fun k => H_121_6 (nI d) ch p (bP ((!anyN (mNear s d ch p) k) = true)) (nI k) (setS m s) Q) ?_ ?_
  · refine T_121_6 ?_
    rw [S_s, e1]
    refine i_ge (Nat.le_refl _) (by omega) ⟨bP_01, hQ⟩
  · intro k hk ih
    have hk16 : k < 16 := by omega
    refine T_121_6 ?_
    rw [S_s, e1]
    refine i_lt hk (by omega) ?_
    simp only [S_s, ixD0 hk16, inD0 hk16, ixD1 hk16, inD1 hk16, ixD2 hk16, inD2 hk16, ixD3 hk16, inD3 hk16, ixD4 hk16, inD4 hk16, ixD5 hk16, inD5 hk16, ixD6 hk16, inD6 hk16, ixD7 hk16, inD7 hk16, ixD8 hk16, inD8 hk16, ixD9 hk16, inD9 hk16, ixD0 hd, inD0 hd, ixD1 hd, inD1 hd, ixD2 hd, inD2 hd, ixD3 hd, inD3 hd, ixD4 hd, inD4 hd, ixD5 hd, inD5 hd, ixD6 hd, inD6 hd, ixD7 hd, inD7 hd, ixD8 hd, inD8 hd, ixD9 hd, inD9 hd, true_and, nI_1]
    have hsame : (mNear s d ch p k = false) → (!anyN (mNear s d ch p) (k + 1)) = (!anyN (mNear s d ch p) k) := by
      intro z; simp only [anyN, z, Bool.or_false]
    by_cases hkd : k = d
    · refine i_pos (by rw [hkd]) ?_
      rwa [hsame (by simp [mNear, hkd])] at ih
    · refine i_neg (by rw [nI_eq (by omega) (by omega)]; exact hkd) ?_
      by_cases h3 : (s (104 + 10 * k + 3)) = ch
      · refine i_pos h3 ?_
        cases hb : anyN (mNear s d ch p) k with
        | true =>
          refine i_pos (bP_bf rfl) ?_
          rwa [bP_bf (by simp only [anyN, hb, Bool.true_or, Bool.not_true])] at ih
        | false =>
          refine i_neg (by decide) ?_
          by_cases hn : nearP (s (104 + 10 * d + 0)) (s (104 + 10 * d + 1)) (s (104 + 10 * k + 0)) (s (104 + 10 * k + 1)) (rchI p + rchI (s (104 + 10 * k + 4)))
          · refine i_pos hn ?_
            rwa [bP_bf (by simp only [anyN, hb, mNear, decide_eq_true (⟨hkd, h3, hn⟩ : ¬ k = d ∧ (s (104 + 10 * k + 3)) = ch ∧ nearP (s (104 + 10 * d + 0)) (s (104 + 10 * d + 1)) (s (104 + 10 * k + 0)) (s (104 + 10 * k + 1)) (rchI p + rchI (s (104 + 10 * k + 4)))), Bool.or_true, Bool.not_true])] at ih
          · refine i_neg hn ?_
            rwa [bP_bt (by simp only [anyN, hb, mNear, decide_eq_false (fun z : ¬ k = d ∧ (s (104 + 10 * k + 3)) = ch ∧ nearP (s (104 + 10 * d + 0)) (s (104 + 10 * d + 1)) (s (104 + 10 * k + 0)) (s (104 + 10 * k + 1)) (rchI p + rchI (s (104 + 10 * k + 4))) => hn z.2.2), Bool.or_false, Bool.not_false])] at ih
      · refine i_neg h3 ?_
        rwa [hsame (by simp only [mNear]; exact decide_eq_false (fun z => h3 z.2.1))] at ih
end RF1
