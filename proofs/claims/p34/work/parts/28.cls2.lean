/-! the class's offers and counts -/
section CL2
variable {m : aM} {s : aS0} {ch x y p h : Int32} {b k d : Nat} {Q : Int32 → aM → Prop}
theorem nz_eq {v c : Int32} (hc : rg c 7) : nz v = c ↔ v = c := by
  unfold nz
  by_cases hv : v = (-6)
  · rw [if_pos hv, hv]
    exact ⟨fun z => absurd z.symm (rg_m1 hc (by omega)), fun z => absurd z.symm (rg_6 hc (by omega))⟩
  · rw [if_neg hv]
theorem Rp_nd (hR : Rp m b s) : m 3 b 10 = nI (nD s) := by rw [hR.2.1.2.2.2.2.2.2.2]; exact (WF_D (Rp_W hR)).1
theorem Rp_ld (hR : Rp m b s) : nD s ≤ 16 := (WF_D (Rp_W hR)).2
theorem Rp_d (hR : Rp m b s) (hk : k < nD s) : Rd m b s k := hR.2.2.2.2.1 k hk
theorem Rp_rch (hR : Rp m b s) (hp : rg p 3) : m 42 0 p.toNatClampNeg = rchI p := by
  obtain ⟨n, ln, rfl⟩ := hp
  rw [ixK (by omega)]
  exact hR.1.2.1 n ln
theorem inR {v : Int32} {B N : Nat} (h : rg v B) (hB : B < N) (hN : N < 2 ^ 31) : a_in v N = true := by
  obtain ⟨n, ln, rfl⟩ := h
  exact inK (by omega) hN
theorem K_51 (hR : Rp m b s) (hd : d < nD s) (hp : rg p 3) (hc : rg ch 7) (hQ : Q (bP (mFree s d ch p = true)) m) : Mi 51 [.inr (0, b), .inl ch, .inl (nI d), .inl p] m Q := by
  have hW := Rp_W hR
  have lD := Rp_ld hR
  refine T_51 ?_
  refine dn0 (n := nD s) (P := fun k => (∀ j, j < k → mNear s d ch p j = false) → H_51_3 b ch (nI d) p (nI k) m Q) ?_ ?_ (fun j hj => absurd hj (Nat.not_lt_zero _))
  · intro hno
    refine T_51_3 ?_
    rw [Rp_nd hR]
    refine i_ge (Nat.le_refl _) (by omega) ?_
    rwa [bP_bt (by unfold mFree; rw [anyN_f hno]; rfl)] at hQ
  · intro k hk ih hno
    have hgo : mNear s d ch p k = false → H_51_3 b ch (nI d) p (nI (k + 1)) m Q := by
      intro z
      refine ih (fun j hj => ?_)
      rcases Nat.lt_or_ge j k with q | q
      · exact hno j q
      · obtain rfl : j = k := by omega
        exact z
    obtain ⟨k0, k1, -, k3, -, -, -, -, k4⟩ := Rp_d hR hk
    obtain ⟨d0, d1, -⟩ := Rp_d hR hd
    refine T_51_3 ?_
    rw [Rp_nd hR]
    refine i_lt hk (by omega) ?_
    rw [nI_1]
    by_cases hkd : k = d
    · refine i_pos (by rw [hkd]) (hgo ?_)
      unfold mNear
      exact decide_eq_false (fun z => z.1 hkd)
    · refine i_neg (by rw [nI_eq (by omega) (by omega)]; exact hkd) ⟨inK (by omega) (by omega), ?_⟩
      rw [ixK (show k < 2 ^ 31 by omega), ixK (show d < 2 ^ 31 by omega), k3, k0, k1, d0, d1]
      by_cases h3 : (s (104 + 10 * k + 3)) = ch
      · refine i_pos ((nz_eq hc).mpr h3) ⟨inK (by omega) (by omega), ?_⟩
        have hl : ¬ (s (104 + 10 * k + 3)) = (-6) := by rw [h3]; exact rg_6 hc (by omega)
        have w4 := (dv_lease (WF_dv hW hk) hl).2.1
        rw [(k4 hl).1, Rp_rch hR hp, Rp_rch hR w4]
        refine ⟨inR w4 (by omega) (by omega), inR hp (by omega) (by omega), ?_⟩
        by_cases hn : nearP (s (104 + 10 * d + 0)) (s (104 + 10 * d + 1)) (s (104 + 10 * k + 0)) (s (104 + 10 * k + 1)) (rchI p + rchI (s (104 + 10 * k + 4)))
        · refine i_pos (by rw [Int32.add_comm (rchI (s (104 + 10 * k + 4)))]; exact near_c.mp hn) ?_
          have hbb : mNear s d ch p k = true := decide_eq_true ⟨hkd, h3, hn⟩
          rwa [bP_bf (by unfold mFree; rw [anyN_t hk hbb]; rfl)] at hQ
        · refine i_neg (fun z => hn (near_c.mpr (by rw [Int32.add_comm (rchI p)]; exact z))) (hgo ?_)
          exact decide_eq_false (fun z => hn z.2.2)
      · refine i_neg (fun z => h3 ((nz_eq hc).mp z)) (hgo ?_)
        exact decide_eq_false (fun z => h3 z.2.1)
def mOn3 (s : aS0) (ch : Int32) : Nat := cntN (fun k => decide ((s (104 + 10 * k + 3)) = ch)) (nD s)
theorem K_16 (hR : Rp m b s) (hc : rg ch 7) (hQ : Q (nI (mOn3 s ch)) m) : Mi 16 [.inr (3, b), .inl ch] m Q := by
  have lD := Rp_ld hR
  refine T_16 ?_
  refine dn0 (n := nD s) (P := fun k => H_16_4 b ch (nI (cntN (fun k => decide ((s (104 + 10 * k + 3)) = ch)) k)) (nI k) m Q) ?_ ?_
  · refine T_16_4 ?_
    rw [Rp_nd hR]
    exact i_ge (Nat.le_refl _) (by omega) hQ
  · intro k hk ih
    refine T_16_4 ?_
    rw [Rp_nd hR]
    refine i_lt hk (by omega) ⟨inK (by omega) (by omega), ?_⟩
    rw [ixK (by omega), (Rp_d hR hk).2.2.2.1, nI_1, nI_1]
    unfold cntN at ih
    by_cases h3 : (s (104 + 10 * k + 3)) = ch
    · refine i_pos ((nz_eq hc).mpr h3) ?_
      rwa [if_pos (by simp [h3])] at ih
    · refine i_neg (fun z => h3 ((nz_eq hc).mp z)) ?_
      rwa [if_neg (by simp [h3]), Nat.add_zero] at ih
theorem K_15 (hR : Rp m b s) (hQ : Q (nI (mLs s)) m) : Mi 15 [.inr (3, b)] m Q := by
  have lD := Rp_ld hR
  refine T_15 ?_
  refine dn0 (n := nD s) (P := fun k => H_15_4 b (nI (cntN (mHas s) k)) (nI k) m Q) ?_ ?_
  · refine T_15_4 ?_
    rw [Rp_nd hR]
    exact i_ge (Nat.le_refl _) (by omega) hQ
  · intro k hk ih
    refine T_15_4 ?_
    rw [Rp_nd hR]
    refine i_lt hk (by omega) ⟨inK (by omega) (by omega), ?_⟩
    rw [ixK (by omega), (Rp_d hR hk).2.2.2.1, nI_1, nI_1]
    have e := nz_i (dv3 (WF_dv (Rp_W hR) hk)) (by omega)
    unfold cntN at ih
    by_cases h3 : ¬ (s (104 + 10 * k + 3)) = (-6)
    · refine i_pos (e.mpr h3) ?_
      rwa [if_pos (show mHas s k = true from decide_eq_true h3)] at ih
    · refine i_neg (fun z => h3 (e.mp z)) ?_
      rwa [if_neg (show ¬ mHas s k = true from fun z => h3 (of_decide_eq_true z)), Nat.add_zero] at ih
theorem K_17 (hR : Rp m b s) (hQ : Q (nI (mNot s)) m) : Mi 17 [.inr (3, b)] m Q := by
  have lD := Rp_ld hR
  refine T_17 ?_
  refine dn0 (n := nD s) (P := fun k => H_17_4 b (nI (cntN (fun k => decide (¬ (s (104 + 10 * k + 6)) = (-6))) k)) (nI k) m Q) ?_ ?_
  · refine T_17_4 ?_
    rw [Rp_nd hR]
    exact i_ge (Nat.le_refl _) (by omega) hQ
  · intro k hk ih
    refine T_17_4 ?_
    rw [Rp_nd hR]
    refine i_lt hk (by omega) ⟨inK (by omega) (by omega), ?_⟩
    rw [ixK (by omega), (Rp_d hR hk).2.2.2.2.1, nI_1, nI_1]
    have e := nz_i (dv6 (WF_dv (Rp_W hR) hk)) (by omega)
    unfold cntN at ih
    by_cases h3 : ¬ (s (104 + 10 * k + 6)) = (-6)
    · refine i_pos (e.mpr h3) ?_
      rwa [if_pos (decide_eq_true h3)] at ih
    · refine i_neg (fun z => h3 (e.mp z)) ?_
      rwa [if_neg (fun z => h3 (of_decide_eq_true z)), Nat.add_zero] at ih
/-- the counts with and without the device itself -/
theorem cnt_oth (hd : d < 2 ^ 31) (P : Nat → Prop) [DecidablePred P] : ∀ n, n < 2 ^ 31 → cntN (fun k => decide (P k)) n = cntN (fun k => decide (¬ nI k = nI d ∧ P k)) n + (if d < n ∧ P d then 1 else 0)
  | 0, _ => by rw [if_neg (fun z => absurd z.1 (Nat.not_lt_zero _))]; rfl
  | n + 1, hn => by
    unfold cntN
    rw [cnt_oth hd P n (by omega), show decide (¬ nI n = nI d ∧ P n) = decide (¬ n = d ∧ P n) from decide_eq_decide.mpr (by rw [nI_eq (by omega) hd])]
    by_cases hnd : n = d
    · subst hnd
      rw [if_neg (fun z => absurd z.1 (Nat.lt_irrefl _))]
      by_cases hp : P n
      · rw [if_pos (decide_eq_true hp), if_neg (show ¬ decide (¬ n = n ∧ P n) = true by simp), if_pos ⟨by omega, hp⟩]
      · rw [if_neg (show ¬ decide (P n) = true by simpa using hp), if_neg (show ¬ decide (¬ n = n ∧ P n) = true by simp), if_neg (fun z => hp z.2)]
    · have e : (d < n ∧ P d) ↔ (d < n + 1 ∧ P d) := ⟨fun z => ⟨by omega, z.2⟩, fun z => ⟨by omega, z.2⟩⟩
      by_cases hp : P n
      · rw [if_pos (decide_eq_true hp), if_pos (decide_eq_true ⟨hnd, hp⟩)]
        by_cases q : d < n ∧ P d
        · rw [if_pos q, if_pos (e.mp q)]
        · rw [if_neg q, if_neg (fun z => q (e.mpr z))]
      · rw [if_neg (show ¬ decide (P n) = true by simpa using hp), if_neg (show ¬ decide (¬ n = d ∧ P n) = true by simp [hp])]
        by_cases q : d < n ∧ P d
        · rw [if_pos q, if_pos (e.mp q)]
        · rw [if_neg q, if_neg (fun z => q (e.mpr z))]
theorem on3_oth (hd : d < nD s) (hD : nD s ≤ 16) : mOn3 s ch = mOth s (nI d) ch + (if (s (104 + 10 * d + 3)) = ch then 1 else 0) := by
  unfold mOn3 mOth
  rw [cnt_oth (d := d) (by omega) (fun k => (s (104 + 10 * k + 3)) = ch) _ (by omega)]
  by_cases h : (s (104 + 10 * d + 3)) = ch
  · rw [if_pos ⟨hd, h⟩, if_pos h]
  · rw [if_neg (fun z => h z.2), if_neg h]
theorem oth_lt (hd : d < nD s) (hD : nD s ≤ 16) : mOth s (nI d) ch < 16 := by
  have h1 := cnt_oth (d := d) (by omega) (fun _ => True) (nD s) (by omega)
  have h2 : mOth s (nI d) ch ≤ cntN (fun k => decide (¬ nI k = nI d ∧ True)) (nD s) := by
    unfold mOth
    have : ∀ n, cntN (fun k => decide (¬ nI k = nI d ∧ (s (104 + 10 * k + 3)) = ch)) n ≤ cntN (fun k => decide (¬ nI k = nI d ∧ True)) n := by
      intro n
      induction n with
      | zero => exact Nat.le_refl _
      | succ n ih =>
        unfold cntN
        by_cases q : ¬ nI n = nI d
        · rw [if_pos (decide_eq_true (⟨q, trivial⟩ : ¬ nI n = nI d ∧ True))]
          split <;> omega
        · rw [if_neg (fun z => q (of_decide_eq_true z).1), if_neg (fun z => q (of_decide_eq_true z).1)]
          omega
    exact this _
  have h3 := cntN_le (fun _ => decide True) (nD s)
  rw [if_pos ⟨hd, trivial⟩] at h1
  omega
theorem K_50 (hR : Rp m b s) (hd : d < nD s) (hp : rg p 3) (hQ : Q (mOff s d p) m) : Mi 50 [.inr (0, b), .inl (nI d), .inl p] m Q := by
  have hW := Rp_W hR
  have lD := Rp_ld hR
  obtain ⟨d0, d1, -, d3, -⟩ := Rp_d hR hd
  refine T_50 ?_
  refine dn0 (n := 8) (P := fun k => H_50_10 b (nI d) p (itN (mOffS s d p) ((-6), 0) k).1 (if (itN (mOffS s d p) ((-6), 0) k).1 = (-6) then 16 else (itN (mOffS s d p) ((-6), 0) k).2) (nI k) m Q) ?_ ?_
  · refine T_50_10 ?_
    exact i_neg (by decide) hQ
  · intro k hk ih
    refine T_50_10 ?_
    refine i_pos (nI_lt (b := 8) hk (by omega)) ⟨inK (by omega) (by omega), ?_⟩
    rw [nI_1, ixK (by omega), d0, d1]
    have hz1 : itN (mOffS s d p) ((-6), 0) (k + 1) = mOffS s d p k (itN (mOffS s d p) ((-6), 0) k) := rfl
    rw [hz1] at ih
    generalize itN (mOffS s d p) ((-6), 0) k = z at ih ⊢
    have hc : rg (nI k) 7 := ⟨k, by omega, rfl⟩
    have hk6 : ¬ nI k = (-6) := rg_6 hc (by omega)
    refine K_53 hR hp ?_
    have hAF : mAlw s (nI k) (s (104 + 10 * d + 0)) (s (104 + 10 * d + 1)) p = mAlwF s d (nI k) p := rfl
    rw [hAF]
    cases ha : mAlwF s d (nI k) p with
    | false =>
      refine i_pos (bP_bf rfl) ?_
      have e : mOffS s d p k z = z := by simp only [mOffS, ha, Bool.false_and, Bool.false_eq_true, if_false]
      rwa [e] at ih
    | true =>
      refine i_neg (by decide) ?_
      refine K_51 hR hd hp hc ?_
      cases hf : mFree s d (nI k) p with
      | false =>
        refine i_pos (bP_bf rfl) ?_
        have e : mOffS s d p k z = z := by simp only [mOffS, ha, hf, Bool.and_false, Bool.false_eq_true, if_false]
        rwa [e] at ih
      | true =>
        refine i_neg (by decide) ?_
        refine K_16 hR hc ?_
        rw [d3]
        have hoth := on3_oth (ch := nI k) hd lD
        have hlt := oth_lt (ch := nI k) hd lD
        -- what is compared
        have hcmp : (nI (mOth s (nI d) (nI k)) < if z.1 = (-6) then 16 else z.2) ↔ (z.1 = (-6) ∨ nI (mOth s (nI d) (nI k)) < z.2) := by
          by_cases h6 : z.1 = (-6)
          · rw [if_pos h6]
            exact ⟨fun _ => Or.inl h6, fun _ => nI_lt (b := 16) hlt (by omega)⟩
          · rw [if_neg h6]
            exact ⟨Or.inr, fun q => q.elim (fun w => absurd w h6) id⟩
        have fin : ∀ v, v = nI (mOth s (nI d) (nI k)) → (if v < (if z.1 = (-6) then 16 else z.2) then H_50_10 b (nI d) p (nI k) v (nI (k + 1)) m Q else H_50_10 b (nI d) p z.1 (if z.1 = (-6) then 16 else z.2) (nI (k + 1)) m Q) := by
          intro v hv
          subst hv
          by_cases hq : z.1 = (-6) ∨ nI (mOth s (nI d) (nI k)) < z.2
          · refine i_pos (hcmp.mpr hq) ?_
            have e : mOffS s d p k z = (nI k, nI (mOth s (nI d) (nI k))) := by simp only [mOffS, ha, hf, Bool.and_self, if_true, if_pos hq]
            rw [e] at ih
            dsimp only at ih
            rwa [if_neg hk6] at ih
          · refine i_neg (fun q => hq (hcmp.mp q)) ?_
            have e : mOffS s d p k z = z := by simp only [mOffS, ha, hf, Bool.and_self, if_true, if_neg hq]
            rwa [e] at ih
        by_cases h3 : (s (104 + 10 * d + 3)) = nI k
        · refine i_pos ((nz_eq hc).mpr h3) ?_
          rw [hoth, if_pos h3]
          exact fin _ (pk_m1 _)
        · refine i_neg (fun q => h3 ((nz_eq hc).mp q)) ?_
          rw [hoth, if_neg h3, Nat.add_zero]
          exact fin _ rfl
theorem K_52 (hR : Rp m b s) (hd : d < nD s) (h3 : ¬ (s (104 + 10 * d + 3)) = (-6)) (hQ : Q (bP (mLA s d = true)) m) : Mi 52 [.inr (0, b), .inl (nI d)] m Q := by
  have lD := Rp_ld hR
  obtain ⟨d0, d1, -, d3, -, -, -, -, d4⟩ := Rp_d hR hd
  refine T_52 ?_
  rw [ixK (by omega), d0, d1, d3, (d4 h3).1, nz_n h3]
  refine ⟨inK (by omega) (by omega), ?_⟩
  exact K_53 hR (dv_lease (WF_dv (Rp_W hR) hd) h3).2.1 ⟨bP_01, hQ⟩
/-- the power is allowed on a channel -/
def mAnyA (s : aS0) (d : Nat) (p : Int32) : Bool := anyN (fun c => mAlwF s d (nI c) p) 8
theorem K_49 (hR : Rp m b s) (hd : d < nD s) (hp : rg p 3) (hQ : Q (bP (mAnyA s d p = true)) m) : Mi 49 [.inr (0, b), .inl (nI d), .inl p] m Q := by
  have lD := Rp_ld hR
  obtain ⟨d0, d1, -⟩ := Rp_d hR hd
  refine T_49 ?_
  refine dn0 (n := 8) (P := fun k => (∀ j, j < k → mAlwF s d (nI j) p = false) → H_49_2 b (nI d) p (nI k) m Q) ?_ ?_ (fun j hj => absurd hj (Nat.not_lt_zero _))
  · intro hno
    refine T_49_2 (i_neg (by decide) ?_)
    rwa [bP_bf (show mAnyA s d p = false from anyN_f hno)] at hQ
  · intro k hk ih hno
    refine T_49_2 (i_pos (nI_lt (b := 8) hk (by omega)) ⟨inK (by omega) (by omega), ?_⟩)
    rw [nI_1, ixK (by omega), d0, d1]
    refine K_53 hR hp ?_
    have hAF : mAlw s (nI k) (s (104 + 10 * d + 0)) (s (104 + 10 * d + 1)) p = mAlwF s d (nI k) p := rfl
    rw [hAF]
    cases ha : mAlwF s d (nI k) p with
    | false =>
      refine i_pos (bP_bf rfl) (ih (fun j hj => ?_))
      rcases Nat.lt_or_ge j k with q | q
      · exact hno j q
      · obtain rfl : j = k := by omega
        exact ha
    | true =>
      refine i_neg (by decide) ?_
      rwa [bP_bt (show mAnyA s d p = true from anyN_t (f := fun c => mAlwF s d (nI c) p) hk ha)] at hQ
end CL2
