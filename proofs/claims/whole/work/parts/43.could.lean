/-! what could be -/
section CLD
variable {m : aM} {s : aS0} {b k d : Nat} {v x y p ch : Int32} {Q : Int32 → aM → Prop} {Qv : aM → Prop}
theorem Sim_tr {m' : aM} {s' : aS0} (hS : Sim m) (ho : ∀ c d, ¬ (c < 27 ∧ d = 1) → ¬ c = 39 → m' c d = m c d) (he : ∀ j, j < 264 → s' j = m 35 0 j) : Sim (setS m' s') := by
  obtain ⟨⟨o, c, rows, ⟨a1, a2, a3, a4, a5⟩, b1, b2, b3⟩, hSl, hTx, h60, hP⟩ := hS
  have q : ∀ c d, ¬ (c < 27 ∧ d = 1) → ¬ c = 39 → ¬ c = 35 → setS m' s' c d = m c d := fun c d h1 h2 h3 => by rw [setS_o (Or.inl h3)]; exact ho c d h1 h2
  refine ⟨⟨o, c, rows, ⟨a1, a2, ?_, ?_, ?_⟩, b1, ?_, ?_⟩, ?_, ?_, ?_, ?_⟩
  · rw [q 28 0 (by omega) (by omega) (by omega)]; exact a3
  · rw [q 28 0 (by omega) (by omega) (by omega)]; exact a4
  · exact fun i hi => RpH_same (a5 i hi) (fun c hc => q c _ (by omega) (by omega) (by omega)) (fun c hc => q c _ (by omega) (by omega) (by omega))
  · rw [q 34 0 (by omega) (by omega) (by omega)]; exact b2
  · intro i hi j hj
    rw [q 36 0 (by omega) (by omega) (by omega)]
    exact b3 i hi j hj
  · exact Sl_of hSl (q 31 0 (by omega) (by omega) (by omega)) (q 38 0 (by omega) (by omega) (by omega)) (q 37 0 (by omega) (by omega) (by omega)) (fun c hc => ⟨q c 8 (by omega) (by omega) (by omega), q c 9 (by omega) (by omega) (by omega)⟩) (fun c hc => q c 0 (by omega) (by omega) (by omega))
  · exact Tx_of hTx (by rw [q 32 0 (by omega) (by omega) (by omega)]) (by rw [q 34 0 (by omega) (by omega) (by omega)]) (q 33 0 (by omega) (by omega) (by omega)) (q 40 0 (by omega) (by omega) (by omega))
  · rw [q 34 0 (by omega) (by omega) (by omega)]; exact h60
  · rw [setS_e]
    exact RpH_ext (RpH_same hP (fun c hc => q c _ (by omega) (by omega) (by omega)) (fun c hc => q c _ (by omega) (by omega) (by omega))) he
theorem alw_lo {z : aS0} (h : ∀ i, i < 104 → z i = s i) (hC : C3 s) : mAlw z ch x y p = mAlw s ch x y p := by
  have lS := hC.1.2
  have lE := hC.2.1.2
  have eS : nS z = nS s := by unfold nS; rw [h 1 (by omega)]
  have eE : nE z = nE s := by unfold nE; rw [h 2 (by omega)]
  unfold mAlw mBar mRes
  rw [eS, eE, h 0 (by omega)]
  rw [anyN_congr (f := mBarBy z ch x y p) (g := mBarBy s ch x y p) (fun k hk => by
    unfold mBarBy
    rw [h 5 (by omega), h (8 + 5 * k + 0) (by omega), h (8 + 5 * k + 1) (by omega), h (8 + 5 * k + 2) (by omega), h (8 + 5 * k + 3) (by omega), h (8 + 5 * k + 4) (by omega)])]
  rw [anyN_congr (f := mResBy z ch x y p (s 0)) (g := mResBy s ch x y p (s 0)) (fun k hk => by
    unfold mResBy mOn
    rw [h (48 + 7 * k + 0) (by omega), h (48 + 7 * k + 1) (by omega), h (48 + 7 * k + 2) (by omega), h (48 + 7 * k + 3) (by omega), h (48 + 7 * k + 4) (by omega), h (48 + 7 * k + 5) (by omega), h (48 + 7 * k + 6) (by omega)])]
theorem rev_o (n : Nat) : ∀ i, (∀ j, j < n → ¬ i = 104 + 10 * j + 6) → itN mRevS s n i = s i := by
  induction n with
  | zero => exact fun _ _ => rfl
  | succ n ih =>
    intro i hi
    show mRevS n (itN mRevS s n) i = s i
    unfold mRevS
    split
    · rw [upd_n (hi n (by omega))]
      exact ih i (fun j hj => hi j (by omega))
    · exact ih i (fun j hj => hi j (by omega))
theorem rev_6 (hC : C3 s) : ∀ n, k < n → (itN mRevS s n) (104 + 10 * k + 6) = if mHas s k = true then (if mLA s k = true then (-6) else if (s (104 + 10 * k + 6)) = (-6) then s 0 else (s (104 + 10 * k + 6))) else (s (104 + 10 * k + 6)) := by
  intro n
  induction n with
  | zero => intro h; exact absurd h (Nat.not_lt_zero _)
  | succ n ih =>
    intro hk
    show mRevS n (itN mRevS s n) (104 + 10 * k + 6) = _
    by_cases hkn : k = n
    · subst hkn
      have e : ∀ i, (∀ j, j < k → ¬ i = 104 + 10 * j + 6) → itN mRevS s k i = s i := rev_o k
      have e3 := e (104 + 10 * k + 3) (fun j hj => by omega)
      have e6 := e (104 + 10 * k + 6) (fun j hj => by omega)
      have e0 := e 0 (fun j hj => by omega)
      have hl : mLA (itN mRevS s k) k = mLA s k := by
        unfold mLA mAlwF
        rw [alw_lo (fun i hi => e i (fun j hj => by omega)) hC, e3, e (104 + 10 * k + 0) (fun j hj => by omega), e (104 + 10 * k + 1) (fun j hj => by omega), e (104 + 10 * k + 4) (fun j hj => by omega)]
      have hh : mHas (itN mRevS s k) k = mHas s k := by unfold mHas; rw [e3]
      unfold mRevS at *
      rw [hh, hl, e6, e0]
      split
      · exact upd_e
      · exact e6
    · have := ih (by omega)
      unfold mRevS at *
      split
      · rw [upd_n (by omega)]; exact this
      · exact this
theorem mRev_6 (hC : C3 s) (hk : k < nD s) : (mRev s) (104 + 10 * k + 6) = if mHas s k = true then (if mLA s k = true then (-6) else if (s (104 + 10 * k + 6)) = (-6) then s 0 else (s (104 + 10 * k + 6))) else (s (104 + 10 * k + 6)) := rev_6 hC _ hk
/-- leases barred by a station alone -/
def mAlone (s : aS0) (k j : Nat) : Bool := mHas s j && !mLA s j && mLA (upd s (8 + 5 * k + 4) 0) j
theorem K_92 (hR : RpH m 0 s) (hk : k < nS s) (hQ : ∀ m', (∀ c d, ¬ (c < 27 ∧ d = 1) → m' c d = m c d) → Q (nI (cntN (mAlone s k) (nD s))) m') : Mi 92 [.inr (27, 0), .inl (nI k)] m Q := by
  have hW := Rp_W hR.1
  have lS := (WF_S hW).2
  refine T_92 (K_30 (by omega) hR.1 ?_)
  intro m1 hR1 hF1
  refine ⟨inK (by omega) (by omega), ?_⟩
  intro m3 e3
  rw [ixK (by omega)] at e3
  have hR3 : Rp m3 1 (upd s (8 + 5 * k + 4) 0) := by
    rw [e3]
    exact Rp_lo hR1 (Or.inr (Or.inr (Or.inr (Or.inl ⟨k, 4, by omega, by omega, rfl, rfl, rfl⟩)))) (WF_awake hW (by omega) (Or.inl rfl))
  have o3 : ∀ c d, ¬ (c < 27 ∧ d = 1) → m3 c d = m c d := fun c d h => by
    rw [e3, up_of (by omega)]
    exact hF1 c d (by omega)
  have hR0 : Rp m3 0 s := Rp_same hR.1 (fun c hc => o3 c 0 (by omega)) (fun c hc => o3 c 0 (by omega))
  have lD := Rp_ld hR0
  refine dn0 (n := nD s) (P := fun j => H_92_28 (nI k) (nI (cntN (mAlone s k) j)) (nI j) m3 Q) ?_ ?_
  · refine T_92_28 ?_
    rw [Rp_nd hR0]
    exact i_ge (Nat.le_refl _) (by omega) (hQ m3 o3)
  · intro j hj ih
    have hd := WF_dv hW hj
    refine T_92_28 ?_
    rw [Rp_nd hR0]
    refine i_lt hj (by omega) ⟨inK (by omega) (by omega), ?_⟩
    rw [ixK (by omega), (Rp_d hR0 hj).2.2.2.1, nI_1, nI_1]
    unfold cntN at ih
    have no : mAlone s k j = false → H_92_28 (nI k) (nI (cntN (mAlone s k) j)) (nI (j + 1)) m3 Q := by
      intro z
      rwa [if_neg (by rw [z]; decide), Nat.add_zero] at ih
    by_cases h3 : ¬ (s (104 + 10 * j + 3)) = (-6)
    · refine i_pos ((nz_i (dv3 hd) (by omega)).mpr h3) (K_52 hR0 hj h3 ?_)
      have hh : mHas s j = true := decide_eq_true h3
      cases ha : mLA s j with
      | true => exact i_neg (by decide) (no (by unfold mAlone; rw [ha, hh]; rfl))
      | false =>
        refine i_pos (bP_bf rfl) (K_52 hR3 (by unfold nD; rw [upd_n (by omega)]; exact hj) (by rw [upd_n (by omega)]; exact h3) ?_)
        cases hb : mLA (upd s (8 + 5 * k + 4) 0) j with
        | false => exact i_pos (bP_bf rfl) (no (by unfold mAlone; rw [hb, Bool.and_false]))
        | true =>
          refine i_neg (by decide) ?_
          rwa [if_pos (show mAlone s k j = true by unfold mAlone; rw [ha, hb, hh]; rfl)] at ih
    · exact i_neg (fun z => h3 ((nz_i (dv3 hd) (by omega)).mp z)) (no (by unfold mAlone; rw [show mHas s j = false from decide_eq_false h3]; rfl))
theorem cntN_0 {f : Nat → Bool} : ∀ {n : Nat}, (∀ k, k < n → f k = false) → cntN f n = 0
  | 0, _ => rfl
  | n + 1, h => by
    unfold cntN
    rw [cntN_0 (fun k hk => h k (by omega)), h n (by omega)]
    rfl
theorem upd_upd {i : Nat} {v w : Int32} (h : s i = w) : upd (upd s i v) i w = s := by
  funext j
  by_cases hj : j = i
  · rw [hj, upd_e, h]
  · rw [upd_n hj, upd_n hj]
theorem R_157 (hW : WF s) (hk : k < nS s) (hQ : Q (nI (cntN (mAlone s k) (nD s))) (setS m s)) : Mi 157 [.inr (34, 0), .inl (nI k)] (setS m s) Q := by
  have hC := WF_C hW
  have lS := (WF_S hW).2
  obtain ⟨e1, l1⟩ := WF_D hW
  have hk8 : k < 8 := by omega
  refine T_157 ?_
  simp only [S_s, ixS0 hk8, inS0 hk8, ixS1 hk8, inS1 hk8, ixS2 hk8, inS2 hk8, ixS3 hk8, inS3 hk8, ixS4 hk8, inS4 hk8, true_and]
  by_cases h4 : (s (8 + 5 * k + 4)) = 0
  · refine i_pos h4 ?_
    have e : upd s (8 + 5 * k + 4) 0 = s := by rw [← h4]; exact upd_id
    rwa [cntN_0 (fun j _ => by unfold mAlone; rw [e]; cases mLA s j <;> simp)] at hQ
  · refine i_neg h4 ?_
    have w4 : (s (8 + 5 * k + 4)) = 1 := (WF_st hW hk).2.2.elim (fun z => absurd z h4) id
    have hC1 : C3 (upd s (8 + 5 * k + 4) 0) := C3_upd hC (by omega)
    refine dn0 (n := nD s) (P := fun j => H_157_15 (nI k) (nI (cntN (mAlone s k) j)) (nI j) (setS m s) Q) ?_ ?_
    · refine T_157_15 ?_
      rw [S_s, e1]
      exact i_ge (Nat.le_refl _) (by omega) hQ
    · intro j hj ih
      have hj16 : j < 16 := by omega
      refine T_157_15 ?_
      rw [S_s, e1]
      refine i_lt hj (by omega) ?_
      simp only [S_s, ixD0 hj16, inD0 hj16, ixD1 hj16, inD1 hj16, ixD2 hj16, inD2 hj16, ixD3 hj16, inD3 hj16, ixD4 hj16, inD4 hj16, ixD5 hj16, inD5 hj16, ixD6 hj16, inD6 hj16, ixD7 hj16, inD7 hj16, ixD8 hj16, inD8 hj16, ixD9 hj16, inD9 hj16, ixS0 hk8, inS0 hk8, ixS1 hk8, inS1 hk8, ixS2 hk8, inS2 hk8, ixS3 hk8, inS3 hk8, ixS4 hk8, inS4 hk8, true_and, nI_1, nI_z0]
      unfold cntN at ih
      have no : mAlone s k j = false → H_157_15 (nI k) (nI (cntN (mAlone s k) j)) (nI (j + 1)) (setS m s) Q := by
        intro z
        rwa [if_neg (by rw [z]; decide), Nat.add_zero] at ih
      by_cases h3 : ¬ (s (104 + 10 * j + 3)) = (-6)
      · refine i_pos h3 (R_124 hC hj16 ?_)
        have hh : mHas s j = true := decide_eq_true h3
        cases ha : mLA s j with
        | true => exact i_neg (by decide) (no (by unfold mAlone; rw [ha, hh]; rfl))
        | false =>
          refine i_pos (bP_bf rfl) ?_
          intro m8 e8
          subst e8
          rw [S_up]
          refine R_124 hC1 hj16 ?_
          cases hb : mLA (upd s (8 + 5 * k + 4) 0) j with
          | false =>
            refine i_pos (bP_bf rfl) ?_
            intro m12 e12
            subst e12
            rw [S_up, upd_upd w4]
            exact no (by unfold mAlone; rw [hb, Bool.and_false])
          | true =>
            refine i_neg (by decide) ?_
            intro m12 e12
            subst e12
            rw [S_up, upd_upd w4]
            rwa [if_pos (show mAlone s k j = true by unfold mAlone; rw [ha, hb, hh]; rfl)] at ih
      · exact i_neg h3 (no (by unfold mAlone; rw [show mHas s j = false from decide_eq_false h3]; rfl))
/-- the trial block and the reference's held row play no part -/
theorem back_S {m' : aM} {s s' : aS0} (hs : m 35 0 = s) (hS : Sim m) (ho : ∀ c d, ¬ (c < 27 ∧ d = 1) → ¬ c = 39 → m' c d = m c d) (he : ∀ j, j < 264 → s' j = s j) : Sim (setS m' s') := Sim_tr hS ho (fun j hj => by rw [hs]; exact he j hj)
theorem E_station : Same 78 [.inr (27, 0), .inl x, .inl y] 158 [.inr (34, 0), .inl x, .inl y] := by
  intro m Q hS hQ
  have hR := hS.2.2.2.2
  have hq : ∀ v, Q v v (setS m (m 35 0)) := fun v => by rw [S_self]; exact hQ v m hS
  have hs : m 35 0 = m 35 0 := rfl
  generalize hgs : m 35 0 = s at hR hq hs
  have hW := Rp_W hR.1
  obtain ⟨eS, lS⟩ := WF_S hW
  have hN := hR.1.2.1
  refine T_78 ?_
  rw [hN.2.2.2.2.2.1]
  by_cases h1 : ¬ x < 0 ∧ x < s 1
  · refine i_pos h1 ?_
    have h1' := h1
    obtain ⟨k, hk, rfl⟩ := has_nI (eS ▸ h1) (by omega)
    have hk8 : k < 8 := by omega
    obtain ⟨s0, s1, s2, s3, s4⟩ := hR.1.2.2.1 k hk
    obtain ⟨w2, ⟨n3, l3, e3⟩, w4⟩ := WF_st hW hk
    by_cases h2 : y < 0 ∨ 6 < y
    · refine i_pos h2 (toS hgs (T_158 ?_))
      rw [S_s]
      refine i_pos h1' ?_
      refine i_neg (fun z => by rw [z] at h2; exact absurd h2 (by decide)) ?_
      refine i_neg (fun z => by rw [z] at h2; exact absurd h2 (by decide)) ?_
      refine i_neg (fun z => by rw [z] at h2; exact absurd h2 (by decide)) ?_
      refine i_neg (fun z => by rw [z] at h2; exact absurd h2 (by decide)) ?_
      refine i_neg (fun z => by rw [z] at h2; exact absurd h2 (by decide)) ?_
      refine i_neg (fun z => by rw [z] at h2; exact absurd h2 (by decide)) ?_
      refine i_neg (fun z => by rw [z] at h2; exact absurd h2 (by decide)) ?_
      exact hq _
    refine i_neg h2 ?_
    obtain ⟨t, lt, rfl⟩ := rg_of (B := 6) (by omega) h2
    have ix : ∀ f, f < 5 → (8 : Int32) + 5 * nI k + nI f = nI (8 + 5 * k + f) := fun f _ => gE 8 5 k f
    rcases (show t = 0 ∨ t = 1 ∨ t = 2 ∨ t = 3 ∨ t = 4 ∨ t = 5 ∨ t = 6 by omega) with rfl | rfl | rfl | rfl | rfl | rfl | rfl
    · refine i_neg (by decide) (T_57 (i_pos (by decide) ⟨inK (by omega) (by omega), toS hgs (T_158 ?_)⟩))
      rw [S_s, ix 0 (by omega), ixK (show k < 2 ^ 31 by omega), ixK (by omega), S_s, s0]
      exact i_pos h1' (i_pos (by decide) ⟨inK (by omega) (by omega), hq _⟩)
    · refine i_neg (by decide) (T_57 (i_neg (by decide) (i_pos (by decide) ⟨inK (by omega) (by omega), toS hgs (T_158 ?_)⟩)))
      rw [S_s, ix 1 (by omega), ixK (show k < 2 ^ 31 by omega), ixK (show 8 + 5 * k + 1 < 2 ^ 31 by omega), S_s, s1]
      exact i_pos h1' (i_neg (by decide) (i_pos (by decide) ⟨inK (by omega) (by omega), hq _⟩))
    · refine i_neg (by decide) (T_57 (i_neg (by decide) (i_neg (by decide) (i_pos (by decide) ⟨inK (by omega) (by omega), toS hgs (T_158 ?_)⟩))))
      rw [S_s, ix 2 (by omega), ixK (show k < 2 ^ 31 by omega), ixK (show 8 + 5 * k + 2 < 2 ^ 31 by omega), S_s, s2]
      exact i_pos h1' (i_neg (by decide) (i_neg (by decide) (i_pos (by decide) ⟨inK (by omega) (by omega), hq _⟩)))
    · refine i_neg (by decide) (T_57 (i_neg (by decide) (i_neg (by decide) (i_neg (by decide) (i_pos (by decide) ⟨inK (by omega) (by omega), toS hgs (T_158 ?_)⟩)))))
      rw [S_s, ix 3 (by omega), ixK (show k < 2 ^ 31 by omega), ixK (show 8 + 5 * k + 3 < 2 ^ 31 by omega), S_s, s3]
      exact i_pos h1' (i_neg (by decide) (i_neg (by decide) (i_neg (by decide) (i_pos (by decide) ⟨inK (by omega) (by omega), hq _⟩))))
    · refine i_neg (by decide) (T_57 (i_neg (by decide) (i_neg (by decide) (i_neg (by decide) (i_neg (by decide) (i_pos (by decide) ⟨inK (by omega) (by omega), ?_⟩))))))
      rw [ixK (show k < 2 ^ 31 by omega), s3, e3, ixK (show n3 < 2 ^ 31 by omega), hR.1.1.1 n3 l3]
      refine ⟨inK (by omega) (by omega), toS hgs (T_158 ?_)⟩
      simp only [S_s, ixS0 hk8, inS0 hk8, ixS1 hk8, inS1 hk8, ixS2 hk8, inS2 hk8, ixS3 hk8, inS3 hk8, ixS4 hk8, inS4 hk8, true_and]
      rw [e3]
      exact i_pos h1' (i_neg (by decide) (i_neg (by decide) (i_neg (by decide) (i_neg (by decide) (i_pos (by decide) (hq _))))))
    · refine i_neg (by decide) (T_57 (i_neg (by decide) (i_neg (by decide) (i_neg (by decide) (i_neg (by decide) (i_neg (by decide) ⟨inK (by omega) (by omega), toS hgs (T_158 ?_)⟩))))))
      simp only [S_s, ixS0 hk8, inS0 hk8, ixS1 hk8, inS1 hk8, ixS2 hk8, inS2 hk8, ixS3 hk8, inS3 hk8, ixS4 hk8, inS4 hk8, true_and]
      rw [ixK (show k < 2 ^ 31 by omega), s4]
      exact i_pos h1' (i_neg (by decide) (i_neg (by decide) (i_neg (by decide) (i_neg (by decide) (i_neg (by decide) (i_pos (by decide) (hq _)))))))
    · refine i_pos (by decide) (K_92 hR hk ?_)
      intro m' ho
      have hs' : m' 35 0 = s := by rw [ho 35 0 (by omega)]; exact hgs
      refine toS hs' (T_158 ?_)
      rw [S_s]
      refine i_pos h1' (i_neg (by decide) (i_neg (by decide) (i_neg (by decide) (i_neg (by decide) (i_neg (by decide) (i_neg (by decide) (i_pos (by decide) (R_157 hW hk (hQ _ _ ?_)))))))))
      exact back_S hgs hS (fun c d h _ => ho c d h) (fun _ _ => rfl)
  · refine i_neg h1 (toS hgs (T_158 ?_))
    rw [S_s]
    exact i_neg h1 (hq _)
/-- leases that would get a notice -/
def mNew (s : aS0) (k j : Nat) : Bool := mHas s j && decide ((s (104 + 10 * j + 6)) = (-6)) && !mLA (upd s (8 + 5 * k + 4) 1) j
theorem E_strike : Same 88 [.inr (27, 0), .inl x] 172 [.inr (34, 0), .inl x] := by
  intro m Q hS hQ
  have hR := hS.2.2.2.2
  have hq : ∀ v, Q v v (setS m (m 35 0)) := fun v => by rw [S_self]; exact hQ v m hS
  generalize hgs : m 35 0 = s at hR hq
  have hW := Rp_W hR.1
  obtain ⟨eS, lS⟩ := WF_S hW
  obtain ⟨eD, lD⟩ := WF_D hW
  have hN := hR.1.2.1
  refine T_88 ?_
  rw [hN.2.2.2.2.2.1]
  by_cases h1 : ¬ x < 0 ∧ x < s 1
  · refine i_pos h1 ?_
    have h1' := h1
    obtain ⟨k, hk, rfl⟩ := has_nI (eS ▸ h1) (by omega)
    have hk8 : k < 8 := by omega
    obtain ⟨s0, s1, s2, s3, s4⟩ := hR.1.2.2.1 k hk
    rw [ixK (by omega), s4]
    refine ⟨inK (by omega) (by omega), ?_⟩
    by_cases h4 : (s (8 + 5 * k + 4)) = 1
    · refine i_pos h4 (toS hgs (T_172 ?_))
      simp only [S_s, ixS0 hk8, inS0 hk8, ixS1 hk8, inS1 hk8, ixS2 hk8, inS2 hk8, ixS3 hk8, inS3 hk8, ixS4 hk8, inS4 hk8, true_and]
      exact i_pos h1' (i_pos h4 (hq _))
    · refine i_neg h4 (K_30 (by omega) hR.1 ?_)
      have w4 : (s (8 + 5 * k + 4)) = 0 := (WF_st hW hk).2.2.elim id (fun z => absurd z h4)
      intro m4 hR4 hF4
      refine C_35 (Or.inr rfl) m4 1 s _ ⟨hR4, hR.2⟩ ?_
      intro m5 hR5 hF5
      unfold aTurn at hR5
      rw [if_pos h1', ixK (by omega), if_neg h4] at hR5
      dsimp only at hR5
      generalize hu : upd s (8 + 5 * k + 4) 1 = u at hR5
      have hWu : WF u := by rw [← hu]; exact WF_awake hW hk8 (Or.inr rfl)
      have hCu := WF_C hWu
      have eDu : nD u = nD s := by rw [← hu]; unfold nD; rw [upd_n (by omega)]
      have o5 : ∀ c d, ¬ (c < 27 ∧ d = 1) → m5 c d = m c d := fun c d h => (hF5 c d (by omega)).trans (hF4 c d (by omega))
      have hR0 : Rp m5 0 s := Rp_same hR.1 (fun c hc => o5 c 0 (by omega)) (fun c hc => o5 c 0 (by omega))
      have hs5 : m5 35 0 = s := by rw [o5 35 0 (by omega)]; exact hgs
      -- the reference
      have ref : Mi 172 [.inr (34, 0), .inl (nI k)] m5 (fun w m2 => Q (nI (cntN (mNew s k) (nD s))) w m2) := by
        refine toS hs5 (T_172 ?_)
        simp only [S_s, ixS0 hk8, inS0 hk8, ixS1 hk8, inS1 hk8, ixS2 hk8, inS2 hk8, ixS3 hk8, inS3 hk8, ixS4 hk8, inS4 hk8, true_and]
        refine i_pos h1' (i_neg h4 ?_)
        intro m6 e6
        subst e6
        rw [S_up, hu]
        refine dn0 (n := nD s) (P := fun j => H_172_41 (nI k) (nI (cntN (mNew s k) j)) (nI j) (setS m5 u) (fun w m2 => Q (nI (cntN (mNew s k) (nD s))) w m2)) ?_ ?_
        · refine T_172_41 ?_
          rw [S_s, hCu.2.2.1, eDu]
          refine i_ge (Nat.le_refl _) (by omega) ?_
          simp only [ixS0 hk8, inS0 hk8, ixS1 hk8, inS1 hk8, ixS2 hk8, inS2 hk8, ixS3 hk8, inS3 hk8, ixS4 hk8, inS4 hk8, true_and]
          intro m10 e10
          subst e10
          rw [S_up, ← hu, upd_upd w4]
          exact hQ _ _ (back_S hgs hS (fun c d h _ => o5 c d h) (fun _ _ => rfl))
        · intro j hj ih
          have hj16 : j < 16 := by omega
          have eD3 : ∀ f, u (104 + 10 * j + f) = s (104 + 10 * j + f) := fun f => by rw [← hu, upd_n (by omega)]
          refine T_172_41 ?_
          rw [S_s, hCu.2.2.1, eDu]
          refine i_lt hj (by omega) ?_
          simp only [S_s, ixD0 hj16, inD0 hj16, ixD1 hj16, inD1 hj16, ixD2 hj16, inD2 hj16, ixD3 hj16, inD3 hj16, ixD4 hj16, inD4 hj16, ixD5 hj16, inD5 hj16, ixD6 hj16, inD6 hj16, ixD7 hj16, inD7 hj16, ixD8 hj16, inD8 hj16, ixD9 hj16, inD9 hj16, true_and, nI_1, nI_z0, eD3]
          rw [show cntN (mNew s k) (j + 1) = cntN (mNew s k) j + (if mNew s k j = true then 1 else 0) from rfl] at ih
          have no : mNew s k j = false → H_172_41 (nI k) (nI (cntN (mNew s k) j)) (nI (j + 1)) (setS m5 u) (fun w m2 => Q (nI (cntN (mNew s k) (nD s))) w m2) := by
            intro z
            rwa [if_neg (by rw [z]; decide), Nat.add_zero] at ih
          by_cases h3 : ¬ (s (104 + 10 * j + 3)) = (-6)
          · refine i_pos h3 ?_
            have hh : mHas s j = true := decide_eq_true h3
            by_cases h6 : (s (104 + 10 * j + 6)) = (-6)
            · refine i_pos h6 (R_124 hCu hj16 ?_)
              cases ha : mLA u j with
              | true => exact i_neg (by decide) (no (by unfold mNew; rw [hu, ha, Bool.not_true, Bool.and_false]))
              | false =>
                refine i_pos (bP_bf rfl) ?_
                rwa [if_pos (show mNew s k j = true by unfold mNew; rw [hu, ha, hh, decide_eq_true h6]; rfl)] at ih
            · exact i_neg h6 (no (by unfold mNew; rw [decide_eq_false h6, Bool.and_false, Bool.false_and]))
          · exact i_neg h3 (no (by unfold mNew; rw [show mHas s j = false from decide_eq_false h3, Bool.false_and, Bool.false_and]))
      -- the class
      refine dn0 (n := nD s) (P := fun j => H_88_60 (nI k) (nI (cntN (mNew s k) j)) (nI j) m5 (fun v m1 => Mi 172 [.inr (34, 0), .inl (nI k)] m1 (fun w m2 => Q v w m2))) ?_ ?_
      · refine T_88_60 ?_
        rw [Rp_nd hR0]
        exact i_ge (Nat.le_refl _) (by omega) ref
      · intro j hj ih
        have hd := WF_dv hW hj
        have hju : j < nD (mRev u) := by rw [nD_rev, eDu]; exact hj
        have hd1 := WF_dv (Rp_W hR5.1) hju
        refine T_88_60 ?_
        rw [Rp_nd hR0]
        refine i_lt hj (by omega) ⟨inK (by omega) (by omega), ?_⟩
        rw [ixK (by omega), (Rp_d hR0 hj).2.2.2.2.1, (Rp_d hR5.1 hju).2.2.2.2.1, nI_1, nI_1]
        have r6 := mRev_6 hCu (k := j) (by rw [eDu]; exact hj)
        have e3 : mHas u j = mHas s j := by unfold mHas; rw [← hu, upd_n (by omega)]
        have e6 : u (104 + 10 * j + 6) = (s (104 + 10 * j + 6)) := by rw [← hu, upd_n (by omega)]
        rw [e3, e6] at r6
        unfold cntN at ih
        have no : mNew s k j = false → H_88_60 (nI k) (nI (cntN (mNew s k) j)) (nI (j + 1)) m5 (fun v m1 => Mi 172 [.inr (34, 0), .inl (nI k)] m1 (fun w m2 => Q v w m2)) := by
          intro z
          rwa [if_neg (by rw [z]; decide), Nat.add_zero] at ih
        by_cases hn : ¬ (mRev u) (104 + 10 * j + 6) = (-6)
        · refine i_pos ((nz_i (dv6 hd1) (by omega)).mpr hn) ?_
          by_cases h6 : ¬ (s (104 + 10 * j + 6)) = (-6)
          · exact i_pos ((nz_i (dv6 hd) (by omega)).mpr h6) (no (by unfold mNew; rw [decide_eq_false h6, Bool.and_false, Bool.false_and]))
          · refine i_neg (fun z => h6 ((nz_i (dv6 hd) (by omega)).mp z)) ?_
            have h6' := Decidable.not_not.mp h6
            have : mNew s k j = true := by
              unfold mNew
              rw [hu]
              cases hh : mHas s j with
              | false => rw [hh, if_neg (by decide)] at r6; exact absurd (r6.trans h6') hn
              | true =>
                cases ha : mLA u j with
                | true => rw [hh, ha, if_pos rfl, if_pos rfl] at r6; exact absurd r6 hn
                | false => rw [decide_eq_true h6']; rfl
            rwa [if_pos this] at ih
        · refine i_neg (fun z => hn ((nz_i (dv6 hd1) (by omega)).mp z)) (no ?_)
          have hn' := Decidable.not_not.mp hn
          unfold mNew
          rw [hu]
          cases hh : mHas s j with
          | false => rfl
          | true =>
            cases ha : mLA u j with
            | true => rw [Bool.not_true, Bool.and_false]
            | false =>
              by_cases h6 : (s (104 + 10 * j + 6)) = (-6)
              · rw [hh, ha, if_pos rfl, if_neg (by decide), if_pos h6] at r6
                have h0 : rg (u 0) 100000 := hWu.1
                exact absurd (r6.symm.trans hn') (rg_6 h0 (by omega))
              · rw [decide_eq_false h6]; rfl
  · refine i_neg h1 (toS hgs (T_172 ?_))
    rw [S_s]
    exact i_neg h1 (hq _)
end CLD
