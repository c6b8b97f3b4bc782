/-! the acts: leases, hours -/
section AC3
variable {m : aM} {s : aS0} {b k d : Nat} {v x y p h ch : Int32} {Q : Int32 → aM → Prop} {Qv : aM → Prop}
/-- the reason plays no part in what is allowed, free, offered -/
theorem up4_S {k f : Nat} : upd s 4 v (8 + 5 * k + f) = s (8 + 5 * k + f) := upd_n (by omega)
theorem up4_E {k f : Nat} : upd s 4 v (48 + 7 * k + f) = s (48 + 7 * k + f) := upd_n (by omega)
theorem up4_D {k f : Nat} : upd s 4 v (104 + 10 * k + f) = s (104 + 10 * k + f) := upd_n (by omega)
theorem up4_n : nS (upd s 4 v) = nS s ∧ nE (upd s 4 v) = nE s ∧ nD (upd s 4 v) = nD s := by
  unfold nS nE nD
  rw [upd_n (by omega), upd_n (by omega), upd_n (by omega)]
  exact ⟨rfl, rfl, rfl⟩
theorem alw_4 : mAlw (upd s 4 v) ch x y p = mAlw s ch x y p := by
  unfold mAlw mBar mRes
  rw [up4_n.1, up4_n.2.1, show upd s 4 v 0 = s 0 from upd_n (by omega)]
  have h1 : mBarBy (upd s 4 v) ch x y p = mBarBy s ch x y p := by
    funext k
    unfold mBarBy
    simp only [up4_S, show upd s 4 v 5 = s 5 from upd_n (by omega)]
  have h2 : mResBy (upd s 4 v) ch x y p (s 0) = mResBy s ch x y p (s 0) := by
    funext k
    unfold mResBy mOn
    simp only [up4_E]
  rw [h1, h2]
theorem off_4 : mOff (upd s 4 v) d p = mOff s d p := by
  have hA : ∀ c, mAlwF (upd s 4 v) d c p = mAlwF s d c p := by
    intro c
    unfold mAlwF
    rw [alw_4, up4_D, up4_D]
  have hF : ∀ c, mFree (upd s 4 v) d c p = mFree s d c p := by
    intro c
    unfold mFree
    rw [up4_n.2.2]
    have : mNear (upd s 4 v) d c p = mNear s d c p := by
      funext k
      unfold mNear
      simp only [up4_D]
    rw [this]
  have hO : ∀ a c, mOth (upd s 4 v) a c = mOth s a c := by
    intro a c
    unfold mOth
    simp only [up4_n.2.2, up4_D]
  have : mOffS (upd s 4 v) d p = mOffS s d p := by
    funext c z
    unfold mOffS
    rw [hA, hF, hO]
  unfold mOff
  rw [this]
def mRef (s : aS0) (k : Nat) (p : Int32) : Int32 := if ¬ (s (104 + 10 * k + 3)) = (-6) then 1 else if (s (104 + 10 * k + 2)) < p then 2 else if mAnyA s k p = true then (if mOff s k p = (-6) then 4 else 0) else 3
theorem K_48 (hR : Rp m b s) (hk : k < nD s) (hp : rg p 3) (hQ : Q (mRef s k p) m) : Mi 48 [.inr (0, b), .inl (nI k), .inl p] m Q := by
  have lD := Rp_ld hR
  have hd := WF_dv (Rp_W hR) hk
  obtain ⟨q0, q1, q2, q3, -⟩ := Rp_d hR hk
  refine T_48 ?_
  rw [ixK (by omega), q2, q3]
  refine ⟨inK (by omega) (by omega), ?_⟩
  unfold mRef at hQ
  by_cases h3 : ¬ (s (104 + 10 * k + 3)) = (-6)
  · rw [if_pos h3] at hQ
    exact i_pos ((nz_i (dv3 hd) (by omega)).mpr h3) hQ
  rw [if_neg h3] at hQ
  refine i_neg (fun z => h3 ((nz_i (dv3 hd) (by omega)).mp z)) ?_
  by_cases h2 : (s (104 + 10 * k + 2)) < p
  · rw [if_pos h2] at hQ
    exact i_pos h2 hQ
  rw [if_neg h2] at hQ
  refine i_neg h2 (K_49 hR hk hp ?_)
  cases ha : mAnyA s k p with
  | false =>
    rw [ha, if_neg (by decide)] at hQ
    exact i_pos (bP_bf rfl) hQ
  | true =>
    rw [ha, if_pos rfl] at hQ
    refine i_neg (by decide) (K_50 hR hk hp ?_)
    by_cases ho : mOff s k p = (-6)
    · rw [if_pos ho] at hQ
      exact i_pos ho hQ
    · rw [if_neg ho] at hQ
      exact i_neg ho hQ
def aNewL (s : aS0) (k : Nat) (ch p h : Int32) : aS0 := upd (upd (upd (upd (upd s 4 0) (104 + 10 * k + 3) ch) (104 + 10 * k + 4) p) (104 + 10 * k + 5) (s 0 + h)) (104 + 10 * k + 6) (-6)
def aLease (x p h : Int32) (s : aS0) : Int32 × aS0 := if ¬ x < 0 ∧ x < s 3 then (if p < 0 ∨ 3 < p then ((-2), s) else if h < 1 ∨ 99 < h then ((-2), s) else if mRef s x.toNatClampNeg p = 0 then (mOff s x.toNatClampNeg p, aNewL s x.toNatClampNeg (mOff s x.toNatClampNeg p) p h) else ((-5), upd s 4 (mRef s x.toNatClampNeg p))) else ((-1), s)
theorem ref_0 (h : mRef s k p = 0) : (s (104 + 10 * k + 3)) = (-6) ∧ ¬ (s (104 + 10 * k + 2)) < p ∧ mAnyA s k p = true ∧ ¬ mOff s k p = (-6) := by
  unfold mRef at h
  by_cases h3 : ¬ (s (104 + 10 * k + 3)) = (-6)
  · rw [if_pos h3] at h; exact absurd h (by decide)
  rw [if_neg h3] at h
  by_cases h2 : (s (104 + 10 * k + 2)) < p
  · rw [if_pos h2] at h; exact absurd h (by decide)
  rw [if_neg h2] at h
  cases ha : mAnyA s k p with
  | false => rw [ha, if_neg (by decide)] at h; exact absurd h (by decide)
  | true =>
    rw [ha, if_pos rfl] at h
    by_cases ho : mOff s k p = (-6)
    · rw [if_pos ho] at h; exact absurd h (by decide)
    · exact ⟨Decidable.not_not.mp h3, h2, rfl, ho⟩
theorem rg_add {B C : Nat} {a c : Int32} (h1 : rg a B) (h2 : rg c C) : rg (a + c) (B + C) := by
  obtain ⟨i, li, rfl⟩ := h1
  obtain ⟨j, lj, rfl⟩ := h2
  exact ⟨i + j, by omega, nI_add i j⟩
theorem rg_1of {B : Nat} (hB : B < 2 ^ 31) (h : ¬ (v < 1 ∨ nI B < v)) : rg v B := rg_of2 (lo := 1) (C := 1) ⟨1, by omega, rfl⟩ (by omega) hB h
theorem WF_newL (hW : WF s) (h0 : rg (s 0) 9999) (hk : k < nD s) (hc : rg ch 7) (hp : rg p 3) (hh : rg h 99) : WF (aNewL s k ch p h) := by
  have hd := WF_dv hW hk
  unfold aNewL
  refine WF_dev (k := k) (WF_4 (v := 0) hW) (fun i hi => by rw [upd_n (by omega), upd_n (by omega), upd_n (by omega), upd_n (by omega)]) (fun _ => ?_)
  unfold dvW
  rw [upd_n (by omega), upd_n (by omega), upd_n (by omega), upd_n (by omega), upd_n (by omega)]
  refine ⟨hd.1, Or.inr ⟨?_, ?_, ?_, Or.inl upd_e⟩⟩
  · rw [upd_n (by omega), upd_n (by omega), upd_n (by omega), upd_e]; exact hc
  · rw [upd_n (by omega), upd_n (by omega), upd_e]; exact hp
  · rw [upd_n (by omega), upd_e]; exact rg_le (rg_add h0 hh) (by omega)
theorem C_37 : ActC (aLease x p h) 37 [.inl x, .inl p, .inl h] := by
  intro m b s Q hR hQ
  have hN := hR.1.2.1
  have hW := Rp_W hR.1
  obtain ⟨eD, lD⟩ := WF_D hW
  refine T_37 ?_
  unfold aLease at hQ
  rw [hN.2.2.2.2.2.2.2]
  by_cases h1 : ¬ x < 0 ∧ x < s 3
  · rw [if_pos h1] at hQ
    refine i_pos h1 ?_
    obtain ⟨k, hk, rfl⟩ := has_nI (eD ▸ h1) (by omega)
    rw [ixK (by omega)] at hQ ⊢
    by_cases h2 : p < 0 ∨ 3 < p
    · rw [if_pos h2] at hQ; exact i_pos h2 (hQ m hR Fr_rf)
    rw [if_neg h2] at hQ
    refine i_neg h2 ?_
    by_cases h3 : h < 1 ∨ 99 < h
    · rw [if_pos h3] at hQ; exact i_pos h3 (hQ m hR Fr_rf)
    rw [if_neg h3] at hQ
    refine i_neg h3 ?_
    have hp : rg p 3 := rg_of (B := 3) (by omega) h2
    have hh : rg h 99 := rg_1of (B := 99) (by omega) h3
    refine K_48 hR.1 hk hp ?_
    intro m6 e6
    subst e6
    rw [up_e]
    by_cases hr : mRef s k p = 0
    · rw [if_pos hr] at hQ
      dsimp only at hQ
      refine i_pos hr ?_
      rw [hr]
      have hR6 : Rp (a_up m 0 b 5 0) b (upd s 4 0) := Rp_reason hR.1
      refine K_50 hR6 (by rw [up4_n.2.2]; exact hk) hp ?_
      rw [off_4]
      refine ⟨inK (by omega) (by omega), ?_⟩
      intro m11 e11 m12 e12
      obtain ⟨r3, -, -, r6⟩ := ref_0 hr
      have hc : rg (mOff s k p) 7 := (mOff_rg s k p).elim (fun z => absurd z r6) id
      have e19 : m12 19 b k = mOff s k p := by
        rw [e12, up_o (by omega), e11]
        unfold cPutOn
        rw [up_o (by omega), up_o (by omega), up_e]
      rw [e19]
      have hF1 : Fr b (a_up m 0 b 5 0) m12 := by
        rw [e12, e11]
        exact Fr_tr Fr_put (Fr_up (by omega))
      have hWL := WF_newL (k := k) (ch := mOff s k p) (p := p) (h := h) hW hR.2 hk hc hp hh
      refine hQ m12 ⟨?_, ?_⟩ (Fr_tr (Fr_up (by omega)) hF1)
      · refine Rp_dev (k := k) hR6 (fun i hi => ?_) hF1 (fun c j hc h => ?_) (fun _ => ?_) hWL
        · unfold aNewL; rw [upd_n (by omega), upd_n (by omega), upd_n (by omega), upd_n (by omega)]
        · rw [e12, up_o (by omega), e11, put_o (by omega)]
        · obtain ⟨q0, q1, q2, q3, q6, q7, q8, q9, q4⟩ := Rp_d hR.1 hk
          have o : ∀ c, ¬ c = 19 → ¬ c = 20 → ¬ c = 22 → ¬ c = 21 → 16 ≤ c → m12 c b k = m c b k := fun c h1 h2 h4 h5 h6 => by rw [e12, up_o (Or.inl h5), e11, put_o (Or.inl ⟨h1, h2, h4⟩), up_o (by omega)]
          have so : ∀ f, f < 10 → ¬ f = 3 → ¬ f = 4 → ¬ f = 5 → ¬ f = 6 → aNewL s k (mOff s k p) p h (104 + 10 * k + f) = s (104 + 10 * k + f) := fun f h0 h1 h2 h4 h5 => by unfold aNewL; rw [upd_n (by omega), upd_n (by omega), upd_n (by omega), upd_n (by omega), upd_n (by omega)]
          unfold Rd
          rw [o 16 (by omega) (by omega) (by omega) (by omega) (by omega), o 17 (by omega) (by omega) (by omega) (by omega) (by omega), o 18 (by omega) (by omega) (by omega) (by omega) (by omega), o 23 (by omega) (by omega) (by omega) (by omega) (by omega), o 24 (by omega) (by omega) (by omega) (by omega) (by omega), o 25 (by omega) (by omega) (by omega) (by omega) (by omega), so 0 (by omega) (by omega) (by omega) (by omega) (by omega), so 1 (by omega) (by omega) (by omega) (by omega) (by omega), so 2 (by omega) (by omega) (by omega) (by omega) (by omega), so 7 (by omega) (by omega) (by omega) (by omega) (by omega), so 8 (by omega) (by omega) (by omega) (by omega) (by omega), so 9 (by omega) (by omega) (by omega) (by omega) (by omega), e19]
          refine ⟨q0, q1, q2, ?_, ?_, q7, q8, q9, fun _ => ⟨?_, ?_⟩⟩
          · unfold aNewL
            rw [upd_n (by omega), upd_n (by omega), upd_n (by omega), upd_e, nz_n r6]
          · unfold aNewL
            rw [upd_e, e12, up_o (by omega), e11]
            unfold cPutOn
            rw [up_e]
            rfl
          · unfold aNewL
            rw [upd_n (by omega), upd_n (by omega), upd_e, e12, up_o (by omega), e11]
            unfold cPutOn
            rw [up_o (by omega), up_e]
          · unfold aNewL
            rw [upd_n (by omega), upd_e, e12, up_e, e11, put_o (by omega), up_o (by omega), hN.1]
      · unfold aNewL
        rw [upd_n (by omega), upd_n (by omega), upd_n (by omega), upd_n (by omega), upd_n (by omega)]
        exact hR.2
    · rw [if_neg hr] at hQ
      refine i_neg hr (hQ _ ⟨Rp_reason hR.1, ?_⟩ (Fr_up (by omega)))
      show rg (upd s 4 (mRef s k p) 0) 9999
      rw [upd_n (by omega)]
      exact hR.2
  · rw [if_neg h1] at hQ
    exact i_neg h1 (hQ m hR Fr_rf)
def aRenew (x h : Int32) (s : aS0) : Int32 × aS0 := if ¬ x < 0 ∧ x < s 3 then (if h < 1 ∨ 99 < h then ((-2), s) else if ¬ (s (104 + 10 * x.toNatClampNeg + 3)) = (-6) then (if (s (104 + 10 * x.toNatClampNeg + 6)) = (-6) then (s 0 + h, upd (upd s 4 0) (104 + 10 * x.toNatClampNeg + 5) (s 0 + h)) else ((-5), upd s 4 5)) else ((-3), s)) else ((-1), s)
theorem C_38 : ActC (aRenew x h) 38 [.inl x, .inl h] := by
  intro m b s Q hR hQ
  have hN := hR.1.2.1
  have hW := Rp_W hR.1
  obtain ⟨eD, lD⟩ := WF_D hW
  refine T_38 ?_
  unfold aRenew at hQ
  rw [hN.2.2.2.2.2.2.2]
  by_cases h1 : ¬ x < 0 ∧ x < s 3
  · rw [if_pos h1] at hQ
    refine i_pos h1 ?_
    obtain ⟨k, hk, rfl⟩ := has_nI (eD ▸ h1) (by omega)
    rw [ixK (by omega)] at hQ ⊢
    obtain ⟨q0, q1, q2, q3, q6, q7, q8, q9, q4⟩ := Rp_d hR.1 hk
    have hd := WF_dv hW hk
    by_cases h3 : h < 1 ∨ 99 < h
    · rw [if_pos h3] at hQ; exact i_pos h3 (hQ m hR Fr_rf)
    rw [if_neg h3] at hQ
    refine i_neg h3 ⟨inK (by omega) (by omega), ?_⟩
    have hh : rg h 99 := rg_1of (B := 99) (by omega) h3
    rw [q3, q6]
    by_cases a3 : ¬ (s (104 + 10 * k + 3)) = (-6)
    · rw [if_pos a3] at hQ
      refine i_pos ((nz_i (dv3 hd) (by omega)).mpr a3) ?_
      by_cases a6 : (s (104 + 10 * k + 6)) = (-6)
      · rw [if_pos a6] at hQ
        dsimp only at hQ
        refine i_neg (fun z => (nz_i (dv6 hd) (by omega)).mp z a6) ?_
        intro m7 e7 m8 e8
        have hR6 : Rp m7 b (upd s 4 0) := by rw [e7]; exact Rp_reason hR.1
        have ev : m7 0 b 4 + h = s 0 + h := by rw [e7, up_o (by omega), hN.1]
        rw [ev] at e8
        rw [show m8 21 b k = s 0 + h by rw [e8, up_e]]
        have hF1 : Fr b m7 m8 := by rw [e8]; exact Fr_up (by omega)
        have hF0 : Fr b m m7 := by rw [e7]; exact Fr_up (by omega)
        obtain ⟨l3, l4, l5, l6⟩ := dv_lease hd a3
        refine hQ m8 ⟨?_, ?_⟩ (Fr_tr hF0 hF1)
        · refine Rp_dev (k := k) hR6 (fun i hi => upd_n (by omega)) hF1 (fun c j hc h => by rw [e8, up_o (by omega)]) (fun _ => ?_) ?_
          · obtain ⟨t0, t1, t2, t3, t6, t7, t8, t9, t4⟩ := Rp_d hR6 (by rw [up4_n.2.2]; exact hk)
            have o : ∀ c, ¬ c = 21 → m8 c b k = m7 c b k := fun c hc => by rw [e8, up_o (Or.inl hc)]
            have so : ∀ f, ¬ f = 5 → upd (upd s 4 0) (104 + 10 * k + 5) (s 0 + h) (104 + 10 * k + f) = upd s 4 0 (104 + 10 * k + f) := fun f hf => upd_n (by omega)
            unfold Rd
            rw [o 16 (by omega), o 17 (by omega), o 18 (by omega), o 19 (by omega), o 20 (by omega), o 22 (by omega), o 23 (by omega), o 24 (by omega), o 25 (by omega), so 0 (by omega), so 1 (by omega), so 2 (by omega), so 3 (by omega), so 4 (by omega), so 6 (by omega), so 7 (by omega), so 8 (by omega), so 9 (by omega), upd_e]
            exact ⟨t0, t1, t2, t3, t6, t7, t8, t9, fun z => ⟨(t4 z).1, by rw [e8, up_e]⟩⟩
          · refine WF_dev (k := k) (WF_4 (v := 0) hW) (fun i hi => upd_n (by omega)) (fun _ => ?_)
            have so : ∀ f, ¬ f = 5 → upd (upd s 4 0) (104 + 10 * k + 5) (s 0 + h) (104 + 10 * k + f) = s (104 + 10 * k + f) := fun f hf => by rw [upd_n (by omega), up4_D]
            unfold dvW
            rw [so 2 (by omega), so 3 (by omega), so 4 (by omega), so 6 (by omega), upd_e]
            exact ⟨hd.1, Or.inr ⟨l3, l4, rg_le (rg_add hR.2 hh) (by omega), l6⟩⟩
        · show rg (upd _ _ _ 0) 9999
          rw [upd_n (by omega), upd_n (by omega)]
          exact hR.2
      · rw [if_neg a6] at hQ
        refine i_pos ((nz_i (dv6 hd) (by omega)).mpr a6) ?_
        intro m6 e6
        subst e6
        refine hQ _ ⟨Rp_reason hR.1, ?_⟩ (Fr_up (by omega))
        show rg (upd s 4 5 0) 9999
        rw [upd_n (by omega)]
        exact hR.2
    · rw [if_neg a3] at hQ
      exact i_neg (fun z => a3 ((nz_i (dv3 hd) (by omega)).mp z)) (hQ m hR Fr_rf)
  · rw [if_neg h1] at hQ
    exact i_neg h1 (hQ m hR Fr_rf)
def aBack (x : Int32) (s : aS0) : Int32 × aS0 := if ¬ x < 0 ∧ x < s 3 then (if ¬ (s (104 + 10 * x.toNatClampNeg + 3)) = (-6) then (nI (mLs (mEnds s x.toNatClampNeg)), mEnds s x.toNatClampNeg) else ((-3), s)) else ((-1), s)
theorem C_39 : ActC (aBack x) 39 [.inl x] := by
  intro m b s Q hR hQ
  have hN := hR.1.2.1
  have hW := Rp_W hR.1
  obtain ⟨eD, lD⟩ := WF_D hW
  refine T_39 ?_
  unfold aBack at hQ
  rw [hN.2.2.2.2.2.2.2]
  by_cases h1 : ¬ x < 0 ∧ x < s 3
  · rw [if_pos h1] at hQ
    refine i_pos h1 ?_
    obtain ⟨k, hk, rfl⟩ := has_nI (eD ▸ h1) (by omega)
    rw [ixK (by omega)] at hQ ⊢
    obtain ⟨q0, q1, q2, q3, -⟩ := Rp_d hR.1 hk
    have hd := WF_dv hW hk
    refine ⟨inK (by omega) (by omega), ?_⟩
    rw [q3]
    by_cases a3 : ¬ (s (104 + 10 * k + 3)) = (-6)
    · rw [if_pos a3] at hQ
      refine i_pos ((nz_i (dv3 hd) (by omega)).mpr a3) ?_
      intro m4 e4
      subst e4
      refine K_15 (Rp_rem hR.1) ?_
      refine hQ _ ⟨Rp_rem hR.1, ?_⟩ Fr_rem
      show rg (mEnds s k 0) 9999
      rw [mEnds_o (by omega)]
      exact hR.2
    · rw [if_neg a3] at hQ
      exact i_neg (fun z => a3 ((nz_i (dv3 hd) (by omega)).mp z)) (hQ m hR Fr_rf)
  · rw [if_neg h1] at hQ
    exact i_neg h1 (hQ m hR Fr_rf)
theorem ask_01 : ∀ n, (mAskN s k n).1 = 0 ∨ (mAskN s k n).1 = 1
  | 0 => Or.inl rfl
  | n + 1 => by
    unfold mAskN
    split
    · exact ask_01 n
    · exact Or.inr rfl
theorem hop_rg : ∀ n, rg (itN mHopS (0, s) n).1 n
  | 0 => ⟨0, Nat.le_refl 0, rfl⟩
  | n + 1 => by
    show rg (mHopS n (itN mHopS (0, s) n)).1 (n + 1)
    have ih := hop_rg n
    generalize itN mHopS (0, s) n = z at *
    unfold mHopS
    split
    · rcases ask_01 (s := z.2) (k := n) (z.2 (104 + 10 * n + 4)).toNatClampNeg.succ with q | q
      · show rg (z.1 + (mAskN z.2 n ((z.2 (104 + 10 * n + 4)).toNatClampNeg + 1)).1) (n + 1)
        rw [q]
        exact rg_add ih ⟨0, by omega, rfl⟩
      · show rg (z.1 + (mAskN z.2 n ((z.2 (104 + 10 * n + 4)).toNatClampNeg + 1)).1) (n + 1)
        rw [q]
        exact rg_add ih ⟨1, by omega, rfl⟩
    · exact rg_le ih (by omega)
theorem p1_rg (hW : WF s) (h0 : rg (s 0) 99999) : rg (mP1 s).1 16 := by
  have h1 : WF (mRev (mEndL (upd s 0 (s 0 + 1)))) := WF_rev (WF_endL (WF_hour hW (rg_1 h0)))
  have h2 := hop_rg (s := mRev (mEndL (upd s 0 (s 0 + 1)))) (nD (mRev (mEndL (upd s 0 (s 0 + 1)))))
  unfold mP1 mHopL
  exact rg_le h2 (WF_D h1).2
theorem mPn_s (n : Nat) : mPn s (n + 1) = ((mPn s n).1 + (mP1 (mPn s n).2).1, (mP1 (mPn s n).2).2) := rfl
theorem p1_h {a : Nat} (h : s 0 = nI a) : (mP1 s).2 0 = nI (a + 1) := by
  rw [mP1_lo (by omega), upd_e, h, nI_1]
theorem mPn_ok {a : Nat} (hW : WF s) (h0 : s 0 = nI a) (n : Nat) (hn : a + n ≤ 99999) : WF (mPn s n).2 ∧ (mPn s n).2 0 = nI (a + n) ∧ rg (mPn s n).1 (16 * n) := by
  induction n with
  | zero =>
    rw [show mPn s 0 = (0, s) from rfl]
    exact ⟨hW, h0, ⟨0, Nat.le_refl 0, rfl⟩⟩
  | succ n ih =>
    obtain ⟨q1, q2, q3⟩ := ih (by omega)
    rw [mPn_s]
    generalize mPn s n = z at *
    have q0 : rg (z.2 0) 99999 := ⟨a + n, by omega, q2⟩
    have e1 := p1_h q2
    have r1 := p1_rg q1 q0
    have w1 := WF_p1 q1 q0
    generalize mP1 z.2 = y at *
    exact ⟨w1, e1, rg_le (rg_add q3 r1) (by omega)⟩
def aPass (h : Int32) (s : aS0) : Int32 × aS0 := if h < 1 ∨ 99 < h then ((-2), s) else if 9999 < s 0 + h then ((-3), s) else mPn s h.toNatClampNeg
theorem C_40 : ActC (aPass h) 40 [.inl h] := by
  intro m b s Q hR hQ
  have hN := hR.1.2.1
  have hW := Rp_W hR.1
  refine T_40 ?_
  unfold aPass at hQ
  rw [hN.1]
  by_cases h1 : h < 1 ∨ 99 < h
  · rw [if_pos h1] at hQ; exact i_pos h1 (hQ m hR Fr_rf)
  rw [if_neg h1] at hQ
  refine i_neg h1 ?_
  by_cases h2 : 9999 < s 0 + h
  · rw [if_pos h2] at hQ; exact i_pos h2 (hQ m hR Fr_rf)
  rw [if_neg h2] at hQ
  refine i_neg h2 ?_
  obtain ⟨n, ln, rfl⟩ := rg_1of (B := 99) (by omega) h1
  obtain ⟨a, la, ea⟩ := hR.2
  rw [ixK (by omega)] at hQ
  have han : a + n ≤ 9999 := by
    rw [ea, nI_add, show (9999 : Int32) = nI 9999 from rfl, nI_ltI (by omega) (by omega)] at h2
    omega
  refine dn0 (n := n) (P := fun k => ∀ m', Rp m' b (mPn s k).2 → Fr b m m' → H_40_32 b (nI n) (mPn s k).1 (nI k) m' Q) ?_ ?_ m hR.1 Fr_rf
  · intro m' hR' hF
    refine T_40_32 (i_ge (Nat.le_refl _) (by omega) (hQ m' ⟨hR', ?_⟩ hF))
    exact ⟨a + n, han, (mPn_ok hW ea n (by omega)).2.1⟩
  · intro k hk ih m' hR' hF
    refine T_40_32 (i_lt hk (by omega) (K_41 hR' ⟨a + k, by omega, (mPn_ok hW ea k (by omega)).2.1⟩ ?_))
    intro m2 hR2 hF2
    rw [nI_1]
    rw [mPn_s] at ih
    dsimp only at ih
    exact ih m2 hR2 (Fr_tr hF hF2)
end AC3
