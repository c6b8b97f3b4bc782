/-! the law's leases, renewals, givings back -/
section LLE
variable {m : aM} {s s' : aS0} {Q : Int32 → aM → Prop}
theorem has_pos {k : Nat} (hW : WF s) (hk : k < nD s) : ¬ nI k < 0 ∧ nI k < s 3 := by
  obtain ⟨eD, lD⟩ := WF_D hW
  rw [eD]
  exact ⟨nI_pos (by omega), nI_lt hk (by omega)⟩
theorem lease_r {k p n : Nat} {r : Int32} (hW : WF s) (hk : k < nD s) (lp : p ≤ 3) (ln : 1 ≤ n) (ln2 : n ≤ 99) (hr : mRef s k (nI p) = r) (h0 : ¬ r = 0) : aLease (nI k) (nI p) (nI n) s = ((-5), upd s 4 r) := by
  have lD := (WF_D hW).2
  unfold aLease
  rw [if_pos (has_pos hW hk), if_neg (show ¬ (nI p < 0 ∨ 3 < nI p) from in_r (B := 3) lp (by omega)), if_neg (show ¬ (nI n < 1 ∨ 99 < nI n) from in_lo (a := 1) (B := 99) ln ln2 (by omega)), ixK (by omega), hr, if_neg h0]
theorem lease_ok {k p n : Nat} (hW : WF s) (hk : k < nD s) (lp : p ≤ 3) (ln : 1 ≤ n) (ln2 : n ≤ 99) (hr : mRef s k (nI p) = 0) : aLease (nI k) (nI p) (nI n) s = (mOff s k (nI p), aNewL s k (mOff s k (nI p)) (nI p) (nI n)) := by
  have lD := (WF_D hW).2
  unfold aLease
  rw [if_pos (has_pos hW hk), if_neg (show ¬ (nI p < 0 ∨ 3 < nI p) from in_r (B := 3) lp (by omega)), if_neg (show ¬ (nI n < 1 ∨ 99 < nI n) from in_lo (a := 1) (B := 99) ln ln2 (by omega)), ixK (by omega), if_pos hr]
theorem renew_3 {k n : Nat} (hW : WF s) (hk : k < nD s) (ln : 1 ≤ n) (ln2 : n ≤ 99) (h3 : (s (104 + 10 * k + 3)) = (-6)) : aRenew (nI k) (nI n) s = ((-3), s) := by
  have lD := (WF_D hW).2
  unfold aRenew
  rw [if_pos (has_pos hW hk), if_neg (show ¬ (nI n < 1 ∨ 99 < nI n) from in_lo (a := 1) (B := 99) ln ln2 (by omega)), ixK (by omega), if_neg (fun z => z h3)]
theorem renew_ok {k n : Nat} (hW : WF s) (hk : k < nD s) (ln : 1 ≤ n) (ln2 : n ≤ 99) (h3 : ¬ (s (104 + 10 * k + 3)) = (-6)) (h6 : (s (104 + 10 * k + 6)) = (-6)) : aRenew (nI k) (nI n) s = (s 0 + nI n, upd (upd s 4 0) (104 + 10 * k + 5) (s 0 + nI n)) := by
  have lD := (WF_D hW).2
  unfold aRenew
  rw [if_pos (has_pos hW hk), if_neg (show ¬ (nI n < 1 ∨ 99 < nI n) from in_lo (a := 1) (B := 99) ln ln2 (by omega)), ixK (by omega), if_pos h3, if_pos h6]
theorem renew_5 {k n : Nat} (hW : WF s) (hk : k < nD s) (ln : 1 ≤ n) (ln2 : n ≤ 99) (h3 : ¬ (s (104 + 10 * k + 3)) = (-6)) (h6 : ¬ (s (104 + 10 * k + 6)) = (-6)) : aRenew (nI k) (nI n) s = ((-5), upd s 4 5) := by
  have lD := (WF_D hW).2
  unfold aRenew
  rw [if_pos (has_pos hW hk), if_neg (show ¬ (nI n < 1 ∨ 99 < nI n) from in_lo (a := 1) (B := 99) ln ln2 (by omega)), ixK (by omega), if_pos h3, if_neg h6]
theorem back_3 {k : Nat} (hW : WF s) (hk : k < nD s) (h3 : (s (104 + 10 * k + 3)) = (-6)) : aBack (nI k) s = ((-3), s) := by
  have lD := (WF_D hW).2
  unfold aBack
  rw [if_pos (has_pos hW hk), ixK (by omega), if_neg (fun z => z h3)]
theorem back_ok {k : Nat} (hW : WF s) (hk : k < nD s) (h3 : ¬ (s (104 + 10 * k + 3)) = (-6)) : aBack (nI k) s = (nI (mLs (mEnds s k)), mEnds s k) := by
  have lD := (WF_D hW).2
  unfold aBack
  rw [if_pos (has_pos hW hk), ixK (by omega), if_pos h3]
theorem anyA_s (k : Nat) (p : Int32) (c : Nat) : bP (anyN (fun c => mAlwF s k (nI c) p) c = true) = bP (anyN (fun c => mAlwF s k (nI c) p) c = true) := rfl
/-- a lease that is refused -/
theorem lease_R {k p n : Nat} {r : Int32} {M : aM} (hC : CL m s) (hI : IX s) (hk : k < nD s) (lp : p ≤ 3) (ln : 1 ≤ n) (ln2 : n ≤ 99) (hr : mRef s k (nI p) = r) (h0 : 0 < r) (hM : M = a_up (setS m s) 34 0 4 r) (hQ : ∀ m' s', CL m' s' → IX s' → s' 0 = s 0 → Q 1 (setS m' s')) {Z : Prop} : if 0 < (M 34 0 4) then (Mi 67 [.inr (27, 0), .inl (nI k), .inl (nI p), .inl (nI n)] M (fun v15 m14 => if v15 = (-5) then Q 1 m14 else Q 0 m14)) else Z := by
  have hW := CL_W hC
  have e : M = setS m (upd s 4 r) := by rw [hM, uG4]
  subst e
  rw [rG4, upd_e]
  refine i_pos h0 (X_67 hC (fun m' h' => ?_))
  rw [lease_r hW hk lp ln ln2 hr (fun z => by rw [z] at h0; exact absurd h0 (by decide))] at h' ⊢
  exact i_pos rfl (hQ m' _ h' (IX_4 hI (WF_C hW)) (upd_n (by omega)))
set_option maxHeartbeats 4000000 in
theorem M_112_54 {k p n v w : Nat} (hC : CL m s) (hI : IX s) (hk : k < nD s) (lp : p ≤ 3) (ln : 1 ≤ n) (ln2 : n ≤ 99) (hQ : ∀ m' s', CL m' s' → IX s' → s' 0 = s 0 → Q 1 (setS m' s')) : H_112_54 (nI v) (nI w) (nI k) (nI n) (nI p) 0 0 (setS m s) Q := by
  have hW := CL_W hC
  obtain ⟨eD, lD⟩ := WF_D hW
  have hk16 : k < 16 := by omega
  have rp : rg (nI p) 3 := ⟨p, lp, rfl⟩
  have hd := WF_dv hW hk
  refine dn0 (n := 8) (P := fun c => H_112_54 (nI v) (nI w) (nI k) (nI n) (nI p) (bP (anyN (fun c => mAlwF s k (nI c) (nI p)) c = true)) (nI c) (setS m s) Q) ?_ ?_
  · refine T_112_54 (i_neg (by decide) (M_104 hW hk rp ⟨gD3 hk16, ?_⟩))
    rw [rD3 hk16]
    have hA : anyN (fun c => mAlwF s k (nI c) (nI p)) 8 = mAnyA s k (nI p) := rfl
    rw [hA]
    by_cases h3 : ¬ (s (104 + 10 * k + 3)) = (-6)
    · refine i_neg (rg_nn (dv_lease hd h3).1 (by omega)) (fun m74 e74 => ?_)
      exact lease_R hC hI hk lp ln ln2 (show mRef s k (nI p) = 1 by unfold mRef; rw [if_pos h3]) (by decide) e74 hQ
    · have h3' : (s (104 + 10 * k + 3)) = (-6) := Decidable.not_not.mp h3
      refine i_pos (by rw [h3']; exact neg6) ⟨gD2 hk16, ?_⟩
      rw [rD2 hk16]
      by_cases h2 : (s (104 + 10 * k + 2)) < nI p
      · refine i_pos h2 (fun m12 e12 => ?_)
        exact lease_R hC hI hk lp ln ln2 (show mRef s k (nI p) = 2 by unfold mRef; rw [if_neg h3, if_pos h2]) (by decide) e12 hQ
      · refine i_neg h2 ?_
        cases ha : mAnyA s k (nI p) with
        | false =>
          refine i_pos (bP_bf rfl) (fun m28 e28 => ?_)
          exact lease_R hC hI hk lp ln ln2 (show mRef s k (nI p) = 3 by unfold mRef; rw [if_neg h3, if_neg h2, ha]; rfl) (by decide) e28 hQ
        | true =>
          refine i_neg (by decide) ?_
          by_cases ho : mOff s k (nI p) = (-6)
          · refine i_pos (by rw [ho]; exact neg6) (fun m44 e44 => ?_)
            exact lease_R hC hI hk lp ln ln2 (show mRef s k (nI p) = 4 by unfold mRef; rw [if_neg h3, if_neg h2, ha, if_pos rfl, if_pos ho]) (by decide) e44 hQ
          · have hc := (mOff_rg s k (nI p)).elim (fun z => absurd z ho) id
            have hr : mRef s k (nI p) = 0 := by unfold mRef; rw [if_neg h3, if_neg h2, ha, if_pos rfl, if_neg ho]
            refine i_neg (rg_nn hc (by omega)) (fun m59 e59 => ?_)
            have e : m59 = setS m (upd s 4 0) := by rw [e59, uG4]
            subst e
            rw [rG4, upd_e]
            refine i_neg (by decide) (fun m64 e64 => ⟨gP0 hk16, fun m66 e66 => ⟨gP1 hk16, fun m68 e68 => ⟨gP2 hk16, fun m70 e70 => ?_⟩⟩⟩)
            have e : m70 = setS m (aNewL s k (mOff s k (nI p)) (nI p) (nI n)) := by
              rw [e70, e68, e66, e64, uD3 hk16, uP0 hk16, rG0, uP1 hk16, uP2 hk16, upd_n (by omega), upd_n (by omega), upd_n (by omega)]
              rfl
            subst e
            refine X_67 hC (fun m' h' => ?_)
            rw [lease_ok hW hk lp ln ln2 hr] at h' ⊢
            refine i_pos rfl (hQ m' _ h' (IX_newL hI hW hk hC.2.1.2 ⟨ln, ln2⟩ (off_alw lD ho)) ?_)
            unfold aNewL
            rw [upd_n (by omega), upd_n (by omega), upd_n (by omega), upd_n (by omega), upd_n (by omega)]
  · intro c hc ih
    refine T_112_54 (i_pos (nI_lt (b := 8) hc (by omega)) ?_)
    rw [nI_1]
    cases hb : anyN (fun c => mAlwF s k (nI c) (nI p)) c with
    | true =>
      refine i_neg (by decide) ?_
      rwa [bP_bt (show anyN (fun c => mAlwF s k (nI c) (nI p)) (c + 1) = true by simp only [anyN, hb, Bool.true_or])] at ih
    | false =>
      refine i_pos (bP_bf rfl) (M_103 hW hk16 ⟨c, by omega, rfl⟩ rp ?_)
      cases ha : mAlwF s k (nI c) (nI p) with
      | true =>
        refine i_neg (by decide) ?_
        rwa [bP_bt (show anyN (fun c => mAlwF s k (nI c) (nI p)) (c + 1) = true by simp only [anyN, hb, ha, Bool.or_true])] at ih
      | false =>
        refine i_pos (bP_bf rfl) ?_
        rwa [bP_bf (show anyN (fun c => mAlwF s k (nI c) (nI p)) (c + 1) = false by simp only [anyN, hb, ha, Bool.or_false])] at ih
/-- no lease: neither renewed nor given back -/
theorem none_R {k n : Nat} (hC : CL m s) (hI : IX s) (hk : k < nD s) (ln : 1 ≤ n) (ln2 : n ≤ 99) (h3 : (s (104 + 10 * k + 3)) = (-6)) (hQ : ∀ m' s', CL m' s' → IX s' → s' 0 = s 0 → Q 1 (setS m' s')) : Mi 68 [.inr (27, 0), .inl (nI k), .inl (nI n)] (setS m s) (fun v7 m6 => if v7 = (-3) then (Mi 69 [.inr (27, 0), .inl (nI k)] m6 (fun v10 m9 => if v10 = (-3) then Q 1 m9 else Q 0 m9)) else Q 0 m6) := by
  have hW := CL_W hC
  refine X_68 hC (fun m' h' => ?_)
  rw [renew_3 hW hk ln ln2 h3] at h' ⊢
  refine i_pos rfl (X_69 h' (fun m2 h2 => ?_))
  rw [back_3 hW hk h3] at h2 ⊢
  exact i_pos rfl (hQ m2 s h2 hI rfl)
/-- a renewal -/
theorem renew_R {k n : Nat} (hC : CL m s) (hI : IX s) (hk : k < nD s) (ln : 1 ≤ n) (ln2 : n ≤ 99) (h3 : ¬ (s (104 + 10 * k + 3)) = (-6)) (hQ : ∀ m' s', CL m' s' → IX s' → s' 0 = s 0 → Q 1 (setS m' s')) : if (s (104 + 10 * k + 6)) < 0 then (∀ m15, m15 = a_up (setS m s) 34 0 4 0 → if (m15 34 0 4) = 5 then (a_in ((3 * nI k) + 1) 48 = true ∧ (∀ m18, m18 = a_up m15 38 0 ((3 * nI k) + 1).toNatClampNeg (m15 38 0 ((3 * nI k) + 1).toNatClampNeg) → Mi 68 [.inr (27, 0), .inl (nI k), .inl (nI n)] m18 (fun v20 m19 => if (m19 34 0 4) = 5 then (if v20 = (-5) then Q 1 m19 else Q 0 m19) else if v20 = ((m19 34 0 0) + nI n) then Q 1 m19 else Q 0 m19))) else (a_in ((3 * nI k) + 1) 48 = true ∧ (∀ m25, m25 = a_up m15 38 0 ((3 * nI k) + 1).toNatClampNeg ((m15 34 0 0) + nI n) → Mi 68 [.inr (27, 0), .inl (nI k), .inl (nI n)] m25 (fun v27 m26 => if (m26 34 0 4) = 5 then (if v27 = (-5) then Q 1 m26 else Q 0 m26) else if v27 = ((m26 34 0 0) + nI n) then Q 1 m26 else Q 0 m26)))) else (∀ m31, m31 = a_up (setS m s) 34 0 4 5 → if (m31 34 0 4) = 5 then (a_in ((3 * nI k) + 1) 48 = true ∧ (∀ m34, m34 = a_up m31 38 0 ((3 * nI k) + 1).toNatClampNeg (m31 38 0 ((3 * nI k) + 1).toNatClampNeg) → Mi 68 [.inr (27, 0), .inl (nI k), .inl (nI n)] m34 (fun v36 m35 => if (m35 34 0 4) = 5 then (if v36 = (-5) then Q 1 m35 else Q 0 m35) else if v36 = ((m35 34 0 0) + nI n) then Q 1 m35 else Q 0 m35))) else (a_in ((3 * nI k) + 1) 48 = true ∧ (∀ m41, m41 = a_up m31 38 0 ((3 * nI k) + 1).toNatClampNeg ((m31 34 0 0) + nI n) → Mi 68 [.inr (27, 0), .inl (nI k), .inl (nI n)] m41 (fun v43 m42 => if (m42 34 0 4) = 5 then (if v43 = (-5) then Q 1 m42 else Q 0 m42) else if v43 = ((m42 34 0 0) + nI n) then Q 1 m42 else Q 0 m42)))) := by
  have hW := CL_W hC
  obtain ⟨eD, lD⟩ := WF_D hW
  have hk16 : k < 16 := by omega
  have hd := WF_dv hW hk
  by_cases h6 : (s (104 + 10 * k + 6)) = (-6)
  · refine i_pos (by rw [h6]; exact neg6) (fun m15 e15 => ?_)
    have e : m15 = setS m (upd s 4 0) := by rw [e15, uG4]
    subst e
    rw [rG4, upd_e]
    refine i_neg (by decide) ⟨gP1 hk16, fun m25 e25 => ?_⟩
    have e : m25 = setS m (upd (upd s 4 0) (104 + 10 * k + 5) (s 0 + nI n)) := by rw [e25, rG0, uP1 hk16, upd_n (show ¬ 0 = 4 by omega)]
    subst e
    refine X_68 hC (fun m' h' => ?_)
    rw [renew_ok hW hk ln ln2 h3 h6] at h' ⊢
    rw [rG4, rG0, upd_n (by omega), upd_e, upd_n (by omega), upd_n (by omega)]
    refine i_neg (by decide) (i_pos rfl (hQ m' _ h' (IX_renew hI hW hk hC.2.1.2 ⟨ln, ln2⟩ h3) ?_))
    rw [upd_n (by omega), upd_n (by omega)]
  · refine i_neg (rg_nn (dv_notice hd h6).2.2.2 (by omega)) (fun m31 e31 => ?_)
    have e : m31 = setS m (upd s 4 5) := by rw [e31, uG4]
    subst e
    rw [rG4, upd_e]
    refine i_pos rfl ⟨gP1 hk16, fun m34 e34 => ?_⟩
    have e : m34 = setS m (upd s 4 5) := by rw [e34, uP1 hk16, rP1 hk16, upd_id]
    subst e
    refine X_68 hC (fun m' h' => ?_)
    rw [renew_5 hW hk ln ln2 h3 h6] at h' ⊢
    rw [rG4, upd_e]
    exact i_pos rfl (i_pos rfl (hQ m' _ h' (IX_4 hI (WF_C hW)) (upd_n (by omega))))
/-- a giving back -/
theorem back_R {k : Nat} (hC : CL m s) (hI : IX s) (hk : k < nD s) (h3 : ¬ (s (104 + 10 * k + 3)) = (-6)) (hQ : ∀ m' s', CL m' s' → IX s' → s' 0 = s 0 → Q 1 (setS m' s')) : Mv 106 [.inr (37, 0), .inr (38, 0), .inl (nI k)] (setS m s) (fun m47 => Mi 69 [.inr (27, 0), .inl (nI k)] m47 (fun v49 m48 => Mi 108 [.inr (34, 0), .inr (37, 0)] m48 (fun v51 m50 => if v49 = v51 then Q 1 m50 else Q 0 m50))) := by
  have hW := CL_W hC
  have lD := (WF_D hW).2
  refine M_106 (by omega) (X_69 hC (fun m' h' => ?_))
  rw [back_ok hW hk h3] at h' ⊢
  exact M_108 (CL_W h') (i_pos rfl (hQ m' _ h' (IX_ends hI hW hk) (mEnds_o (by omega))))
set_option maxHeartbeats 8000000 in
theorem M_112 {v w : Nat} (hC : CL m s) (hI : IX s) (hn : 0 < nD s) (lv : v < 10000000) (lw : w < 8) (hQ : ∀ m' s', CL m' s' → IX s' → s' 0 = s 0 → Q 1 (setS m' s')) : Mi 112 [.inr (27, 0), .inr (34, 0), .inr (35, 0), .inr (36, 0), .inr (37, 0), .inr (38, 0), .inl (nI v), .inl (nI w)] (setS m s) Q := by
  have hW := CL_W hC
  obtain ⟨eD, lD⟩ := WF_D hW
  have a1 : iR (nI v) 5 = nI (v % 5) := iR_n (d := 5) (by omega) (by omega) (by omega)
  have a2 : iR (nI v) (nI (nD s)) = nI (v % nD s) := iR_n (by omega) hn (by omega)
  have a3 : nI v / 16 = nI (v / 16) := pk_div (d := 16) (by omega) (by omega) (by omega)
  have a4 : iR (nI (v / 16)) 99 = nI (v / 16 % 99) := iR_n (d := 99) (by omega) (by omega) (by omega)
  have a5 : iR (nI (v / 16)) 20 = nI (v / 16 % 20) := iR_n (d := 20) (by omega) (by omega) (by omega)
  have a6 : (1 : Int32) + nI (v / 16 % 99) = nI (1 + v / 16 % 99) := nI_add 1 _
  have a7 : (1 : Int32) + nI (v / 16 % 20) = nI (1 + v / 16 % 20) := nI_add 1 _
  have a8 : nI v / 320 = nI (v / 320) := pk_div (d := 320) (by omega) (by omega) (by omega)
  have a9 : iR (nI (v / 320)) 4 = nI (v / 320 % 4) := iR_n (d := 4) (by omega) (by omega) (by omega)
  have hk : v % nD s < nD s := Nat.mod_lt _ hn
  refine T_112 ?_
  simp only [rG3, eD, a1, a2, a3, a4, a5, a6, a7, a8, a9]
  refine ⟨nI_ne0 hn (by omega), ?_⟩
  have l1 : 1 ≤ 1 + v / 16 % 99 := by omega
  have l2 : 1 + v / 16 % 99 ≤ 99 := by omega
  have l3 : 1 ≤ 1 + v / 16 % 20 := by omega
  have l4 : 1 + v / 16 % 20 ≤ 99 := by omega
  have l5 : v / 320 % 4 ≤ 3 := by omega
  generalize v % nD s = k at *
  generalize 1 + v / 16 % 99 = n1 at *
  generalize 1 + v / 16 % 20 = n2 at *
  generalize v / 320 % 4 = p at *
  clear a1 a2 a3 a4 a5 a6 a7 a8 a9
  have hk16 : k < 16 := by omega
  have hd := WF_dv hW hk
  by_cases h5 : nI (v % 5) = 0
  · refine i_pos h5 ?_
    by_cases hw : w < 5
    · exact i_pos (nI_lt (b := 5) hw (by omega)) (M_112_54 hC hI hk l5 l1 l2 hQ)
    · refine i_neg (nI_nlt (a := w) (b := 5) (by omega) (by omega)) ⟨gD3 hk16, ?_⟩
      rw [rD3 hk16]
      by_cases h3 : (s (104 + 10 * k + 3)) = (-6)
      · exact i_pos (by rw [h3]; exact neg6) (none_R hC hI hk l1 l2 h3 hQ)
      · refine i_neg (rg_nn (dv_lease hd h3).1 (by omega)) ?_
        by_cases w5 : w = 5
        · refine i_pos (by rw [w5]; rfl) ⟨gP2 hk16, ?_⟩
          rw [rP2 hk16]
          exact renew_R hC hI hk l1 l2 h3 hQ
        · exact i_neg (by rw [show (5 : Int32) = nI 5 from rfl, nI_eq (by omega) (by omega)]; exact w5) (back_R hC hI hk h3 hQ)
  · refine i_neg h5 ?_
    by_cases hw : w < 5
    · exact i_pos (nI_lt (b := 5) hw (by omega)) (M_112_54 hC hI hk l5 l3 l4 hQ)
    · refine i_neg (nI_nlt (a := w) (b := 5) (by omega) (by omega)) ⟨gD3 hk16, ?_⟩
      rw [rD3 hk16]
      by_cases h3 : (s (104 + 10 * k + 3)) = (-6)
      · exact i_pos (by rw [h3]; exact neg6) (none_R hC hI hk l3 l4 h3 hQ)
      · refine i_neg (rg_nn (dv_lease hd h3).1 (by omega)) ?_
        by_cases w5 : w = 5
        · refine i_pos (by rw [w5]; rfl) ⟨gP2 hk16, ?_⟩
          rw [rP2 hk16]
          exact renew_R hC hI hk l3 l4 h3 hQ
        · exact i_neg (by rw [show (5 : Int32) = nI 5 from rfl, nI_eq (by omega) (by omega)]; exact w5) (back_R hC hI hk h3 hQ)
end LLE
