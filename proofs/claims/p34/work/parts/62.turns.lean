/-! the law's waking, cancelling, setting -/
section LTU
variable {m : aM} {s s' : aS0} {Q : Int32 → aM → Prop} {P : Int32 → aM → Prop}
theorem one_nI : nI 1 = (1 : Int32) := rfl
theorem X_turn {k aw : Nat} (ha : aw < 2) (hC : CL m s) (hQ : ∀ m', CL m' (aTurn (nI k) (nI aw) s).2 → P (aTurn (nI k) (nI aw) s).1 (setS m' s')) : if nI aw = 1 then Mi 64 [.inr (27, 0), .inl (nI k)] (setS m s') P else Mi 65 [.inr (27, 0), .inl (nI k)] (setS m s') P := by
  rcases (show aw = 0 ∨ aw = 1 by omega) with rfl | rfl
  · exact i_neg (by decide) (X_65 hC hQ)
  · exact i_pos rfl (X_64 hC hQ)
theorem turn_x {k aw : Nat} (hW : WF s) (hk : nS s ≤ k) (lk : k < 100) : aTurn (nI k) (nI aw) s = ((-1), s) := by
  unfold aTurn
  rw [(WF_S hW).1, if_neg (fun z => nI_nlt hk (by omega) z.2)]
theorem turn_3 {k aw : Nat} (hW : WF s) (hk : k < nS s) (h4 : (s (8 + 5 * k + 4)) = nI aw) : aTurn (nI k) (nI aw) s = ((-3), s) := by
  have lS := (WF_S hW).2
  unfold aTurn
  rw [(WF_S hW).1, if_pos ⟨nI_pos (by omega), nI_lt hk (by omega)⟩, ixK (by omega), if_pos h4]
theorem turn_ok {k aw : Nat} (hW : WF s) (hk : k < nS s) (h4 : ¬ (s (8 + 5 * k + 4)) = nI aw) : aTurn (nI k) (nI aw) s = (nI (mNot (mRev (upd s (8 + 5 * k + 4) (nI aw)))), mRev (upd s (8 + 5 * k + 4) (nI aw))) := by
  have lS := (WF_S hW).2
  unfold aTurn
  rw [(WF_S hW).1, if_pos ⟨nI_pos (by omega), nI_lt hk (by omega)⟩, ixK (by omega), if_neg h4]
theorem canc_x {k : Nat} (hW : WF s) (hk : nE s ≤ k) (lk : k < 100) : aCanc (nI k) s = ((-1), s) := by
  unfold aCanc
  rw [(WF_E hW).1, if_neg (fun z => nI_nlt hk (by omega) z.2)]
theorem canc_3 {k : Nat} (hW : WF s) (hk : k < nE s) (h4 : (s (48 + 7 * k + 6)) = 1 ∨ ¬ s 0 < (s (48 + 7 * k + 5))) : aCanc (nI k) s = ((-3), s) := by
  have lE := (WF_E hW).2
  unfold aCanc
  rw [(WF_E hW).1, if_pos ⟨nI_pos (by omega), nI_lt hk (by omega)⟩, ixK (by omega)]
  by_cases h6 : (s (48 + 7 * k + 6)) = 1
  · rw [if_pos h6]
  · rw [if_neg h6, if_neg (h4.resolve_left h6)]
theorem canc_ok {k : Nat} (hW : WF s) (hk : k < nE s) (h6 : ¬ (s (48 + 7 * k + 6)) = 1) (h5 : s 0 < (s (48 + 7 * k + 5))) : aCanc (nI k) s = (nI (mNot (mRev (upd s (48 + 7 * k + 6) 1))), mRev (upd s (48 + 7 * k + 6) 1)) := by
  have lE := (WF_E hW).2
  unfold aCanc
  rw [(WF_E hW).1, if_pos ⟨nI_pos (by omega), nI_lt hk (by omega)⟩, ixK (by omega), if_neg h6, if_pos h5]
theorem set_ok {k n : Nat} (hW : WF s) (hk : k < 3) (hn : (k = 0 → n ≤ 100) ∧ (k = 1 → 1 ≤ n ∧ n ≤ 12) ∧ (k = 2 → n ≤ 20)) : aSet (nI k) (nI n) s = (s (5 + k), mRev (upd s (5 + k) (nI n))) ∧ WF (upd s (5 + k) (nI n)) := by
  have hno : ¬ (nI n < (if nI k = 1 then 1 else 0) ∨ (if nI k = 0 then 100 else if nI k = 1 then 12 else 20) < nI n) := by
    rcases (show k = 0 ∨ k = 1 ∨ k = 2 by omega) with rfl | rfl | rfl
    · rw [if_neg (by decide), if_pos (by decide)]
      exact in_r (B := 100) (by omega) (by omega)
    · rw [if_pos (by decide), if_neg (by decide), if_pos (by decide)]
      exact in_lo (a := 1) (B := 12) (by omega) (by omega) (by omega)
    · rw [if_neg (by decide), if_neg (by decide), if_neg (by decide)]
      exact in_r (B := 20) (by omega) (by omega)
  refine ⟨?_, WF_set hW hk hno⟩
  unfold aSet
  rw [if_neg (show ¬ (nI k < 0 ∨ 2 < nI k) from in_r (B := 2) (by omega) (by omega)), if_neg hno, ixK (by omega)]
set_option maxHeartbeats 4000000 in
theorem M_111_0 {v : Nat} (hC : CL m s) (hI : IX s) (lv : v < 10000000) (hQ : ∀ m' s', CL m' s' → IX s' → s' 0 = s 0 → Q 1 (setS m' s')) : Mi 111 [.inr (27, 0), .inr (34, 0), .inr (35, 0), .inr (36, 0), .inr (37, 0), .inr (38, 0), .inl (nI v), .inl 0] (setS m s) Q := by
  have hW := CL_W hC
  obtain ⟨eS, lS⟩ := WF_S hW
  have a1 : iR (nI v) 9 = nI (v % 9) := iR_n (d := 9) (by omega) (by omega) (by omega)
  have a2 : nI v / 9 = nI (v / 9) := pk_div (d := 9) (by omega) (by omega) (by omega)
  have a3 : iR (nI (v / 9)) 2 = nI (v / 9 % 2) := iR_n (d := 2) (by omega) (by omega) (by omega)
  refine T_111 (i_pos rfl ?_)
  simp only [a1, a2, a3]
  have lk : v % 9 < 9 := by omega
  have law : v / 9 % 2 < 2 := by omega
  generalize v % 9 = k at *
  generalize v / 9 % 2 = aw at *
  clear a1 a2 a3
  rw [rG1, eS]
  by_cases hk : k < nS s
  · refine i_pos (nI_lt hk (by omega)) ?_
    have hk8 : k < 8 := by omega
    refine ⟨gA4 hk8, ?_⟩
    rw [rA4 hk8]
    by_cases h4 : (s (8 + 5 * k + 4)) = nI aw
    · refine i_pos h4 (X_turn law hC (fun m' h' => ?_))
      rw [turn_3 hW hk h4] at h' ⊢
      rw [rG1, eS]
      exact i_pos (nI_lt hk (by omega)) (i_pos rfl (hQ m' s h' hI rfl))
    · refine i_neg h4 (fun m16 e16 => ?_)
      have e : m16 = setS m (upd s (8 + 5 * k + 4) (nI aw)) := by rw [e16, uA4 hk8]
      subst e
      have h01 : nI aw = 0 ∨ nI aw = 1 := by
        rcases (show aw = 0 ∨ aw = 1 by omega) with rfl | rfl
        · exact Or.inl rfl
        · exact Or.inr rfl
      have hW1 : WF (upd s (8 + 5 * k + 4) (nI aw)) := WF_awake hW hk8 h01
      have hI1 : IX (mRev (upd s (8 + 5 * k + 4) (nI aw))) := IX_low hI hW1 (upd_n (by omega)) (upd_n (by omega)) (fun i hi => upd_n (by omega))
      have h00 : mRev (upd s (8 + 5 * k + 4) (nI aw)) 0 = s 0 := (mRev_lo (by omega)).trans (upd_n (by omega))
      refine M_105 hW1 (X_turn law hC (fun m' h' => ?_))
      rw [turn_ok hW hk h4] at h' ⊢
      exact M_107 (CL_W h') (i_pos rfl (hQ m' _ h' hI1 h00))
  · refine i_neg (nI_nlt (by omega) (by omega)) (X_turn law hC (fun m' h' => ?_))
    rw [turn_x hW (by omega) (by omega)] at h' ⊢
    rw [rG1, eS]
    exact i_neg (nI_nlt (by omega) (by omega)) (i_pos rfl (hQ m' s h' hI rfl))
set_option maxHeartbeats 4000000 in
theorem M_111_1 {v : Nat} (hC : CL m s) (hI : IX s) (lv : v < 10000000) (hQ : ∀ m' s', CL m' s' → IX s' → s' 0 = s 0 → Q 1 (setS m' s')) : Mi 111 [.inr (27, 0), .inr (34, 0), .inr (35, 0), .inr (36, 0), .inr (37, 0), .inr (38, 0), .inl (nI v), .inl 1] (setS m s) Q := by
  have hW := CL_W hC
  obtain ⟨eE, lE⟩ := WF_E hW
  have a1 : iR (nI v) 8 = nI (v % 8) := iR_n (d := 8) (by omega) (by omega) (by omega)
  refine T_111 (i_neg (by decide) (i_pos rfl ?_))
  simp only [a1]
  have lk : v % 8 < 8 := by omega
  generalize v % 8 = k at *
  clear a1
  rw [rG2, eE]
  by_cases hk : k < nE s
  · refine i_pos (nI_lt hk (by omega)) ?_
    refine ⟨gE6 lk, ?_⟩
    rw [rE6 lk]
    by_cases h6 : (s (48 + 7 * k + 6)) = 1
    · refine i_pos h6 (X_66 hC (fun m' h' => ?_))
      rw [canc_3 hW hk (Or.inl h6)] at h' ⊢
      rw [rG2, eE]
      exact i_pos (nI_lt hk (by omega)) (i_pos rfl (hQ m' s h' hI rfl))
    · refine i_neg h6 ⟨gE5 lk, ?_⟩
      rw [rE5 lk, rG0]
      by_cases h5 : s 0 < (s (48 + 7 * k + 5))
      · refine i_pos h5 (fun m51 e51 => ?_)
        have e : m51 = setS m (upd s (48 + 7 * k + 6) 1) := by rw [e51, uE6 lk]
        subst e
        have hW1 : WF (upd s (48 + 7 * k + 6) 1) := WF_canc hW lk (Or.inr rfl)
        have hI1 : IX (mRev (upd s (48 + 7 * k + 6) 1)) := IX_low hI hW1 (upd_n (by omega)) (upd_n (by omega)) (fun i hi => upd_n (by omega))
        have h00 : mRev (upd s (48 + 7 * k + 6) 1) 0 = s 0 := (mRev_lo (by omega)).trans (upd_n (by omega))
        refine M_105 hW1 (X_66 hC (fun m' h' => ?_))
        rw [canc_ok hW hk h6 h5] at h' ⊢
        exact M_107 (CL_W h') (i_pos rfl (hQ m' _ h' hI1 h00))
      · refine i_neg h5 (X_66 hC (fun m' h' => ?_))
        rw [canc_3 hW hk (Or.inr h5)] at h' ⊢
        rw [rG2, eE]
        exact i_pos (nI_lt hk (by omega)) (i_pos rfl (hQ m' s h' hI rfl))
  · refine i_neg (nI_nlt (by omega) (by omega)) (X_66 hC (fun m' h' => ?_))
    rw [canc_x hW (by omega) (by omega)] at h' ⊢
    rw [rG2, eE]
    exact i_neg (nI_nlt (by omega) (by omega)) (i_pos rfl (hQ m' s h' hI rfl))
/-- a setting, then what the law asks -/
theorem L_set {k n : Nat} (hC : CL m s) (hI : IX s) (hk : k < 3) (hn : (k = 0 → n ≤ 100) ∧ (k = 1 → 1 ≤ n ∧ n ≤ 12) ∧ (k = 2 → n ≤ 20)) (hQ : ∀ m' s', CL m' s' → IX s' → s' 0 = s 0 → Q 1 (setS m' s')) : ∀ m70, m70 = a_up (setS m s) 34 0 (5 + k) (nI n) → Mv 105 [.inr (34, 0), .inr (35, 0), .inr (36, 0), .inr (37, 0), .inr (38, 0)] m70 (fun m71 => Mi 63 [.inr (27, 0), .inl (nI k), .inl (m71 34 0 (5 + k))] m71 (fun v73 m72 => if v73 = s (5 + k) then Q 1 m72 else Q 0 m72)) := by
  intro m70 e70
  obtain ⟨ea, hW1⟩ := set_ok (CL_W hC) hk hn
  have e : m70 = setS m (upd s (5 + k) (nI n)) := by rw [e70, U_ad (aG_ (by omega))]
  subst e
  refine M_105 hW1 ?_
  rw [S_ad (aG_ (by omega)), mRev_lo (by omega), upd_e]
  refine X_63 hC (fun m' h' => ?_)
  rw [ea] at h' ⊢
  exact i_pos rfl (hQ m' _ h' (IX_low hI hW1 (upd_n (by omega)) (upd_n (by omega)) (fun i hi => upd_n (by omega))) ((mRev_lo (by omega)).trans (upd_n (by omega))))
set_option maxHeartbeats 4000000 in
theorem M_111_2 {v : Nat} (hC : CL m s) (hI : IX s) (lv : v < 10000000) (hQ : ∀ m' s', CL m' s' → IX s' → s' 0 = s 0 → Q 1 (setS m' s')) : Mi 111 [.inr (27, 0), .inr (34, 0), .inr (35, 0), .inr (36, 0), .inr (37, 0), .inr (38, 0), .inl (nI v), .inl 2] (setS m s) Q := by
  have a1 : iR (nI v) 3 = nI (v % 3) := iR_n (d := 3) (by omega) (by omega) (by omega)
  have a2 : nI v / 3 = nI (v / 3) := pk_div (d := 3) (by omega) (by omega) (by omega)
  have a3 : iR (nI (v / 3)) 101 = nI (v / 3 % 101) := iR_n (d := 101) (by omega) (by omega) (by omega)
  have a4 : iR (nI (v / 3)) 12 = nI (v / 3 % 12) := iR_n (d := 12) (by omega) (by omega) (by omega)
  have a5 : iR (nI (v / 3)) 6 = nI (v / 3 % 6) := iR_n (d := 6) (by omega) (by omega) (by omega)
  have a6 : (1 : Int32) + nI (v / 3 % 12) = nI (1 + v / 3 % 12) := nI_add 1 _
  have a7 : (5 : Int32) + nI (v % 3) = nI (5 + v % 3) := nI_add 5 _
  refine T_111 (i_neg (by decide) (i_neg (by decide) ?_))
  simp only [a1, a2, a3, a4, a5, a6, a7]
  have l3 : v / 3 % 101 ≤ 100 := by omega
  have l4 : v / 3 % 12 ≤ 11 := by omega
  have l5 : v / 3 % 6 ≤ 5 := by omega
  have lk : v % 3 < 3 := by omega
  generalize v % 3 = k at *
  generalize v / 3 % 101 = n1 at *
  generalize v / 3 % 12 = n2 at *
  generalize v / 3 % 6 = n3 at *
  clear a1 a2 a3 a4 a5 a6 a7
  rw [ixK (show 5 + k < 2 ^ 31 by omega)]
  simp only [S_ad (s := s) (m := m) (aG_ (i := 5 + k) (by omega))]
  refine ⟨inK (by omega) (by omega), ?_⟩
  rcases (show k = 0 ∨ k = 1 ∨ k = 2 by omega) with rfl | rfl | rfl
  · exact i_pos rfl (L_set hC hI (by omega) ⟨fun _ => l3, fun q => by omega, fun q => by omega⟩ hQ)
  · exact i_neg (by decide) (i_pos rfl (L_set hC hI (by omega) ⟨fun q => by omega, fun _ => by omega, fun q => by omega⟩ hQ))
  · exact i_neg (by decide) (i_neg (by decide) (L_set hC hI (by omega) ⟨fun q => by omega, fun q => by omega, fun _ => by omega⟩ hQ))
end LTU
