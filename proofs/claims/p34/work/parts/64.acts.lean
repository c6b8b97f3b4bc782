/-! the law's acts -/
section LAC
variable {m : aM} {s s' : aS0} {Q : Int32 → aM → Prop}
theorem low_n (x : Int32) {n : Nat} (h0 : 0 < n) (hn : n < 2 ^ 31) : ∃ j, j < n ∧ lowI x (nI n) = nI j := by
  obtain ⟨j, hj, e⟩ := pk_andE x (m := 2147483647) 31 (by decide +kernel)
  refine ⟨j % n, Nat.mod_lt _ h0, ?_⟩
  unfold lowI
  rw [e]
  exact iR_n hj h0 hn
theorem aPass_ok {n h : Nat} (h0 : s 0 = nI h) (l1 : 1 ≤ n) (l2 : n ≤ 99) (lh : h + n ≤ 9999) : aPass (nI n) s = mPn s n := by
  unfold aPass
  rw [if_neg (show ¬ (nI n < 1 ∨ 99 < nI n) from in_lo (a := 1) (B := 99) l1 l2 (by omega)), h0, nI_add, if_neg (show ¬ 9999 < nI (h + n) from nI_nlt (a := 9999) lh (by omega)), ixK (by omega)]
theorem M_113_197 {z v w : Int32} {n h : Nat} (hC : CL m s) (hI : IX s) (h0 : s 0 = nI h) (lh : h ≤ 5000) (l1 : 1 ≤ n) (l2 : n ≤ 12) (hQ : ∀ m' s' h', CL m' s' → IX s' → s' 0 = nI h' → h' ≤ h + 12 → Q 1 (setS m' s')) : H_113_197 z v w (nI n) 0 0 (setS m s) Q := by
  have hW := CL_W hC
  refine dn0 (n := n) (P := fun j => H_113_197 z v w (nI n) (mPn s j).1 (nI j) (setS m (mPn s j).2) Q) ?_ ?_
  · refine T_113_197 (i_neg (nI_nlt (Nat.le_refl _) (by omega)) (X_70 hC (fun m' h' => ?_)))
    rw [aPass_ok h0 l1 (by omega) (by omega)] at h' ⊢
    obtain ⟨-, e, -⟩ := mPn_ok hW h0 n (by omega)
    exact i_pos rfl (hQ m' _ (h + n) h' (IX_pn hI hW h0 n (by omega)) e (by omega))
  · intro j hj ih
    obtain ⟨w1, e, -⟩ := mPn_ok hW h0 j (by omega)
    have i1 := IX_pn hI hW h0 j (by omega)
    rw [mPn_s] at ih
    refine T_113_197 (i_pos (nI_lt hj (by omega)) ?_)
    generalize mPn s j = q at *
    dsimp only at ih
    rw [nI_1]
    exact M_109 w1 ⟨h + j, by omega, e⟩ (fun k hk h3 => ((i1.1 k hk).resolve_left h3).1) ih
set_option maxHeartbeats 4000000 in
theorem M_113 {z : Int32} {h : Nat} (hC : CL m s) (hI : IX s) (h0 : s 0 = nI h) (lh : h ≤ 5000) (hQ : ∀ m' s' h', CL m' s' → IX s' → s' 0 = nI h' → h' ≤ h + 12 → Q 1 (setS m' s')) : Mi 113 [.inr (27, 0), .inr (34, 0), .inr (35, 0), .inr (36, 0), .inr (37, 0), .inr (38, 0), .inr (39, 0), .inl z] (setS m s) Q := by
  have hW := CL_W hC
  obtain ⟨eD, lD⟩ := WF_D hW
  have hQ' : ∀ m' s', CL m' s' → IX s' → s' 0 = s 0 → ((1 : Int32) = 0 ∨ (1 : Int32) = 1) ∧ Q 1 (setS m' s') := fun m' s' c i e => ⟨Or.inr rfl, hQ m' s' h c i (e.trans h0) (by omega)⟩
  obtain ⟨v, lv, ev⟩ : ∃ j, j < 10000000 ∧ lowI (z >>> ((5 : Int32) &&& 31)) 10000000 = nI j := low_n _ (by omega) (by omega)
  obtain ⟨w, lw, ew⟩ : ∃ j, j < 25 ∧ lowI z 25 = nI j := low_n _ (by omega) (by omega)
  have b4 : iR (nI v) 4 = nI (v % 4) := iR_n (d := 4) (by omega) (by omega) (by omega)
  have b12 : iR (nI v) 12 = nI (v % 12) := iR_n (d := 12) (by omega) (by omega) (by omega)
  have b3 : iR (nI v) 3 = nI (v % 3) := iR_n (d := 3) (by omega) (by omega) (by omega)
  have c12 : (1 : Int32) + nI (v % 12) = nI (1 + v % 12) := nI_add 1 _
  have c3 : (1 : Int32) + nI (v % 3) = nI (1 + v % 3) := nI_add 1 _
  refine T_113 ?_
  simp only [ev, ew, b4, b12, b3, c12, c3]
  refine ⟨by decide, by decide, ?_⟩
  by_cases w6 : w < 6
  · refine i_pos (nI_lt (b := 6) w6 (by omega)) ?_
    by_cases w2 : w < 2
    · exact i_pos (nI_lt (b := 2) w2 (by omega)) (M_110 (w := 0) hC hI h0 lh lv (by omega) hQ')
    · refine i_neg (nI_nlt (a := w) (b := 2) (by omega) (by omega)) ?_
      by_cases we : w = 2
      · exact i_pos (by rw [we]; rfl) (M_110 (w := 1) hC hI h0 lh lv (by omega) hQ')
      · exact i_neg (by rw [show (2 : Int32) = nI 2 from rfl, nI_eq (by omega) (by omega)]; exact we) (M_110 (w := 2) hC hI h0 lh lv (by omega) hQ')
  · refine i_neg (nI_nlt (a := w) (b := 6) (by omega) (by omega)) ?_
    by_cases w12 : w < 12
    · refine i_pos (nI_lt (b := 12) w12 (by omega)) ?_
      by_cases w10 : w < 10
      · exact i_pos (nI_lt (b := 10) w10 (by omega)) (M_111_0 hC hI lv hQ')
      · refine i_neg (nI_nlt (a := w) (b := 10) (by omega) (by omega)) ?_
        rcases (show w = 10 ∨ w = 11 by omega) with rfl | rfl
        · exact M_111_1 hC hI lv hQ'
        · exact M_111_2 hC hI lv hQ'
    · refine i_neg (nI_nlt (a := w) (b := 12) (by omega) (by omega)) ?_
      by_cases w20 : w < 20
      · refine i_pos (nI_lt (b := 20) w20 (by omega)) ?_
        rw [rG3, eD]
        by_cases hn : nD s = 0
        · refine i_pos (by rw [hn]; rfl) ?_
          have hno : ¬ (¬ (0 : Int32) < 0 ∧ (0 : Int32) < s 3) := by
            rw [eD, hn]
            decide
          have q67 : aLease 0 0 1 s = ((-1), s) := if_neg hno
          have q68 : aRenew 0 1 s = ((-1), s) := if_neg hno
          have q69 : aBack 0 s = ((-1), s) := if_neg hno
          refine X_67 hC (fun m1 h1 => ?_)
          rw [q67] at h1 ⊢
          refine i_pos rfl (X_68 h1 (fun m2 h2 => ?_))
          rw [q68] at h2 ⊢
          refine i_pos rfl (X_69 h2 (fun m3 h3 => ?_))
          rw [q69] at h3 ⊢
          exact i_pos rfl (hQ m3 s h h3 hI h0 (by omega))
        · refine i_neg (nI_ne0 (by omega) (by omega)) ?_
          have e12 : nI w - 12 = nI (w - 12) := pk_sub (b := 12) (by omega)
          rw [e12]
          exact M_112 hC hI (by omega) lv (by omega) hQ'
      · refine i_neg (nI_nlt (a := w) (b := 20) (by omega) (by omega)) ?_
        by_cases h4 : nI (v % 4) = 0
        · exact i_pos h4 (M_113_197 hC hI h0 lh (by omega) (by omega) hQ)
        · exact i_neg h4 (M_113_197 hC hI h0 lh (by omega) (by omega) hQ)
end LAC
