/-! the law -/
section LAW
variable {m : aM} {s : aS0} {Q : Int32 → aM → Prop}
theorem M_97 {j : Nat} (hj : j < 2 ^ 31) (hQ : ∀ v, Q v m) : Mi 97 [.inr (46, 0), .inl (nI j)] m Q := by
  refine T_97 ?_
  have hL : a_ln m 46 < 2 ^ 31 := Int32.toNatClampNeg_lt _
  by_cases h : nI j < nI (a_ln m 46)
  · refine i_pos h ⟨a_in_I rfl ((nI_ltI hj hL).mp h) hL, hQ _⟩
  · exact i_neg h (hQ _)
set_option maxHeartbeats 4000000 in
theorem law_2 (hQ : ∀ m, Q 1 m) {N : Nat} (lN : N ≤ 60) : ∀ k, k ≤ N → ∀ m s h, CL m s → IX s → s 0 = nI h → h ≤ 150 + 12 * k → H_115_171 1 (nI N) (nI k) (setS m s) Q := by
  refine dn (P := fun k => ∀ m s h, CL m s → IX s → s 0 = nI h → h ≤ 150 + 12 * k → H_115_171 1 (nI N) (nI k) (setS m s) Q) ?_ ?_
  · intro m s h hC hI h0 lh
    have hC' : CL (setS m s) s := CL_S hC
    refine T_115_171 (i_neg (nI_nlt (Nat.le_refl _) (by omega)) (i_neg (by decide) (LK85_16 (i_pos rfl (LK85_m (i_pos rfl ?_))))))
    rw [rG1]
    refine LK78_x hC' (i_pos rfl ?_)
    rw [rG2]
    refine LK79_x hC' (i_pos rfl ?_)
    rw [rG3]
    exact LK80_x hC' (i_pos rfl (LK84_x (i_pos rfl (hQ _))))
  · intro k hk ih m s h hC hI h0 lh
    refine T_115_171 (i_pos (nI_lt hk (by omega)) (i_neg (by decide) ?_))
    have e13 : (13 : Int32) + nI k = nI (13 + k) := nI_add 13 k
    rw [e13]
    refine M_97 (by omega) (fun v => ?_)
    refine M_113 hC hI h0 (by omega) (fun m' s' h' hC' hI' h0' lh' => i_neg (by decide) (M_114 hC' hI' (fun m2 hC2 => i_neg (by decide) ?_)))
    rw [nI_1]
    exact ih m2 s' h' hC2 hI' h0' (by omega)
set_option maxHeartbeats 4000000 in
theorem law_1 (hQ : ∀ m, Q 1 m) : ∀ k, k ≤ 12 → ∀ m s h, CL m s → IX s → s 0 = nI h → h ≤ 12 * k → H_115_76 1 (nI k) (setS m s) Q := by
  refine dn (P := fun k => ∀ m s h, CL m s → IX s → s 0 = nI h → h ≤ 12 * k → H_115_76 1 (nI k) (setS m s) Q) ?_ ?_
  · intro m s h hC hI h0 lh
    refine T_115_76 (i_neg (by decide) (M_97 (j := 0) (by omega) (fun v => ⟨by decide, ?_⟩)))
    obtain ⟨j, lj, ej⟩ : ∃ j, j < 42 ∧ lowI v 42 = nI j := low_n v (by omega) (by omega)
    have e8 : (8 : Int32) + nI j = nI (8 + j) := nI_add 8 j
    rw [ej, e8]
    exact law_2 hQ (by omega) 0 (Nat.zero_le _) m s h hC hI h0 (by omega)
  · intro k hk ih m s h hC hI h0 lh
    refine T_115_76 (i_pos (nI_lt (b := 12) hk (by omega)) (i_neg (by decide) ?_))
    have e1 : (1 : Int32) + nI k = nI (1 + k) := nI_add 1 k
    rw [e1]
    refine M_97 (by omega) (fun v => ?_)
    have go : ∀ z : Int32, Mi 113 [.inr (27, 0), .inr (34, 0), .inr (35, 0), .inr (36, 0), .inr (37, 0), .inr (38, 0), .inr (39, 0), .inl z] (setS m s) (fun v10 m9 => H_115_76 v10 (nI k + 1) m9 Q) := fun z => M_113 hC hI h0 (by omega) (fun m' s' h' hC' hI' h0' lh' => by
      rw [nI_1]
      exact ih m' s' h' hC' hI' h0' (by omega))
    by_cases k3 : nI k < 3
    · exact i_pos k3 (go _)
    · refine i_neg k3 ?_
      by_cases k8 : nI k < 8
      · exact i_pos k8 (go _)
      · exact i_neg k8 (go _)
end LAW
