/-! the looking calls that the law makes, an answer each; by program (wip/p34/gen48.py) -/
section LKS
variable {m : aM} {s : aS0} {Q : Int32 → aM → Prop} {k : Nat} {ch : Int32}
theorem LK80_0 (hC : CL m s) (hk : k < nD s) (hQ : Q (s (104 + 10 * k + 0)) m) : Mi 80 [.inr (27, 0), .inl (nI k), .inl 0] m Q := by
  have hR := hC.2.1
  have hW := Rp_W hR.1
  obtain ⟨eD, lD⟩ := WF_D hW
  have hN := hR.1.2.1
  have hd := WF_dv hW hk
  obtain ⟨q0, q1, q2, q3, q6, q7, q8, q9, q4⟩ := Rp_d hR.1 hk
  refine T_80 ?_
  rw [hN.2.2.2.2.2.2.2, eD]
  refine i_pos ⟨nI_pos (by omega), nI_lt hk (by omega)⟩ (i_neg (by decide) (i_neg (by decide) (T_14 (i_pos rfl (⟨inK (by omega) (by omega), ?_⟩)))))
  rw [ixK (by omega), q0]
  exact hQ
theorem LK80_1 (hC : CL m s) (hk : k < nD s) (hQ : Q (s (104 + 10 * k + 1)) m) : Mi 80 [.inr (27, 0), .inl (nI k), .inl 1] m Q := by
  have hR := hC.2.1
  have hW := Rp_W hR.1
  obtain ⟨eD, lD⟩ := WF_D hW
  have hN := hR.1.2.1
  have hd := WF_dv hW hk
  obtain ⟨q0, q1, q2, q3, q6, q7, q8, q9, q4⟩ := Rp_d hR.1 hk
  refine T_80 ?_
  rw [hN.2.2.2.2.2.2.2, eD]
  refine i_pos ⟨nI_pos (by omega), nI_lt hk (by omega)⟩ (i_neg (by decide) (i_neg (by decide) (T_14 (i_neg (by decide) (i_pos rfl (⟨inK (by omega) (by omega), ?_⟩))))))
  rw [ixK (by omega), q1]
  exact hQ
theorem LK80_2 (hC : CL m s) (hk : k < nD s) (hQ : Q (s (104 + 10 * k + 2)) m) : Mi 80 [.inr (27, 0), .inl (nI k), .inl 2] m Q := by
  have hR := hC.2.1
  have hW := Rp_W hR.1
  obtain ⟨eD, lD⟩ := WF_D hW
  have hN := hR.1.2.1
  have hd := WF_dv hW hk
  obtain ⟨q0, q1, q2, q3, q6, q7, q8, q9, q4⟩ := Rp_d hR.1 hk
  refine T_80 ?_
  rw [hN.2.2.2.2.2.2.2, eD]
  refine i_pos ⟨nI_pos (by omega), nI_lt hk (by omega)⟩ (i_neg (by decide) (i_neg (by decide) (T_14 (i_neg (by decide) (i_neg (by decide) (i_pos rfl (⟨inK (by omega) (by omega), ?_⟩)))))))
  rw [ixK (by omega), q2]
  exact hQ
theorem LK80_3 (hC : CL m s) (hk : k < nD s) (hQ : Q (s (104 + 10 * k + 3)) m) : Mi 80 [.inr (27, 0), .inl (nI k), .inl 3] m Q := by
  have hR := hC.2.1
  have hW := Rp_W hR.1
  obtain ⟨eD, lD⟩ := WF_D hW
  have hN := hR.1.2.1
  have hd := WF_dv hW hk
  obtain ⟨q0, q1, q2, q3, q6, q7, q8, q9, q4⟩ := Rp_d hR.1 hk
  refine T_80 ?_
  rw [hN.2.2.2.2.2.2.2, eD]
  refine i_pos ⟨nI_pos (by omega), nI_lt hk (by omega)⟩ (i_neg (by decide) (i_neg (by decide) (T_14 (i_neg (by decide) (i_neg (by decide) (i_neg (by decide) (i_pos rfl (⟨inK (by omega) (by omega), ?_⟩))))))))
  rw [ixK (by omega), q3]
  have l3 := nz_i (dv3 hd) (by omega)
  by_cases a3 : ¬ (s (104 + 10 * k + 3)) = (-6)
  · refine i_pos (l3.mpr a3) ?_
    rw [nz_n a3]
    exact hQ
  · refine i_neg (fun z => a3 (l3.mp z)) ?_
    have a6 := hd.2.resolve_right (fun z => a3 (rg_6 z.1 (by omega)))
    rw [a6.1] at hQ
    exact hQ
theorem LK80_4 (hC : CL m s) (hk : k < nD s) (hQ : Q (s (104 + 10 * k + 4)) m) : Mi 80 [.inr (27, 0), .inl (nI k), .inl 4] m Q := by
  have hR := hC.2.1
  have hW := Rp_W hR.1
  obtain ⟨eD, lD⟩ := WF_D hW
  have hN := hR.1.2.1
  have hd := WF_dv hW hk
  obtain ⟨q0, q1, q2, q3, q6, q7, q8, q9, q4⟩ := Rp_d hR.1 hk
  refine T_80 ?_
  rw [hN.2.2.2.2.2.2.2, eD]
  refine i_pos ⟨nI_pos (by omega), nI_lt hk (by omega)⟩ (i_neg (by decide) (i_neg (by decide) (T_14 (i_neg (by decide) (i_neg (by decide) (i_neg (by decide) (i_neg (by decide) (i_pos rfl (⟨inK (by omega) (by omega), ?_⟩)))))))))
  rw [ixK (by omega), q3]
  have l3 := nz_i (dv3 hd) (by omega)
  by_cases a3 : ¬ (s (104 + 10 * k + 3)) = (-6)
  · refine i_pos (l3.mpr a3) ?_
    rw [(q4 a3).1]
    exact hQ
  · refine i_neg (fun z => a3 (l3.mp z)) ?_
    have a6 := hd.2.resolve_right (fun z => a3 (rg_6 z.1 (by omega)))
    rw [a6.2.1] at hQ
    exact hQ
theorem LK80_5 (hC : CL m s) (hk : k < nD s) (hQ : Q (s (104 + 10 * k + 5)) m) : Mi 80 [.inr (27, 0), .inl (nI k), .inl 5] m Q := by
  have hR := hC.2.1
  have hW := Rp_W hR.1
  obtain ⟨eD, lD⟩ := WF_D hW
  have hN := hR.1.2.1
  have hd := WF_dv hW hk
  obtain ⟨q0, q1, q2, q3, q6, q7, q8, q9, q4⟩ := Rp_d hR.1 hk
  refine T_80 ?_
  rw [hN.2.2.2.2.2.2.2, eD]
  refine i_pos ⟨nI_pos (by omega), nI_lt hk (by omega)⟩ (i_neg (by decide) (i_neg (by decide) (T_14 (i_neg (by decide) (i_neg (by decide) (i_neg (by decide) (i_neg (by decide) (i_neg (by decide) (i_pos rfl (⟨inK (by omega) (by omega), ?_⟩))))))))))
  rw [ixK (by omega), q3]
  have l3 := nz_i (dv3 hd) (by omega)
  by_cases a3 : ¬ (s (104 + 10 * k + 3)) = (-6)
  · refine i_pos (l3.mpr a3) ?_
    rw [(q4 a3).2]
    exact hQ
  · refine i_neg (fun z => a3 (l3.mp z)) ?_
    have a6 := hd.2.resolve_right (fun z => a3 (rg_6 z.1 (by omega)))
    rw [a6.2.2.1] at hQ
    exact hQ
theorem LK80_6 (hC : CL m s) (hk : k < nD s) (hQ : Q (s (104 + 10 * k + 6)) m) : Mi 80 [.inr (27, 0), .inl (nI k), .inl 6] m Q := by
  have hR := hC.2.1
  have hW := Rp_W hR.1
  obtain ⟨eD, lD⟩ := WF_D hW
  have hN := hR.1.2.1
  have hd := WF_dv hW hk
  obtain ⟨q0, q1, q2, q3, q6, q7, q8, q9, q4⟩ := Rp_d hR.1 hk
  refine T_80 ?_
  rw [hN.2.2.2.2.2.2.2, eD]
  refine i_pos ⟨nI_pos (by omega), nI_lt hk (by omega)⟩ (i_neg (by decide) (i_neg (by decide) (T_14 (i_neg (by decide) (i_neg (by decide) (i_neg (by decide) (i_neg (by decide) (i_neg (by decide) (i_neg (by decide) (i_pos rfl (⟨inK (by omega) (by omega), ?_⟩)))))))))))
  rw [ixK (by omega), q6]
  have l6 := nz_i (dv6 hd) (by omega)
  by_cases a3 : ¬ (s (104 + 10 * k + 6)) = (-6)
  · refine i_pos (l6.mpr a3) ?_
    rw [nz_n a3]
    exact hQ
  · refine i_neg (fun z => a3 (l6.mp z)) ?_
    rw [Decidable.not_not.mp a3] at hQ
    exact hQ
theorem LK80_7 (hC : CL m s) (hk : k < nD s) (hQ : Q (s (104 + 10 * k + 7)) m) : Mi 80 [.inr (27, 0), .inl (nI k), .inl 7] m Q := by
  have hR := hC.2.1
  have hW := Rp_W hR.1
  obtain ⟨eD, lD⟩ := WF_D hW
  have hN := hR.1.2.1
  have hd := WF_dv hW hk
  obtain ⟨q0, q1, q2, q3, q6, q7, q8, q9, q4⟩ := Rp_d hR.1 hk
  refine T_80 ?_
  rw [hN.2.2.2.2.2.2.2, eD]
  refine i_pos ⟨nI_pos (by omega), nI_lt hk (by omega)⟩ (i_neg (by decide) (i_neg (by decide) (T_14 (i_neg (by decide) (i_neg (by decide) (i_neg (by decide) (i_neg (by decide) (i_neg (by decide) (i_neg (by decide) (i_neg (by decide) (i_pos rfl (⟨inK (by omega) (by omega), ?_⟩))))))))))))
  rw [ixK (by omega), q7]
  exact hQ
theorem LK80_8 (hC : CL m s) (hk : k < nD s) (hQ : Q (s (104 + 10 * k + 8)) m) : Mi 80 [.inr (27, 0), .inl (nI k), .inl 8] m Q := by
  have hR := hC.2.1
  have hW := Rp_W hR.1
  obtain ⟨eD, lD⟩ := WF_D hW
  have hN := hR.1.2.1
  have hd := WF_dv hW hk
  obtain ⟨q0, q1, q2, q3, q6, q7, q8, q9, q4⟩ := Rp_d hR.1 hk
  refine T_80 ?_
  rw [hN.2.2.2.2.2.2.2, eD]
  refine i_pos ⟨nI_pos (by omega), nI_lt hk (by omega)⟩ (i_neg (by decide) (i_neg (by decide) (T_14 (i_neg (by decide) (i_neg (by decide) (i_neg (by decide) (i_neg (by decide) (i_neg (by decide) (i_neg (by decide) (i_neg (by decide) (i_neg (by decide) (i_pos rfl (⟨inK (by omega) (by omega), ?_⟩)))))))))))))
  rw [ixK (by omega), q8]
  exact hQ
theorem LK80_9 (hC : CL m s) (hk : k < nD s) (hQ : Q (s (104 + 10 * k + 9)) m) : Mi 80 [.inr (27, 0), .inl (nI k), .inl 9] m Q := by
  have hR := hC.2.1
  have hW := Rp_W hR.1
  obtain ⟨eD, lD⟩ := WF_D hW
  have hN := hR.1.2.1
  have hd := WF_dv hW hk
  obtain ⟨q0, q1, q2, q3, q6, q7, q8, q9, q4⟩ := Rp_d hR.1 hk
  refine T_80 ?_
  rw [hN.2.2.2.2.2.2.2, eD]
  refine i_pos ⟨nI_pos (by omega), nI_lt hk (by omega)⟩ (i_neg (by decide) (i_neg (by decide) (T_14 (i_neg (by decide) (i_neg (by decide) (i_neg (by decide) (i_neg (by decide) (i_neg (by decide) (i_neg (by decide) (i_neg (by decide) (i_neg (by decide) (i_neg (by decide) (⟨inK (by omega) (by omega), ?_⟩)))))))))))))
  rw [ixK (by omega), q9]
  exact hQ
theorem LK80_10 (hC : CL m s) (hk : k < nD s) (hQ : Q ((s 0 + s 6) - iR (s 0 + nI k) (s 6)) m) : Mi 80 [.inr (27, 0), .inl (nI k), .inl 10] m Q := by
  have hR := hC.2.1
  have hW := Rp_W hR.1
  obtain ⟨eD, lD⟩ := WF_D hW
  have hN := hR.1.2.1
  have hd := WF_dv hW hk
  obtain ⟨q0, q1, q2, q3, q6, q7, q8, q9, q4⟩ := Rp_d hR.1 hk
  refine T_80 ?_
  rw [hN.2.2.2.2.2.2.2, eD]
  refine i_pos ⟨nI_pos (by omega), nI_lt hk (by omega)⟩ (i_neg (by decide) (i_pos rfl (T_46 ?_)))
  rw [hN.1, hN.2.2.2.1]
  exact ⟨hW.2.2.2.2.2.1.2, hQ⟩
theorem LK80_11 (hC : CL m s) (hk : k < nD s) (hQ : Q (-2) m) : Mi 80 [.inr (27, 0), .inl (nI k), .inl 11] m Q := by
  have hR := hC.2.1
  have hW := Rp_W hR.1
  obtain ⟨eD, lD⟩ := WF_D hW
  have hN := hR.1.2.1
  have hd := WF_dv hW hk
  obtain ⟨q0, q1, q2, q3, q6, q7, q8, q9, q4⟩ := Rp_d hR.1 hk
  refine T_80 ?_
  rw [hN.2.2.2.2.2.2.2, eD]
  exact i_pos ⟨nI_pos (by omega), nI_lt hk (by omega)⟩ (i_pos (by decide) hQ)
theorem LK80_x (hC : CL m s) (hQ : Q (-1) m) : Mi 80 [.inr (27, 0), .inl (s 3), .inl 0] m Q := by
  have hN := hC.2.1.1.2.1
  refine T_80 ?_
  rw [hN.2.2.2.2.2.2.2]
  exact i_neg (fun z => Int32.lt_irrefl z.2) hQ
theorem LK78_0 (hC : CL m s) (hk : k < nS s) (hQ : Q (s (8 + 5 * k + 0)) m) : Mi 78 [.inr (27, 0), .inl (nI k), .inl 0] m Q := by
  have hR := hC.2.1
  have hW := Rp_W hR.1
  obtain ⟨eS, lS⟩ := WF_S hW
  have hN := hR.1.2.1
  obtain ⟨s0, s1, s2, s3, s4⟩ := hR.1.2.2.1 k hk
  obtain ⟨w2, ⟨n3, l3, e3⟩, w4⟩ := WF_st hW hk
  refine T_78 ?_
  rw [hN.2.2.2.2.2.1, eS]
  refine i_pos ⟨nI_pos (by omega), nI_lt hk (by omega)⟩ (i_neg (by decide) (i_neg (by decide) (T_57 (i_pos rfl (⟨inK (by omega) (by omega), ?_⟩)))))
  rw [ixK (show k < 2 ^ 31 by omega), s0]
  exact hQ
theorem LK78_1 (hC : CL m s) (hk : k < nS s) (hQ : Q (s (8 + 5 * k + 1)) m) : Mi 78 [.inr (27, 0), .inl (nI k), .inl 1] m Q := by
  have hR := hC.2.1
  have hW := Rp_W hR.1
  obtain ⟨eS, lS⟩ := WF_S hW
  have hN := hR.1.2.1
  obtain ⟨s0, s1, s2, s3, s4⟩ := hR.1.2.2.1 k hk
  obtain ⟨w2, ⟨n3, l3, e3⟩, w4⟩ := WF_st hW hk
  refine T_78 ?_
  rw [hN.2.2.2.2.2.1, eS]
  refine i_pos ⟨nI_pos (by omega), nI_lt hk (by omega)⟩ (i_neg (by decide) (i_neg (by decide) (T_57 (i_neg (by decide) (i_pos rfl (⟨inK (by omega) (by omega), ?_⟩))))))
  rw [ixK (show k < 2 ^ 31 by omega), s1]
  exact hQ
theorem LK78_2 (hC : CL m s) (hk : k < nS s) (hQ : Q (s (8 + 5 * k + 2)) m) : Mi 78 [.inr (27, 0), .inl (nI k), .inl 2] m Q := by
  have hR := hC.2.1
  have hW := Rp_W hR.1
  obtain ⟨eS, lS⟩ := WF_S hW
  have hN := hR.1.2.1
  obtain ⟨s0, s1, s2, s3, s4⟩ := hR.1.2.2.1 k hk
  obtain ⟨w2, ⟨n3, l3, e3⟩, w4⟩ := WF_st hW hk
  refine T_78 ?_
  rw [hN.2.2.2.2.2.1, eS]
  refine i_pos ⟨nI_pos (by omega), nI_lt hk (by omega)⟩ (i_neg (by decide) (i_neg (by decide) (T_57 (i_neg (by decide) (i_neg (by decide) (i_pos rfl (⟨inK (by omega) (by omega), ?_⟩)))))))
  rw [ixK (show k < 2 ^ 31 by omega), s2]
  exact hQ
theorem LK78_3 (hC : CL m s) (hk : k < nS s) (hQ : Q (s (8 + 5 * k + 3)) m) : Mi 78 [.inr (27, 0), .inl (nI k), .inl 3] m Q := by
  have hR := hC.2.1
  have hW := Rp_W hR.1
  obtain ⟨eS, lS⟩ := WF_S hW
  have hN := hR.1.2.1
  obtain ⟨s0, s1, s2, s3, s4⟩ := hR.1.2.2.1 k hk
  obtain ⟨w2, ⟨n3, l3, e3⟩, w4⟩ := WF_st hW hk
  refine T_78 ?_
  rw [hN.2.2.2.2.2.1, eS]
  refine i_pos ⟨nI_pos (by omega), nI_lt hk (by omega)⟩ (i_neg (by decide) (i_neg (by decide) (T_57 (i_neg (by decide) (i_neg (by decide) (i_neg (by decide) (i_pos rfl (⟨inK (by omega) (by omega), ?_⟩))))))))
  rw [ixK (show k < 2 ^ 31 by omega), s3]
  exact hQ
theorem LK78_4 (hC : CL m s) (hk : k < nS s) (hQ : Q (radI (s (8 + 5 * k + 3))) m) : Mi 78 [.inr (27, 0), .inl (nI k), .inl 4] m Q := by
  have hR := hC.2.1
  have hW := Rp_W hR.1
  obtain ⟨eS, lS⟩ := WF_S hW
  have hN := hR.1.2.1
  obtain ⟨s0, s1, s2, s3, s4⟩ := hR.1.2.2.1 k hk
  obtain ⟨w2, ⟨n3, l3, e3⟩, w4⟩ := WF_st hW hk
  refine T_78 ?_
  rw [hN.2.2.2.2.2.1, eS]
  refine i_pos ⟨nI_pos (by omega), nI_lt hk (by omega)⟩ (i_neg (by decide) (i_neg (by decide) (T_57 (i_neg (by decide) (i_neg (by decide) (i_neg (by decide) (i_neg (by decide) (i_pos rfl (⟨inK (by omega) (by omega), ?_⟩)))))))))
  rw [ixK (show k < 2 ^ 31 by omega), s3, e3, ixK (show n3 < 2 ^ 31 by omega), hR.1.1.1 n3 l3]
  rw [e3] at hQ
  exact ⟨inK (by omega) (by omega), hQ⟩
theorem LK78_5 (hC : CL m s) (hk : k < nS s) (hQ : Q (s (8 + 5 * k + 4)) m) : Mi 78 [.inr (27, 0), .inl (nI k), .inl 5] m Q := by
  have hR := hC.2.1
  have hW := Rp_W hR.1
  obtain ⟨eS, lS⟩ := WF_S hW
  have hN := hR.1.2.1
  obtain ⟨s0, s1, s2, s3, s4⟩ := hR.1.2.2.1 k hk
  obtain ⟨w2, ⟨n3, l3, e3⟩, w4⟩ := WF_st hW hk
  refine T_78 ?_
  rw [hN.2.2.2.2.2.1, eS]
  refine i_pos ⟨nI_pos (by omega), nI_lt hk (by omega)⟩ (i_neg (by decide) (i_neg (by decide) (T_57 (i_neg (by decide) (i_neg (by decide) (i_neg (by decide) (i_neg (by decide) (i_neg (by decide) (⟨inK (by omega) (by omega), ?_⟩)))))))))
  rw [ixK (show k < 2 ^ 31 by omega), s4]
  exact hQ
theorem LK78_6 (hC : CL m s) (hk : k < nS s) (hQ : ∀ m', (∀ c d, ¬ (c < 27 ∧ d = 1) → m' c d = m c d) → Q (nI (cntN (mAlone s k) (nD s))) m') : Mi 78 [.inr (27, 0), .inl (nI k), .inl 6] m Q := by
  have hR := hC.2.1
  have hW := Rp_W hR.1
  obtain ⟨eS, lS⟩ := WF_S hW
  have hN := hR.1.2.1
  obtain ⟨s0, s1, s2, s3, s4⟩ := hR.1.2.2.1 k hk
  obtain ⟨w2, ⟨n3, l3, e3⟩, w4⟩ := WF_st hW hk
  refine T_78 ?_
  rw [hN.2.2.2.2.2.1, eS]
  exact i_pos ⟨nI_pos (by omega), nI_lt hk (by omega)⟩ (i_neg (by decide) (i_pos rfl (K_92 hR hk hQ)))
theorem LK78_7 (hC : CL m s) (hk : k < nS s) (hQ : Q (-2) m) : Mi 78 [.inr (27, 0), .inl (nI k), .inl 7] m Q := by
  have hR := hC.2.1
  have hW := Rp_W hR.1
  obtain ⟨eS, lS⟩ := WF_S hW
  have hN := hR.1.2.1
  obtain ⟨s0, s1, s2, s3, s4⟩ := hR.1.2.2.1 k hk
  obtain ⟨w2, ⟨n3, l3, e3⟩, w4⟩ := WF_st hW hk
  refine T_78 ?_
  rw [hN.2.2.2.2.2.1, eS]
  exact i_pos ⟨nI_pos (by omega), nI_lt hk (by omega)⟩ (i_pos (by decide) hQ)
theorem LK78_x (hC : CL m s) (hQ : Q (-1) m) : Mi 78 [.inr (27, 0), .inl (s 1), .inl 0] m Q := by
  have hN := hC.2.1.1.2.1
  refine T_78 ?_
  rw [hN.2.2.2.2.2.1]
  exact i_neg (fun z => Int32.lt_irrefl z.2) hQ
theorem LK79 {t : Nat} (hC : CL m s) (hk : k < nE s) (ht : t < 8) (hQ : Q (if t = 7 then bP ((s (48 + 7 * k + 6)) = 0 ∧ ¬ s 0 < (s (48 + 7 * k + 4)) ∧ s 0 < (s (48 + 7 * k + 5))) else s (48 + 7 * k + t)) m) : Mi 79 [.inr (27, 0), .inl (nI k), .inl (nI t)] m Q := by
  have hR := hC.2.1
  have hW := Rp_W hR.1
  obtain ⟨eE, lE⟩ := WF_E hW
  have hN := hR.1.2.1
  obtain ⟨e0, e1, e2, e3, e4, e5, e6⟩ := hR.1.2.2.2.1 k hk
  refine T_79 ?_
  rw [hN.2.2.2.2.2.2.1, eE, hN.1]
  refine i_pos ⟨nI_pos (by omega), nI_lt hk (by omega)⟩ ?_
  rcases (show t = 0 ∨ t = 1 ∨ t = 2 ∨ t = 3 ∨ t = 4 ∨ t = 5 ∨ t = 6 ∨ t = 7 by omega) with rfl | rfl | rfl | rfl | rfl | rfl | rfl | rfl
  · refine i_neg (by decide) (T_25 (i_pos rfl (⟨inK (by omega) (by omega), ?_⟩)))
    rw [ixK (by omega), e0]
    rw [if_neg (by decide)] at hQ
    exact hQ
  · refine i_neg (by decide) (T_25 (i_neg (by decide) (i_pos rfl (⟨inK (by omega) (by omega), ?_⟩))))
    rw [ixK (by omega), e1]
    rw [if_neg (by decide)] at hQ
    exact hQ
  · refine i_neg (by decide) (T_25 (i_neg (by decide) (i_neg (by decide) (i_pos rfl (⟨inK (by omega) (by omega), ?_⟩)))))
    rw [ixK (by omega), e2]
    rw [if_neg (by decide)] at hQ
    exact hQ
  · refine i_neg (by decide) (T_25 (i_neg (by decide) (i_neg (by decide) (i_neg (by decide) (i_pos rfl (⟨inK (by omega) (by omega), ?_⟩))))))
    rw [ixK (by omega), e3]
    rw [if_neg (by decide)] at hQ
    exact hQ
  · refine i_neg (by decide) (T_25 (i_neg (by decide) (i_neg (by decide) (i_neg (by decide) (i_neg (by decide) (i_pos rfl (⟨inK (by omega) (by omega), ?_⟩)))))))
    rw [ixK (by omega), e4]
    rw [if_neg (by decide)] at hQ
    exact hQ
  · refine i_neg (by decide) (T_25 (i_neg (by decide) (i_neg (by decide) (i_neg (by decide) (i_neg (by decide) (i_neg (by decide) (i_pos rfl (⟨inK (by omega) (by omega), ?_⟩))))))))
    rw [ixK (by omega), e5]
    rw [if_neg (by decide)] at hQ
    exact hQ
  · refine i_neg (by decide) (T_25 (i_neg (by decide) (i_neg (by decide) (i_neg (by decide) (i_neg (by decide) (i_neg (by decide) (i_neg (by decide) (i_pos rfl (⟨inK (by omega) (by omega), ?_⟩)))))))))
    rw [ixK (by omega), e6]
    rw [if_neg (by decide)] at hQ
    exact hQ
  · refine i_neg (by decide) (T_25 (i_neg (by decide) (i_neg (by decide) (i_neg (by decide) (i_neg (by decide) (i_neg (by decide) (i_neg (by decide) (i_neg (by decide) (⟨inK (by omega) (by omega), ?_⟩)))))))))
    rw [ixK (by omega), e4, e5, e6]
    rw [if_pos rfl] at hQ
    by_cases ho : (s (48 + 7 * k + 6)) = 0 ∧ ¬ s 0 < (s (48 + 7 * k + 4)) ∧ s 0 < (s (48 + 7 * k + 5))
    · rw [bP_t ho] at hQ; exact i_pos ho hQ
    · rw [bP_f ho] at hQ; exact i_neg ho hQ
theorem LK79_x (hC : CL m s) (hQ : Q (-1) m) : Mi 79 [.inr (27, 0), .inl (s 2), .inl 0] m Q := by
  have hN := hC.2.1.1.2.1
  refine T_79 ?_
  rw [hN.2.2.2.2.2.2.1]
  exact i_neg (fun z => Int32.lt_irrefl z.2) hQ
theorem LK84 (hC : CL m s) (hc : k < 8) (hQ : Q (nI (mOn3 s (nI k))) m) : Mi 84 [.inr (27, 0), .inl (nI k)] m Q := by
  refine T_84 (i_neg ?_ (K_16 hC.2.1.1 ⟨k, by omega, rfl⟩ hQ))
  rintro (z | z)
  · exact nI_pos (by omega) z
  · exact nI_nlt (a := 7) (b := k) (by omega) (by omega) z
theorem LK84_x (hQ : Q (-2) m) : Mi 84 [.inr (27, 0), .inl 8] m Q := T_84 (i_pos (by decide) hQ)
theorem LK85_0 (hC : CL m s) (hQ : Q (s 0) m) : Mi 85 [.inr (27, 0), .inl 0] m Q := by
  have hR := hC.2.1
  have hN := hR.1.2.1
  refine T_85 (i_neg (by decide) (i_neg (by decide) (i_neg (by decide) (T_55 (i_pos rfl (?_))))))
  rw [hN.1]
  exact hQ
theorem LK85_1 (hC : CL m s) (hQ : Q (s 1) m) : Mi 85 [.inr (27, 0), .inl 1] m Q := by
  have hR := hC.2.1
  have hN := hR.1.2.1
  refine T_85 (i_neg (by decide) (i_neg (by decide) (i_neg (by decide) (T_55 (i_neg (by decide) (i_pos rfl (?_)))))))
  rw [hN.2.2.2.2.2.1]
  exact hQ
theorem LK85_2 (hC : CL m s) (hQ : Q (s 2) m) : Mi 85 [.inr (27, 0), .inl 2] m Q := by
  have hR := hC.2.1
  have hN := hR.1.2.1
  refine T_85 (i_neg (by decide) (i_neg (by decide) (i_neg (by decide) (T_55 (i_neg (by decide) (i_neg (by decide) (i_pos rfl (?_))))))))
  rw [hN.2.2.2.2.2.2.1]
  exact hQ
theorem LK85_3 (hC : CL m s) (hQ : Q (s 3) m) : Mi 85 [.inr (27, 0), .inl 3] m Q := by
  have hR := hC.2.1
  have hN := hR.1.2.1
  refine T_85 (i_neg (by decide) (i_neg (by decide) (i_neg (by decide) (T_55 (i_neg (by decide) (i_neg (by decide) (i_neg (by decide) (i_pos rfl (?_)))))))))
  rw [hN.2.2.2.2.2.2.2]
  exact hQ
theorem LK85_4 (hC : CL m s) (hQ : Q (sumN (fun k => (s (8 + 5 * k + 4))) (nS s)) m) : Mi 85 [.inr (27, 0), .inl 4] m Q := by
  have hR := hC.2.1
  have hN := hR.1.2.1
  exact T_85 (i_neg (by decide) (i_neg (by decide) (i_neg (by decide) (T_55 (i_neg (by decide) (i_neg (by decide) (i_neg (by decide) (i_neg (by decide) (i_pos rfl (K_58 hR.1 hQ))))))))))
theorem LK85_5 (hC : CL m s) (hQ : Q (nI (mLs s)) m) : Mi 85 [.inr (27, 0), .inl 5] m Q := by
  have hR := hC.2.1
  have hN := hR.1.2.1
  exact T_85 (i_neg (by decide) (i_neg (by decide) (i_neg (by decide) (T_55 (i_neg (by decide) (i_neg (by decide) (i_neg (by decide) (i_neg (by decide) (i_neg (by decide) (i_pos rfl (K_15 hR.1 hQ)))))))))))
theorem LK85_6 (hC : CL m s) (hQ : Q (nI (mNot s)) m) : Mi 85 [.inr (27, 0), .inl 6] m Q := by
  have hR := hC.2.1
  have hN := hR.1.2.1
  exact T_85 (i_neg (by decide) (i_neg (by decide) (i_neg (by decide) (T_55 (i_neg (by decide) (i_neg (by decide) (i_neg (by decide) (i_neg (by decide) (i_neg (by decide) (i_neg (by decide) (i_pos rfl (K_17 hR.1 hQ))))))))))))
theorem LK85_7 (hC : CL m s) (hQ : Q (sumN (fun k => (s (104 + 10 * k + 7))) (nD s)) m) : Mi 85 [.inr (27, 0), .inl 7] m Q := by
  have hR := hC.2.1
  have hN := hR.1.2.1
  exact T_85 (i_neg (by decide) (i_neg (by decide) (i_neg (by decide) (T_55 (i_neg (by decide) (i_neg (by decide) (i_neg (by decide) (i_neg (by decide) (i_neg (by decide) (i_neg (by decide) (i_neg (by decide) (i_pos rfl (K_18_23 hR.1 hQ)))))))))))))
theorem LK85_8 (hC : CL m s) (hQ : Q (sumN (fun k => (s (104 + 10 * k + 8))) (nD s)) m) : Mi 85 [.inr (27, 0), .inl 8] m Q := by
  have hR := hC.2.1
  have hN := hR.1.2.1
  exact T_85 (i_neg (by decide) (i_neg (by decide) (i_neg (by decide) (T_55 (i_neg (by decide) (i_neg (by decide) (i_neg (by decide) (i_neg (by decide) (i_neg (by decide) (i_neg (by decide) (i_neg (by decide) (i_neg (by decide) (i_pos rfl (K_18_24 hR.1 hQ))))))))))))))
theorem LK85_9 (hC : CL m s) (hQ : Q (sumN (fun k => (s (104 + 10 * k + 9))) (nD s)) m) : Mi 85 [.inr (27, 0), .inl 9] m Q := by
  have hR := hC.2.1
  have hN := hR.1.2.1
  exact T_85 (i_neg (by decide) (i_neg (by decide) (i_neg (by decide) (T_55 (i_neg (by decide) (i_neg (by decide) (i_neg (by decide) (i_neg (by decide) (i_neg (by decide) (i_neg (by decide) (i_neg (by decide) (i_neg (by decide) (i_neg (by decide) (i_pos rfl (K_18_25 hR.1 hQ)))))))))))))))
theorem LK85_10 (hC : CL m s) (hQ : Q (s 4) m) : Mi 85 [.inr (27, 0), .inl 10] m Q := by
  have hR := hC.2.1
  have hN := hR.1.2.1
  refine T_85 (i_neg (by decide) (i_neg (by decide) (i_neg (by decide) (T_55 (i_neg (by decide) (i_neg (by decide) (i_neg (by decide) (i_neg (by decide) (i_neg (by decide) (i_neg (by decide) (i_neg (by decide) (i_neg (by decide) (i_neg (by decide) (i_neg (by decide) (i_pos rfl (?_))))))))))))))))
  rw [hN.2.1]
  exact hQ
theorem LK85_12 (hC : CL m s) (hQ : Q 0 m) : Mi 85 [.inr (27, 0), .inl 12] m Q := by
  have hR := hC.2.1
  have hN := hR.1.2.1
  refine T_85 (i_neg (by decide) (i_neg (by decide) (i_pos rfl ?_)))
  rw [hC.2.2]
  exact hQ
theorem LK85_13 (hC : CL m s) (hQ : Q (s 5) m) : Mi 85 [.inr (27, 0), .inl 13] m Q := by
  have hR := hC.2.1
  have hN := hR.1.2.1
  refine T_85 (i_neg (by decide) (i_neg (by decide) (i_neg (by decide) (T_55 (i_neg (by decide) (i_neg (by decide) (i_neg (by decide) (i_neg (by decide) (i_neg (by decide) (i_neg (by decide) (i_neg (by decide) (i_neg (by decide) (i_neg (by decide) (i_neg (by decide) (i_neg (by decide) (i_neg (by decide) (i_neg (by decide) (i_pos rfl (?_)))))))))))))))))))
  rw [hN.2.2.1]
  exact hQ
theorem LK85_14 (hC : CL m s) (hQ : Q (s 6) m) : Mi 85 [.inr (27, 0), .inl 14] m Q := by
  have hR := hC.2.1
  have hN := hR.1.2.1
  refine T_85 (i_neg (by decide) (i_neg (by decide) (i_neg (by decide) (T_55 (i_neg (by decide) (i_neg (by decide) (i_neg (by decide) (i_neg (by decide) (i_neg (by decide) (i_neg (by decide) (i_neg (by decide) (i_neg (by decide) (i_neg (by decide) (i_neg (by decide) (i_neg (by decide) (i_neg (by decide) (i_neg (by decide) (i_neg (by decide) (i_pos rfl (?_))))))))))))))))))))
  rw [hN.2.2.2.1]
  exact hQ
theorem LK85_15 (hC : CL m s) (hQ : Q (s 7) m) : Mi 85 [.inr (27, 0), .inl 15] m Q := by
  have hR := hC.2.1
  have hN := hR.1.2.1
  refine T_85 (i_neg (by decide) (i_neg (by decide) (i_neg (by decide) (T_55 (i_neg (by decide) (i_neg (by decide) (i_neg (by decide) (i_neg (by decide) (i_neg (by decide) (i_neg (by decide) (i_neg (by decide) (i_neg (by decide) (i_neg (by decide) (i_neg (by decide) (i_neg (by decide) (i_neg (by decide) (i_neg (by decide) (i_neg (by decide) (i_neg (by decide) (?_))))))))))))))))))))
  rw [hN.2.2.2.2.1]
  exact hQ
theorem LK85_16 (hQ : Q (-2) m) : Mi 85 [.inr (27, 0), .inl 16] m Q := T_85 (i_pos (by decide) hQ)
theorem LK85_m (hQ : Q (-2) m) : Mi 85 [.inr (27, 0), .inl (-1)] m Q := T_85 (i_pos (by decide) hQ)
end LKS
