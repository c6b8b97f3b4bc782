/-! calls that look: properties, numbers -/
section LK1
variable {m : aM} {s : aS0} {b k : Nat} {v x y p ch : Int32} {Q : Int32 → aM → Prop} {Qv : aM → Prop}
theorem toS {qr : Nat} {aR : List aV} (hs : m 35 0 = s) (h : Mi qr aR (setS m s) Q) : Mi qr aR m Q := by
  rw [← hs, S_self] at h
  exact h
/-- what a looking call needs -/
def Look (qa : Nat) (aC : List aV) (qr : Nat) (aR : List aV) : Prop := ∀ (m : aM) (s : aS0) (Q : Int32 → Int32 → aM → Prop), RpH m 0 s → Hi m → Tx m → (∀ v, Q v v (setS m s)) → Mi qa aC m (fun v m1 => (m1 = m ∧ Mi qr aR (setS m s) (fun w m2 => Q v w m2)))
theorem Look_Same {qa : Nat} {aC : List aV} {qr : Nat} {aR : List aV} (h : Look qa aC qr aR) : Same qa aC qr aR := by
  intro m Q hS hQ
  refine Mi_mono (h m (m 35 0) Q hS.2.2.2.2 hS.1 hS.2.2.1 (fun v => by rw [S_self]; exact hQ v m hS)) ?_
  intro v m1 h1
  obtain ⟨rfl, h2⟩ := h1
  rwa [S_self] at h2
theorem sumN_K {c f : Nat} (hR : Rp m b s) (hc : ∀ k, k < nD s → m c b k = s (104 + 10 * k + f)) : ∀ n, n ≤ nD s → sumN (fun k => m c b k) n = sumN (fun k => s (104 + 10 * k + f)) n := fun n hn => sumN_congr (fun k hk => hc k (by omega))
theorem z_add : (0 : Int32) + v = v := Int32.zero_add v
theorem K_18_23 (hR : Rp m b s) (hQ : Q (sumN (fun k => (s (104 + 10 * k + 7))) (nD s)) m) : Mi 18 [.inr (3, b), .inr (23, b)] m Q := by
  have lD := Rp_ld hR
  refine T_18_23 ?_
  refine dn0 (n := nD s) (P := fun k => H_18_23_4 b (sumN (fun k => (s (104 + 10 * k + 7))) k) (nI k) m Q) ?_ ?_
  · refine T_18_23_4 ?_
    rw [Rp_nd hR]
    exact i_ge (Nat.le_refl _) (by omega) hQ
  · intro k hk ih
    refine T_18_23_4 ?_
    rw [Rp_nd hR]
    refine i_lt hk (by omega) ?_
    refine i_pos (nI_lt (b := 16) (by omega) (by omega)) ⟨inK (by omega) (by omega), ?_⟩
    obtain ⟨-, -, -, -, -, q7, q8, q9, -⟩ := Rp_d hR hk
    rw [ixK (by omega), q7, nI_1]
    exact ih
theorem R_167_7 (hC : C3 s) (hQ : Q (sumN (fun k => (s (104 + 10 * k + 7))) (nD s)) (setS m s)) : Mi 167 [.inr (34, 0), .inl 7] (setS m s) Q := by
  obtain ⟨-, -, e1, l1⟩ := hC
  refine T_167 ?_
  refine dn0 (n := nD s) (P := fun k => H_167_4 7 (sumN (fun k => (s (104 + 10 * k + 7))) k) (nI k) (setS m s) Q) ?_ ?_
  · refine T_167_4 ?_
    rw [S_s, e1]
    exact i_ge (Nat.le_refl _) (by omega) hQ
  · intro k hk ih
    have hk16 : k < 16 := by omega
    refine T_167_4 ?_
    rw [S_s, e1]
    refine i_lt hk (by omega) ?_
    rw [ixD7 hk16, S_s, nI_1]
    exact ⟨inD7 hk16, ih⟩
theorem K_18_24 (hR : Rp m b s) (hQ : Q (sumN (fun k => (s (104 + 10 * k + 8))) (nD s)) m) : Mi 18 [.inr (3, b), .inr (24, b)] m Q := by
  have lD := Rp_ld hR
  refine T_18_24 ?_
  refine dn0 (n := nD s) (P := fun k => H_18_24_4 b (sumN (fun k => (s (104 + 10 * k + 8))) k) (nI k) m Q) ?_ ?_
  · refine T_18_24_4 ?_
    rw [Rp_nd hR]
    exact i_ge (Nat.le_refl _) (by omega) hQ
  · intro k hk ih
    refine T_18_24_4 ?_
    rw [Rp_nd hR]
    refine i_lt hk (by omega) ?_
    refine i_pos (nI_lt (b := 16) (by omega) (by omega)) ⟨inK (by omega) (by omega), ?_⟩
    obtain ⟨-, -, -, -, -, q7, q8, q9, -⟩ := Rp_d hR hk
    rw [ixK (by omega), q8, nI_1]
    exact ih
theorem R_167_8 (hC : C3 s) (hQ : Q (sumN (fun k => (s (104 + 10 * k + 8))) (nD s)) (setS m s)) : Mi 167 [.inr (34, 0), .inl 8] (setS m s) Q := by
  obtain ⟨-, -, e1, l1⟩ := hC
  refine T_167 ?_
  refine dn0 (n := nD s) (P := fun k => H_167_4 8 (sumN (fun k => (s (104 + 10 * k + 8))) k) (nI k) (setS m s) Q) ?_ ?_
  · refine T_167_4 ?_
    rw [S_s, e1]
    exact i_ge (Nat.le_refl _) (by omega) hQ
  · intro k hk ih
    have hk16 : k < 16 := by omega
    refine T_167_4 ?_
    rw [S_s, e1]
    refine i_lt hk (by omega) ?_
    rw [ixD8 hk16, S_s, nI_1]
    exact ⟨inD8 hk16, ih⟩
theorem K_18_25 (hR : Rp m b s) (hQ : Q (sumN (fun k => (s (104 + 10 * k + 9))) (nD s)) m) : Mi 18 [.inr (3, b), .inr (25, b)] m Q := by
  have lD := Rp_ld hR
  refine T_18_25 ?_
  refine dn0 (n := nD s) (P := fun k => H_18_25_4 b (sumN (fun k => (s (104 + 10 * k + 9))) k) (nI k) m Q) ?_ ?_
  · refine T_18_25_4 ?_
    rw [Rp_nd hR]
    exact i_ge (Nat.le_refl _) (by omega) hQ
  · intro k hk ih
    refine T_18_25_4 ?_
    rw [Rp_nd hR]
    refine i_lt hk (by omega) ?_
    refine i_pos (nI_lt (b := 16) (by omega) (by omega)) ⟨inK (by omega) (by omega), ?_⟩
    obtain ⟨-, -, -, -, -, q7, q8, q9, -⟩ := Rp_d hR hk
    rw [ixK (by omega), q9, nI_1]
    exact ih
theorem R_167_9 (hC : C3 s) (hQ : Q (sumN (fun k => (s (104 + 10 * k + 9))) (nD s)) (setS m s)) : Mi 167 [.inr (34, 0), .inl 9] (setS m s) Q := by
  obtain ⟨-, -, e1, l1⟩ := hC
  refine T_167 ?_
  refine dn0 (n := nD s) (P := fun k => H_167_4 9 (sumN (fun k => (s (104 + 10 * k + 9))) k) (nI k) (setS m s) Q) ?_ ?_
  · refine T_167_4 ?_
    rw [S_s, e1]
    exact i_ge (Nat.le_refl _) (by omega) hQ
  · intro k hk ih
    have hk16 : k < 16 := by omega
    refine T_167_4 ?_
    rw [S_s, e1]
    refine i_lt hk (by omega) ?_
    rw [ixD9 hk16, S_s, nI_1]
    exact ⟨inD9 hk16, ih⟩
theorem K_58 (hR : Rp m b s) (hQ : Q (sumN (fun k => (s (8 + 5 * k + 4))) (nS s)) m) : Mi 58 [.inr (1, b)] m Q := by
  obtain ⟨eS, lS⟩ := WF_S (Rp_W hR)
  refine T_58 ?_
  refine dn0 (n := nS s) (P := fun k => H_58_4 b (sumN (fun k => (s (8 + 5 * k + 4))) k) (nI k) m Q) ?_ ?_
  · refine T_58_4 ?_
    rw [hR.2.1.2.2.2.2.2.1, eS]
    exact i_ge (Nat.le_refl _) (by omega) hQ
  · intro k hk ih
    refine T_58_4 ?_
    rw [hR.2.1.2.2.2.2.2.1, eS]
    refine i_lt hk (by omega) ⟨inK (by omega) (by omega), ?_⟩
    rw [ixK (by omega), (hR.2.2.1 k hk).2.2.2.2, nI_1]
    exact ih
theorem R_168 (hC : C3 s) (hQ : Q (sumN (fun k => (s (8 + 5 * k + 4))) (nS s)) (setS m s)) : Mi 168 [.inr (34, 0)] (setS m s) Q := by
  obtain ⟨⟨e1, l1⟩, -⟩ := hC
  refine T_168 ?_
  refine dn0 (n := nS s) (P := fun k => H_168_4 (sumN (fun k => (s (8 + 5 * k + 4))) k) (nI k) (setS m s) Q) ?_ ?_
  · refine T_168_4 ?_
    rw [S_s, e1]
    exact i_ge (Nat.le_refl _) (by omega) hQ
  · intro k hk ih
    have hk8 : k < 8 := by omega
    refine T_168_4 ?_
    rw [S_s, e1]
    refine i_lt hk (by omega) ?_
    rw [ixS4 hk8, S_s, nI_1]
    exact ⟨inS4 hk8, ih⟩
theorem E_total : Same 85 [.inr (27, 0), .inl x] 169 [.inr (34, 0), .inl x] := by
  refine Look_Same ?_
  intro m s Q hR hH hT hq
  have hW := Rp_W hR.1
  have hC := WF_C hW
  have hN := hR.1.2.1
  refine T_85 ?_
  by_cases h1 : x < 0 ∨ 15 < x
  · refine i_pos h1 ⟨rfl, T_169 ?_⟩
    refine i_neg (fun z => by rw [z] at h1; exact absurd h1 (by decide)) ?_
    refine i_neg (fun z => by rw [z] at h1; exact absurd h1 (by decide)) ?_
    refine i_neg (fun z => by rw [z] at h1; exact absurd h1 (by decide)) ?_
    refine i_neg (fun z => by rw [z] at h1; exact absurd h1 (by decide)) ?_
    refine i_neg (fun z => by rw [z] at h1; exact absurd h1 (by decide)) ?_
    refine i_neg (fun z => by rw [z] at h1; exact absurd h1 (by decide)) ?_
    refine i_neg (fun z => by rw [z] at h1; exact absurd h1 (by decide)) ?_
    refine i_neg (fun z => by rw [z] at h1; exact absurd h1 (by decide)) ?_
    refine i_neg (fun z => by rw [z] at h1; exact absurd h1 (by decide)) ?_
    refine i_neg (fun z => by rw [z] at h1; exact absurd h1 (by decide)) ?_
    refine i_neg (fun z => by rw [z] at h1; exact absurd h1 (by decide)) ?_
    refine i_neg (fun z => by rw [z] at h1; exact absurd h1 (by decide)) ?_
    refine i_neg (fun z => by rw [z] at h1; exact absurd h1 (by decide)) ?_
    refine i_neg (fun z => by rw [z] at h1; exact absurd h1 (by decide)) ?_
    refine i_neg (fun z => by rw [z] at h1; exact absurd h1 (by decide)) ?_
    refine i_neg (fun z => by rw [z] at h1; exact absurd h1 (by decide)) ?_
    exact hq _
  refine i_neg h1 ?_
  obtain ⟨t, lt, rfl⟩ := rg_of (B := 15) (by omega) h1
  obtain ⟨o, c, rows, ⟨-, -, -, a4, -⟩, -, b2, -⟩ := hH
  obtain ⟨l, -, t1, t2, -⟩ := hT
  rcases (show t = 0 ∨ t = 1 ∨ t = 2 ∨ t = 3 ∨ t = 4 ∨ t = 5 ∨ t = 6 ∨ t = 7 ∨ t = 8 ∨ t = 9 ∨ t = 10 ∨ t = 11 ∨ t = 12 ∨ t = 13 ∨ t = 14 ∨ t = 15 by omega) with rfl | rfl | rfl | rfl | rfl | rfl | rfl | rfl | rfl | rfl | rfl | rfl | rfl | rfl | rfl | rfl
  · refine i_neg (by decide) (i_neg (by decide) (T_55 (i_pos (by decide) ?_)))
    rw [hN.1]
    refine ⟨rfl, T_169 (i_pos (by decide) ?_)⟩
    rw [ixK (by omega), S_s]
    exact ⟨inK (by omega) (by omega), hq _⟩
  · refine i_neg (by decide) (i_neg (by decide) (T_55 (i_neg (by decide) (i_pos (by decide) ?_))))
    rw [hN.2.2.2.2.2.1]
    refine ⟨rfl, T_169 (i_neg (by decide) (i_pos (by decide) ?_))⟩
    rw [ixK (by omega), S_s]
    exact ⟨inK (by omega) (by omega), hq _⟩
  · refine i_neg (by decide) (i_neg (by decide) (T_55 (i_neg (by decide) (i_neg (by decide) (i_pos (by decide) ?_)))))
    rw [hN.2.2.2.2.2.2.1]
    refine ⟨rfl, T_169 (i_neg (by decide) (i_neg (by decide) (i_pos (by decide) ?_)))⟩
    rw [ixK (by omega), S_s]
    exact ⟨inK (by omega) (by omega), hq _⟩
  · refine i_neg (by decide) (i_neg (by decide) (T_55 (i_neg (by decide) (i_neg (by decide) (i_neg (by decide) (i_pos (by decide) ?_))))))
    rw [hN.2.2.2.2.2.2.2]
    refine ⟨rfl, T_169 (i_neg (by decide) (i_neg (by decide) (i_neg (by decide) (i_pos (by decide) ?_))))⟩
    rw [ixK (by omega), S_s]
    exact ⟨inK (by omega) (by omega), hq _⟩
  · refine i_neg (by decide) (i_neg (by decide) (T_55 (i_neg (by decide) (i_neg (by decide) (i_neg (by decide) (i_neg (by decide) (i_pos (by decide) ?_)))))))
    refine K_58 hR.1 ⟨rfl, T_169 (i_neg (by decide) (i_neg (by decide) (i_neg (by decide) (i_neg (by decide) (i_pos (by decide) ?_)))))⟩
    exact R_168 hC (hq _)
  · refine i_neg (by decide) (i_neg (by decide) (T_55 (i_neg (by decide) (i_neg (by decide) (i_neg (by decide) (i_neg (by decide) (i_neg (by decide) (i_pos (by decide) ?_))))))))
    refine K_15 hR.1 ⟨rfl, T_169 (i_neg (by decide) (i_neg (by decide) (i_neg (by decide) (i_neg (by decide) (i_neg (by decide) (i_pos (by decide) ?_))))))⟩
    exact R_128 hC (hq _)
  · refine i_neg (by decide) (i_neg (by decide) (T_55 (i_neg (by decide) (i_neg (by decide) (i_neg (by decide) (i_neg (by decide) (i_neg (by decide) (i_neg (by decide) (i_pos (by decide) ?_)))))))))
    refine K_17 hR.1 ⟨rfl, T_169 (i_neg (by decide) (i_neg (by decide) (i_neg (by decide) (i_neg (by decide) (i_neg (by decide) (i_neg (by decide) (i_pos (by decide) ?_)))))))⟩
    exact R_127 hC (hq _)
  · refine i_neg (by decide) (i_neg (by decide) (T_55 (i_neg (by decide) (i_neg (by decide) (i_neg (by decide) (i_neg (by decide) (i_neg (by decide) (i_neg (by decide) (i_neg (by decide) (i_pos (by decide) ?_))))))))))
    refine K_18_23 hR.1 ⟨rfl, T_169 (i_neg (by decide) (i_neg (by decide) (i_neg (by decide) (i_neg (by decide) (i_neg (by decide) (i_neg (by decide) (i_neg (by decide) (i_pos (by decide) ?_))))))))⟩
    exact R_167_7 hC (hq _)
  · refine i_neg (by decide) (i_neg (by decide) (T_55 (i_neg (by decide) (i_neg (by decide) (i_neg (by decide) (i_neg (by decide) (i_neg (by decide) (i_neg (by decide) (i_neg (by decide) (i_neg (by decide) (i_pos (by decide) ?_)))))))))))
    refine K_18_24 hR.1 ⟨rfl, T_169 (i_neg (by decide) (i_neg (by decide) (i_neg (by decide) (i_neg (by decide) (i_neg (by decide) (i_neg (by decide) (i_neg (by decide) (i_neg (by decide) (i_pos (by decide) ?_)))))))))⟩
    exact R_167_8 hC (hq _)
  · refine i_neg (by decide) (i_neg (by decide) (T_55 (i_neg (by decide) (i_neg (by decide) (i_neg (by decide) (i_neg (by decide) (i_neg (by decide) (i_neg (by decide) (i_neg (by decide) (i_neg (by decide) (i_neg (by decide) (i_pos (by decide) ?_))))))))))))
    refine K_18_25 hR.1 ⟨rfl, T_169 (i_neg (by decide) (i_neg (by decide) (i_neg (by decide) (i_neg (by decide) (i_neg (by decide) (i_neg (by decide) (i_neg (by decide) (i_neg (by decide) (i_neg (by decide) (i_pos (by decide) ?_))))))))))⟩
    exact R_167_9 hC (hq _)
  · refine i_neg (by decide) (i_neg (by decide) (T_55 (i_neg (by decide) (i_neg (by decide) (i_neg (by decide) (i_neg (by decide) (i_neg (by decide) (i_neg (by decide) (i_neg (by decide) (i_neg (by decide) (i_neg (by decide) (i_neg (by decide) (i_pos (by decide) ?_)))))))))))))
    rw [hN.2.1]
    refine ⟨rfl, T_169 (i_neg (by decide) (i_neg (by decide) (i_neg (by decide) (i_neg (by decide) (i_neg (by decide) (i_neg (by decide) (i_neg (by decide) (i_neg (by decide) (i_neg (by decide) (i_neg (by decide) (i_pos (by decide) ?_)))))))))))⟩
    rw [S_s]
    exact hq _
  · refine i_pos (by decide) ?_
    rw [a4]
    refine ⟨rfl, T_169 (i_neg (by decide) (i_neg (by decide) (i_neg (by decide) (i_neg (by decide) (i_neg (by decide) (i_neg (by decide) (i_neg (by decide) (i_neg (by decide) (i_neg (by decide) (i_neg (by decide) (i_neg (by decide) (i_pos (by decide) ?_))))))))))))⟩
    rw [setS_o (by omega), b2]
    exact hq _
  · refine i_neg (by decide) (i_pos (by decide) ?_)
    rw [t1]
    refine ⟨rfl, T_169 (i_neg (by decide) (i_neg (by decide) (i_neg (by decide) (i_neg (by decide) (i_neg (by decide) (i_neg (by decide) (i_neg (by decide) (i_neg (by decide) (i_neg (by decide) (i_neg (by decide) (i_neg (by decide) (i_neg (by decide) (i_pos (by decide) ?_)))))))))))))⟩
    rw [setS_o (by omega), t2]
    exact hq _
  · refine i_neg (by decide) (i_neg (by decide) (T_55 (i_neg (by decide) (i_neg (by decide) (i_neg (by decide) (i_neg (by decide) (i_neg (by decide) (i_neg (by decide) (i_neg (by decide) (i_neg (by decide) (i_neg (by decide) (i_neg (by decide) (i_neg (by decide) (i_neg (by decide) (i_neg (by decide) (i_pos (by decide) ?_))))))))))))))))
    rw [hN.2.2.1]
    refine ⟨rfl, T_169 (i_neg (by decide) (i_neg (by decide) (i_neg (by decide) (i_neg (by decide) (i_neg (by decide) (i_neg (by decide) (i_neg (by decide) (i_neg (by decide) (i_neg (by decide) (i_neg (by decide) (i_neg (by decide) (i_neg (by decide) (i_neg (by decide) (i_pos (by decide) ?_))))))))))))))⟩
    rw [show ((5 : Int32) + nI 13) - 13 = nI 5 by decide, ixK (by omega), S_s]
    exact ⟨inK (by omega) (by omega), hq _⟩
  · refine i_neg (by decide) (i_neg (by decide) (T_55 (i_neg (by decide) (i_neg (by decide) (i_neg (by decide) (i_neg (by decide) (i_neg (by decide) (i_neg (by decide) (i_neg (by decide) (i_neg (by decide) (i_neg (by decide) (i_neg (by decide) (i_neg (by decide) (i_neg (by decide) (i_neg (by decide) (i_neg (by decide) (i_pos (by decide) ?_)))))))))))))))))
    rw [hN.2.2.2.1]
    refine ⟨rfl, T_169 (i_neg (by decide) (i_neg (by decide) (i_neg (by decide) (i_neg (by decide) (i_neg (by decide) (i_neg (by decide) (i_neg (by decide) (i_neg (by decide) (i_neg (by decide) (i_neg (by decide) (i_neg (by decide) (i_neg (by decide) (i_neg (by decide) (i_neg (by decide) (i_pos (by decide) ?_)))))))))))))))⟩
    rw [show ((5 : Int32) + nI 14) - 13 = nI 6 by decide, ixK (by omega), S_s]
    exact ⟨inK (by omega) (by omega), hq _⟩
  · refine i_neg (by decide) (i_neg (by decide) (T_55 (i_neg (by decide) (i_neg (by decide) (i_neg (by decide) (i_neg (by decide) (i_neg (by decide) (i_neg (by decide) (i_neg (by decide) (i_neg (by decide) (i_neg (by decide) (i_neg (by decide) (i_neg (by decide) (i_neg (by decide) (i_neg (by decide) (i_neg (by decide) (i_neg (by decide) (?_))))))))))))))))))
    rw [hN.2.2.2.2.1]
    refine ⟨rfl, T_169 (i_neg (by decide) (i_neg (by decide) (i_neg (by decide) (i_neg (by decide) (i_neg (by decide) (i_neg (by decide) (i_neg (by decide) (i_neg (by decide) (i_neg (by decide) (i_neg (by decide) (i_neg (by decide) (i_neg (by decide) (i_neg (by decide) (i_neg (by decide) (i_neg (by decide) (i_pos (by decide) ?_))))))))))))))))⟩
    rw [show ((5 : Int32) + nI 15) - 13 = nI 7 by decide, ixK (by omega), S_s]
    exact ⟨inK (by omega) (by omega), hq _⟩
theorem E_event : Same 79 [.inr (27, 0), .inl x, .inl y] 159 [.inr (34, 0), .inl x, .inl y] := by
  refine Look_Same ?_
  intro m s Q hR hH hT hq
  have hW := Rp_W hR.1
  obtain ⟨eE, lE⟩ := WF_E hW
  have hN := hR.1.2.1
  refine T_79 ?_
  rw [hN.2.2.2.2.2.2.1]
  by_cases h1 : ¬ x < 0 ∧ x < s 2
  · refine i_pos h1 ?_
    have h1' := h1
    obtain ⟨k, hk, rfl⟩ := has_nI (eE ▸ h1) (by omega)
    have hk8 : k < 8 := by omega
    obtain ⟨e0, e1, e2, e3, e4, e5, e6⟩ := hR.1.2.2.2.1 k hk
    obtain ⟨w4, w5, w6⟩ := WF_ev hW hk
    by_cases h2 : y < 0 ∨ 7 < y
    · refine i_pos h2 ⟨rfl, T_159 ?_⟩
      rw [S_s]
      exact i_pos h1' (i_neg (fun z => nin.mp z h2) (hq _))
    refine i_neg h2 ?_
    have h2' := nin.mpr h2
    obtain ⟨t, lt, rfl⟩ := rg_of (B := 7) (by omega) h2
    rw [hN.1]
    rcases (show t = 0 ∨ t = 1 ∨ t = 2 ∨ t = 3 ∨ t = 4 ∨ t = 5 ∨ t = 6 ∨ t = 7 by omega) with rfl | rfl | rfl | rfl | rfl | rfl | rfl | rfl
    · refine T_25 (i_pos (by decide) ⟨inK (by omega) (by omega), rfl, T_159 ?_⟩)
      rw [S_s, ixK (by omega), e0]
      refine i_pos h1' (i_pos h2' (i_pos (by decide) ⟨inE0 hk8, ?_⟩))
      rw [show (nI 0 : Int32) = 0 from rfl, ixE0 hk8, S_s]
      exact hq _
    · refine T_25 (i_neg (by decide) (i_pos (by decide) ⟨inK (by omega) (by omega), rfl, T_159 ?_⟩))
      rw [S_s, ixK (by omega), e1]
      refine i_pos h1' (i_pos h2' (i_pos (by decide) ⟨inE1 hk8, ?_⟩))
      rw [show (nI 1 : Int32) = 1 from rfl, ixE1 hk8, S_s]
      exact hq _
    · refine T_25 (i_neg (by decide) (i_neg (by decide) (i_pos (by decide) ⟨inK (by omega) (by omega), rfl, T_159 ?_⟩)))
      rw [S_s, ixK (by omega), e2]
      refine i_pos h1' (i_pos h2' (i_pos (by decide) ⟨inE2 hk8, ?_⟩))
      rw [show (nI 2 : Int32) = 2 from rfl, ixE2 hk8, S_s]
      exact hq _
    · refine T_25 (i_neg (by decide) (i_neg (by decide) (i_neg (by decide) (i_pos (by decide) ⟨inK (by omega) (by omega), rfl, T_159 ?_⟩))))
      rw [S_s, ixK (by omega), e3]
      refine i_pos h1' (i_pos h2' (i_pos (by decide) ⟨inE3 hk8, ?_⟩))
      rw [show (nI 3 : Int32) = 3 from rfl, ixE3 hk8, S_s]
      exact hq _
    · refine T_25 (i_neg (by decide) (i_neg (by decide) (i_neg (by decide) (i_neg (by decide) (i_pos (by decide) ⟨inK (by omega) (by omega), rfl, T_159 ?_⟩)))))
      rw [S_s, ixK (by omega), e4]
      refine i_pos h1' (i_pos h2' (i_pos (by decide) ⟨inE4 hk8, ?_⟩))
      rw [show (nI 4 : Int32) = 4 from rfl, ixE4 hk8, S_s]
      exact hq _
    · refine T_25 (i_neg (by decide) (i_neg (by decide) (i_neg (by decide) (i_neg (by decide) (i_neg (by decide) (i_pos (by decide) ⟨inK (by omega) (by omega), rfl, T_159 ?_⟩))))))
      rw [S_s, ixK (by omega), e5]
      refine i_pos h1' (i_pos h2' (i_pos (by decide) ⟨inE5 hk8, ?_⟩))
      rw [show (nI 5 : Int32) = 5 from rfl, ixE5 hk8, S_s]
      exact hq _
    · refine T_25 (i_neg (by decide) (i_neg (by decide) (i_neg (by decide) (i_neg (by decide) (i_neg (by decide) (i_neg (by decide) (i_pos (by decide) ⟨inK (by omega) (by omega), rfl, T_159 ?_⟩)))))))
      rw [S_s, ixK (by omega), e6]
      refine i_pos h1' (i_pos h2' (i_pos (by decide) ⟨inE6 hk8, ?_⟩))
      rw [show (nI 6 : Int32) = 6 from rfl, ixE6 hk8, S_s]
      exact hq _
    · refine T_25 (i_neg (by decide) (i_neg (by decide) (i_neg (by decide) (i_neg (by decide) (i_neg (by decide) (i_neg (by decide) (i_neg (by decide) (⟨inK (by omega) (by omega), ?_⟩))))))))
      have on : ((s (48 + 7 * k + 6)) = 0 ∧ ¬ s 0 < (s (48 + 7 * k + 4)) ∧ s 0 < (s (48 + 7 * k + 5))) ↔ mOn s (s 0) k = true := by
        unfold mOn
        rw [decide_eq_true_eq, on_lt w5 hW.1 (by omega) (by omega)]
      rw [ixK (by omega), e4, e5, e6]
      have ref : ∀ v, v = bP (mOn s (s 0) k = true) → Mi 159 [.inr (34, 0), .inl (nI k), .inl (nI 7)] (setS m s) (fun w m2 => Q v w m2) := by
        intro v hv
        refine T_159 ?_
        simp only [S_s]
        refine i_pos h1' (i_pos h2' (i_neg (by decide) (R_115 hk8 ?_)))
        cases hb : mOn s (s 0) k with
        | false => rw [hb] at hv; rw [hv]; exact i_pos (bP_bf rfl) (hq _)
        | true => rw [hb] at hv; rw [hv]; exact i_neg (by decide) (hq _)
      by_cases ho : (s (48 + 7 * k + 6)) = 0 ∧ ¬ s 0 < (s (48 + 7 * k + 4)) ∧ s 0 < (s (48 + 7 * k + 5))
      · exact i_pos ho ⟨rfl, ref 1 (bP_bt (on.mp ho)).symm⟩
      · exact i_neg ho ⟨rfl, ref 0 (bP_f (fun z => ho (on.mpr z))).symm⟩
  · refine i_neg h1 ⟨rfl, T_159 ?_⟩
    rw [S_s]
    exact i_neg h1 (hq _)
theorem ask_next {h0 k p : Nat} (hp : 0 < p) : ∀ j, j + 1 < p - (h0 + k) % p → ¬ (h0 + 1 + j + k) % p = 0 := by
  intro j hj
  have h1 : (h0 + 1 + j + k) = (h0 + k) + (j + 1) := by omega
  rw [h1, Nat.add_mod, Nat.mod_eq_of_lt (a := j + 1) (by omega), Nat.mod_eq_of_lt (a := (h0 + k) % p + (j + 1)) (by omega)]
  omega
theorem ask_last {h0 k p : Nat} (hp : 0 < p) : (h0 + 1 + (p - (h0 + k) % p - 1) + k) % p = 0 := by
  have h2 := Nat.mod_lt (h0 + k) hp
  have h3 := Nat.div_add_mod (h0 + k) p
  have h1 : h0 + 1 + (p - (h0 + k) % p - 1) + k = p * ((h0 + k) / p + 1) := by
    rw [Nat.mul_add, Nat.mul_one]
    omega
  rw [h1]
  exact Nat.mul_mod_right _ _
theorem R_160 (hW : WF s) (hk : k < 16) (hQ : Q ((s 0 + s 6) - iR (s 0 + nI k) (s 6)) (setS m s)) : Mi 160 [.inr (34, 0), .inl (nI k)] (setS m s) Q := by
  obtain ⟨h0, l0, e0⟩ := hW.1
  obtain ⟨⟨p, lp, ep⟩, np⟩ := hW.2.2.2.2.2.1
  have hp : 0 < p := by
    rcases Nat.eq_zero_or_pos p with q | q
    · rw [q] at ep; exact absurd ep np
    · exact q
  have hm := Nat.mod_lt (h0 + k) hp
  rw [e0, ep, nI_add, nI_add, iR_n (by omega) hp (by omega), pk_sub (by omega)] at hQ
  refine T_160 ?_
  rw [S_s, e0, nI_1]
  refine dn0 (n := p - (h0 + k) % p - 1) (P := fun j => H_160_9 (nI k) (nI (h0 + 1 + j)) (setS m s) Q) ?_ ?_
  · refine T_160_9 ?_
    rw [S_s, ep, nI_add, iR_n (by omega) hp (by omega), ask_last hp]
    refine ⟨nI_ne0 hp (by omega), i_pos rfl ?_⟩
    rwa [show h0 + p - (h0 + k) % p = h0 + 1 + (p - (h0 + k) % p - 1) by omega] at hQ
  · intro j hj ih
    refine T_160_9 ?_
    rw [S_s, ep, nI_add, iR_n (by omega) hp (by omega)]
    refine ⟨nI_ne0 hp (by omega), i_neg ?_ ?_⟩
    · have := ask_next (h0 := h0) (k := k) hp j (by omega)
      exact nI_ne0 (by omega) (by have := Nat.mod_lt (h0 + 1 + j + k) hp; omega)
    · rw [nI_1]
      exact ih
theorem E_device : Same 80 [.inr (27, 0), .inl x, .inl y] 161 [.inr (34, 0), .inl x, .inl y] := by
  refine Look_Same ?_
  intro m s Q hR hH hT hq
  have hW := Rp_W hR.1
  obtain ⟨eD, lD⟩ := WF_D hW
  have hN := hR.1.2.1
  refine T_80 ?_
  rw [hN.2.2.2.2.2.2.2]
  by_cases h1 : ¬ x < 0 ∧ x < s 3
  · refine i_pos h1 ?_
    have h1' := h1
    obtain ⟨k, hk, rfl⟩ := has_nI (eD ▸ h1) (by omega)
    have hk16 : k < 16 := by omega
    obtain ⟨q0, q1, q2, q3, q6, q7, q8, q9, q4⟩ := Rp_d hR.1 hk
    have hd := WF_dv hW hk
    by_cases h2 : y < 0 ∨ 10 < y
    · refine i_pos h2 ⟨rfl, T_161 ?_⟩
      rw [S_s]
      exact i_pos h1' (i_neg (fun z => nin.mp z h2) (hq _))
    refine i_neg h2 ?_
    have h2' := nin.mpr h2
    obtain ⟨t, lt, rfl⟩ := rg_of (B := 10) (by omega) h2
    have ref : ∀ v f, f < 10 → t = f → v = s (104 + 10 * k + f) → Mi 161 [.inr (34, 0), .inl (nI k), .inl (nI t)] (setS m s) (fun w m2 => Q v w m2) := by
      intro v f hf ht hv
      refine T_161 ?_
      rw [S_s]
      refine i_pos h1' (i_pos h2' (i_neg ?_ ?_))
      · rw [ht, show (10 : Int32) = nI 10 from rfl, nI_eq (by omega) (by omega)]; omega
      · rw [ht, show (104 : Int32) + 10 * nI k + nI f = nI (104 + 10 * k + f) from gE 104 10 k f, ixK (by omega), S_s, hv]
        exact ⟨inK (by omega) (by omega), hq _⟩
    have l3 := nz_i (dv3 hd) (by omega)
    have l6 := nz_i (dv6 hd) (by omega)
    rcases (show t = 0 ∨ t = 1 ∨ t = 2 ∨ t = 3 ∨ t = 4 ∨ t = 5 ∨ t = 6 ∨ t = 7 ∨ t = 8 ∨ t = 9 ∨ t = 10 by omega) with rfl | rfl | rfl | rfl | rfl | rfl | rfl | rfl | rfl | rfl | rfl
    · refine i_neg (by decide) (T_14 (i_pos (by decide) ⟨inK (by omega) (by omega), ?_⟩))
      rw [ixK (by omega), q0]
      exact ⟨rfl, ref _ 0 (by omega) rfl rfl⟩
    · refine i_neg (by decide) (T_14 (i_neg (by decide) (i_pos (by decide) ⟨inK (by omega) (by omega), ?_⟩)))
      rw [ixK (by omega), q1]
      exact ⟨rfl, ref _ 1 (by omega) rfl rfl⟩
    · refine i_neg (by decide) (T_14 (i_neg (by decide) (i_neg (by decide) (i_pos (by decide) ⟨inK (by omega) (by omega), ?_⟩))))
      rw [ixK (by omega), q2]
      exact ⟨rfl, ref _ 2 (by omega) rfl rfl⟩
    · refine i_neg (by decide) (T_14 (i_neg (by decide) (i_neg (by decide) (i_neg (by decide) (i_pos (by decide) ⟨inK (by omega) (by omega), ?_⟩)))))
      rw [ixK (by omega), q3]
      by_cases a3 : ¬ (s (104 + 10 * k + 3)) = (-6)
      · exact i_pos (l3.mpr a3) ⟨rfl, ref _ 3 (by omega) rfl (nz_n a3)⟩
      · exact i_neg (fun z => a3 (l3.mp z)) ⟨rfl, ref _ 3 (by omega) rfl (Decidable.not_not.mp a3).symm⟩
    · refine i_neg (by decide) (T_14 (i_neg (by decide) (i_neg (by decide) (i_neg (by decide) (i_neg (by decide) (i_pos (by decide) ⟨inK (by omega) (by omega), ?_⟩))))))
      rw [ixK (by omega), q3]
      by_cases a3 : ¬ (s (104 + 10 * k + 3)) = (-6)
      · exact i_pos (l3.mpr a3) ⟨rfl, ref _ 4 (by omega) rfl (q4 a3).1⟩
      · exact i_neg (fun z => a3 (l3.mp z)) ⟨rfl, ref _ 4 (by omega) rfl (hd.2.elim (fun z => z.2.1.symm) (fun z => absurd (Decidable.not_not.mp a3) (rg_6 z.1 (by omega))))⟩
    · refine i_neg (by decide) (T_14 (i_neg (by decide) (i_neg (by decide) (i_neg (by decide) (i_neg (by decide) (i_neg (by decide) (i_pos (by decide) ⟨inK (by omega) (by omega), ?_⟩)))))))
      rw [ixK (by omega), q3]
      by_cases a3 : ¬ (s (104 + 10 * k + 3)) = (-6)
      · exact i_pos (l3.mpr a3) ⟨rfl, ref _ 5 (by omega) rfl (q4 a3).2⟩
      · exact i_neg (fun z => a3 (l3.mp z)) ⟨rfl, ref _ 5 (by omega) rfl (hd.2.elim (fun z => z.2.2.1.symm) (fun z => absurd (Decidable.not_not.mp a3) (rg_6 z.1 (by omega))))⟩
    · refine i_neg (by decide) (T_14 (i_neg (by decide) (i_neg (by decide) (i_neg (by decide) (i_neg (by decide) (i_neg (by decide) (i_neg (by decide) (i_pos (by decide) ⟨inK (by omega) (by omega), ?_⟩))))))))
      rw [ixK (by omega), q6]
      by_cases a3 : ¬ (s (104 + 10 * k + 6)) = (-6)
      · exact i_pos (l6.mpr a3) ⟨rfl, ref _ 6 (by omega) rfl (nz_n a3)⟩
      · exact i_neg (fun z => a3 (l6.mp z)) ⟨rfl, ref _ 6 (by omega) rfl (Decidable.not_not.mp a3).symm⟩
    · refine i_neg (by decide) (T_14 (i_neg (by decide) (i_neg (by decide) (i_neg (by decide) (i_neg (by decide) (i_neg (by decide) (i_neg (by decide) (i_neg (by decide) (i_pos (by decide) ⟨inK (by omega) (by omega), ?_⟩)))))))))
      rw [ixK (by omega), q7]
      exact ⟨rfl, ref _ 7 (by omega) rfl rfl⟩
    · refine i_neg (by decide) (T_14 (i_neg (by decide) (i_neg (by decide) (i_neg (by decide) (i_neg (by decide) (i_neg (by decide) (i_neg (by decide) (i_neg (by decide) (i_neg (by decide) (i_pos (by decide) ⟨inK (by omega) (by omega), ?_⟩))))))))))
      rw [ixK (by omega), q8]
      exact ⟨rfl, ref _ 8 (by omega) rfl rfl⟩
    · refine i_neg (by decide) (T_14 (i_neg (by decide) (i_neg (by decide) (i_neg (by decide) (i_neg (by decide) (i_neg (by decide) (i_neg (by decide) (i_neg (by decide) (i_neg (by decide) (i_neg (by decide) (⟨inK (by omega) (by omega), ?_⟩)))))))))))
      rw [ixK (by omega), q9]
      exact ⟨rfl, ref _ 9 (by omega) rfl rfl⟩
    · refine i_pos (by decide) (T_46 ?_)
      rw [hN.1, hN.2.2.2.1]
      refine ⟨hW.2.2.2.2.2.1.2, rfl, T_161 ?_⟩
      rw [S_s]
      exact i_pos h1' (i_pos h2' (i_pos (by decide) (R_160 hW hk16 (hq _))))
  · refine i_neg h1 ⟨rfl, T_161 ?_⟩
    rw [S_s]
    exact i_neg h1 (hq _)
theorem E_offer : Same 82 [.inr (27, 0), .inl x, .inl y] 163 [.inr (34, 0), .inl x, .inl y] := by
  refine Look_Same ?_
  intro m s Q hR hH hT hq
  have hW := Rp_W hR.1
  obtain ⟨eD, lD⟩ := WF_D hW
  refine T_82 ?_
  rw [hR.1.2.1.2.2.2.2.2.2.2]
  by_cases h1 : ¬ x < 0 ∧ x < s 3
  · refine i_pos h1 ?_
    have h1' := h1
    obtain ⟨k, hk, rfl⟩ := has_nI (eD ▸ h1) (by omega)
    by_cases h2 : y < 0 ∨ 3 < y
    · refine i_pos h2 ⟨rfl, T_163 ?_⟩
      rw [S_s]
      exact i_pos h1' (i_neg (fun z => nin.mp z h2) (hq _))
    · refine i_neg h2 (K_50 hR.1 hk (rg_of (B := 3) (by omega) h2) ⟨rfl, T_163 ?_⟩)
      rw [S_s]
      exact i_pos h1' (i_pos (nin.mpr h2) (R_123 (WF_C hW) (by omega) (hq _)))
  · refine i_neg h1 ⟨rfl, T_163 ?_⟩
    rw [S_s]
    exact i_neg h1 (hq _)
theorem oth_6 (hD : nD s ≤ 16) : mOth s (-6) ch = mOn3 s ch := by
  unfold mOth mOn3
  refine cntN_congr (fun k hk => ?_)
  have : ¬ nI k = (-6) := rg_6 ⟨k, Nat.le_refl k, rfl⟩ (by omega)
  simp [this]
theorem E_leases : Same 84 [.inr (27, 0), .inl x] 166 [.inr (34, 0), .inl x] := by
  refine Look_Same ?_
  intro m s Q hR hH hT hq
  have hW := Rp_W hR.1
  obtain ⟨eD, lD⟩ := WF_D hW
  refine T_84 ?_
  by_cases h2 : x < 0 ∨ 7 < x
  · exact i_pos h2 ⟨rfl, T_166 (i_neg (fun z => nin.mp z h2) (hq _))⟩
  · refine i_neg h2 (K_16 hR.1 (rg_of (B := 7) (by omega) h2) ⟨rfl, T_166 (i_pos (nin.mpr h2) (R_122 (WF_C hW) ?_))⟩)
    rw [oth_6 lD]
    exact hq _
/-- the greatest power of those below n that is allowed -/
def mPow (s : aS0) (ch x y : Int32) : Nat → Int32
  | 0 => (-6)
  | n + 1 => if mAlw s ch x y (nI n) = true then nI n else mPow s ch x y n
theorem E_power {ch : Int32} : Same 81 [.inr (27, 0), .inl ch, .inl x, .inl y] 162 [.inr (34, 0), .inl ch, .inl x, .inl y] := by
  refine Look_Same ?_
  intro m s Q hR hH hT hq
  have hW := Rp_W hR.1
  refine T_81 ?_
  by_cases h1 : ch < 0 ∨ 7 < ch
  · exact i_pos h1 ⟨rfl, T_162 (i_neg (fun z => nin.mp z h1) (hq _))⟩
  refine i_neg h1 ?_
  by_cases h2 : (x < 0 ∨ 99 < x) ∨ (y < 0 ∨ 99 < y)
  · exact i_pos h2 ⟨rfl, T_162 (i_pos (nin.mpr h1) (i_neg (fun z => h2.elim (nin.mp z.1) (nin.mp z.2)) (hq _)))⟩
  refine i_neg h2 ?_
  have ref : Mi 162 [.inr (34, 0), .inl ch, .inl x, .inl y] (setS m s) (fun w m2 => Q (mPow s ch x y 4) w m2) := by
    refine T_162 (i_pos (nin.mpr h1) (i_pos ⟨nin.mpr (fun z => h2 (Or.inl z)), nin.mpr (fun z => h2 (Or.inr z))⟩ ?_))
    refine dn0 (n := 4) (P := fun k => H_162_25 ch x y (mPow s ch x y k) (nI k) (setS m s) (fun w m2 => Q (mPow s ch x y 4) w m2)) ?_ ?_
    · exact T_162_25 (i_neg (by decide) (hq _))
    · intro k hk ih
      refine T_162_25 (i_pos (nI_lt (b := 4) hk (by omega)) (R_118 (WF_C hW) ?_))
      rw [nI_1]
      unfold mPow at ih
      cases ha : mAlw s ch x y (nI k) with
      | false => rw [ha, if_neg (by decide)] at ih; exact i_pos (bP_bf rfl) ih
      | true => rw [ha, if_pos rfl] at ih; exact i_neg (by decide) ih
  have key : ∀ n, n ≤ 4 → mPow s ch x y 4 = mPow s ch x y n → H_81_24 ch x y (nI n - 1) m (fun v m1 => m1 = m ∧ Mi 162 [.inr (34, 0), .inl ch, .inl x, .inl y] (setS m s) (fun w m2 => Q v w m2)) := by
    intro n
    induction n with
    | zero =>
      intro _ he
      refine T_81_24 (i_pos (by decide) ⟨rfl, ?_⟩)
      rw [he] at ref
      exact ref
    | succ n ih =>
      intro hn he
      rw [nI_pred]
      refine T_81_24 (i_neg (nI_pos (by omega)) (K_53 hR.1 ⟨n, by omega, rfl⟩ ?_))
      cases ha : mAlw s ch x y (nI n) with
      | false =>
        refine i_pos (bP_bf rfl) ?_
        rw [show nI n + (-1) = nI n - 1 from (Int32.sub_eq_add_neg _ _).symm]
        refine ih (by omega) ?_
        rw [he]
        show (if mAlw s ch x y (nI n) = true then nI n else mPow s ch x y n) = mPow s ch x y n
        rw [if_neg (by rw [ha]; decide)]
      | true =>
        refine i_neg (by decide) ⟨rfl, ?_⟩
        have : mPow s ch x y 4 = nI n := by
          rw [he]
          show (if mAlw s ch x y (nI n) = true then nI n else mPow s ch x y n) = nI n
          rw [if_pos ha]
        rw [this] at ref
        exact ref
  exact key 4 (Nat.le_refl 4) rfl
end LK1
