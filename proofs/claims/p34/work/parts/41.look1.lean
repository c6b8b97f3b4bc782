/-! calls that look: properties, numbers -/
section LK1
variable {m : aM} {s : aS0} {b k : Nat} {v x y p ch : Int32} {Q : Int32 → aM → Prop} {Qv : aM → Prop}
theorem sumN_K {c f : Nat} (hR : Rp m b s) (hc : ∀ k, k < nD s → m c b k = s (104 + 10 * k + f)) : ∀ n, n ≤ nD s → sumN (fun k => m c b k) n = sumN (fun k => s (104 + 10 * k + f)) n := fun n hn => sumN_congr (fun k hk => hc k (by omega))
theorem z_add : (0 : Int32) + v = v := Int32.zero_add v
theorem K_18_23 (hR : Rp m b s) (hQ : Q (sumN (fun k => (s (104 + 10 * k + 7))) (nD s)) m) : Mi 18 [.inr (3, b), .inr (23, b)] m Q := by
  have lD := Rp_ld hR
  refine T_18_23 ?_
  refine dn0 (n := nD s) (P := fun k => H_18_23_4 b (sumN (fun k => (s (104 + 10 * k + 7))) k) (nI k) m Q) ?_ ?_
  · refine T_18_23_4 ?_
    rw [Rp_nd hR]
    exact i_ge (Nat.le_refl _) (by omega) hQ
  · intro k hk ih
    refine T_18_23_4 ?_
    rw [Rp_nd hR]
    refine i_lt hk (by omega) ?_
    refine i_pos (nI_lt (b := 16) (by omega) (by omega)) ⟨inK (by omega) (by omega), ?_⟩
    obtain ⟨-, -, -, -, -, q7, q8, q9, -⟩ := Rp_d hR hk
    rw [ixK (by omega), q7, nI_1]
    exact ih
theorem K_18_24 (hR : Rp m b s) (hQ : Q (sumN (fun k => (s (104 + 10 * k + 8))) (nD s)) m) : Mi 18 [.inr (3, b), .inr (24, b)] m Q := by
  have lD := Rp_ld hR
  refine T_18_24 ?_
  refine dn0 (n := nD s) (P := fun k => H_18_24_4 b (sumN (fun k => (s (104 + 10 * k + 8))) k) (nI k) m Q) ?_ ?_
  · refine T_18_24_4 ?_
    rw [Rp_nd hR]
    exact i_ge (Nat.le_refl _) (by omega) hQ
  · intro k hk ih
    refine T_18_24_4 ?_
    rw [Rp_nd hR]
    refine i_lt hk (by omega) ?_
    refine i_pos (nI_lt (b := 16) (by omega) (by omega)) ⟨inK (by omega) (by omega), ?_⟩
    obtain ⟨-, -, -, -, -, q7, q8, q9, -⟩ := Rp_d hR hk
    rw [ixK (by omega), q8, nI_1]
    exact ih
theorem K_18_25 (hR : Rp m b s) (hQ : Q (sumN (fun k => (s (104 + 10 * k + 9))) (nD s)) m) : Mi 18 [.inr (3, b), .inr (25, b)] m Q := by
  have lD := Rp_ld hR
  refine T_18_25 ?_
  refine dn0 (n := nD s) (P := fun k => H_18_25_4 b (sumN (fun k => (s (104 + 10 * k + 9))) k) (nI k) m Q) ?_ ?_
  · refine T_18_25_4 ?_
    rw [Rp_nd hR]
    exact i_ge (Nat.le_refl _) (by omega) hQ
  · intro k hk ih
    refine T_18_25_4 ?_
    rw [Rp_nd hR]
    refine i_lt hk (by omega) ?_
    refine i_pos (nI_lt (b := 16) (by omega) (by omega)) ⟨inK (by omega) (by omega), ?_⟩
    obtain ⟨-, -, -, -, -, q7, q8, q9, -⟩ := Rp_d hR hk
    rw [ixK (by omega), q9, nI_1]
    exact ih
theorem K_58 (hR : Rp m b s) (hQ : Q (sumN (fun k => (s (8 + 5 * k + 4))) (nS s)) m) : Mi 58 [.inr (1, b)] m Q := by
  obtain ⟨eS, lS⟩ := WF_S (Rp_W hR)
  refine T_58 ?_
  refine dn0 (n := nS s) (P := fun k => H_58_4 b (sumN (fun k => (s (8 + 5 * k + 4))) k) (nI k) m Q) ?_ ?_
  · refine T_58_4 ?_
    rw [hR.2.1.2.2.2.2.2.1, eS]
    exact i_ge (Nat.le_refl _) (by omega) hQ
  · intro k hk ih
    refine T_58_4 ?_
    rw [hR.2.1.2.2.2.2.2.1, eS]
    refine i_lt hk (by omega) ⟨inK (by omega) (by omega), ?_⟩
    rw [ixK (by omega), (hR.2.2.1 k hk).2.2.2.2, nI_1]
    exact ih
theorem ask_next {h0 k p : Nat} (hp : 0 < p) : ∀ j, j + 1 < p - (h0 + k) % p → ¬ (h0 + 1 + j + k) % p = 0 := by
  intro j hj
  have h1 : (h0 + 1 + j + k) = (h0 + k) + (j + 1) := by omega
  rw [h1, Nat.add_mod, Nat.mod_eq_of_lt (a := j + 1) (by omega), Nat.mod_eq_of_lt (a := (h0 + k) % p + (j + 1)) (by omega)]
  omega
theorem ask_last {h0 k p : Nat} (hp : 0 < p) : (h0 + 1 + (p - (h0 + k) % p - 1) + k) % p = 0 := by
  have h2 := Nat.mod_lt (h0 + k) hp
  have h3 := Nat.div_add_mod (h0 + k) p
  have h1 : h0 + 1 + (p - (h0 + k) % p - 1) + k = p * ((h0 + k) / p + 1) := by
    rw [Nat.mul_add, Nat.mul_one]
    omega
  rw [h1]
  exact Nat.mul_mod_right _ _
end LK1
