/-! copying a state -/
section CPY
variable {m : aM} {s : aS0} {b b1 : Nat} {Qv : aM → Prop}
def a_cp (m : aM) (c0 b0 c1 b1 N : Nat) : aM := fun c b j => if c = c1 ∧ b = b1 ∧ j < N then m c0 b0 j else m c b j
theorem K_96 {c0 b0 c1 d1 N : Nat} (h0 : a_kd c0 = (1, N)) (h1 : a_kd c1 = (1, N)) (hN : N < 2 ^ 31) (hQ : Qv (a_cp m c0 b0 c1 d1 N)) : Mv 96 [.inr (c0, b0), .inr (c1, d1)] m Qv := by
  have l0 : a_ln m c0 = N := by
    unfold a_ln
    rw [if_neg (fun z => by rw [z] at h0; cases h0), h0]
  have l1 : a_ln m c1 = N := by
    unfold a_ln
    rw [if_neg (fun z => by rw [z] at h1; cases h1), h1]
  refine Mv_in ML_96 (show Rg 96 0 [some (.inr (c0, b0)), some (.inr (c1, d1))] [] m (qV Qv) from ?_)
  refine r_aload_n L_96_0 rfl ?_
  refine r_iconst L_96_1 kI_0 ?_
  refine r_aload_n L_96_2 rfl ?_
  refine r_iconst L_96_3 kI_0 ?_
  refine r_aload_n L_96_4 rfl ?_
  refine r_alen (N := N) L_96_5 (Or.inl (by rw [h0])) l0 ?_
  refine r_aload_n L_96_6 rfl ?_
  refine r_alen (N := N) L_96_7 (Or.inl (by rw [h1])) l1 ?_
  refine r_min L_96_8 (Nat.le_of_ble_eq_true rfl) ?_
  rw [if_neg (nI_nlt (Nat.le_refl N) hN)]
  refine r_cpy (N := N) (sp := 0) (dp := 0) L_96_11 ⟨by rw [h0], by rw [h1]⟩ ⟨hN, by rw [h0]; exact Nat.le_refl _, by rw [h1]; exact Nat.le_refl _⟩ ?_
  exact r_vret L_96_14 RT_96 hQ
theorem cp_in {c0 b0 c1 d1 N j : Nat} (hj : j < N) : a_cp m c0 b0 c1 d1 N c1 d1 j = m c0 b0 j := by
  unfold a_cp
  rw [if_pos ⟨rfl, rfl, hj⟩]
theorem cp_o {c0 b0 c1 d1 N c d j : Nat} (h : ¬ c = c1 ∨ ¬ d = d1) : a_cp m c0 b0 c1 d1 N c d j = m c d j := by
  unfold a_cp
  rw [if_neg (fun z => h.elim (fun q => q z.1) (fun q => q z.2.1))]
theorem cp_of {c0 b0 c1 d1 N c d : Nat} (h : ¬ c = c1 ∨ ¬ d = d1) : a_cp m c0 b0 c1 d1 N c d = m c d := by
  funext j
  exact cp_o h
/-- the rows from c1 on up to, not including, c2, of block b, are those of block b1; all else is as in m -/
def Cpd (m m' : aM) (b b1 N c1 c2 : Nat) : Prop := (∀ c j, c1 ≤ c → c < c2 → j < N → m' c b j = m c b1 j) ∧ ∀ c d, (¬ d = b ∨ c < c1 ∨ c2 ≤ c) → m' c d = m c d
theorem Cpd_0 {N c1 : Nat} : Cpd m m b b1 N c1 c1 := ⟨fun c j h1 h2 => by omega, fun _ _ _ => rfl⟩
theorem Cpd_s {N c1 c2 : Nat} {m' : aM} (hb : ¬ b1 = b) (hc : c1 ≤ c2) (h : Cpd m m' b b1 N c1 c2) : Cpd m (a_cp m' c2 b1 c2 b N) b b1 N c1 (c2 + 1) := by
  refine ⟨fun c j h1 h2 hj => ?_, fun c d hcd => ?_⟩
  · by_cases hcc : c = c2
    · subst hcc
      rw [cp_in hj, h.2 c b1 (Or.inl hb)]
    · rw [cp_o (Or.inl hcc)]
      exact h.1 c j h1 (by omega) hj
  · rw [cp_of (by omega)]
    exact h.2 c d (by omega)
theorem K_59 (hb : ¬ b1 = b) (hQ : ∀ m1, Cpd m m1 b b1 8 4 9 → Qv (a_up m1 1 b 5 (m 1 b1 5))) : Mv 59 [.inr (1, b), .inr (1, b1)] m Qv := by
  refine T_59 ?_
  refine K_96 rfl rfl (by omega) (K_96 rfl rfl (by omega) (K_96 rfl rfl (by omega) (K_96 rfl rfl (by omega) (K_96 rfl rfl (by omega) ?_))))
  intro m6 e6
  subst e6
  have h := Cpd_s hb (by omega) (Cpd_s hb (by omega) (Cpd_s hb (by omega) (Cpd_s hb (by omega) (Cpd_s hb (Nat.le_refl 4) (Cpd_0 (m := m) (b := b) (b1 := b1) (N := 8) (c1 := 4))))))
  rw [h.2 1 b1 (Or.inl hb)]
  exact hQ _ h
theorem K_26 (hb : ¬ b1 = b) (hQ : ∀ m1, Cpd m m1 b b1 8 9 16 → Qv (a_up m1 2 b 7 (m 2 b1 7))) : Mv 26 [.inr (2, b), .inr (2, b1)] m Qv := by
  refine T_26 ?_
  refine K_96 rfl rfl (by omega) (K_96 rfl rfl (by omega) (K_96 rfl rfl (by omega) (K_96 rfl rfl (by omega) (K_96 rfl rfl (by omega) (K_96 rfl rfl (by omega) (K_96 rfl rfl (by omega) ?_))))))
  intro m6 e6
  subst e6
  have h := Cpd_s hb (by omega) (Cpd_s hb (by omega) (Cpd_s hb (by omega) (Cpd_s hb (by omega) (Cpd_s hb (by omega) (Cpd_s hb (by omega) (Cpd_s hb (Nat.le_refl 9) (Cpd_0 (m := m) (b := b) (b1 := b1) (N := 8) (c1 := 9))))))))
  rw [h.2 2 b1 (Or.inl hb)]
  exact hQ _ h
theorem K_22 (hb : ¬ b1 = b) (hQ : ∀ m1, Cpd m m1 b b1 16 16 26 → Qv (a_up m1 3 b 10 (m 3 b1 10))) : Mv 22 [.inr (3, b), .inr (3, b1)] m Qv := by
  refine T_22 ?_
  refine K_96 rfl rfl (by omega) (K_96 rfl rfl (by omega) (K_96 rfl rfl (by omega) (K_96 rfl rfl (by omega) (K_96 rfl rfl (by omega) (K_96 rfl rfl (by omega) (K_96 rfl rfl (by omega) (K_96 rfl rfl (by omega) (K_96 rfl rfl (by omega) (K_96 rfl rfl (by omega) ?_)))))))))
  intro m6 e6
  subst e6
  have h := Cpd_s hb (by omega) (Cpd_s hb (by omega) (Cpd_s hb (by omega) (Cpd_s hb (by omega) (Cpd_s hb (by omega) (Cpd_s hb (by omega) (Cpd_s hb (by omega) (Cpd_s hb (by omega) (Cpd_s hb (by omega) (Cpd_s hb (Nat.le_refl 16) (Cpd_0 (m := m) (b := b) (b1 := b1) (N := 16) (c1 := 16)))))))))))
  rw [h.2 3 b1 (Or.inl hb)]
  exact hQ _ h
theorem up_of {c j c' b' : Nat} {v : Int32} (h : ¬ c' = c ∨ ¬ b' = b) : a_up m c b j v c' b' = m c' b' := by
  funext j'
  exact up_o (by omega)
theorem K_30 (hb : ¬ b1 = b) (hR : Rp m b1 s) (hQ : ∀ m', Rp m' b s → Fr b m m' → Qv m') : Mv 30 [.inr (0, b), .inr (0, b1)] m Qv := by
  refine T_30 (K_59 hb fun m1 h1 => K_26 hb fun m2 h2 => K_22 hb fun m3 h3 => K_96 rfl rfl (by omega) ?_)
  intro m5 e5 m6 e6
  -- what each cell is
  have rows : ∀ c j N, (c < 16 → N = 8) → (16 ≤ c → N = 16) → 4 ≤ c → c < 26 → j < N → m6 c b j = m c b1 j := by
    intro c j N n1 n2 hc1 hc2 hj
    rw [e6, up_o (by omega), e5, up_o (by omega), cp_o (by omega), up_o (by omega)]
    by_cases q3 : 16 ≤ c
    · rw [h3.1 c j q3 hc2 (by omega), up_o (by omega), h2.2 c b1 (Or.inl hb), up_o (by omega), h1.2 c b1 (Or.inl hb)]
    · rw [h3.2 c b (by omega), up_o (by omega)]
      by_cases q2 : 9 ≤ c
      · rw [h2.1 c j q2 (by omega) (by omega), up_o (by omega), h1.2 c b1 (Or.inl hb)]
      · rw [h2.2 c b (by omega), up_o (by omega)]
        exact h1.1 c j hc1 (by omega) (by omega)
  have oth : ∀ d, ¬ d = b → ∀ c, m6 c d = m c d := by
    intro d hd c
    rw [e6, up_of (Or.inr hd), e5, up_of (Or.inr hd), cp_of (Or.inr hd), up_of (Or.inr hd), h3.2 c d (Or.inl hd), up_of (Or.inr hd), h2.2 c d (Or.inl hd), up_of (Or.inr hd), h1.2 c d (Or.inl hd)]
  have hi : ∀ c, 27 ≤ c → ∀ d, m6 c d = m c d := by
    intro c hc d
    rw [e6, up_of (by omega), e5, up_of (by omega), cp_of (by omega), up_of (by omega), h3.2 c d (by omega), up_of (by omega), h2.2 c d (by omega), up_of (by omega), h1.2 c d (by omega)]
  have hF : Fr b m m6 := fun c d h => h.elim (fun q => hi c q d) (fun q => oth d q c)
  have n0 : ∀ c j, c < 4 → (a_cp (a_up m3 3 b 10 (a_up m2 2 b 7 (a_up m1 1 b 5 (m 1 b1 5) 2 b1 7) 3 b1 10)) 26 b1 26 b 3) c b1 j = m c b1 j := by
    intro c j hc
    rw [cp_o (by omega), up_o (by omega), h3.2 c b1 (by omega), up_o (by omega), h2.2 c b1 (by omega), up_o (by omega), h1.2 c b1 (by omega)]
  have f4 : m6 0 b 4 = m 0 b1 4 := by
    rw [e6, up_o (by omega), e5, up_e, n0 0 4 (by omega)]
  have f5 : m6 0 b 5 = m 0 b1 5 := by
    rw [e6, up_e, e5, up_o (by omega), n0 0 5 (by omega)]
  have fS : m6 1 b 5 = m 1 b1 5 := by
    rw [e6, up_o (by omega), e5, up_o (by omega), cp_o (by omega), up_o (by omega), h3.2 1 b (by omega), up_o (by omega), h2.2 1 b (by omega), up_e]
  have fE : m6 2 b 7 = m 2 b1 7 := by
    rw [e6, up_o (by omega), e5, up_o (by omega), cp_o (by omega), up_o (by omega), h3.2 2 b (by omega), up_e, up_o (by omega), h1.2 2 b1 (by omega)]
  have fD : m6 3 b 10 = m 3 b1 10 := by
    rw [e6, up_o (by omega), e5, up_o (by omega), cp_o (by omega), up_e, up_o (by omega), h2.2 3 b1 (by omega), up_o (by omega), h1.2 3 b1 (by omega)]
  have fT : ∀ j, j < 3 → m6 26 b j = m 26 b1 j := by
    intro j hj
    rw [e6, up_o (by omega), e5, up_o (by omega), cp_in hj, up_o (by omega), h3.2 26 b1 (by omega), up_o (by omega), h2.2 26 b1 (by omega), up_o (by omega), h1.2 26 b1 (by omega)]
  obtain ⟨hC, ⟨a1, a2, a3, a4, a5, a6, a7, a8⟩, hS, hE, hD, hW⟩ := hR
  have lS := (WF_S hW).2
  have lE := (WF_E hW).2
  have lD := (WF_D hW).2
  refine hQ m6 ⟨Cst_Fr hC hF, ⟨f4.trans a1, f5.trans a2, (fT 0 (by omega)).trans a3, (fT 1 (by omega)).trans a4, (fT 2 (by omega)).trans a5, fS.trans a6, fE.trans a7, fD.trans a8⟩, ?_, ?_, ?_, hW⟩ hF
  · intro k hk
    have q : ∀ c, 4 ≤ c → c < 9 → m6 c b k = m c b1 k := fun c z1 z2 => rows c k 8 (fun _ => rfl) (fun _ => by omega) z1 (by omega) (by omega)
    unfold Rs
    rw [q 4 (by omega) (by omega), q 5 (by omega) (by omega), q 6 (by omega) (by omega), q 7 (by omega) (by omega), q 8 (by omega) (by omega)]
    exact hS k hk
  · intro k hk
    have q : ∀ c, 9 ≤ c → c < 16 → m6 c b k = m c b1 k := fun c z1 z2 => rows c k 8 (fun _ => rfl) (fun _ => by omega) (by omega) (by omega) (by omega)
    unfold Re
    rw [q 9 (by omega) (by omega), q 10 (by omega) (by omega), q 11 (by omega) (by omega), q 12 (by omega) (by omega), q 13 (by omega) (by omega), q 14 (by omega) (by omega), q 15 (by omega) (by omega)]
    exact hE k hk
  · intro k hk
    have q : ∀ c, 16 ≤ c → c < 26 → m6 c b k = m c b1 k := fun c z1 z2 => rows c k 16 (fun _ => by omega) (fun _ => rfl) (by omega) (by omega) (by omega)
    unfold Rd
    rw [q 16 (by omega) (by omega), q 17 (by omega) (by omega), q 18 (by omega) (by omega), q 19 (by omega) (by omega), q 20 (by omega) (by omega), q 21 (by omega) (by omega), q 22 (by omega) (by omega), q 23 (by omega) (by omega), q 24 (by omega) (by omega), q 25 (by omega) (by omega)]
    exact hD k hk
end CPY
