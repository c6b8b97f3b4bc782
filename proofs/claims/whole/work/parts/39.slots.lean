/-! the text's calls; undoing, saving, restoring -/
theorem nS_ext {s s' : aS0} (he : ∀ j, j < 264 → s' j = s j) : nS s' = nS s ∧ nE s' = nE s ∧ nD s' = nD s := by
  unfold nS nE nD
  rw [he 1 (by omega), he 2 (by omega), he 3 (by omega)]
  exact ⟨rfl, rfl, rfl⟩
theorem WF_ext {s s' : aS0} (h : WF s) (he : ∀ j, j < 264 → s' j = s j) : WF s' := by
  have lS := (WF_S h).2
  have lE := (WF_E h).2
  have lD := (WF_D h).2
  obtain ⟨n1, n2, n3⟩ := nS_ext he
  obtain ⟨h0, h1, h2, h3, h5, h6, h7, hS, hE, hD⟩ := h
  unfold WF
  rw [n1, n2, n3, he 0 (by omega), he 1 (by omega), he 2 (by omega), he 3 (by omega), he 5 (by omega), he 6 (by omega), he 7 (by omega)]
  refine ⟨h0, h1, h2, h3, h5, h6, h7, ?_, ?_, ?_⟩
  · intro j hj; unfold stW; rw [he _ (by omega), he _ (by omega), he _ (by omega)]; exact hS j hj
  · intro j hj; unfold evW; rw [he _ (by omega), he _ (by omega), he _ (by omega)]; exact hE j hj
  · intro j hj; unfold dvW; rw [he _ (by omega), he _ (by omega), he _ (by omega), he _ (by omega), he _ (by omega)]; exact hD j hj
theorem RpH_ext {m : aM} {b : Nat} {s s' : aS0} (hh : RpH m b s) (he : ∀ j, j < 264 → s' j = s j) : RpH m b s' := by
  obtain ⟨h, h9⟩ := hh
  have hW := Rp_W h
  have lS := (WF_S hW).2
  have lE := (WF_E hW).2
  have lD := (WF_D hW).2
  obtain ⟨n1, n2, n3⟩ := nS_ext he
  obtain ⟨hC, ⟨a1, a2, a3, a4, a5, a6, a7, a8⟩, hS, hE, hD, _⟩ := h
  refine ⟨⟨hC, ?_, ?_, ?_, ?_, WF_ext hW he⟩, by rw [he 0 (by omega)]; exact h9⟩
  · unfold Rn
    rw [he 0 (by omega), he 1 (by omega), he 2 (by omega), he 3 (by omega), he 4 (by omega), he 5 (by omega), he 6 (by omega), he 7 (by omega)]
    exact ⟨a1, a2, a3, a4, a5, a6, a7, a8⟩
  · intro k hk
    rw [n1] at hk
    unfold Rs
    rw [he _ (by omega), he _ (by omega), he _ (by omega), he _ (by omega), he _ (by omega)]
    exact hS k hk
  · intro k hk
    rw [n2] at hk
    unfold Re
    rw [he _ (by omega), he _ (by omega), he _ (by omega), he _ (by omega), he _ (by omega), he _ (by omega), he _ (by omega)]
    exact hE k hk
  · intro k hk
    rw [n3] at hk
    unfold Rd
    rw [he _ (by omega), he _ (by omega), he _ (by omega), he _ (by omega), he _ (by omega), he _ (by omega), he _ (by omega), he _ (by omega), he _ (by omega), he _ (by omega)]
    exact hD k hk
theorem Sim_txt {m m' : aM} (hS : Sim m) (ho : ∀ c d, ¬ c = 32 → ¬ c = 33 → ¬ c = 34 → ¬ c = 40 → m' c d = m c d) (h5 : m' 34 0 5 = m 34 0 5) (h6 : m' 34 0 6 = m 34 0 6) (hT : Tx m') : Sim m' := by
  obtain ⟨⟨o, c, rows, ⟨a1, a2, a3, a4, a5⟩, b1, b2, b3⟩, hSl, hTx, h60, hP⟩ := hS
  refine ⟨⟨o, c, rows, ⟨a1, a2, ?_, ?_, ?_⟩, b1, ?_, ?_⟩, ?_, hT, h6.trans h60, ?_⟩
  · rw [ho 28 0 (by omega) (by omega) (by omega) (by omega)]; exact a3
  · rw [ho 28 0 (by omega) (by omega) (by omega) (by omega)]; exact a4
  · exact fun i hi => RpH_same (a5 i hi) (fun c hc => ho c _ (by omega) (by omega) (by omega) (by omega)) (fun c hc => ho c _ (by omega) (by omega) (by omega) (by omega))
  · rw [h5]; exact b2
  · intro i hi j hj
    rw [ho 36 0 (by omega) (by omega) (by omega) (by omega)]
    exact b3 i hi j hj
  · exact Sl_of hSl (ho 31 0 (by omega) (by omega) (by omega) (by omega)) (ho 38 0 (by omega) (by omega) (by omega) (by omega)) (ho 37 0 (by omega) (by omega) (by omega) (by omega)) (fun c hc => ⟨ho c 8 (by omega) (by omega) (by omega) (by omega), ho c 9 (by omega) (by omega) (by omega) (by omega)⟩) (fun c hc => ho c 0 (by omega) (by omega) (by omega) (by omega))
  · rw [ho 35 0 (by omega) (by omega) (by omega) (by omega)]
    exact RpH_same hP (fun c hc => ho c _ (by omega) (by omega) (by omega) (by omega)) (fun c hc => ho c _ (by omega) (by omega) (by omega) (by omega))
theorem E_append {x : Int32} : Same 71 [.inr (27, 0), .inl x] 145 [.inr (34, 0), .inl x] := by
  intro m Q hS hQ
  have hTx := hS.2.2.1
  obtain ⟨t, lt, e1, e2, hb⟩ := hTx
  refine T_71 (T_0 ?_)
  rw [e1]
  by_cases h1 : x < 32 ∨ 126 < x
  · refine i_pos h1 (T_145 (i_neg (fun z => nin.mp z h1) (hQ _ _ hS)))
  refine i_neg h1 ?_
  by_cases h2 : t < 80
  · refine i_pos (nI_lt (b := 80) h2 (by omega)) ⟨inK (by omega) (by omega), ?_⟩
    rw [ixK (by omega)]
    intro m4 e4 m5 e5
    have o5 : ∀ c d, ¬ c = 32 → ¬ c = 33 → m5 c d = m c d := fun c d q1 q2 => by rw [e5, up_of (by omega), e4, up_of (by omega)]
    refine T_145 (i_pos (nin.mpr h1) (i_neg ?_ ?_))
    · rw [o5 34 0 (by omega) (by omega), e2, show (80 : Int32) = nI 80 from rfl, nI_eq (by omega) (by omega)]; omega
    · rw [o5 34 0 (by omega) (by omega), e2, ixK (by omega)]
      refine ⟨inK (by omega) (by omega), ?_⟩
      intro m6 e6 m7 e7
      have v1 : m5 32 0 1 = nI (t + 1) := by rw [e5, up_e, e4, up_o (by omega), e1, nI_1]
      have v2 : m7 34 0 8 = nI (t + 1) := by rw [e7, up_e, e6, up_o (by omega), o5 34 0 (by omega) (by omega), e2, nI_1]
      rw [v1, v2]
      refine hQ _ _ (Sim_txt hS (fun c d q1 q2 q3 q4 => ?_) ?_ ?_ ⟨t + 1, by omega, ?_, v2, fun j hj => ?_⟩)
      · rw [e7, up_of (by omega), e6, up_of (by omega), o5 c d q1 q2]
      · rw [e7, up_o (by omega), e6, up_o (by omega), o5 34 0 (by omega) (by omega)]
      · rw [e7, up_o (by omega), e6, up_o (by omega), o5 34 0 (by omega) (by omega)]
      · rw [e7, up_o (by omega), e6, up_o (by omega), v1]
      · rw [e7, up_o (by omega), up_o (by omega), e6, up_o (by omega), e5, up_o (by omega), e4]
        by_cases hjt : j = t
        · rw [hjt, up_e, up_e]
        · rw [up_o (by omega), up_o (by omega), up_o (by omega), up_o (by omega)]
          exact hb j (by omega)
  · refine i_neg (nI_nlt (b := 80) (by omega) (by omega)) (T_145 (i_pos (nin.mpr h1) (i_pos ?_ (hQ _ _ hS))))
    rw [e2, show t = 80 by omega]
    rfl
theorem E_clear : Same 72 [.inr (27, 0)] 146 [.inr (34, 0)] := by
  intro m Q hS hQ
  obtain ⟨t, lt, e1, e2, hb⟩ := hS.2.2.1
  refine T_72 (T_1 ?_)
  intro m1 em1
  refine T_146 ?_
  intro m2 em2
  rw [e1, em1, up_o (by omega), e2]
  refine hQ _ _ (Sim_txt hS (fun c d q1 q2 q3 q4 => ?_) ?_ ?_ ⟨0, by omega, ?_, ?_, fun j hj => absurd hj (Nat.not_lt_zero _)⟩)
  · rw [em2, up_of (by omega), em1, up_of (by omega)]
  · rw [em2, up_o (by omega), em1, up_o (by omega)]
  · rw [em2, up_o (by omega), em1, up_o (by omega)]
  · rw [em2, up_o (by omega), em1, up_e]; rfl
  · rw [em2, up_e]; rfl
theorem rcp_S {m : aM} {c0 o0 : Nat} (h : ¬ c0 = 35) : rcp m c0 o0 35 0 264 = setS m (fun j => if j < 264 then m c0 0 (o0 + j) else m 35 0 j) := by
  funext c b j
  by_cases hc : c = 35 ∧ b = 0
  · obtain ⟨rfl, rfl⟩ := hc
    rw [S_s]
    by_cases hj : j < 264
    · rw [if_pos hj]
      have := rcp_i (m := m) (c0 := c0) (o0 := o0) (c1 := 35) (o1 := 0) (n := 264) hj
      rwa [Nat.zero_add] at this
    · rw [if_neg hj, rcp_o (by omega)]
  · rw [rcp_o (by omega), setS_o (by omega)]
theorem E_undo : Same 75 [.inr (27, 0)] 154 [.inr (34, 0)] := by
  intro m Q hS hQ
  have hS0 := hS
  obtain ⟨⟨o, c, rows, ⟨a1, a2, a3, a4, a5⟩, b1, b2, b3⟩, hSl, hTx, h60, hP⟩ := hS
  refine T_75 ?_
  rw [a4]
  by_cases h0 : c = 0
  · refine i_pos (by rw [h0]; rfl) (T_154 (i_pos (by rw [b2, h0]; rfl) (hQ _ _ hS0)))
  have hc0 : ¬ nI c = 0 := nI_ne0 (by omega) (by omega)
  refine i_neg hc0 (T_29 ?_)
  rw [a4]
  refine i_pos (nI_lt (a := 0) (by omega) (by omega)) ?_
  intro m2 em2
  obtain ⟨n, rfl⟩ : ∃ n, c = n + 1 := ⟨c - 1, by omega⟩
  rw [nI_pred] at em2
  have v1 : m2 28 0 1 = nI o := by rw [em2, up_o (by omega)]; exact a3
  have v2 : m2 28 0 2 = nI n := by rw [em2, up_e]
  have o2 : ∀ c d, ¬ c = 28 → m2 c d = m c d := fun c d q => by rw [em2, up_of (by omega)]
  have ei : iR (m2 28 0 1 + m2 28 0 2) 6 = nI ((o + n) % 6) := by
    rw [v1, v2, nI_add]
    exact iR_n (d := 6) (by omega) (by omega) (by omega)
  rw [ei, ixK (by omega), show a_el 29 ((o + n) % 6) = 2 + (o + n) % 6 from rfl]
  refine ⟨inK (by omega) (by omega), ?_⟩
  have hB2 : ∀ i, i < n + 1 → RpH m2 (2 + (o + i) % 6) (rows i) := fun i hi => RpH_same (a5 i hi) (fun c hc => o2 c _ (by omega)) (fun c hc => o2 c _ (by omega))
  refine K_30 (by omega) (hB2 n (by omega)).1 ?_
  intro m3 hR3 hF3
  have hi3 : ∀ c, 27 ≤ c → ¬ c = 28 → ∀ d, m3 c d = m c d := fun c hc q d => (hF3 c d (Or.inl hc)).trans (o2 c d q)
  have e28 : m3 28 0 = m2 28 0 := hF3 28 0 (Or.inl (by omega))
  rw [e28, v2]
  refine T_154 (i_neg (by rw [hi3 34 (by omega) (by omega), b2]; exact hc0) ?_)
  intro m4 em4
  rw [hi3 34 (by omega) (by omega), b2, nI_pred] at em4
  have p4 : m4 34 0 5 = nI n := by rw [em4, up_e]
  have hi4 : ∀ c, 27 ≤ c → ¬ c = 28 → ¬ c = 34 → ∀ d, m4 c d = m c d := fun c hc q1 q2 d => by rw [em4, up_of (by omega), hi3 c hc q1]
  refine dn0 (n := 264) (P := fun k => H_154_22 (nI k) (rcp m4 36 (264 * n) 35 0 k) (fun w m2 => Q (nI n) w m2)) ?_ ?_ |> fun h => by rwa [rcp_0] at h
  · refine T_154_22 (i_neg (by decide) ?_)
    rw [rcp_of (by omega), p4, rcp_S (by omega)]
    have l4 : ∀ c, c < 27 → ∀ d, m4 c d = m3 c d := fun c hc d => by rw [em4, up_of (by omega)]
    refine hQ _ _ ⟨⟨o, n, rows, ⟨a1, by omega, ?_, ?_, ?_⟩, by omega, ?_, ?_⟩, ?_, ?_, ?_, ?_⟩
    · rw [setS_o (by omega), em4, up_of (by omega), e28]; exact v1
    · rw [setS_o (by omega), em4, up_of (by omega), e28]; exact v2
    · intro i hi
      have := RpH_Fr (hB2 i (by omega)) hF3 (by omega)
      exact RpH_same this (fun c hc => by rw [setS_o (by omega), l4 c hc]) (fun c hc => by rw [setS_o (by omega), em4, up_of (by omega)])
    · rw [setS_o (by omega)]; exact p4
    · intro i hi j hj
      rw [setS_o (by omega), hi4 36 (by omega) (by omega) (by omega)]
      exact b3 i (by omega) j hj
    · refine Sl_of hSl (by rw [setS_o (by omega), hi4 31 (by omega) (by omega) (by omega)]) (by rw [setS_o (by omega), hi4 38 (by omega) (by omega) (by omega)]) (by rw [setS_o (by omega), hi4 37 (by omega) (by omega) (by omega)]) (fun c hc => ⟨?_, ?_⟩) (fun c hc => by rw [setS_o (by omega), hi4 c (by omega) (by omega) (by omega)])
      · rw [setS_o (by omega), l4 c hc, hF3 c 8 (by omega), o2 c 8 (by omega)]
      · rw [setS_o (by omega), l4 c hc, hF3 c 9 (by omega), o2 c 9 (by omega)]
    · refine Tx_of hTx (by rw [setS_o (by omega), hi4 32 (by omega) (by omega) (by omega)]) ?_ (by rw [setS_o (by omega), hi4 33 (by omega) (by omega) (by omega)]) (by rw [setS_o (by omega), hi4 40 (by omega) (by omega) (by omega)])
      rw [setS_o (by omega), em4, up_o (by omega), hi3 34 (by omega) (by omega)]
    · rw [setS_o (by omega), em4, up_o (by omega), hi3 34 (by omega) (by omega)]; exact h60
    · rw [setS_e]
      have h9 : RpH m3 0 (rows n) := ⟨hR3, (hB2 n (by omega)).2⟩
      refine RpH_ext (RpH_same h9 (fun c hc => by rw [setS_o (by omega), l4 c hc]) (fun c hc => by rw [setS_o (by omega), em4, up_of (by omega)])) (fun j hj => ?_)
      rw [if_pos hj, hi4 36 (by omega) (by omega) (by omega)]
      exact b3 n (by omega) j hj
  · intro k hk ih
    refine T_154_22 (i_pos (nI_lt (b := 264) hk (by omega)) ?_)
    have ei : (264 : Int32) * (rcp m4 36 (264 * n) 35 0 k) 34 0 5 + nI k = nI (264 * n + k) := by
      rw [rcp_of (by omega), p4, show (264 : Int32) = nI 264 from rfl, pk_mul, nI_add]
    rw [ei]
    refine ⟨inK (by omega) (by omega), inK (by omega) (by omega), ?_⟩
    intro m5 em5
    subst em5
    rw [ixK (by omega), ixK (by omega), nI_1]
    have := rcp_s (m := m4) (c0 := 36) (o0 := 264 * n) (c1 := 35) (o1 := 0) (k := k) (Or.inl (by omega))
    rw [Nat.zero_add] at this
    rw [this]
    exact ih
theorem E_save {x : Int32} : Same 76 [.inr (27, 0), .inl x] 155 [.inr (34, 0), .inl x] := by
  intro m Q hS hQ
  have hS0 := hS
  obtain ⟨⟨o, c, rows, ⟨a1, a2, a3, a4, a5⟩, b1, b2, b3⟩, hSl, hTx, h60, hP⟩ := hS
  refine T_76 ?_
  by_cases h1 : x < 0 ∨ 1 < x
  · exact i_pos h1 (T_155 (i_neg (fun z => nin.mp z h1) (hQ _ _ hS0)))
  refine i_neg h1 ?_
  obtain ⟨t, lt, rfl⟩ := rg_of (B := 1) (by omega) h1
  rw [ixK (by omega), show a_el 30 t = 8 + t from rfl]
  refine ⟨inK (by omega) (by omega), K_30 (by omega) hP.1 ?_⟩
  intro m3 hR3 hF3 m4 em4
  have hi4 : ∀ c, 27 ≤ c → ¬ c = 31 → ∀ d, m4 c d = m c d := fun c hc q d => by rw [em4, up_of (by omega)]; exact hF3 c d (Or.inl hc)
  have lo4 : ∀ c, c < 27 → ∀ d, m4 c d = m3 c d := fun c hc d => by rw [em4, up_of (by omega)]
  have lo0 : ∀ c d, c < 27 → ¬ d = 8 + t → m4 c d = m c d := fun c d hc hd => (lo4 c hc d).trans (hF3 c d (Or.inr hd))
  rw [show m4 0 0 4 = m 35 0 0 by rw [lo0 0 0 (by omega) (by omega)]; exact hP.1.2.1.1]
  refine T_155 (i_pos (nin.mpr h1) ?_)
  refine dn0 (n := 264) (P := fun k => H_155_13 (nI t) (nI k) (rcp m4 35 0 37 (264 * t) k) (fun w m2 => Q (m 35 0 0) w m2)) ?_ ?_ |> fun h => by rwa [rcp_0] at h
  · refine T_155_13 (i_neg (by decide) ⟨inK (by omega) (by omega), ?_⟩)
    intro m6 em6
    rw [ixK (by omega)] at em6
    have hi6 : ∀ c d, 27 ≤ c → ¬ c = 31 → ¬ c = 37 → ¬ c = 38 → m6 c d = m c d := fun c d hc q1 q2 q3 => by rw [em6, up_of (by omega), rcp_of (by omega), hi4 c hc q1]
    have lo6 : ∀ c, c < 27 → ∀ d, m6 c d = m4 c d := fun c hc d => by rw [em6, up_of (by omega), rcp_of (by omega)]
    rw [show m6 35 0 0 = m 35 0 0 by rw [hi6 35 0 (by omega) (by omega) (by omega) (by omega)]]
    have same : ∀ b s, ¬ b = 8 + t → RpH m b s → RpH m6 b s := fun b s hb h => RpH_same h (fun c hc => by rw [lo6 c hc, lo0 c b hc hb]) (fun c hc => hi6 c 0 (by omega) (by omega) (by omega) (by omega))
    refine hQ _ _ ⟨⟨o, c, rows, ⟨a1, a2, ?_, ?_, ?_⟩, b1, ?_, ?_⟩, ?_, ?_, ?_, ?_⟩
    · rw [hi6 28 0 (by omega) (by omega) (by omega) (by omega)]; exact a3
    · rw [hi6 28 0 (by omega) (by omega) (by omega) (by omega)]; exact a4
    · intro i hi
      exact same _ _ (by omega) (a5 i hi)
    · rw [hi6 34 0 (by omega) (by omega) (by omega) (by omega)]; exact b2
    · intro i hi j hj
      rw [hi6 36 0 (by omega) (by omega) (by omega) (by omega)]
      exact b3 i hi j hj
    · intro u hu
      obtain ⟨s1, s2⟩ := hSl u hu
      by_cases hut : u = t
      · subst hut
        refine ⟨?_, Or.inr ⟨?_, ?_⟩⟩
        · rw [em6, up_o (by omega), rcp_o (by omega), up_e, em4, up_e]
        · rw [em6, up_o (by omega), rcp_o (by omega), em4, up_e]
        · have h9 : RpH m3 (8 + u) (m 35 0) := ⟨hR3, hP.2⟩
          refine RpH_ext (RpH_same h9 (fun c hc => by rw [lo6 c hc, lo4 c hc]) (fun c hc => by rw [hi6 c 0 (by omega) (by omega) (by omega) (by omega)]; exact (hF3 c 0 (Or.inl (by omega))).symm)) (fun j hj => ?_)
          rw [em6, up_o (by omega), rcp_i hj, Nat.zero_add, hi4 35 (by omega) (by omega)]
      · have e31 : m6 31 0 u = m 31 0 u := by rw [em6, up_o (by omega), rcp_o (by omega), em4, up_o (by omega)]; rw [hF3 31 0 (Or.inl (by omega))]
        have e38 : m6 38 0 u = m 38 0 u := by rw [em6, up_o (by omega), rcp_o (by omega), hi4 38 (by omega) (by omega)]
        have e37 : ∀ j, j < 264 → m6 37 0 (264 * u + j) = m 37 0 (264 * u + j) := fun j hj => by rw [em6, up_o (by omega), rcp_o (by omega), hi4 37 (by omega) (by omega)]
        rw [e31, e38]
        exact ⟨s1, s2.elim Or.inl (fun z => Or.inr ⟨z.1, RpH_ext (same _ _ (by omega) z.2) e37⟩)⟩
    · exact Tx_of hTx (by rw [hi6 32 0 (by omega) (by omega) (by omega) (by omega)]) (by rw [hi6 34 0 (by omega) (by omega) (by omega) (by omega)]) (hi6 33 0 (by omega) (by omega) (by omega) (by omega)) (hi6 40 0 (by omega) (by omega) (by omega) (by omega))
    · rw [hi6 34 0 (by omega) (by omega) (by omega) (by omega)]; exact h60
    · rw [hi6 35 0 (by omega) (by omega) (by omega) (by omega)]
      exact same _ _ (by omega) hP
  · intro k hk ih
    refine T_155_13 (i_pos (nI_lt (b := 264) hk (by omega)) ⟨inK (by omega) (by omega), ?_⟩)
    have ei : (264 : Int32) * nI t + nI k = nI (264 * t + k) := by
      rw [show (264 : Int32) = nI 264 from rfl, pk_mul, nI_add]
    rw [ei]
    refine ⟨inK (by omega) (by omega), ?_⟩
    intro m5 em5
    subst em5
    rw [ixK (by omega), ixK (by omega), nI_1]
    have := rcp_s (m := m4) (c0 := 35) (o0 := 0) (c1 := 37) (o1 := 264 * t) (k := k) (Or.inl (by omega))
    rw [Nat.zero_add] at this
    rw [this]
    exact ih
theorem E_restore {x : Int32} : Same 77 [.inr (27, 0), .inl x] 156 [.inr (34, 0), .inl x] := by
  intro m Q hS hQ
  have hSl := hS.2.1
  refine T_77 ?_
  by_cases h1 : x < 0 ∨ 1 < x
  · exact i_pos h1 (T_156 (i_neg (fun z => nin.mp z h1) (hQ _ _ hS)))
  refine i_neg h1 ?_
  obtain ⟨t, lt, rfl⟩ := rg_of (B := 1) (by omega) h1
  rw [ixK (by omega), show a_el 30 t = 8 + t from rfl]
  refine ⟨inK (by omega) (by omega), ?_⟩
  obtain ⟨s1, s2⟩ := hSl t (by omega)
  rcases s2 with z0 | ⟨z1, hz⟩
  · refine i_pos z0 (T_156 (i_pos (nin.mpr h1) ⟨inK (by omega) (by omega), i_pos ?_ (hQ _ _ hS)⟩))
    rw [ixK (by omega), ← s1]; exact z0
  · refine i_neg (by rw [z1]; decide) ?_
    refine sim_actG (s := m 35 0) (s' := fun j => if j < 264 then m 37 0 (264 * t + j) else m 35 0 j) (v := m 37 0 (264 * t + 0)) (Z := fun m4 P => Mi 156 [.inr (34, 0), .inl (nI t)] m4 P) (Q := Q) rfl ?_ ?_ hS hQ
    · intro m1 hR1 hi1 hb1 k
      have hz1 : RpH m1 (8 + t) (fun j => m 37 0 (264 * t + j)) := RpH_same hz (fun c hc => hb1 _ (by omega) c) (fun c hc => hi1 c (by omega) 0)
      refine K_30 (by omega) hz1.1 ?_
      intro m5 hR5 hF5
      rw [hR5.2.1.1]
      exact k m5 (RpH_ext ⟨hR5, hz1.2⟩ (fun j hj => if_pos hj)) (fun c d q _ => hF5 c d q) (by rw [hF5 32 0 (Or.inl (by omega))])
    · intro m4 P hi4 _ hp k
      have h6 : setS m4 (m 35 0) 34 0 6 = 0 := by rw [setS_o (by omega), hi4 34 (by omega) (by omega) (by omega)]; exact hS.2.2.2.1
      refine T_156 (i_pos (nin.mpr h1) ⟨inK (by omega) (by omega), i_neg ?_ ?_⟩)
      · rw [ixK (by omega), setS_o (by omega), hi4 38 (by omega) (by omega) (by omega), ← s1, z1]; decide
      · refine R_98s hp ?_
        intro m5 hr
        have hv : ¬ m 37 0 (264 * t + 0) < 0 := rg_nn hz.2 (by omega)
        have e37 : m5 37 0 = m 37 0 := by
          have := hr
          rcases this with ⟨q, -⟩ | ⟨-, r1, -⟩
          · exact absurd h6 q
          · have := r1 37 0 (by omega) (by omega)
            rw [setS_o (by omega), setS_o (by omega), hi4 37 (by omega) (by omega) (by omega)] at this
            exact this
        refine dn0 (n := 264) (P := fun k => H_156_29 (nI t) (nI k) (rcp (setS m5 (m 35 0)) 37 (264 * t) 35 0 k) P) ?_ ?_ |> fun h => by rwa [rcp_0] at h
        · refine T_156_29 (i_neg (by decide) ?_)
          rw [rcp_S (by omega), S_s, S_S, setS_e, if_pos (by omega), setS_o (by omega), e37]
          have := k (setS m5 (m 35 0)) (i_neg hv (RecW_of hr h6))
          rwa [S_S] at this
        · intro k hk ih
          refine T_156_29 (i_pos (nI_lt (b := 264) hk (by omega)) ?_)
          have ei : (264 : Int32) * nI t + nI k = nI (264 * t + k) := by
            rw [show (264 : Int32) = nI 264 from rfl, pk_mul, nI_add]
          rw [ei]
          refine ⟨inK (by omega) (by omega), inK (by omega) (by omega), ?_⟩
          intro m6 em6
          subst em6
          rw [ixK (by omega), ixK (by omega), nI_1]
          have := rcp_s (m := setS m5 (m 35 0)) (c0 := 37) (o0 := 264 * t) (c1 := 35) (o1 := 0) (k := k) (Or.inl (by omega))
          rw [Nat.zero_add] at this
          rw [this]
          exact ih
