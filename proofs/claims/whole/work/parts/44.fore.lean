/-! forecasts -/
section FOR
variable {m : aM} {s : aS0} {b k d : Nat} {v x y p ch : Int32} {Q : Int32 → aM → Prop} {Qv : aM → Prop}
theorem R_99 (hQ : Qv (rcp m 35 0 39 0 264)) : Mv 99 [.inr (34, 0)] m Qv := by
  refine T_99 ?_
  refine dn0 (n := 264) (P := fun k => H_99_2 (nI k) (rcp m 35 0 39 0 k) Qv) ?_ ?_ |> fun h => by rwa [rcp_0] at h
  · exact T_99_2 (i_neg (by decide) hQ)
  · intro k hk ih
    refine T_99_2 (i_pos (nI_lt (b := 264) hk (by omega)) ⟨inK (by omega) (by omega), ?_⟩)
    intro m4 e4
    subst e4
    rw [ixK (by omega), nI_1]
    have := rcp_s (m := m) (c0 := 35) (o0 := 0) (c1 := 39) (o1 := 0) (k := k) (Or.inl (by omega))
    rw [Nat.zero_add] at this
    rw [this]
    exact ih
theorem R_100 (hQ : Qv (rcp m 39 0 35 0 264)) : Mv 100 [.inr (34, 0)] m Qv := by
  refine T_100 ?_
  refine dn0 (n := 264) (P := fun k => H_100_2 (nI k) (rcp m 39 0 35 0 k) Qv) ?_ ?_ |> fun h => by rwa [rcp_0] at h
  · exact T_100_2 (i_neg (by decide) hQ)
  · intro k hk ih
    refine T_100_2 (i_pos (nI_lt (b := 264) hk (by omega)) ⟨inK (by omega) (by omega), ?_⟩)
    intro m4 e4
    subst e4
    rw [ixK (by omega), nI_1]
    have := rcp_s (m := m) (c0 := 39) (o0 := 0) (c1 := 35) (o1 := 0) (k := k) (Or.inl (by omega))
    rw [Nat.zero_add] at this
    rw [this]
    exact ih
/-- behind a forecast all is as before -/
theorem lets_S {m' m2 : aM} {s' : aS0} (hgs : m 35 0 = s) (hS : Sim m) (ho : ∀ c d, ¬ (c < 27 ∧ d = 1) → m' c d = m c d) (e2 : m2 = rcp m' 35 0 39 0 264) : Sim (rcp (setS m2 s') 39 0 35 0 264) := by
  rw [rcp_S (by omega), S_S]
  refine back_S hgs hS (fun c d h h39 => ?_) (fun j hj => ?_)
  · rw [e2, rcp_of (Or.inl h39)]
    exact ho c d h
  · rw [if_pos hj, setS_o (by omega), e2]
    have := rcp_i (m := m') (c0 := 35) (o0 := 0) (c1 := 39) (o1 := 0) (n := 264) hj
    rw [this, Nat.zero_add, ho 35 0 (by omega), hgs]
theorem holds_S {m' m2 : aM} (hgs : m' 35 0 = s) (e2 : m2 = rcp m' 35 0 39 0 264) : m2 = setS m2 s := by
  have : m2 35 0 = s := by rw [e2, rcp_of (by omega)]; exact hgs
  rw [← this, S_self]
theorem mPn_3 : ∀ n, (mPn s n).2 3 = s 3
  | 0 => rfl
  | n + 1 => by
    have ih := mPn_3 n
    rw [mPn_s]
    generalize mPn s n = z at *
    have e3 : (mP1 z.2).2 3 = z.2 3 := by rw [mP1_lo (by omega), upd_n (by omega)]
    generalize mP1 z.2 = w at *
    exact e3.trans ih
theorem E_chanIn : Same 89 [.inr (27, 0), .inl x, .inl y] 173 [.inr (34, 0), .inl x, .inl y] := by
  intro m Q hS hQ
  have hR := hS.2.2.2.2
  have hq : ∀ v, Q v v (setS m (m 35 0)) := fun v => by rw [S_self]; exact hQ v m hS
  generalize hgs : m 35 0 = s at hR hq
  have hW := Rp_W hR.1
  obtain ⟨eD, lD⟩ := WF_D hW
  have hN := hR.1.2.1
  refine T_89 ?_
  rw [hN.2.2.2.2.2.2.2]
  by_cases h1 : ¬ x < 0 ∧ x < s 3
  · refine i_pos h1 ?_
    have h1' := h1
    obtain ⟨d, hd, rfl⟩ := has_nI (eD ▸ h1) (by omega)
    have hd16 : d < 16 := by omega
    by_cases h2 : y < 0 ∨ 99 < y
    · refine i_pos h2 (toS hgs (T_173 ?_))
      rw [S_s]
      exact i_pos h1' (i_neg (fun z => nin.mp z h2) (hq _))
    refine i_neg h2 (K_30 (by omega) hR.1 ?_)
    have h2' := nin.mpr h2
    obtain ⟨n, ln, rfl⟩ := rg_of (B := 99) (by omega) h2
    obtain ⟨a, la, ea⟩ := hR.2
    intro m1 hR1 hF1
    have ref : ∀ m', Fr 1 m m' → Mi 173 [.inr (34, 0), .inl (nI d), .inl (nI n)] m' (fun w m2 => Q ((mPn s n).2 (104 + 10 * d + 3)) w m2) := by
      intro m' hF
      have ho : ∀ c d, ¬ (c < 27 ∧ d = 1) → m' c d = m c d := fun c d h => hF c d (by omega)
      have hs' : m' 35 0 = s := (ho 35 0 (by omega)).trans hgs
      refine T_173 ?_
      rw [hs']
      refine i_pos h1' (i_pos h2' (R_99 ?_))
      generalize e2 : rcp m' 35 0 39 0 264 = m2
      rw [holds_S hs' e2.symm]
      refine dn0 (n := n) (P := fun j => H_173_32 (nI d) (nI n) (mPn s j).1 (nI j) (setS m2 (mPn s j).2) (fun w m2 => Q ((mPn s n).2 (104 + 10 * d + 3)) w m2)) ?_ ?_
      · obtain ⟨q1, q2, q3⟩ := mPn_ok hW ea n (by omega)
        refine T_173_32 (i_ge (Nat.le_refl _) (by omega) (i_neg (rg_nn q3 (by omega)) ?_))
        simp only [S_s, ixD0 hd16, inD0 hd16, ixD1 hd16, inD1 hd16, ixD2 hd16, inD2 hd16, ixD3 hd16, inD3 hd16, ixD4 hd16, inD4 hd16, ixD5 hd16, inD5 hd16, ixD6 hd16, inD6 hd16, ixD7 hd16, inD7 hd16, ixD8 hd16, inD8 hd16, ixD9 hd16, inD9 hd16, true_and]
        exact R_100 (hQ _ _ (lets_S hgs hS ho e2.symm))
      · intro j hj ih
        obtain ⟨q1, q2, q3⟩ := mPn_ok hW ea j (by omega)
        refine T_173_32 (i_lt hj (by omega) (R_130 q1 ⟨a + j, by omega, q2⟩ ?_))
        rw [nI_1]
        rw [mPn_s] at ih
        dsimp only at ih
        exact ih
    refine dn0 (n := n) (P := fun j => ∀ m', Rp m' 1 (mPn s j).2 → Fr 1 m m' → H_89_42 (nI d) (nI n) (nI j) m' (fun v m1 => Mi 173 [.inr (34, 0), .inl (nI d), .inl (nI n)] m1 (fun w m2 => Q v w m2))) ?_ ?_ m1 hR1 hF1
    · intro m' hR' hF
      obtain ⟨q1, q2, q3⟩ := mPn_ok hW ea n (by omega)
      have hdn : d < nD (mPn s n).2 := by
        unfold nD
        rw [mPn_3]
        exact hd
      refine T_89_42 (i_ge (Nat.le_refl _) (by omega) ⟨inK (by omega) (by omega), ?_⟩)
      rw [ixK (by omega), (Rp_d hR' hdn).2.2.2.1]
      have l3 := nz_i (dv3 (WF_dv q1 hdn)) (by omega)
      by_cases a3 : ¬ (mPn s n).2 (104 + 10 * d + 3) = (-6)
      · refine i_pos (l3.mpr a3) ?_
        rw [nz_n a3]
        exact ref m' hF
      · refine i_neg (fun z => a3 (l3.mp z)) ?_
        have := ref m' hF
        rwa [Decidable.not_not.mp a3] at this
    · intro j hj ih m' hR' hF
      obtain ⟨q1, q2, q3⟩ := mPn_ok hW ea j (by omega)
      refine T_89_42 (i_lt hj (by omega) (K_41 hR' ⟨a + j, by omega, q2⟩ ?_))
      intro m2 hR2 hF2
      rw [nI_1]
      rw [mPn_s] at ih
      dsimp only at ih
      exact ih m2 hR2 (Fr_tr hF hF2)
  · refine i_neg h1 (toS hgs (T_173 ?_))
    rw [S_s]
    exact i_neg h1 (hq _)
/-- within how many hours no lease has a notice: r steps are left -/
def mClr (s : aS0) : Nat → Int32
  | 0 => (-6)
  | r + 1 => if mNot (mPn s (50 - r)).2 = 0 then nI (50 - r) else mClr s r
theorem not_16 (hC : C3 s) : mNot s ≤ 16 := Nat.le_trans (cntN_le _ _) hC.2.2.2
theorem E_clearIn : Same 90 [.inr (27, 0)] 174 [.inr (34, 0)] := by
  intro m Q hS hQ
  have hR := hS.2.2.2.2
  generalize hgs : m 35 0 = s at hR
  have hW := Rp_W hR.1
  obtain ⟨a, la, ea⟩ := hR.2
  refine T_90 (K_30 (by omega) hR.1 ?_)
  intro m1 hR1 hF1
  have ref : ∀ m', Fr 1 m m' → Mi 174 [.inr (34, 0)] m' (fun w m2 => Q (mClr s 51) w m2) := by
    intro m' hF
    have ho : ∀ c d, ¬ (c < 27 ∧ d = 1) → m' c d = m c d := fun c d h => hF c d (by omega)
    have hs' : m' 35 0 = s := (ho 35 0 (by omega)).trans hgs
    refine T_174 (R_99 ?_)
    generalize e2 : rcp m' 35 0 39 0 264 = m2
    rw [holds_S hs' e2.symm]
    have key : ∀ r, r ≤ 51 → mClr s 51 = mClr s r → H_174_8 (nI (51 - r)) (mPn s (51 - r)).1 (setS m2 (mPn s (51 - r)).2) (fun w m2 => Q (mClr s 51) w m2) := by
      intro r
      induction r with
      | zero =>
        intro _ he
        refine T_174_8 (i_pos (nI_lt (a := 50) (by omega) (by omega)) (R_100 ?_))
        rw [he]
        exact hQ _ _ (lets_S hgs hS ho e2.symm)
      | succ r ih =>
        intro hr he
        obtain ⟨q1, q2, q3⟩ := mPn_ok hW ea (50 - r) (by omega)
        rw [show 51 - (r + 1) = 50 - r by omega]
        have hu : mClr s (r + 1) = if mNot (mPn s (50 - r)).2 = 0 then nI (50 - r) else mClr s r := rfl
        rw [hu] at he
        have l16 := not_16 (WF_C q1)
        refine T_174_8 (i_neg (nI_nlt (a := 50) (by omega) (by omega)) (R_127 (WF_C q1) ?_))
        by_cases hn : mNot (mPn s (50 - r)).2 = 0
        · rw [if_pos hn] at he
          rw [hn]
          refine i_neg (by decide) (R_100 (i_neg (rg_nn q3 (by omega)) ?_))
          rw [he]
          exact hQ _ _ (lets_S hgs hS ho e2.symm)
        · rw [if_neg hn] at he
          refine i_pos (nI_lt (a := 0) (by omega) (by omega)) (R_130 q1 ⟨a + (50 - r), by omega, q2⟩ ?_)
          rw [nI_1]
          have := ih (by omega) he
          rw [show 51 - r = 50 - r + 1 by omega, mPn_s] at this
          dsimp only at this
          exact this
    exact key 51 (Nat.le_refl _) rfl
  have key : ∀ r, r ≤ 51 → mClr s 51 = mClr s r → ∀ m', Rp m' 1 (mPn s (51 - r)).2 → Fr 1 m m' → H_90_13 (nI (51 - r)) m' (fun v m1 => Mi 174 [.inr (34, 0)] m1 (fun w m2 => Q v w m2)) := by
    intro r
    induction r with
    | zero =>
      intro _ he m' hR' hF
      refine T_90_13 (i_pos (nI_lt (a := 50) (by omega) (by omega)) ?_)
      have := ref m' hF
      rwa [he] at this
    | succ r ih =>
      intro hr he m' hR' hF
      obtain ⟨q1, q2, q3⟩ := mPn_ok hW ea (50 - r) (by omega)
      rw [show 51 - (r + 1) = 50 - r by omega] at hR' ⊢
      have hu : mClr s (r + 1) = if mNot (mPn s (50 - r)).2 = 0 then nI (50 - r) else mClr s r := rfl
      rw [hu] at he
      have l16 := not_16 (WF_C q1)
      refine T_90_13 (i_neg (nI_nlt (a := 50) (by omega) (by omega)) (K_17 hR' ?_))
      by_cases hn : mNot (mPn s (50 - r)).2 = 0
      · rw [if_pos hn] at he
        rw [hn]
        refine i_pos rfl ?_
        have := ref m' hF
        rwa [he] at this
      · rw [if_neg hn] at he
        refine i_neg (nI_ne0 (by omega) (by omega)) (K_41 hR' ⟨a + (50 - r), by omega, q2⟩ ?_)
        intro m2 hR2 hF2
        rw [nI_1]
        have := ih (by omega) he m2
        rw [show 51 - r = 50 - r + 1 by omega, mPn_s] at this
        dsimp only at this
        exact this hR2 (Fr_tr hF hF2)
  exact key 51 (Nat.le_refl _) rfl m1 hR1 hF1
/-- would it be allowed at that hour -/
def mAt (s : aS0) (ch x y p : Int32) (t : Nat) : Bool := !mBar s ch x y p && !mRes s ch x y p (nI t)
theorem alw_at {t : Nat} : mAlw (upd s 0 (nI t)) ch x y p = mAt s ch x y p t := by
  unfold mAlw mAt mBar mRes
  have eS : nS (upd s 0 (nI t)) = nS s := by unfold nS; rw [upd_n (by omega)]
  have eE : nE (upd s 0 (nI t)) = nE s := by unfold nE; rw [upd_n (by omega)]
  rw [eS, eE, upd_e]
  have h1 : mBarBy (upd s 0 (nI t)) ch x y p = mBarBy s ch x y p := by
    funext k
    unfold mBarBy
    rw [upd_n (j := 8 + 5 * k + 0) (by omega), upd_n (j := 8 + 5 * k + 1) (by omega), upd_n (j := 8 + 5 * k + 2) (by omega), upd_n (j := 8 + 5 * k + 3) (by omega), upd_n (j := 8 + 5 * k + 4) (by omega), upd_n (j := 5) (by omega)]
  have h2 : mResBy (upd s 0 (nI t)) ch x y p (nI t) = mResBy s ch x y p (nI t) := by
    funext k
    unfold mResBy mOn
    rw [upd_n (j := 48 + 7 * k + 0) (by omega), upd_n (j := 48 + 7 * k + 1) (by omega), upd_n (j := 48 + 7 * k + 2) (by omega), upd_n (j := 48 + 7 * k + 3) (by omega), upd_n (j := 48 + 7 * k + 4) (by omega), upd_n (j := 48 + 7 * k + 5) (by omega), upd_n (j := 48 + 7 * k + 6) (by omega)]
  rw [h1, h2]
/-- the first hour, from a on -/
def alOk (s : aS0) (ch x y p : Int32) (a : Nat) (v : Int32) : Prop := (v = (-6) ∧ ∀ t, a ≤ t → t ≤ 9999 → mAt s ch x y p t = false) ∨ ∃ t, a ≤ t ∧ t ≤ 9999 ∧ mAt s ch x y p t = true ∧ (∀ u, a ≤ u → u < t → mAt s ch x y p u = false) ∧ v = nI t
theorem al_one {a : Nat} {v w : Int32} (h1 : alOk s ch x y p a v) (h2 : alOk s ch x y p a w) : v = w := by
  rcases h1 with ⟨e1, n1⟩ | ⟨t, a1, a2, a3, a4, e1⟩
  · rcases h2 with ⟨e2, n2⟩ | ⟨u, b1, b2, b3, b4, e2⟩
    · rw [e1, e2]
    · rw [n1 u b1 b2] at b3; cases b3
  · rcases h2 with ⟨e2, n2⟩ | ⟨u, b1, b2, b3, b4, e2⟩
    · rw [n2 t a1 a2] at a3; cases a3
    · rcases Nat.lt_trichotomy t u with q | q | q
      · rw [b4 t a1 q] at a3; cases a3
      · rw [e1, e2, q]
      · rw [a4 u b1 q] at b3; cases b3
theorem R_171 {a : Nat} (hC : C3 s) (ha : s 0 = nI a) (la : a ≤ 9999) (h1 : ¬ (ch < 0 ∨ 7 < ch)) (h2 : ¬ ((x < 0 ∨ 99 < x) ∨ (y < 0 ∨ 99 < y))) (h3 : ¬ (p < 0 ∨ 3 < p)) (hQ : ∀ v, alOk s ch x y p a v → Q v (setS m s)) : Mi 171 [.inr (34, 0), .inl ch, .inl x, .inl y, .inl p] (setS m s) Q := by
  refine T_171 (i_pos (nin.mpr h1) (i_pos ⟨nin.mpr (fun z => h2 (Or.inl z)), nin.mpr (fun z => h2 (Or.inr z))⟩ (i_pos (nin.mpr h3) (R_116 hC ?_))))
  rw [S_s, ha]
  cases hb : mBar s ch x y p with
  | true =>
    refine T_171_45 (i_neg (by decide) (hQ _ (Or.inl ⟨rfl, fun t _ _ => ?_⟩)))
    unfold mAt
    rw [hb]
    rfl
  | false =>
    rw [bP_bf rfl]
    refine dn (n := 10000) (P := fun t => (∀ u, a ≤ u → u < t → mAt s ch x y p u = false) → a ≤ t → H_171_45 ch x y p (nI t) 0 (setS m s) Q) ?_ ?_ a (by omega) (fun u h1 h2 => by omega) (Nat.le_refl a)
    · intro hno _
      refine T_171_45 (i_pos rfl (i_pos (by decide) (hQ _ (Or.inl ⟨rfl, fun t t1 t2 => hno t t1 (by omega)⟩))))
    · intro t ht ih hno hat
      refine T_171_45 (i_pos rfl (i_neg (nI_nlt (a := 9999) (by omega) (by omega)) (R_117 hC ?_)))
      cases hr : mRes s ch x y p (nI t) with
      | false =>
        refine i_pos (bP_bf rfl) (hQ _ (Or.inr ⟨t, hat, by omega, ?_, hno, rfl⟩))
        unfold mAt
        rw [hb, hr]
        rfl
      | true =>
        refine i_neg (by decide) ?_
        rw [nI_1]
        refine ih (fun u u1 u2 => ?_) (by omega)
        rcases Nat.lt_or_ge u t with q | q
        · exact hno u u1 q
        · obtain rfl : u = t := by omega
          unfold mAt
          rw [hb, hr]
          rfl
/-- only the end of an event can lift a bar -/
theorem al_end {t : Nat} (hW : WF s) (ht : t < 9999) (h0 : mAt s ch x y p t = false) (h1 : mAt s ch x y p (t + 1) = true) : ∃ k, k < nE s ∧ (s (48 + 7 * k + 5)) = nI (t + 1) := by
  unfold mAt at h0 h1
  rw [Bool.and_eq_true, Bool.not_eq_true', Bool.not_eq_true'] at h1
  obtain ⟨hb, hr⟩ := h1
  rw [hb, Bool.not_false, Bool.true_and, Bool.not_eq_false'] at h0
  unfold mRes at h0 hr
  obtain ⟨k, hk, hf⟩ := anyN_iff.mp h0
  refine ⟨k, hk, ?_⟩
  have hn : mResBy s ch x y p (nI (t + 1)) k = false := by
    cases hc : mResBy s ch x y p (nI (t + 1)) k with
    | false => rfl
    | true => rw [anyN_t hk hc] at hr; cases hr
  obtain ⟨⟨f, lf, ef⟩, ⟨e, le, ee⟩, w6⟩ := WF_ev hW hk
  unfold mResBy mOn at hf hn
  rw [Bool.and_eq_true, decide_eq_true_eq, decide_eq_true_eq, on_lt (B := 9999) (C := 9999) ⟨e, le, ee⟩ ⟨t, by omega, rfl⟩ (by omega) (by omega)] at hf
  obtain ⟨c1, c2, c3, c4⟩ := hf
  rw [decide_eq_true c1, Bool.true_and, decide_eq_false_iff_not, on_lt (B := 9999) (C := 9999) ⟨e, le, ee⟩ ⟨t + 1, by omega, rfl⟩ (by omega) (by omega)] at hn
  rw [ef, nI_ltI (by omega) (by omega)] at c3
  rw [ee, nI_ltI (by omega) (by omega)] at c4
  rw [ee]
  have : ¬ (t + 1 < e) := by
    intro z
    refine hn ⟨c2, ?_, ?_⟩
    · rw [ef, nI_ltI (by omega) (by omega)]; omega
    · rw [ee, nI_ltI (by omega) (by omega)]; exact z
  rw [show e = t + 1 by omega]
/-- what the class's loop over the ends finds -/
def enOk (s : aS0) (ch x y p : Int32) (a n : Nat) (v : Int32) : Prop := (v = (-6) ∧ ∀ k, k < n → ∀ t, (s (48 + 7 * k + 5)) = nI t → t ≤ 9999 → a < t → mAt s ch x y p t = false) ∨ ∃ t, a < t ∧ t ≤ 9999 ∧ mAt s ch x y p t = true ∧ (∀ k, k < n → ∀ u, (s (48 + 7 * k + 5)) = nI u → u ≤ 9999 → a < u → mAt s ch x y p u = true → t ≤ u) ∧ v = nI t
theorem en_al {a : Nat} {v : Int32} (hW : WF s) (la : a ≤ 9999) (h0 : mAt s ch x y p a = false) (h : enOk s ch x y p a (nE s) v) : alOk s ch x y p a v := by
  have first : ∀ t, a ≤ t → t ≤ 9999 → (∀ u, a ≤ u → u ≤ t → (∀ k, k < nE s → ¬ (s (48 + 7 * k + 5)) = nI u ∨ u ≤ a ∨ mAt s ch x y p u = false) ) → ∀ u, a ≤ u → u ≤ t → mAt s ch x y p u = false := by
    intro t h1 h2 hk u hu hut
    induction u with
    | zero => rw [show (0 : Nat) = a by omega]; exact h0
    | succ u ih =>
      by_cases hau : a = u + 1
      · rw [← hau]; exact h0
      · have hprev := ih (by omega) (by omega)
        cases hc : mAt s ch x y p (u + 1) with
        | false => rfl
        | true =>
          obtain ⟨k, hk1, hk2⟩ := al_end hW (by omega) hprev hc
          rcases hk (u + 1) hu hut k hk1 with q | q | q
          · exact absurd hk2 q
          · omega
          · rw [hc] at q; cases q
  rcases h with ⟨e1, n1⟩ | ⟨t, a1, a2, a3, a4, e1⟩
  · refine Or.inl ⟨e1, fun t t1 t2 => first t t1 t2 (fun u u1 u2 k hk => ?_) t t1 (Nat.le_refl t)⟩
    by_cases q : (s (48 + 7 * k + 5)) = nI u
    · by_cases q2 : u ≤ a
      · exact Or.inr (Or.inl q2)
      · exact Or.inr (Or.inr (n1 k hk u q (by omega) (by omega)))
    · exact Or.inl q
  · refine Or.inr ⟨t, by omega, a2, a3, fun u u1 u2 => ?_, e1⟩
    refine first (t - 1) (by omega) (by omega) (fun w w1 w2 k hk => ?_) u u1 (by omega)
    by_cases q : (s (48 + 7 * k + 5)) = nI w
    · by_cases q2 : w ≤ a
      · exact Or.inr (Or.inl q2)
      · refine Or.inr (Or.inr ?_)
        cases hc : mAt s ch x y p w with
        | false => rfl
        | true =>
          have := a4 k hk w q (by omega) (by omega) hc
          omega
    · exact Or.inl q
theorem upd_2 {v w : Int32} {i : Nat} : upd (upd s i v) i w = upd s i w := by
  funext j
  unfold upd
  by_cases h : j = i
  · rw [if_pos h, if_pos h]
  · rw [if_neg h, if_neg h, if_neg h]
theorem E_from : Same 87 [.inr (27, 0), .inl ch, .inl x, .inl y, .inl p] 171 [.inr (34, 0), .inl ch, .inl x, .inl y, .inl p] := by
  intro m Q hS hQ
  have hR := hS.2.2.2.2
  have hq : ∀ v, Q v v (setS m (m 35 0)) := fun v => by rw [S_self]; exact hQ v m hS
  generalize hgs : m 35 0 = s at hR hq
  have hW := Rp_W hR.1
  have hC := WF_C hW
  obtain ⟨eE, lE⟩ := WF_E hW
  have hN := hR.1.2.1
  obtain ⟨a, la, ea⟩ := hR.2
  refine T_87 ?_
  by_cases h1 : ch < 0 ∨ 7 < ch
  · exact i_pos h1 (toS hgs (T_171 (i_neg (fun z => nin.mp z h1) (hq _))))
  refine i_neg h1 ?_
  by_cases h2 : (x < 0 ∨ 99 < x) ∨ (y < 0 ∨ 99 < y)
  · exact i_pos h2 (toS hgs (T_171 (i_pos (nin.mpr h1) (i_neg (fun z => h2.elim (nin.mp z.1) (nin.mp z.2)) (hq _)))))
  refine i_neg h2 ?_
  by_cases h3 : p < 0 ∨ 3 < p
  · exact i_pos h3 (toS hgs (T_171 (i_pos (nin.mpr h1) (i_pos ⟨nin.mpr (fun z => h2 (Or.inl z)), nin.mpr (fun z => h2 (Or.inr z))⟩ (i_neg (fun z => nin.mp z h3) (hq _))))))
  refine i_neg h3 ?_
  have hp : rg p 3 := rg_of (B := 3) (by omega) h3
  -- both sides find the first hour
  have ref : ∀ v m', alOk s ch x y p a v → Fr 1 m m' → Mi 171 [.inr (34, 0), .inl ch, .inl x, .inl y, .inl p] m' (fun w m2 => Q v w m2) := by
    intro v m' hv hF
    have ho : ∀ c d, ¬ (c < 27 ∧ d = 1) → m' c d = m c d := fun c d h => hF c d (by omega)
    refine toS ((ho 35 0 (by omega)).trans hgs) (R_171 hC ea la h1 h2 h3 ?_)
    intro w hw
    rw [al_one hv hw]
    exact hQ _ _ (back_S hgs hS (fun c d h _ => ho c d h) (fun _ _ => rfl))
  refine K_53 hR.1 hp ?_
  have hnow : mAlw s ch x y p = mAt s ch x y p a := by unfold mAlw mAt; rw [ea]
  rw [hnow]
  cases h0 : mAt s ch x y p a with
  | true =>
    refine i_neg (by decide) ?_
    rw [hN.1]
    exact ref _ m (Or.inr ⟨a, Nat.le_refl a, la, h0, fun u u1 u2 => by omega, ea⟩) Fr_rf
  | false =>
    refine i_pos (bP_bf rfl) (K_30 (by omega) hR.1 ?_)
    intro m1 hR1 hF1
    have up0 : upd s 0 (s 0) = s := upd_id
    refine dn0 (n := nE s) (P := fun k => ∀ f m' t, enOk s ch x y p a k f → Rp m' 1 (upd s 0 (nI t)) → Fr 1 m m' → H_87_72 ch x y p f (nI k) m' (fun v m1 => Mi 171 [.inr (34, 0), .inl ch, .inl x, .inl y, .inl p] m1 (fun w m2 => Q v w m2))) ?_ ?_ (-6) m1 a (Or.inl ⟨rfl, fun k hk => absurd hk (Nat.not_lt_zero _)⟩) (by rw [← ea, up0]; exact hR1) hF1
    · intro f m' t hf hR' hF
      have ho : ∀ c d, ¬ (c < 27 ∧ d = 1) → m' c d = m c d := fun c d h => hF c d (by omega)
      refine T_87_72 ?_
      rw [ho 2 0 (by omega), hN.2.2.2.2.2.2.1, eE]
      exact i_ge (Nat.le_refl _) (by omega) (ref f m' (en_al hW la h0 hf) hF)
    · intro k hk ih f m' t hf hR' hF
      have ho : ∀ c d, ¬ (c < 27 ∧ d = 1) → m' c d = m c d := fun c d h => hF c d (by omega)
      obtain ⟨e0, e1, e2, e3, e4, e5, e6⟩ := hR.1.2.2.2.1 k hk
      obtain ⟨w4, ⟨e, le, ee⟩, w6⟩ := WF_ev hW hk
      refine T_87_72 ?_
      rw [ho 2 0 (by omega), hN.2.2.2.2.2.2.1, eE]
      refine i_lt hk (by omega) ⟨inK (by omega) (by omega), ?_⟩
      intro m3 e3'
      rw [ixK (by omega), ho 14 0 (by omega), e5, ee] at e3' ⊢
      have hR3 : Rp m3 1 (upd s 0 (nI e)) := by
        have := Rp_hour (v := nI e) hR' ⟨e, by omega, rfl⟩
        rw [upd_2] at this
        rw [e3']
        exact this
      have hF3 : Fr 1 m m3 := by
        rw [e3']
        exact Fr_tr hF (Fr_up (by omega))
      have ho3 : ∀ c d, ¬ (c < 27 ∧ d = 1) → m3 c d = m c d := fun c d h => hF3 c d (by omega)
      rw [ho3 0 0 (by omega), hN.1, ea, nI_1]
      have skip : ¬ (a < e ∧ mAt s ch x y p e = true) → H_87_72 ch x y p f (nI (k + 1)) m3 (fun v m1 => Mi 171 [.inr (34, 0), .inl ch, .inl x, .inl y, .inl p] m1 (fun w m2 => Q v w m2)) := by
        intro z
        refine ih f m3 e ?_ hR3 hF3
        rcases hf with ⟨q1, q2⟩ | ⟨u, q1, q2, q3, q4, q5⟩
        · refine Or.inl ⟨q1, fun j hj w hw lw aw => ?_⟩
          rcases Nat.lt_or_ge j k with q | q
          · exact q2 j q w hw lw aw
          · obtain rfl : j = k := by omega
            have : w = e := (nI_eq (by omega) (by omega)).mp (hw.symm.trans ee)
            rw [this] at aw ⊢
            cases hc : mAt s ch x y p e with
            | false => rfl
            | true => exact absurd ⟨aw, hc⟩ z
        · refine Or.inr ⟨u, q1, q2, q3, fun j hj w hw lw aw hc => ?_, q5⟩
          rcases Nat.lt_or_ge j k with q | q
          · exact q4 j q w hw lw aw hc
          · obtain rfl : j = k := by omega
            have : w = e := (nI_eq (by omega) (by omega)).mp (hw.symm.trans ee)
            rw [this] at aw hc
            exact absurd ⟨aw, hc⟩ z
      have skip2 : ∀ u, f = nI u → u ≤ 9999 → u ≤ e → H_87_72 ch x y p f (nI (k + 1)) m3 (fun v m1 => Mi 171 [.inr (34, 0), .inl ch, .inl x, .inl y, .inl p] m1 (fun w m2 => Q v w m2)) := by
        intro u hu lu hue
        refine ih f m3 e ?_ hR3 hF3
        rcases hf with ⟨q1, q2⟩ | ⟨u', q1, q2, q3, q4, q5⟩
        · exact absurd (hu.symm.trans q1) (rg_6 ⟨u, lu, rfl⟩ (by omega))
        · have huu : u' = u := (nI_eq (by omega) (by omega)).mp (q5.symm.trans hu)
          refine Or.inr ⟨u', q1, q2, q3, fun j hj w hw lw aw hc => ?_, q5⟩
          rcases Nat.lt_or_ge j k with q | q
          · exact q4 j q w hw lw aw hc
          · obtain rfl : j = k := by omega
            have : w = e := (nI_eq (by omega) (by omega)).mp (hw.symm.trans ee)
            omega
      have take : a < e → mAt s ch x y p e = true → (f = (-6) ∨ ∃ u, f = nI u ∧ u ≤ 9999 ∧ e < u) → H_87_72 ch x y p (nI e) (nI (k + 1)) m3 (fun v m1 => Mi 171 [.inr (34, 0), .inl ch, .inl x, .inl y, .inl p] m1 (fun w m2 => Q v w m2)) := by
        intro hae hat hfe
        refine ih (nI e) m3 e (Or.inr ⟨e, hae, le, hat, fun j hj w hw lw aw hc => ?_, rfl⟩) hR3 hF3
        rcases Nat.lt_or_ge j k with q | q
        · rcases hf with ⟨q1, q2⟩ | ⟨u, q1, q2, q3, q4, q5⟩
          · rw [q2 j q w hw lw aw] at hc; cases hc
          · have := q4 j q w hw lw aw hc
            rcases hfe with z | ⟨u', z1, z2, z3⟩
            · exact absurd (q5.symm.trans z) (rg_6 ⟨u, q2, rfl⟩ (by omega))
            · have : u = u' := (nI_eq (by omega) (by omega)).mp (q5.symm.trans z1)
              omega
        · obtain rfl : j = k := by omega
          have : w = e := (nI_eq (by omega) (by omega)).mp (hw.symm.trans ee)
          omega
      by_cases hae : a < e
      · refine i_lt hae (by omega) ?_
        by_cases hf6 : f = (-6)
        · refine i_pos hf6 (K_53 hR3 hp ?_)
          rw [alw_at]
          cases hc : mAt s ch x y p e with
          | false => exact i_pos (bP_bf rfl) (skip (fun z => by rw [hc] at z; exact absurd z.2 (by decide)))
          | true => exact i_neg (by decide) (take hae hc (Or.inl hf6))
        · refine i_neg hf6 ?_
          obtain ⟨u, lu, eu⟩ : ∃ u, u ≤ 9999 ∧ f = nI u := by
            rcases hf with ⟨q1, -⟩ | ⟨u, -, q2, -, -, q5⟩
            · exact absurd q1 hf6
            · exact ⟨u, q2, q5⟩
          by_cases hlt : e < u
          · refine i_pos (by rw [eu]; exact nI_lt hlt (by omega)) (K_53 hR3 hp ?_)
            rw [alw_at]
            cases hc : mAt s ch x y p e with
            | false => exact i_pos (bP_bf rfl) (skip (fun z => by rw [hc] at z; exact absurd z.2 (by decide)))
            | true => exact i_neg (by decide) (take hae hc (Or.inr ⟨u, eu, lu, hlt⟩))
          · exact i_neg (by rw [eu]; exact nI_nlt (by omega) (by omega)) (skip2 u eu lu (by omega))
      · exact i_ge (by omega) (by omega) (skip (fun z => hae z.1))
end FOR
