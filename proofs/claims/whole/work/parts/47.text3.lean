/-! the text: the reference's act, the fault position on both sides -/
section TX3
variable {m : aM} {tx : Nat → Int32} {t a : Nat} {v x y p lo hi f g : Int32} {Q : Int32 → aM → Prop} {Qv : aM → Prop}
def E3 (Q : Int32 → aM → Prop) (m : aM) : Prop := if m 34 0 12 < 0 then Q 0 m else Mi 148 [.inr (34, 0), .inl 59] m (fun v m1 => if v = 0 then Q 0 m1 else Q 1 m1)
def E2 (Q : Int32 → aM → Prop) (m : aM) : Prop := if m 34 0 11 < 0 then (∀ m1, m1 = a_up m 34 0 12 (-6) → E3 Q m1) else Mi 148 [.inr (34, 0), .inl 104] m (fun v m1 => if v = 0 then (∀ m2, m2 = a_up m1 34 0 12 (-6) → E3 Q m2) else Mi 149 [.inr (34, 0), .inl 1, .inl 99] m1 (fun v m2 => ∀ m3, m3 = a_up m2 34 0 12 v → E3 Q m3))
def E1 (Q : Int32 → aM → Prop) (m : aM) : Prop := if m 34 0 10 < 0 then (∀ m1, m1 = a_up m 34 0 11 (-6) → E2 Q m1) else Mi 148 [.inr (34, 0), .inl 112] m (fun v m1 => if v = 0 then (∀ m2, m2 = a_up m1 34 0 11 (-6) → E2 Q m2) else Mi 149 [.inr (34, 0), .inl 0, .inl 3] m1 (fun v m2 => ∀ m3, m3 = a_up m2 34 0 11 v → E2 Q m3))
theorem R_59 (f g h' : Int32) (h : Tr m tx t) (ha : m 34 0 9 = nI a) (la : a ≤ t) (hQ : match pEnd tx t f g h' a with
    | .inr (_, _, _, b) => ∀ m', Rk9 m m' → m' 34 0 9 = nI b → Q 1 m'
    | .inl q => ∀ m', Rk9 m m' → m' 34 0 9 = nI q → Q 0 m') : Mi 148 [.inr (34, 0), .inl 59] m (fun v m1 => if v = 0 then Q 0 m1 else Q 1 m1) := by
  refine R_148 h ha la ?_
  unfold pEnd at hQ
  cases hb : pByt tx t a 59 with
  | none =>
    rw [hb] at hQ
    dsimp only at hQ ⊢
    exact fun m' k' a' => i_pos rfl (hQ m' k' a')
  | some b =>
    rw [hb] at hQ
    dsimp only at hQ ⊢
    exact fun m' k' a' => i_neg (by decide) (hQ m' k' a')
theorem E3_bad (h : m 34 0 12 = (-6)) (hQ : Q 0 m) : E3 Q m := i_pos (by rw [h]; decide) hQ
theorem E2_bad (h : m 34 0 11 = (-6)) (hQ : ∀ m', Rk m m' → m' 34 0 9 = m 34 0 9 → Q 0 m') : E2 Q m := by
  refine i_pos (by rw [h]; decide) ?_
  intro m1 e1
  exact E3_bad (by rw [e1, up_e]) (hQ m1 (by rw [e1]; exact Rk_up (by omega)) (by rw [e1, up_o (by omega)]))
theorem E2_ok (h : Tr m tx t) (ha : m 34 0 9 = nI a) (la : a ≤ t) (h2 : ¬ m 34 0 11 < 0) (hQ : match pL3 tx t f g a with
    | .inr (f', g', h', b) => ∀ m', Rk m m' → m' 34 0 9 = nI b → (f' = f ∧ g' = g ∧ m' 34 0 12 = h') → (m' 34 0 10 = m 34 0 10 ∧ m' 34 0 11 = m 34 0 11) → Q 1 m'
    | .inl q => ∀ m', Rk m m' → m' 34 0 9 = nI q → Q 0 m') : E2 Q m := by
  have l80 := h.1
  refine i_neg h2 (R_148 h ha la ?_)
  unfold pL3 at hQ
  cases hb : pByt tx t a 104 with
  | none =>
    rw [hb] at hQ
    dsimp only at hQ ⊢
    intro m1 k1 a1
    refine i_pos rfl ?_
    intro m2 e2
    exact E3_bad (by rw [e2, up_e]) (hQ m2 (Rk_tr (Rk9_k k1) (by rw [e2]; exact Rk_up (by omega))) (by rw [e2, up_o (by omega)]; exact a1))
  | some b =>
    rw [hb] at hQ
    dsimp only at hQ ⊢
    have lb := pByt_lt hb
    intro m1 k1 a1
    refine i_neg (by decide) (R_149 (Tr_k h (Rk9_k k1)) a1 (by omega) ?_)
    cases hn : pNum tx t b 1 99 with
    | none =>
      rw [hn] at hQ
      dsimp only at hQ ⊢
      intro m2 k2 a2 m3 e3
      exact E3_bad (by rw [e3, up_e]) (hQ m3 (Rk_tr (Rk9_k k1) (Rk_tr (Rk9_k k2) (by rw [e3]; exact Rk_up (by omega)))) (by rw [e3, up_o (by omega)]; exact a2))
    | some r =>
      obtain ⟨v, c⟩ := r
      rw [hn] at hQ
      dsimp only at hQ ⊢
      have lc := pNum_lt hn
      have hv : ¬ v < 0 := rg_nn (rg_1of (B := 99) (by omega) (pNum_rg hn)) (by omega)
      intro m2 k2 a2 m3 e3
      have k3 : Rk m m3 := Rk_tr (Rk9_k k1) (Rk_tr (Rk9_k k2) (by rw [e3]; exact Rk_up (by omega)))
      have v3 : m3 34 0 12 = v := by rw [e3, up_e]
      have a3 : m3 34 0 9 = nI c := by rw [e3, up_o (by omega)]; exact a2
      refine i_neg (by rw [v3]; exact hv) (R_59 f g v (Tr_k h k3) a3 lc.2 ?_)
      unfold pEnd at hQ ⊢
      cases hy : pByt tx t c 59 with
      | none =>
        rw [hy] at hQ
        dsimp only at hQ ⊢
        exact fun m4 k4 a4 => hQ m4 (Rk_tr k3 (Rk9_k k4)) a4
      | some d =>
        rw [hy] at hQ
        dsimp only at hQ ⊢
        intro m4 k4 a4
        refine hQ m4 (Rk_tr k3 (Rk9_k k4)) a4 ⟨rfl, rfl, (k4.2 12 (by omega)).trans v3⟩ ⟨?_, ?_⟩
        · rw [k4.2 10 (by omega), e3, up_o (by omega), k2.2 10 (by omega), k1.2 10 (by omega)]
        · rw [k4.2 11 (by omega), e3, up_o (by omega), k2.2 11 (by omega), k1.2 11 (by omega)]
theorem E1_ok (h : Tr m tx t) (ha : m 34 0 9 = nI a) (la : a ≤ t) (h2 : ¬ m 34 0 10 < 0) (hQ : match pL2 tx t f a with
    | .inr (f', g', h', b) => ∀ m', Rk m m' → m' 34 0 9 = nI b → (f' = f ∧ m' 34 0 11 = g' ∧ m' 34 0 12 = h') → m' 34 0 10 = m 34 0 10 → Q 1 m'
    | .inl q => ∀ m', Rk m m' → m' 34 0 9 = nI q → Q 0 m') : E1 Q m := by
  have l80 := h.1
  refine i_neg h2 (R_148 h ha la ?_)
  unfold pL2 at hQ
  cases hb : pByt tx t a 112 with
  | none =>
    rw [hb] at hQ
    dsimp only at hQ ⊢
    intro m1 k1 a1
    refine i_pos rfl ?_
    intro m2 e2
    have k2 : Rk m m2 := Rk_tr (Rk9_k k1) (by rw [e2]; exact Rk_up (by omega))
    exact E2_bad (by rw [e2, up_e]) (fun m' k' a' => hQ m' (Rk_tr k2 k') (by rw [a', e2, up_o (by omega)]; exact a1))
  | some b =>
    rw [hb] at hQ
    dsimp only at hQ ⊢
    have lb := pByt_lt hb
    intro m1 k1 a1
    refine i_neg (by decide) (R_149 (Tr_k h (Rk9_k k1)) a1 (by omega) ?_)
    cases hn : pNum tx t b 0 3 with
    | none =>
      rw [hn] at hQ
      dsimp only at hQ ⊢
      intro m2 k2 a2 m3 e3
      have k3 : Rk m m3 := Rk_tr (Rk9_k k1) (Rk_tr (Rk9_k k2) (by rw [e3]; exact Rk_up (by omega)))
      exact E2_bad (by rw [e3, up_e]) (fun m' k' a' => hQ m' (Rk_tr k3 k') (by rw [a', e3, up_o (by omega)]; exact a2))
    | some r =>
      obtain ⟨v, c⟩ := r
      rw [hn] at hQ
      dsimp only at hQ ⊢
      have lc := pNum_lt hn
      have hv : ¬ v < 0 := rg_nn (rg_of (B := 3) (by omega) (pNum_rg hn)) (by omega)
      intro m2 k2 a2 m3 e3
      have k3 : Rk m m3 := Rk_tr (Rk9_k k1) (Rk_tr (Rk9_k k2) (by rw [e3]; exact Rk_up (by omega)))
      have v3 : m3 34 0 11 = v := by rw [e3, up_e]
      have a3 : m3 34 0 9 = nI c := by rw [e3, up_o (by omega)]; exact a2
      have o10 : m3 34 0 10 = m 34 0 10 := by rw [e3, up_o (by omega), k2.2 10 (by omega), k1.2 10 (by omega)]
      refine E2_ok (f := f) (g := v) (Tr_k h k3) a3 lc.2 (by rw [v3]; exact hv) ?_
      cases hl : pL3 tx t f v c with
      | inl q =>
        rw [hl] at hQ
        dsimp only at hQ ⊢
        exact fun m' k' a' => hQ m' (Rk_tr k3 k') a'
      | inr z =>
        obtain ⟨f', g', h', b'⟩ := z
        rw [hl] at hQ
        dsimp only at hQ ⊢
        intro m' k' a' ⟨z1, z2, z3⟩ ⟨o1, o2⟩
        exact hQ m' (Rk_tr k3 k') a' ⟨z1, by rw [o2, v3, z2], z3⟩ (o1.trans o10)
theorem R_one (hlo : ∀ w, ¬ (w < lo ∨ hi < w) → ¬ w < 0) (h : Tr m tx t) (ha : m 34 0 9 = nI a) (la : a ≤ t) (hQ : match pOne tx t a lo hi with
    | .inr (f, _, _, b) => ∀ m', Rk m m' → m' 34 0 9 = nI b → m' 34 0 10 = f → Q 1 m'
    | .inl q => ∀ m', Rk m m' → m' 34 0 9 = nI q → Q 0 m') : Mi 149 [.inr (34, 0), .inl lo, .inl hi] m (fun v7 m6 => ∀ m8, m8 = a_up m6 34 0 10 v7 → if m8 34 0 10 < 0 then Q 0 m8 else Mi 148 [.inr (34, 0), .inl 59] m8 (fun v m1 => if v = 0 then Q 0 m1 else Q 1 m1)) := by
  have l80 := h.1
  refine R_149 h ha la ?_
  unfold pOne at hQ
  cases hn : pNum tx t a lo hi with
  | none =>
    rw [hn] at hQ
    dsimp only at hQ ⊢
    intro m1 k1 a1 m2 e2
    exact i_pos (by rw [e2, up_e]; decide) (hQ m2 (Rk_tr (Rk9_k k1) (by rw [e2]; exact Rk_up (by omega))) (by rw [e2, up_o (by omega)]; exact a1))
  | some r =>
    obtain ⟨v, c⟩ := r
    rw [hn] at hQ
    dsimp only at hQ ⊢
    have lc := pNum_lt hn
    intro m1 k1 a1 m2 e2
    have k2 : Rk m m2 := Rk_tr (Rk9_k k1) (by rw [e2]; exact Rk_up (by omega))
    have v2 : m2 34 0 10 = v := by rw [e2, up_e]
    have a2 : m2 34 0 9 = nI c := by rw [e2, up_o (by omega)]; exact a1
    refine i_neg (by rw [v2]; exact hlo v (pNum_rg hn)) (R_59 v 0 0 (Tr_k h k2) a2 lc.2 ?_)
    unfold pEnd at hQ ⊢
    cases hy : pByt tx t c 59 with
    | none =>
      rw [hy] at hQ
      dsimp only at hQ ⊢
      exact fun m4 k4 a4 => hQ m4 (Rk_tr k2 (Rk9_k k4)) a4
    | some d =>
      rw [hy] at hQ
      dsimp only at hQ ⊢
      exact fun m4 k4 a4 => hQ m4 (Rk_tr k2 (Rk9_k k4)) a4 ((k4.2 10 (by omega)).trans v2)
theorem lo_0 {B : Nat} (hB : B < 2 ^ 31) : ∀ w : Int32, ¬ (w < 0 ∨ nI B < w) → ¬ w < 0 := fun _ h z => h (Or.inl z)
theorem lo_1 {B : Nat} (hB : B < 2 ^ 31) : ∀ w : Int32, ¬ (w < 1 ∨ nI B < w) → ¬ w < 0 := fun _ h => rg_nn (rg_1of hB h) hB
theorem R_150 (h : Tr m tx t) (ha : m 34 0 9 = nI a) (la : a < t) (hQ : match pAct tx t a with
    | .inr (f, g, h', b) => ∀ m', Rk m m' → m' 34 0 9 = nI b → m' 34 0 10 = f → (tx a = 108 → m' 34 0 11 = g ∧ m' 34 0 12 = h') → Q 1 m'
    | .inl q => ∀ m', Rk m m' → m' 34 0 9 = nI q → Q 0 m') : Mi 150 [.inr (34, 0)] m Q := by
  have l80 := h.1
  refine T_150 (i_pos (by rw [ha, h.2.1]; exact nI_lt la (by omega)) ?_)
  rw [ha, ixK (by omega), h.2.2 a la]
  refine ⟨inK (by omega) (by omega), ?_⟩
  unfold pAct at hQ
  have k4 : ∀ m4, m4 = a_up m 34 0 9 (nI a + 1) → Rk m m4 ∧ m4 34 0 9 = nI (a + 1) := fun m4 e4 => ⟨by rw [e4]; exact Rk_up (by omega), by rw [e4, up_e, nI_1]⟩
  have one : ∀ {lo hi : Int32}, (∀ w, ¬ (w < lo ∨ hi < w) → ¬ w < 0) → ¬ tx a = 108 → (match pOne tx t (a + 1) lo hi with
    | .inr (f, g, h', b) => ∀ m', Rk m m' → m' 34 0 9 = nI b → m' 34 0 10 = f → (tx a = 108 → m' 34 0 11 = g ∧ m' 34 0 12 = h') → Q 1 m'
    | .inl q => ∀ m', Rk m m' → m' 34 0 9 = nI q → Q 0 m') → ∀ m4, m4 = a_up m 34 0 9 (nI a + 1) → Mi 149 [.inr (34, 0), .inl lo, .inl hi] m4 (fun v7 m6 => ∀ m8, m8 = a_up m6 34 0 10 v7 → if m8 34 0 10 < 0 then Q 0 m8 else Mi 148 [.inr (34, 0), .inl 59] m8 (fun v m1 => if v = 0 then Q 0 m1 else Q 1 m1)) := by
    intro lo hi hlo hn hq m4 e4
    obtain ⟨kk, a4⟩ := k4 m4 e4
    refine R_one hlo (Tr_k h kk) a4 (by omega) ?_
    cases ho : pOne tx t (a + 1) lo hi with
    | inl q =>
      rw [ho] at hq
      dsimp only at hq ⊢
      exact fun m' k' a' => hq m' (Rk_tr kk k') a'
    | inr z =>
      obtain ⟨f', g', h', b'⟩ := z
      rw [ho] at hq
      dsimp only at hq ⊢
      exact fun m' k' a' c5 => hq m' (Rk_tr kk k') a' c5 (fun z => absurd z hn)
  by_cases q1 : tx a = 103
  · rw [if_pos q1] at hQ
    refine i_pos q1 ?_
    intro m4 e4
    exact i_neg (by rw [q1]; decide) (one (lo_0 (B := 15) (by omega)) (by rw [q1]; decide) hQ m4 e4)
  rw [if_neg q1] at hQ
  refine i_neg q1 ?_
  by_cases q2 : tx a = 108
  · rw [if_pos q2] at hQ
    refine i_pos q2 ?_
    intro m4 e4
    obtain ⟨kk, a4⟩ := k4 m4 e4
    refine R_149 (Tr_k h kk) a4 (by omega) ?_
    unfold pL1 at hQ
    cases hn : pNum tx t (a + 1) 0 15 with
    | none =>
      rw [hn] at hQ
      dsimp only at hQ ⊢
      intro m5 k5 a5 m6 e6
      have k6 : Rk m m6 := Rk_tr kk (Rk_tr (Rk9_k k5) (by rw [e6]; exact Rk_up (by omega)))
      have a6 : m6 34 0 9 = nI (a + 1) := by rw [e6, up_o (by omega)]; exact a5
      refine i_pos (by rw [e6, up_e]; decide) ?_
      intro m7 e7
      show E2 Q m7
      have k7 : Rk m m7 := Rk_tr k6 (by rw [e7]; exact Rk_up (by omega))
      exact E2_bad (by rw [e7, up_e]) (fun m' k' a' => hQ m' (Rk_tr k7 k') (by rw [a', e7, up_o (by omega)]; exact a6))
    | some r =>
      obtain ⟨v, c⟩ := r
      rw [hn] at hQ
      dsimp only at hQ ⊢
      have lc := pNum_lt hn
      have hv : ¬ v < 0 := rg_nn (rg_of (B := 15) (by omega) (pNum_rg hn)) (by omega)
      intro m5 k5 a5 m6 e6
      have k6 : Rk m m6 := Rk_tr kk (Rk_tr (Rk9_k k5) (by rw [e6]; exact Rk_up (by omega)))
      have a6 : m6 34 0 9 = nI c := by rw [e6, up_o (by omega)]; exact a5
      have v6 : m6 34 0 10 = v := by rw [e6, up_e]
      show E1 Q m6
      refine E1_ok (f := v) (Tr_k h k6) a6 lc.2 (by rw [v6]; exact hv) ?_
      cases hl : pL2 tx t v c with
      | inl q =>
        rw [hl] at hQ
        dsimp only at hQ ⊢
        exact fun m' k' a' => hQ m' (Rk_tr k6 k') a'
      | inr z =>
        obtain ⟨f', g', h', b'⟩ := z
        rw [hl] at hQ
        dsimp only at hQ ⊢
        intro m' k' a' ⟨z1, z2, z3⟩ o10
        exact hQ m' (Rk_tr k6 k') a' (by rw [o10, v6, z1]) (fun _ => ⟨z2, z3⟩)
  rw [if_neg q2] at hQ
  refine i_neg q2 ?_
  by_cases q3 : tx a = 116
  · rw [if_pos q3] at hQ
    exact i_pos q3 (one (lo_1 (B := 99) (by omega)) q2 hQ)
  rw [if_neg q3] at hQ
  refine i_neg q3 ?_
  by_cases q4 : tx a = 119
  · rw [if_pos q4] at hQ
    exact i_pos q4 (one (lo_0 (B := 7) (by omega)) q2 hQ)
  rw [if_neg q4] at hQ
  refine i_neg q4 ?_
  by_cases q5 : tx a = 122
  · rw [if_pos q5] at hQ
    exact i_pos q5 (one (lo_0 (B := 7) (by omega)) q2 hQ)
  rw [if_neg q5] at hQ
  exact i_neg q5 (hQ m Rk_rf ha)
theorem pEnd_lt {h' f' g' hh : Int32} {b : Nat} (h : pEnd tx t f g h' a = .inr (f', g', hh, b)) : a < b ∧ b ≤ t := by
  unfold pEnd at h
  split at h
  · rename_i hb
    cases h
    have := pByt_lt hb
    omega
  · cases h
theorem pEnd_q {h' : Int32} {q : Nat} (h : pEnd tx t f g h' a = .inl q) : q = a := by
  unfold pEnd at h
  split at h <;> cases h
  rfl
theorem pOne_lt {f' g' hh : Int32} {b : Nat} (h : pOne tx t a lo hi = .inr (f', g', hh, b)) : a < b ∧ b ≤ t := by
  unfold pOne at h
  split at h
  · rename_i hn
    have h1 := pNum_lt hn
    have h2 := pEnd_lt h
    omega
  · cases h
theorem pOne_q {q : Nat} (la : a ≤ t) (h : pOne tx t a lo hi = .inl q) : q ≤ t := by
  unfold pOne at h
  split at h
  · rename_i hn
    have h1 := pNum_lt hn
    have h2 := pEnd_q h
    omega
  · cases h; exact la
theorem pL3_lt {f' g' hh : Int32} {b : Nat} (h : pL3 tx t f g a = .inr (f', g', hh, b)) : a < b ∧ b ≤ t := by
  unfold pL3 at h
  split at h
  · cases h
  · rename_i hb
    have h0 := pByt_lt hb
    split at h
    · cases h
    · rename_i hn
      have h1 := pNum_lt hn
      have h2 := pEnd_lt h
      omega
theorem pL3_q {q : Nat} (la : a ≤ t) (h : pL3 tx t f g a = .inl q) : q ≤ t := by
  unfold pL3 at h
  split at h
  · cases h; exact la
  · rename_i hb
    have h0 := pByt_lt hb
    split at h
    · cases h; omega
    · rename_i hn
      have h1 := pNum_lt hn
      have h2 := pEnd_q h
      omega
theorem pL2_lt {f' g' hh : Int32} {b : Nat} (h : pL2 tx t f a = .inr (f', g', hh, b)) : a < b ∧ b ≤ t := by
  unfold pL2 at h
  split at h
  · cases h
  · rename_i hb
    have h0 := pByt_lt hb
    split at h
    · cases h
    · rename_i hn
      have h1 := pNum_lt hn
      have h2 := pL3_lt h
      omega
theorem pL2_q {q : Nat} (la : a ≤ t) (h : pL2 tx t f a = .inl q) : q ≤ t := by
  unfold pL2 at h
  split at h
  · cases h; exact la
  · rename_i hb
    have h0 := pByt_lt hb
    split at h
    · cases h; omega
    · rename_i hn
      have h1 := pNum_lt hn
      exact pL3_q h1.2 h
theorem pAct_lt {f' g' hh : Int32} {b : Nat} (h : pAct tx t a = .inr (f', g', hh, b)) : a < b ∧ b ≤ t := by
  unfold pAct at h
  split at h
  · have := pOne_lt h; omega
  · split at h
    · unfold pL1 at h
      split at h
      · cases h
      · rename_i hn
        have h1 := pNum_lt hn
        have h2 := pL2_lt h
        omega
    · split at h
      · have := pOne_lt h; omega
      · split at h
        · have := pOne_lt h; omega
        · split at h
          · have := pOne_lt h; omega
          · cases h
theorem pAct_q {q : Nat} (la : a < t) (h : pAct tx t a = .inl q) : q ≤ t := by
  unfold pAct at h
  split at h
  · exact pOne_q (by omega) h
  · split at h
    · unfold pL1 at h
      split at h
      · cases h; omega
      · rename_i hn
        have h1 := pNum_lt hn
        exact pL2_q h1.2 h
    · split at h
      · exact pOne_q (by omega) h
      · split at h
        · exact pOne_q (by omega) h
        · split at h
          · exact pOne_q (by omega) h
          · cases h; omega
/-- the fault position, or none; n acts are looked at -/
def pFt (tx : Nat → Int32) (t : Nat) : Nat → Nat → Int32
  | 0, _ => (-6)
  | n + 1, a => if a < t then (match pAct tx t a with
    | .inl q => nI q
    | .inr (_, _, _, b) => pFt tx t n b) else (-6)
theorem pFt_s (n : Nat) : pFt tx t (n + 1) a = if a < t then (match pAct tx t a with
    | .inl q => nI q
    | .inr (_, _, _, b) => pFt tx t n b) else (-6) := rfl
theorem H26_bad {q : Nat} (hq : q < 1000) (hf : m 32 0 3 = nI q) (hQ : Q (nI q) m) : H_2_6 x m Q := by
  refine T_2_6 ?_
  have hn : ¬ (m 32 0 3 = (-6) ∧ m 32 0 2 < m 32 0 1) := fun z => nI_n6 hq (hf.symm.trans z.1)
  rw [← hf] at hQ
  by_cases hx : x < 80
  · exact i_pos hx (i_neg hn hQ)
  · exact i_neg hx hQ
theorem K_2 (h : Tc m tx t) (hQ : ∀ m', Tk m m' → Q (pFt tx t 81 0) m') : Mi 2 [.inr (32, 0)] m Q := by
  have l80 := h.1
  refine T_2 (T_3 ?_)
  intro m1 e1 m2 e2
  have k2 : Tk m m2 := by
    rw [e2, e1]
    exact Tk_tr (Tk_up (by omega)) (Tk_up (by omega))
  have key : ∀ n k a m', t - a < n → k ≤ a → a ≤ t → Tk m m' → m' 32 0 3 = (-6) → m' 32 0 2 = nI a → pFt tx t 81 0 = pFt tx t n a → H_2_6 (nI k) m' Q := by
    intro n
    induction n with
    | zero => intro k a m' hn; exact absurd hn (Nat.not_lt_zero _)
    | succ n ih =>
      intro k a m' hn hk la kk hf ha he
      rw [pFt_s n] at he
      have h' := Tc_k h kk
      by_cases hat : a < t
      · rw [if_pos hat] at he
        refine T_2_6 (i_pos (nI_lt (b := 80) (by omega) (by omega)) (i_pos ⟨hf, by rw [ha, h'.2.1]; exact nI_lt hat (by omega)⟩ (K_5 h' hf ha hat ?_)))
        cases hp : pAct tx t a with
        | inl q =>
          rw [hp] at he
          dsimp only at he ⊢
          intro m3 k3 f3
          have hqt := pAct_q hat hp
          exact H26_bad (q := q) (by omega) f3 (he ▸ hQ m3 (Tk_tr kk k3))
        | inr z =>
          obtain ⟨f', g', h'', b⟩ := z
          rw [hp] at he
          dsimp only at he ⊢
          have hb := pAct_lt hp
          intro m3 k3 f3 p3 _ _ _
          rw [nI_1]
          exact ih (k + 1) b m3 (by omega) (by omega) hb.2 (Tk_tr kk k3) f3 p3 he
      · rw [if_neg hat] at he
        have hno : ¬ (m' 32 0 3 = (-6) ∧ m' 32 0 2 < m' 32 0 1) := fun z => by
          rw [ha, h'.2.1, nI_ltI (by omega) (by omega)] at z
          exact hat z.2
        have hq := hQ m' kk
        rw [he, ← hf] at hq
        refine T_2_6 ?_
        by_cases hx : nI k < 80
        · exact i_pos hx (i_neg hno hq)
        · exact i_neg hx hq
  exact key 81 0 0 m2 (by omega) (Nat.le_refl 0) (Nat.zero_le _) k2 (by rw [e2, up_e]) (by rw [e2, up_o (by omega), e1, up_e]; rfl) rfl
theorem R_151 (h : Tr m tx t) (hQ : ∀ m', Rk m m' → Q (pFt tx t 81 0) m') : Mi 151 [.inr (34, 0)] m Q := by
  have l80 := h.1
  refine T_151 ?_
  intro m1 e1
  have key : ∀ n a m', t - a < n → a ≤ t → Rk m m' → m' 34 0 9 = nI a → pFt tx t 81 0 = pFt tx t n a → H_151_7 1 m' Q := by
    intro n
    induction n with
    | zero => intro a m' hn; exact absurd hn (Nat.not_lt_zero _)
    | succ n ih =>
      intro a m' hn la kk ha he
      rw [pFt_s n] at he
      have h' := Tr_k h kk
      refine T_151_7 (i_neg (by decide) ?_)
      by_cases hat : a < t
      · rw [if_pos hat] at he
        refine i_pos (by rw [ha, h'.2.1]; exact nI_lt hat (by omega)) (R_150 h' ha hat ?_)
        cases hp : pAct tx t a with
        | inl q =>
          rw [hp] at he
          dsimp only at he ⊢
          intro m3 k3 a3
          refine T_151_7 (i_pos rfl ?_)
          rw [a3, ← he]
          exact hQ m3 (Rk_tr kk k3)
        | inr z =>
          obtain ⟨f', g', h'', b⟩ := z
          rw [hp] at he
          dsimp only at he ⊢
          have hb := pAct_lt hp
          intro m3 k3 a3 _ _
          exact ih b m3 (by omega) hb.2 (Rk_tr kk k3) a3 he
      · rw [if_neg hat] at he
        refine i_neg (by rw [ha, h'.2.1]; exact nI_nlt (by omega) (by omega)) ?_
        rw [← he]
        exact hQ m' kk
  exact key 81 0 m1 (by omega) (Nat.zero_le _) (by rw [e1]; exact Rk_up (by omega)) (by rw [e1, up_e]; rfl) rfl
theorem Sim_Tc (hS : Sim m) : ∃ t, Tc m (m 33 0) t ∧ Tr m (m 33 0) t := by
  obtain ⟨t, lt, e1, e2, hb⟩ := hS.2.2.1
  exact ⟨t, ⟨lt, e1, fun _ _ => rfl⟩, ⟨lt, e2, fun j hj => (hb j hj).symm⟩⟩
/-- reading changes nothing that counts -/
theorem Sim_read {m1 m2 : aM} (hS : Sim m) (h1 : Tk m m1) (h2 : Rk m1 m2) : Sim m2 := by
  have o : ∀ c d, ¬ c = 32 → ¬ c = 34 → m2 c d = m c d := fun c d q1 q2 => (h2.1 c d q2).trans (h1.1 c d q1)
  obtain ⟨t, lt, e1, e2, hb⟩ := hS.2.2.1
  refine Sim_txt hS (fun c d q1 q2 q3 q4 => o c d q1 q3) ?_ ?_ ⟨t, lt, ?_, ?_, fun j hj => ?_⟩
  · rw [h2.2 5 (by omega), h1.1 34 0 (by omega)]
  · rw [h2.2 6 (by omega), h1.1 34 0 (by omega)]
  · rw [h2.1 32 0 (by omega), h1.2]; exact e1
  · rw [h2.2 8 (by omega), h1.1 34 0 (by omega)]; exact e2
  · rw [o 33 0 (by omega) (by omega), o 40 0 (by omega) (by omega)]; exact hb j hj
theorem E_fault : Same 73 [.inr (27, 0)] 151 [.inr (34, 0)] := by
  intro m Q hS hQ
  obtain ⟨t, hc, hr⟩ := Sim_Tc hS
  refine T_73 (K_2 hc ?_)
  intro m1 k1
  have hr1 : Tr m1 (m 33 0) t := ⟨hr.1, by rw [k1.1 34 0 (by omega)]; exact hr.2.1, fun j hj => by rw [k1.1 40 0 (by omega)]; exact hr.2.2 j hj⟩
  refine R_151 hr1 ?_
  intro m2 k2
  exact hQ _ _ (Sim_read hS k1 k2)
end TX3
