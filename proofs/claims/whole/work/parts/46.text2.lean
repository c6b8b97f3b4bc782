/-! the text: reading an act, on both sides -/
section TX2
variable {m : aM} {tx : Nat → Int32} {t a : Nat} {v x y p lo hi : Int32} {Q : Int32 → aM → Prop} {Qv : aM → Prop}
theorem bad_2 {q : Nat} (hq : q < 1000) (hf : m 32 0 3 = nI q) (hQ : ∀ m', Tk m m' → m' 32 0 3 = nI q → Qv m') : Mi 7 [.inr (32, 0), .inl 1, .inl 99] m (fun v20 m19 => ∀ m21, m21 = a_up m19 32 0 7 v20 → Mv 6 [.inr (32, 0), .inl 59] m21 (fun m22 => Qv m22)) := by
  have n6 := nI_n6 hq
  refine K_7_bad (by rw [hf]; exact n6) ?_
  intro m21 e21
  have f : m21 32 0 3 = nI q := by rw [e21, up_o (by omega)]; exact hf
  exact K_6_bad (by rw [f]; exact n6) (hQ m21 (by rw [e21]; exact Tk_up (by omega)) f)
theorem bad_1 {q : Nat} (hq : q < 1000) (hf : m 32 0 3 = nI q) (hQ : ∀ m', Tk m m' → m' 32 0 3 = nI q → Qv m') : Mi 7 [.inr (32, 0), .inl 0, .inl 3] m (fun v16 m15 => ∀ m17, m17 = a_up m15 32 0 6 v16 → Mv 6 [.inr (32, 0), .inl 104] m17 (fun m18 => Mi 7 [.inr (32, 0), .inl 1, .inl 99] m18 (fun v20 m19 => ∀ m21, m21 = a_up m19 32 0 7 v20 → Mv 6 [.inr (32, 0), .inl 59] m21 (fun m22 => Qv m22)))) := by
  have n6 := nI_n6 hq
  refine K_7_bad (by rw [hf]; exact n6) ?_
  intro m17 e17
  have f : m17 32 0 3 = nI q := by rw [e17, up_o (by omega)]; exact hf
  have k : Tk m m17 := by rw [e17]; exact Tk_up (by omega)
  exact K_6_bad (by rw [f]; exact n6) (bad_2 hq f (fun m' k' f' => hQ m' (Tk_tr k k') f'))
theorem K_l3 {f g : Int32} (h : Tc m tx t) (hf : m 32 0 3 = (-6)) (ha : m 32 0 2 = nI a) (la : a ≤ t) (hQ : match pL3 tx t f g a with
    | .inr (f', g', h', b) => ∀ m', Tk m m' → m' 32 0 3 = (-6) → m' 32 0 2 = nI b → (f' = f ∧ g' = g ∧ m' 32 0 7 = h') → (∀ j, j < 7 → ¬ j = 2 → ¬ j = 3 → m' 32 0 j = m 32 0 j) → Qv m'
    | .inl q => ∀ m', Tk m m' → m' 32 0 3 = nI q → Qv m') : Mv 6 [.inr (32, 0), .inl 104] m (fun m18 => Mi 7 [.inr (32, 0), .inl 1, .inl 99] m18 (fun v20 m19 => ∀ m21, m21 = a_up m19 32 0 7 v20 → Mv 6 [.inr (32, 0), .inl 59] m21 (fun m22 => Qv m22))) := by
  have l80 := h.1
  refine K_6 h hf ha la ?_
  unfold pL3 at hQ
  cases hb : pByt tx t a 104 with
  | none =>
    rw [hb] at hQ
    dsimp only at hQ ⊢
    intro m1 k1 f1
    exact bad_2 (q := a) (by omega) f1 (fun m' k' f' => hQ m' (Tk_tr (Tk2_k k1) k') f')
  | some b =>
    rw [hb] at hQ
    dsimp only at hQ ⊢
    have lb := pByt_lt hb
    intro m1 k1 o1 p1
    have f1 : m1 32 0 3 = (-6) := (o1 3 (by omega)).trans hf
    refine K_7 (Tc_k h (Tk2_k k1)) f1 p1 (by omega) ?_
    cases hn : pNum tx t b 1 99 with
    | none =>
      rw [hn] at hQ
      dsimp only at hQ ⊢
      intro v m2 k2 f2 m3 e3
      have f3 : m3 32 0 3 = nI b := by rw [e3, up_o (by omega)]; exact f2
      exact K_6_bad (by rw [f3]; exact nI_n6 (by omega)) (hQ m3 (Tk_tr (Tk2_k k1) (Tk_tr (Tk2_k k2) (by rw [e3]; exact Tk_up (by omega)))) f3)
    | some r =>
      obtain ⟨v, c⟩ := r
      rw [hn] at hQ
      dsimp only at hQ ⊢
      have lc := pNum_lt hn
      intro m2 k2 f2 p2 m3 e3
      have k3 : Tk m m3 := Tk_tr (Tk2_k k1) (Tk_tr (Tk2_k k2) (by rw [e3]; exact Tk_up (by omega)))
      have f3 : m3 32 0 3 = (-6) := by rw [e3, up_o (by omega)]; exact f2
      have p3 : m3 32 0 2 = nI c := by rw [e3, up_o (by omega)]; exact p2
      refine K_6_end f g v (Tc_k h k3) f3 p3 lc.2 ?_
      unfold pEnd at hQ ⊢
      cases hy : pByt tx t c 59 with
      | none =>
        rw [hy] at hQ
        dsimp only at hQ ⊢
        exact fun m9 k9 f9 => hQ m9 (Tk_tr k3 (Tk2_k k9)) f9
      | some d =>
        rw [hy] at hQ
        dsimp only at hQ ⊢
        intro m9 k9 o9 p9
        refine hQ m9 (Tk_tr k3 (Tk2_k k9)) (by rw [o9 3 (by omega)]; exact f3) p9 ⟨rfl, rfl, by rw [o9 7 (by omega), e3, up_e]⟩ (fun j j1 j2 j3 => ?_)
        rw [o9 j j2, e3, up_o (by omega), k2.2 j j2 j3, k1.2 j j2 j3]
theorem K_l2 {f : Int32} (h : Tc m tx t) (hf : m 32 0 3 = (-6)) (ha : m 32 0 2 = nI a) (la : a ≤ t) (hQ : match pL2 tx t f a with
    | .inr (f', g', h', b) => ∀ m', Tk m m' → m' 32 0 3 = (-6) → m' 32 0 2 = nI b → (f' = f ∧ m' 32 0 6 = g' ∧ m' 32 0 7 = h') → (∀ j, j < 6 → ¬ j = 2 → ¬ j = 3 → m' 32 0 j = m 32 0 j) → Qv m'
    | .inl q => ∀ m', Tk m m' → m' 32 0 3 = nI q → Qv m') : Mv 6 [.inr (32, 0), .inl 112] m (fun m14 => Mi 7 [.inr (32, 0), .inl 0, .inl 3] m14 (fun v16 m15 => ∀ m17, m17 = a_up m15 32 0 6 v16 → Mv 6 [.inr (32, 0), .inl 104] m17 (fun m18 => Mi 7 [.inr (32, 0), .inl 1, .inl 99] m18 (fun v20 m19 => ∀ m21, m21 = a_up m19 32 0 7 v20 → Mv 6 [.inr (32, 0), .inl 59] m21 (fun m22 => Qv m22))))) := by
  have l80 := h.1
  refine K_6 h hf ha la ?_
  unfold pL2 at hQ
  cases hb : pByt tx t a 112 with
  | none =>
    rw [hb] at hQ
    dsimp only at hQ ⊢
    intro m1 k1 f1
    exact bad_1 (q := a) (by omega) f1 (fun m' k' f' => hQ m' (Tk_tr (Tk2_k k1) k') f')
  | some b =>
    rw [hb] at hQ
    dsimp only at hQ ⊢
    have lb := pByt_lt hb
    intro m1 k1 o1 p1
    have f1 : m1 32 0 3 = (-6) := (o1 3 (by omega)).trans hf
    refine K_7 (Tc_k h (Tk2_k k1)) f1 p1 (by omega) ?_
    cases hn : pNum tx t b 0 3 with
    | none =>
      rw [hn] at hQ
      dsimp only at hQ ⊢
      intro v m2 k2 f2 m3 e3
      have f3 : m3 32 0 3 = nI b := by rw [e3, up_o (by omega)]; exact f2
      have k3 : Tk m m3 := Tk_tr (Tk2_k k1) (Tk_tr (Tk2_k k2) (by rw [e3]; exact Tk_up (by omega)))
      exact K_6_bad (by rw [f3]; exact nI_n6 (by omega)) (bad_2 (q := b) (by omega) f3 (fun m' k' f' => hQ m' (Tk_tr k3 k') f'))
    | some r =>
      obtain ⟨v, c⟩ := r
      rw [hn] at hQ
      dsimp only at hQ ⊢
      have lc := pNum_lt hn
      intro m2 k2 f2 p2 m3 e3
      have k3 : Tk m m3 := Tk_tr (Tk2_k k1) (Tk_tr (Tk2_k k2) (by rw [e3]; exact Tk_up (by omega)))
      have f3 : m3 32 0 3 = (-6) := by rw [e3, up_o (by omega)]; exact f2
      have p3 : m3 32 0 2 = nI c := by rw [e3, up_o (by omega)]; exact p2
      refine K_l3 (f := f) (g := v) (Tc_k h k3) f3 p3 lc.2 ?_
      cases hl : pL3 tx t f v c with
      | inl q =>
        rw [hl] at hQ
        dsimp only at hQ ⊢
        exact fun m' k' f' => hQ m' (Tk_tr k3 k') f'
      | inr z =>
        obtain ⟨f', g', h', b'⟩ := z
        rw [hl] at hQ
        dsimp only at hQ ⊢
        intro m' k' f4 p4 ⟨z1, z2, z3⟩ o4
        refine hQ m' (Tk_tr k3 k') f4 p4 ⟨z1, ?_, z3⟩ (fun j j1 j2 j3 => ?_)
        · rw [o4 6 (by omega) (by omega) (by omega), e3, up_e, z2]
        · rw [o4 j (by omega) j2 j3, e3, up_o (by omega), k2.2 j j2 j3, k1.2 j j2 j3]
theorem K_5 (h : Tc m tx t) (hf : m 32 0 3 = (-6)) (ha : m 32 0 2 = nI a) (la : a < t) (hQ : match pAct tx t a with
    | .inr (f, g, h', b) => ∀ m', Tk m m' → m' 32 0 3 = (-6) → m' 32 0 2 = nI b → m' 32 0 4 = tx a → m' 32 0 5 = f → (tx a = 108 → m' 32 0 6 = g ∧ m' 32 0 7 = h') → Qv m'
    | .inl q => ∀ m', Tk m m' → m' 32 0 3 = nI q → Qv m') : Mv 5 [.inr (32, 0)] m Qv := by
  have l80 := h.1
  refine T_5 (i_pos ⟨hf, by rw [ha, h.2.1]; exact nI_lt la (by omega)⟩ ?_)
  rw [ha, ixK (by omega), h.2.2 a la]
  refine ⟨inK (by omega) (by omega), ?_⟩
  intro m3 e3 m4 e4
  have k4 : Tk m m4 := by
    rw [e4, e3]
    exact Tk_tr (Tk_up (by omega)) (Tk_up (by omega))
  have f4 : m4 32 0 3 = (-6) := by rw [e4, up_o (by omega), e3, up_o (by omega)]; exact hf
  have p4 : m4 32 0 2 = nI (a + 1) := by rw [e4, up_e, e3, up_o (by omega), ha, nI_1]
  have c4 : m4 32 0 4 = tx a := by rw [e4, up_o (by omega), e3, up_e]
  have h4 := Tc_k h k4
  rw [c4]
  unfold pAct at hQ
  have one : ∀ {lo hi : Int32}, ¬ tx a = 108 → (match pOne tx t (a + 1) lo hi with
    | .inr (f, g, h', b) => ∀ m', Tk m m' → m' 32 0 3 = (-6) → m' 32 0 2 = nI b → m' 32 0 4 = tx a → m' 32 0 5 = f → (tx a = 108 → m' 32 0 6 = g ∧ m' 32 0 7 = h') → Qv m'
    | .inl q => ∀ m', Tk m m' → m' 32 0 3 = nI q → Qv m') → Mi 7 [.inr (32, 0), .inl lo, .inl hi] m4 (fun v7 m6 => ∀ m8, m8 = a_up m6 32 0 5 v7 → Mv 6 [.inr (32, 0), .inl 59] m8 (fun m9 => Qv m9)) := by
    intro lo hi hn hq
    refine K_one h4 f4 p4 (by omega) ?_
    cases ho : pOne tx t (a + 1) lo hi with
    | inl q =>
      rw [ho] at hq
      dsimp only at hq ⊢
      exact fun m' k' f' => hq m' (Tk_tr k4 k') f'
    | inr z =>
      obtain ⟨f', g', h', b'⟩ := z
      rw [ho] at hq
      dsimp only at hq ⊢
      exact fun m' k' f5 p5 c5 d5 => hq m' (Tk_tr k4 k') f5 p5 (d5.trans c4) c5 (fun z => absurd z hn)
  by_cases q1 : tx a = 103
  · rw [if_pos q1] at hQ
    exact i_pos q1 (one (by rw [q1]; decide) hQ)
  rw [if_neg q1] at hQ
  refine i_neg q1 ?_
  by_cases q2 : tx a = 108
  · rw [if_pos q2] at hQ
    refine i_pos q2 (K_7 h4 f4 p4 (by omega) ?_)
    unfold pL1 at hQ
    cases hn : pNum tx t (a + 1) 0 15 with
    | none =>
      rw [hn] at hQ
      dsimp only at hQ ⊢
      intro v m5 k5 f5 m6 e6
      have f6 : m6 32 0 3 = nI (a + 1) := by rw [e6, up_o (by omega)]; exact f5
      have k6 : Tk m m6 := Tk_tr k4 (Tk_tr (Tk2_k k5) (by rw [e6]; exact Tk_up (by omega)))
      exact K_6_bad (by rw [f6]; exact nI_n6 (by omega)) (bad_1 (q := a + 1) (by omega) f6 (fun m' k' f' => hQ m' (Tk_tr k6 k') f'))
    | some r =>
      obtain ⟨v, c⟩ := r
      rw [hn] at hQ
      dsimp only at hQ ⊢
      have lc := pNum_lt hn
      intro m5 k5 f5 p5 m6 e6
      have f6 : m6 32 0 3 = (-6) := by rw [e6, up_o (by omega)]; exact f5
      have p6 : m6 32 0 2 = nI c := by rw [e6, up_o (by omega)]; exact p5
      have k6 : Tk m m6 := Tk_tr k4 (Tk_tr (Tk2_k k5) (by rw [e6]; exact Tk_up (by omega)))
      refine K_l2 (f := v) (Tc_k h k6) f6 p6 lc.2 ?_
      cases hl : pL2 tx t v c with
      | inl q =>
        rw [hl] at hQ
        dsimp only at hQ ⊢
        exact fun m' k' f' => hQ m' (Tk_tr k6 k') f'
      | inr z =>
        obtain ⟨f', g', h', b'⟩ := z
        rw [hl] at hQ
        dsimp only at hQ ⊢
        intro m' k' f7 p7 ⟨z1, z2, z3⟩ o7
        refine hQ m' (Tk_tr k6 k') f7 p7 ?_ ?_ (fun _ => ⟨z2, z3⟩)
        · rw [o7 4 (by omega) (by omega) (by omega), e6, up_o (by omega), k5.2 4 (by omega) (by omega), c4]
        · rw [o7 5 (by omega) (by omega) (by omega), e6, up_e, z1]
  rw [if_neg q2] at hQ
  refine i_neg q2 ?_
  by_cases q3 : tx a = 116
  · rw [if_pos q3] at hQ
    exact i_pos q3 (one q2 hQ)
  rw [if_neg q3] at hQ
  refine i_neg q3 ?_
  by_cases q4 : tx a = 119
  · rw [if_pos q4] at hQ
    exact i_pos q4 (one q2 hQ)
  rw [if_neg q4] at hQ
  refine i_neg q4 ?_
  by_cases q5 : tx a = 122
  · rw [if_pos q5] at hQ
    exact i_pos q5 (one q2 hQ)
  rw [if_neg q5] at hQ
  refine i_neg q5 ?_
  dsimp only at hQ
  intro m8 e8
  rw [p4, nI_pred] at e8
  have f8 : m8 32 0 3 = nI a := by rw [e8, up_e]
  exact K_6_bad (by rw [f8]; exact nI_n6 (by omega)) (hQ m8 (Tk_tr k4 (by rw [e8]; exact Tk_up (by omega))) f8)
/-- the reference's reader -/
def Tr (m : aM) (tx : Nat → Int32) (t : Nat) : Prop := t ≤ 80 ∧ m 34 0 8 = nI t ∧ ∀ j, j < t → m 40 0 j = tx j
def Rk (m m' : aM) : Prop := (∀ c d, ¬ c = 34 → m' c d = m c d) ∧ ∀ j, (j < 9 ∨ 12 < j) → m' 34 0 j = m 34 0 j
theorem Rk_rf : Rk m m := ⟨fun _ _ _ => rfl, fun _ _ => rfl⟩
theorem Rk_tr {m1 m2 : aM} (h : Rk m m1) (h2 : Rk m1 m2) : Rk m m2 := ⟨fun c d q => (h2.1 c d q).trans (h.1 c d q), fun j q => (h2.2 j q).trans (h.2 j q)⟩
theorem Rk_up {j : Nat} (hj : 9 ≤ j ∧ j ≤ 12) : Rk m (a_up m 34 0 j v) := ⟨fun c d q => up_of (Or.inl q), fun i q => up_o (by omega)⟩
theorem Tr_k {m' : aM} (h : Tr m tx t) (hk : Rk m m') : Tr m' tx t := by
  obtain ⟨h1, h2, h3⟩ := h
  exact ⟨h1, (hk.2 8 (by omega)).trans h2, fun j hj => by rw [hk.1 40 0 (by omega)]; exact h3 j hj⟩
/-- all but 'at' is the same -/
def Rk9 (m m' : aM) : Prop := (∀ c d, ¬ c = 34 → m' c d = m c d) ∧ ∀ j, ¬ j = 9 → m' 34 0 j = m 34 0 j
theorem Rk9_k {m' : aM} (h : Rk9 m m') : Rk m m' := ⟨h.1, fun j q => h.2 j (by omega)⟩
theorem Rk9_up : Rk9 m (a_up m 34 0 9 v) := ⟨fun c d q => up_of (Or.inl q), fun i q => up_o (by omega)⟩
theorem Rk9_tr {m1 m2 : aM} (h : Rk9 m m1) (h2 : Rk9 m1 m2) : Rk9 m m2 := ⟨fun c d q => (h2.1 c d q).trans (h.1 c d q), fun j q => (h2.2 j q).trans (h.2 j q)⟩
theorem dig_r (h : Tr m tx t) (ha : m 34 0 9 = nI a) (la : a ≤ t) : (m 34 0 9 < m 34 0 8 ∧ ¬ m 40 0 (m 34 0 9).toNatClampNeg < 48 ∧ ¬ 57 < m 40 0 (m 34 0 9).toNatClampNeg) ↔ pDig tx t a = true := by
  obtain ⟨h1, h2, h3⟩ := h
  unfold pDig
  rw [ha, h2, ixK (by omega), nI_ltI (by omega) (by omega), decide_eq_true_eq]
  constructor
  · rintro ⟨q1, q2⟩; rw [h3 a q1] at q2; exact ⟨q1, q2⟩
  · rintro ⟨q1, q2⟩; rw [h3 a q1]; exact ⟨q1, q2⟩
theorem dig_pos (hd : pDig tx t a = true) : 0 < tx a - 48 ↔ ¬ tx a - 48 = 0 := by
  have h := of_decide_eq_true (show decide (a < t ∧ ¬ tx a < 48 ∧ ¬ 57 < tx a) = true from hd)
  obtain ⟨j, lj, ej⟩ := rg_of2 (B := 57) (lo := 48) (C := 48) ⟨48, by omega, rfl⟩ (by omega) (by omega) (v := tx a) (fun z => z.elim h.2.1 h.2.2)
  have h48 : 48 ≤ j := by
    have := h.2.1
    rw [ej, show (48 : Int32) = nI 48 from rfl, nI_ltI (by omega) (by omega)] at this
    omega
  rw [ej, show (48 : Int32) = nI 48 from rfl, pk_sub h48, nI0, nI_ltI (by omega) (by omega), nI_eq (by omega) (by omega)]
  omega
theorem R_149 (h : Tr m tx t) (ha : m 34 0 9 = nI a) (la : a ≤ t) (hQ : match pNum tx t a lo hi with
    | some (v, b) => ∀ m', Rk9 m m' → m' 34 0 9 = nI b → Q v m'
    | none => ∀ m', Rk9 m m' → m' 34 0 9 = nI a → Q (-6) m') : Mi 149 [.inr (34, 0), .inl lo, .inl hi] m Q := by
  have l80 := h.1
  refine T_149 ⟨fun z => ?_, ?_⟩
  · rw [ha, h.2.1, nI_ltI (by omega) (by omega)] at z
    rw [ha]
    exact inK (by omega) (by omega)
  · have hd := dig_r h ha la
    cases hc : pDig tx t a with
    | false =>
      refine i_neg (fun z => by rw [hd.mp z] at hc; cases hc) ?_
      unfold pNum at hQ
      rw [if_neg (by rw [hc]; decide)] at hQ
      exact hQ m ⟨fun _ _ _ => rfl, fun _ _ => rfl⟩ ha
    | true =>
      refine i_pos (hd.mpr hc) ?_
      have hlt : a < t := (of_decide_eq_true (show decide (a < t ∧ ¬ tx a < 48 ∧ ¬ 57 < tx a) = true from hc)).1
      have hpos := dig_pos hc
      unfold pNum at hQ
      rw [if_pos hc] at hQ
      rw [ha, ixK (by omega), h.2.2 a hlt]
      refine ⟨inK (by omega) (by omega), ?_⟩
      intro m5 e5
      have k5 : Rk9 m m5 := by rw [e5]; exact Rk9_up
      have a5 : m5 34 0 9 = nI (a + 1) := by rw [e5, up_e, nI_1]
      have h5 := Tr_k h (Rk9_k k5)
      have fin : ∀ (w : Int32) (b : Nat) (mm : aM), pRaw tx t a = (w, b) → Rk9 m mm → mm 34 0 9 = nI b → (if ¬ w < lo ∧ ¬ hi < w then Q w mm else (∀ m8, m8 = a_up mm 34 0 9 (nI a) → Q (-6) m8)) := by
        intro w b mm hr hk ha1
        rw [hr] at hQ
        dsimp only at hQ
        by_cases hb : w < lo ∨ hi < w
        · rw [if_pos hb] at hQ
          refine i_neg (fun z => nin.mp z hb) ?_
          intro m8 e8
          exact hQ m8 (by rw [e8]; exact Rk9_tr hk Rk9_up) (by rw [e8, up_e])
        · rw [if_neg hb] at hQ
          exact i_pos (nin.mpr hb) (hQ mm hk ha1)
      by_cases h0 : tx a - 48 = 0
      · exact i_neg (fun z => hpos.mp z h0) (fin _ (a + 1) m5 (by unfold pRaw; rw [if_pos (Or.inl h0)]) k5 a5)
      · refine i_pos (hpos.mpr h0) ⟨fun z => ?_, ?_⟩
        · rw [a5, h5.2.1, nI_ltI (by omega) (by omega)] at z
          rw [a5]
          exact inK (by omega) (by omega)
        · have hd5 := dig_r h5 a5 (by omega)
          cases hc5 : pDig tx t (a + 1) with
          | false =>
            exact i_neg (fun z => by rw [hd5.mp z] at hc5; cases hc5) (fin _ (a + 1) m5 (by unfold pRaw; rw [if_pos (Or.inr hc5)]) k5 a5)
          | true =>
            have hlt5 : a + 1 < t := (of_decide_eq_true (show decide (a + 1 < t ∧ ¬ tx (a + 1) < 48 ∧ ¬ 57 < tx (a + 1)) = true from hc5)).1
            refine i_pos (hd5.mpr hc5) ?_
            rw [a5, ixK (by omega), h5.2.2 (a + 1) hlt5]
            refine ⟨inK (by omega) (by omega), ?_⟩
            intro m12 e12
            rw [Int32.mul_comm 10]
            refine fin _ (a + 2) m12 ?_ (Rk9_tr k5 (by rw [e12]; exact Rk9_up)) (by rw [e12, up_e, nI_1])
            unfold pRaw
            rw [if_neg (fun z => z.elim h0 (fun q => by rw [hc5] at q; cases q))]
theorem i32_le_eq {u c : Int32} : (¬ u < c ∧ ¬ c < u) ↔ u = c := by
  rw [Int32.lt_iff_toInt_lt, Int32.lt_iff_toInt_lt, ← Int32.toInt_inj]
  omega
theorem R_148 {c : Int32} (h : Tr m tx t) (ha : m 34 0 9 = nI a) (la : a ≤ t) (hQ : match pByt tx t a c with
    | some b => ∀ m', Rk9 m m' → m' 34 0 9 = nI b → Q 1 m'
    | none => ∀ m', Rk9 m m' → m' 34 0 9 = nI a → Q 0 m') : Mi 148 [.inr (34, 0), .inl c] m Q := by
  have l80 := h.1
  have hiff : (m 34 0 9 < m 34 0 8 ∧ ¬ m 40 0 (m 34 0 9).toNatClampNeg < c ∧ ¬ c < m 40 0 (m 34 0 9).toNatClampNeg) ↔ (a < t ∧ tx a = c) := by
    rw [ha, h.2.1, ixK (by omega), nI_ltI (by omega) (by omega), i32_le_eq]
    constructor
    · rintro ⟨q1, q2⟩; rw [h.2.2 a q1] at q2; exact ⟨q1, q2⟩
    · rintro ⟨q1, q2⟩; rw [h.2.2 a q1]; exact ⟨q1, q2⟩
  refine T_148 ⟨fun z => ?_, ?_⟩
  · rw [ha, h.2.1, nI_ltI (by omega) (by omega)] at z
    rw [ha]
    exact inK (by omega) (by omega)
  · unfold pByt at hQ
    by_cases hb : a < t ∧ tx a = c
    · rw [if_pos hb] at hQ
      refine i_pos (hiff.mpr hb) ?_
      intro m3 e3
      rw [bP_t (hiff.mpr hb)]
      exact hQ m3 (by rw [e3]; exact Rk9_up) (by rw [e3, up_e, ha, nI_1])
    · rw [if_neg hb] at hQ
      refine i_neg (fun z => hb (hiff.mp z)) ?_
      intro m3 e3
      rw [bP_f (fun z => hb (hiff.mp z))]
      exact hQ m3 (by rw [e3]; exact Rk9_up) (by rw [e3, up_e, ha, nI_z0])
end TX2
