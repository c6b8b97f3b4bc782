/-! the text: what an act is; both readers -/
section TX1
variable {m : aM} {tx : Nat → Int32} {t a : Nat} {v x y p lo hi : Int32} {Q : Int32 → aM → Prop} {Qv : aM → Prop}
def pDig (tx : Nat → Int32) (t a : Nat) : Bool := decide (a < t ∧ ¬ tx a < 48 ∧ ¬ 57 < tx a)
def pRaw (tx : Nat → Int32) (t a : Nat) : Int32 × Nat := if tx a - 48 = 0 ∨ pDig tx t (a + 1) = false then (tx a - 48, a + 1) else ((tx a - 48) * 10 + tx (a + 1) - 48, a + 2)
def pNum (tx : Nat → Int32) (t a : Nat) (lo hi : Int32) : Option (Int32 × Nat) := if pDig tx t a = true then (if (pRaw tx t a).1 < lo ∨ hi < (pRaw tx t a).1 then none else some (pRaw tx t a)) else none
def pByt (tx : Nat → Int32) (t a : Nat) (c : Int32) : Option Nat := if a < t ∧ tx a = c then some (a + 1) else none
abbrev pAns : Type := Nat ⊕ (Int32 × Int32 × Int32 × Nat)
def pEnd (tx : Nat → Int32) (t : Nat) (f g h : Int32) (a : Nat) : pAns := match pByt tx t a 59 with
  | some b => .inr (f, g, h, b)
  | none => .inl a
def pOne (tx : Nat → Int32) (t a : Nat) (lo hi : Int32) : pAns := match pNum tx t a lo hi with
  | some (v, b) => pEnd tx t v 0 0 b
  | none => .inl a
def pL3 (tx : Nat → Int32) (t : Nat) (f g : Int32) (a : Nat) : pAns := match pByt tx t a 104 with
  | none => .inl a
  | some b => match pNum tx t b 1 99 with
    | none => .inl b
    | some (h, c) => pEnd tx t f g h c
def pL2 (tx : Nat → Int32) (t : Nat) (f : Int32) (a : Nat) : pAns := match pByt tx t a 112 with
  | none => .inl a
  | some b => match pNum tx t b 0 3 with
    | none => .inl b
    | some (g, c) => pL3 tx t f g c
def pL1 (tx : Nat → Int32) (t a : Nat) : pAns := match pNum tx t a 0 15 with
  | none => .inl a
  | some (f, b) => pL2 tx t f b
def pAct (tx : Nat → Int32) (t a : Nat) : pAns := if tx a = 103 then pOne tx t (a + 1) 0 15 else if tx a = 108 then pL1 tx t (a + 1) else if tx a = 116 then pOne tx t (a + 1) 1 99 else if tx a = 119 then pOne tx t (a + 1) 0 7 else if tx a = 122 then pOne tx t (a + 1) 0 7 else .inl a
theorem pNum_lt {b : Nat} (h : pNum tx t a lo hi = some (v, b)) : a < b ∧ b ≤ t := by
  unfold pNum at h
  split at h
  · rename_i hd
    have ha := (of_decide_eq_true (show decide (a < t ∧ ¬ tx a < 48 ∧ ¬ 57 < tx a) = true from hd)).1
    split at h
    · cases h
    · have hr : pRaw tx t a = (v, b) := Option.some.inj h
      unfold pRaw at hr
      split at hr
      · have : a + 1 = b := congrArg Prod.snd hr
        omega
      · rename_i hn
        have : a + 2 = b := congrArg Prod.snd hr
        have h2 : pDig tx t (a + 1) = true := by
          cases hc : pDig tx t (a + 1) with
          | true => rfl
          | false => exact absurd (Or.inr hc) hn
        have := (of_decide_eq_true (show decide (a + 1 < t ∧ ¬ tx (a + 1) < 48 ∧ ¬ 57 < tx (a + 1)) = true from h2)).1
        omega
  · cases h
theorem pNum_rg {b : Nat} (h : pNum tx t a lo hi = some (v, b)) : ¬ (v < lo ∨ hi < v) := by
  unfold pNum at h
  split at h
  · split at h
    · cases h
    · rename_i hn
      have hr : pRaw tx t a = (v, b) := Option.some.inj h
      rwa [hr] at hn
  · cases h
theorem pByt_lt {b : Nat} {c : Int32} (h : pByt tx t a c = some b) : b = a + 1 ∧ a < t ∧ tx a = c := by
  unfold pByt at h
  split at h
  · rename_i hh
    cases h
    exact ⟨rfl, hh⟩
  · cases h
/-- the class's reader: the text, and where it is -/
def Tc (m : aM) (tx : Nat → Int32) (t : Nat) : Prop := t ≤ 80 ∧ m 32 0 1 = nI t ∧ ∀ j, j < t → m 33 0 j = tx j
/-- only the reader's own cells have changed -/
def Tk (m m' : aM) : Prop := (∀ c d, ¬ c = 32 → m' c d = m c d) ∧ m' 32 0 1 = m 32 0 1
theorem Tk_rf : Tk m m := ⟨fun _ _ _ => rfl, rfl⟩
theorem Tk_tr {m1 m2 : aM} (h : Tk m m1) (h2 : Tk m1 m2) : Tk m m2 := ⟨fun c d q => (h2.1 c d q).trans (h.1 c d q), h2.2.trans h.2⟩
theorem Tk_up {j : Nat} (hj : ¬ j = 1) : Tk m (a_up m 32 0 j v) := ⟨fun c d q => up_of (Or.inl q), up_o (by omega)⟩
/-- only place and fault have changed -/
def Tk2 (m m' : aM) : Prop := (∀ c d, ¬ c = 32 → m' c d = m c d) ∧ ∀ j, ¬ j = 2 → ¬ j = 3 → m' 32 0 j = m 32 0 j
theorem Tk2_rf : Tk2 m m := ⟨fun _ _ _ => rfl, fun _ _ _ => rfl⟩
theorem Tk2_tr {m1 m2 : aM} (h : Tk2 m m1) (h2 : Tk2 m1 m2) : Tk2 m m2 := ⟨fun c d q => (h2.1 c d q).trans (h.1 c d q), fun j q1 q2 => (h2.2 j q1 q2).trans (h.2 j q1 q2)⟩
theorem Tk2_up {j : Nat} (hj : j = 2 ∨ j = 3) : Tk2 m (a_up m 32 0 j v) := ⟨fun c d q => up_of (Or.inl q), fun i q1 q2 => up_o (by omega)⟩
theorem Tk2_k {m1 : aM} (h : Tk2 m m1) : Tk m m1 := ⟨h.1, h.2 1 (by omega) (by omega)⟩
theorem Tc_k {m' : aM} (h : Tc m tx t) (hk : Tk m m') : Tc m' tx t := by
  obtain ⟨h1, h2, h3⟩ := h
  exact ⟨h1, hk.2.trans h2, fun j hj => by rw [hk.1 33 0 (by omega)]; exact h3 j hj⟩
theorem dig_c (h : Tc m tx t) (ha : m 32 0 2 = nI a) (la : a ≤ t) : (m 32 0 2 < m 32 0 1 ∧ ¬ m 33 0 (m 32 0 2).toNatClampNeg < 48 ∧ ¬ 57 < m 33 0 (m 32 0 2).toNatClampNeg) ↔ pDig tx t a = true := by
  obtain ⟨h1, h2, h3⟩ := h
  unfold pDig
  rw [ha, h2, ixK (by omega), nI_ltI (by omega) (by omega), decide_eq_true_eq]
  constructor
  · rintro ⟨q1, q2⟩; rw [h3 a q1] at q2; exact ⟨q1, q2⟩
  · rintro ⟨q1, q2⟩; rw [h3 a q1]; exact ⟨q1, q2⟩
theorem K_7_bad (hf : ¬ m 32 0 3 = (-6)) (hQ : Q 0 m) : Mi 7 [.inr (32, 0), .inl lo, .inl hi] m Q := T_7 (i_neg hf hQ)
theorem K_6_bad (hf : ¬ m 32 0 3 = (-6)) (hQ : Qv m) : Mv 6 [.inr (32, 0), .inl x] m Qv := T_6 (i_neg hf hQ)
theorem K_7 (h : Tc m tx t) (hf : m 32 0 3 = (-6)) (ha : m 32 0 2 = nI a) (la : a ≤ t) (hQ : match pNum tx t a lo hi with
    | some (v, b) => ∀ m', Tk2 m m' → m' 32 0 3 = (-6) → m' 32 0 2 = nI b → Q v m'
    | none => ∀ v m', Tk2 m m' → m' 32 0 3 = nI a → Q v m') : Mi 7 [.inr (32, 0), .inl lo, .inl hi] m Q := by
  have l80 := h.1
  refine T_7 (i_pos hf ⟨fun z => ?_, ?_⟩)
  · rw [ha, h.2.1, nI_ltI (by omega) (by omega)] at z
    rw [ha]
    exact inK (by omega) (by omega)
  · have hd := dig_c h ha la
    cases hc : pDig tx t a with
    | false =>
      refine i_neg (fun z => by rw [hd.mp z] at hc; cases hc) ?_
      unfold pNum at hQ
      rw [if_neg (by rw [hc]; decide)] at hQ
      intro m17 e17
      refine hQ 0 m17 (by rw [e17]; exact Tk2_up (by omega)) ?_
      rw [e17, up_e, ha]
    | true =>
      refine i_pos (hd.mpr hc) ?_
      have hlt : a < t := (of_decide_eq_true (show decide (a < t ∧ ¬ tx a < 48 ∧ ¬ 57 < tx a) = true from hc)).1
      unfold pNum at hQ
      rw [if_pos hc] at hQ
      rw [ha, ixK (by omega), h.2.2 a hlt]
      refine ⟨inK (by omega) (by omega), ?_⟩
      intro m5 e5
      have k5 : Tk2 m m5 := by rw [e5]; exact Tk2_up (by omega)
      have a5 : m5 32 0 2 = nI (a + 1) := by rw [e5, up_e, nI_1]
      have f5 : m5 32 0 3 = (-6) := by rw [e5, up_o (by omega)]; exact hf
      have h5 := Tc_k h (Tk2_k k5)
      have fin : ∀ (w : Int32) (b : Nat) (mm : aM), pRaw tx t a = (w, b) → Tk2 m mm → mm 32 0 3 = (-6) → mm 32 0 2 = nI b → (if w < lo ∨ hi < w then (∀ m8, m8 = a_up mm 32 0 3 (nI a) → Q w m8) else Q w mm) := by
        intro w b mm hr hk hf1 ha1
        rw [hr] at hQ
        dsimp only at hQ
        by_cases hb : w < lo ∨ hi < w
        · rw [if_pos hb] at hQ
          refine i_pos hb ?_
          intro m8 e8
          refine hQ w m8 (by rw [e8]; exact Tk2_tr hk (Tk2_up (by omega))) ?_
          rw [e8, up_e]
        · rw [if_neg hb] at hQ
          exact i_neg hb (hQ mm hk hf1 ha1)
      by_cases h0 : tx a - 48 = 0
      · exact i_pos h0 (fin _ (a + 1) m5 (by unfold pRaw; rw [if_pos (Or.inl h0)]) k5 f5 a5)
      · refine i_neg h0 ⟨fun z => ?_, ?_⟩
        · rw [a5, h5.2.1, nI_ltI (by omega) (by omega)] at z
          rw [a5]
          exact inK (by omega) (by omega)
        · have hd5 := dig_c h5 a5 (by omega)
          cases hc5 : pDig tx t (a + 1) with
          | false =>
            exact i_neg (fun z => by rw [hd5.mp z] at hc5; cases hc5) (fin _ (a + 1) m5 (by unfold pRaw; rw [if_pos (Or.inr hc5)]) k5 f5 a5)
          | true =>
            have hlt5 : a + 1 < t := (of_decide_eq_true (show decide (a + 1 < t ∧ ¬ tx (a + 1) < 48 ∧ ¬ 57 < tx (a + 1)) = true from hc5)).1
            refine i_pos (hd5.mpr hc5) ?_
            rw [a5, ixK (by omega), h5.2.2 (a + 1) hlt5]
            refine ⟨inK (by omega) (by omega), ?_⟩
            intro m12 e12
            refine fin _ (a + 2) m12 ?_ (Tk2_tr k5 (by rw [e12]; exact Tk2_up (by omega))) (by rw [e12, up_o (by omega)]; exact f5) (by rw [e12, up_e, nI_1])
            unfold pRaw
            rw [if_neg (fun z => z.elim h0 (fun q => by rw [hc5] at q; cases q))]
theorem K_6 {c : Int32} (h : Tc m tx t) (hf : m 32 0 3 = (-6)) (ha : m 32 0 2 = nI a) (la : a ≤ t) (hQ : match pByt tx t a c with
    | some b => ∀ m', Tk2 m m' → (∀ j, ¬ j = 2 → m' 32 0 j = m 32 0 j) → m' 32 0 2 = nI b → Qv m'
    | none => ∀ m', Tk2 m m' → m' 32 0 3 = nI a → Qv m') : Mv 6 [.inr (32, 0), .inl c] m Qv := by
  have l80 := h.1
  refine T_6 (i_pos hf ?_)
  unfold pByt at hQ
  by_cases hlt : a < t
  · refine i_pos (by rw [ha, h.2.1]; exact nI_lt hlt (by omega)) ?_
    rw [ha, ixK (by omega), h.2.2 a hlt]
    refine ⟨inK (by omega) (by omega), ?_⟩
    by_cases hc : tx a = c
    · rw [if_pos ⟨hlt, hc⟩] at hQ
      refine i_pos hc ?_
      intro m5 e5
      exact hQ m5 (by rw [e5]; exact Tk2_up (by omega)) (fun j hj => by rw [e5, up_o (by omega)]) (by rw [e5, up_e, nI_1])
    · rw [if_neg (fun z => hc z.2)] at hQ
      refine i_neg hc ?_
      intro m5 e5
      exact hQ m5 (by rw [e5]; exact Tk2_up (by omega)) (by rw [e5, up_e])
  · rw [if_neg (fun z => hlt z.1)] at hQ
    refine i_neg (by rw [ha, h.2.1]; exact nI_nlt (by omega) (by omega)) ?_
    intro m5 e5
    exact hQ m5 (by rw [e5]; exact Tk2_up (by omega)) (by rw [e5, up_e, ha])
theorem nI_n6 {q : Nat} (hq : q < 1000) : ¬ nI q = (-6) := rg_6 ⟨q, Nat.le_refl q, rfl⟩ (by omega)
/-- after a fault an act goes on without doing anything -/
theorem K_6_end (f g h' : Int32) (h : Tc m tx t) (hf : m 32 0 3 = (-6)) (ha : m 32 0 2 = nI a) (la : a ≤ t) (hQ : match pEnd tx t f g h' a with
    | .inr (_, _, _, b) => ∀ m', Tk2 m m' → (∀ j, ¬ j = 2 → m' 32 0 j = m 32 0 j) → m' 32 0 2 = nI b → Qv m'
    | .inl q => ∀ m', Tk2 m m' → m' 32 0 3 = nI q → Qv m') : Mv 6 [.inr (32, 0), .inl 59] m Qv := by
  refine K_6 h hf ha la ?_
  unfold pEnd at hQ
  cases hb : pByt tx t a 59 with
  | some b => rw [hb] at hQ; exact hQ
  | none => rw [hb] at hQ; exact hQ
/-- a number into the reader's first cell, then the end of the act -/
theorem K_one (h : Tc m tx t) (hf : m 32 0 3 = (-6)) (ha : m 32 0 2 = nI a) (la : a ≤ t) (hQ : match pOne tx t a lo hi with
    | .inr (f, _, _, b) => ∀ m', Tk m m' → m' 32 0 3 = (-6) → m' 32 0 2 = nI b → m' 32 0 5 = f → m' 32 0 4 = m 32 0 4 → Qv m'
    | .inl q => ∀ m', Tk m m' → m' 32 0 3 = nI q → Qv m') : Mi 7 [.inr (32, 0), .inl lo, .inl hi] m (fun v7 m6 => ∀ m8, m8 = a_up m6 32 0 5 v7 → Mv 6 [.inr (32, 0), .inl 59] m8 (fun m9 => Qv m9)) := by
  have l80 := h.1
  refine K_7 h hf ha la ?_
  unfold pOne at hQ
  cases hn : pNum tx t a lo hi with
  | none =>
    rw [hn] at hQ
    dsimp only at hQ ⊢
    intro v m' hk hf' m8 e8
    have k8 : Tk m m8 := Tk_tr (Tk2_k hk) (by rw [e8]; exact Tk_up (by omega))
    have f8 : m8 32 0 3 = nI a := by rw [e8, up_o (by omega)]; exact hf'
    exact K_6_bad (by rw [f8]; exact nI_n6 (by omega)) (hQ m8 k8 f8)
  | some r =>
    obtain ⟨v, b⟩ := r
    rw [hn] at hQ
    dsimp only at hQ ⊢
    have hb := pNum_lt hn
    intro m' hk hf' ha' m8 e8
    have k8 : Tk m m8 := Tk_tr (Tk2_k hk) (by rw [e8]; exact Tk_up (by omega))
    have f8 : m8 32 0 3 = (-6) := by rw [e8, up_o (by omega)]; exact hf'
    have a8 : m8 32 0 2 = nI b := by rw [e8, up_o (by omega)]; exact ha'
    refine K_6_end v 0 0 (Tc_k h k8) f8 a8 hb.2 ?_
    unfold pEnd at hQ ⊢
    cases hy : pByt tx t b 59 with
    | none =>
      rw [hy] at hQ
      dsimp only at hQ ⊢
      exact fun m9 k9 f9 => hQ m9 (Tk_tr k8 (Tk2_k k9)) f9
    | some c =>
      rw [hy] at hQ
      dsimp only at hQ ⊢
      intro m9 k9 o9 p9
      exact hQ m9 (Tk_tr k8 (Tk2_k k9)) (by rw [o9 3 (by omega)]; exact f8) p9 (by rw [o9 5 (by omega), e8, up_e]) (by rw [o9 4 (by omega), e8, up_o (by omega)]; exact hk.2 4 (by omega) (by omega))
end TX1
