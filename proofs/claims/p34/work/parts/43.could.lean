/-! what could be -/
section CLD
variable {m : aM} {s : aS0} {b k d : Nat} {v x y p ch : Int32} {Q : Int32 → aM → Prop} {Qv : aM → Prop}
theorem alw_lo {z : aS0} (h : ∀ i, i < 104 → z i = s i) (hC : C3 s) : mAlw z ch x y p = mAlw s ch x y p := by
  have lS := hC.1.2
  have lE := hC.2.1.2
  have eS : nS z = nS s := by unfold nS; rw [h 1 (by omega)]
  have eE : nE z = nE s := by unfold nE; rw [h 2 (by omega)]
  unfold mAlw mBar mRes
  rw [eS, eE, h 0 (by omega)]
  rw [anyN_congr (f := mBarBy z ch x y p) (g := mBarBy s ch x y p) (fun k hk => by
    unfold mBarBy
    rw [h 5 (by omega), h (8 + 5 * k + 0) (by omega), h (8 + 5 * k + 1) (by omega), h (8 + 5 * k + 2) (by omega), h (8 + 5 * k + 3) (by omega), h (8 + 5 * k + 4) (by omega)])]
  rw [anyN_congr (f := mResBy z ch x y p (s 0)) (g := mResBy s ch x y p (s 0)) (fun k hk => by
    unfold mResBy mOn
    rw [h (48 + 7 * k + 0) (by omega), h (48 + 7 * k + 1) (by omega), h (48 + 7 * k + 2) (by omega), h (48 + 7 * k + 3) (by omega), h (48 + 7 * k + 4) (by omega), h (48 + 7 * k + 5) (by omega), h (48 + 7 * k + 6) (by omega)])]
theorem rev_o (n : Nat) : ∀ i, (∀ j, j < n → ¬ i = 104 + 10 * j + 6) → itN mRevS s n i = s i := by
  induction n with
  | zero => exact fun _ _ => rfl
  | succ n ih =>
    intro i hi
    show mRevS n (itN mRevS s n) i = s i
    unfold mRevS
    split
    · rw [upd_n (hi n (by omega))]
      exact ih i (fun j hj => hi j (by omega))
    · exact ih i (fun j hj => hi j (by omega))
theorem rev_6 (hC : C3 s) : ∀ n, k < n → (itN mRevS s n) (104 + 10 * k + 6) = if mHas s k = true then (if mLA s k = true then (-6) else if (s (104 + 10 * k + 6)) = (-6) then s 0 else (s (104 + 10 * k + 6))) else (s (104 + 10 * k + 6)) := by
  intro n
  induction n with
  | zero => intro h; exact absurd h (Nat.not_lt_zero _)
  | succ n ih =>
    intro hk
    show mRevS n (itN mRevS s n) (104 + 10 * k + 6) = _
    by_cases hkn : k = n
    · subst hkn
      have e : ∀ i, (∀ j, j < k → ¬ i = 104 + 10 * j + 6) → itN mRevS s k i = s i := rev_o k
      have e3 := e (104 + 10 * k + 3) (fun j hj => by omega)
      have e6 := e (104 + 10 * k + 6) (fun j hj => by omega)
      have e0 := e 0 (fun j hj => by omega)
      have hl : mLA (itN mRevS s k) k = mLA s k := by
        unfold mLA mAlwF
        rw [alw_lo (fun i hi => e i (fun j hj => by omega)) hC, e3, e (104 + 10 * k + 0) (fun j hj => by omega), e (104 + 10 * k + 1) (fun j hj => by omega), e (104 + 10 * k + 4) (fun j hj => by omega)]
      have hh : mHas (itN mRevS s k) k = mHas s k := by unfold mHas; rw [e3]
      unfold mRevS at *
      rw [hh, hl, e6, e0]
      split
      · exact upd_e
      · exact e6
    · have := ih (by omega)
      unfold mRevS at *
      split
      · rw [upd_n (by omega)]; exact this
      · exact this
theorem mRev_6 (hC : C3 s) (hk : k < nD s) : (mRev s) (104 + 10 * k + 6) = if mHas s k = true then (if mLA s k = true then (-6) else if (s (104 + 10 * k + 6)) = (-6) then s 0 else (s (104 + 10 * k + 6))) else (s (104 + 10 * k + 6)) := rev_6 hC _ hk
/-- leases barred by a station alone -/
def mAlone (s : aS0) (k j : Nat) : Bool := mHas s j && !mLA s j && mLA (upd s (8 + 5 * k + 4) 0) j
theorem K_92 (hR : RpH m 0 s) (hk : k < nS s) (hQ : ∀ m', (∀ c d, ¬ (c < 27 ∧ d = 1) → m' c d = m c d) → Q (nI (cntN (mAlone s k) (nD s))) m') : Mi 92 [.inr (27, 0), .inl (nI k)] m Q := by
  have hW := Rp_W hR.1
  have lS := (WF_S hW).2
  refine T_92 (K_30 (by omega) hR.1 ?_)
  intro m1 hR1 hF1
  refine ⟨inK (by omega) (by omega), ?_⟩
  intro m3 e3
  rw [ixK (by omega)] at e3
  have hR3 : Rp m3 1 (upd s (8 + 5 * k + 4) 0) := by
    rw [e3]
    exact Rp_lo hR1 (Or.inr (Or.inr (Or.inr (Or.inl ⟨k, 4, by omega, by omega, rfl, rfl, rfl⟩)))) (WF_awake hW (by omega) (Or.inl rfl))
  have o3 : ∀ c d, ¬ (c < 27 ∧ d = 1) → m3 c d = m c d := fun c d h => by
    rw [e3, up_of (by omega)]
    exact hF1 c d (by omega)
  have hR0 : Rp m3 0 s := Rp_same hR.1 (fun c hc => o3 c 0 (by omega)) (fun c hc => o3 c 0 (by omega))
  have lD := Rp_ld hR0
  refine dn0 (n := nD s) (P := fun j => H_92_28 (nI k) (nI (cntN (mAlone s k) j)) (nI j) m3 Q) ?_ ?_
  · refine T_92_28 ?_
    rw [Rp_nd hR0]
    exact i_ge (Nat.le_refl _) (by omega) (hQ m3 o3)
  · intro j hj ih
    have hd := WF_dv hW hj
    refine T_92_28 ?_
    rw [Rp_nd hR0]
    refine i_lt hj (by omega) ⟨inK (by omega) (by omega), ?_⟩
    rw [ixK (by omega), (Rp_d hR0 hj).2.2.2.1, nI_1, nI_1]
    unfold cntN at ih
    have no : mAlone s k j = false → H_92_28 (nI k) (nI (cntN (mAlone s k) j)) (nI (j + 1)) m3 Q := by
      intro z
      rwa [if_neg (by rw [z]; decide), Nat.add_zero] at ih
    by_cases h3 : ¬ (s (104 + 10 * j + 3)) = (-6)
    · refine i_pos ((nz_i (dv3 hd) (by omega)).mpr h3) (K_52 hR0 hj h3 ?_)
      have hh : mHas s j = true := decide_eq_true h3
      cases ha : mLA s j with
      | true => exact i_neg (by decide) (no (by unfold mAlone; rw [ha, hh]; rfl))
      | false =>
        refine i_pos (bP_bf rfl) (K_52 hR3 (by unfold nD; rw [upd_n (by omega)]; exact hj) (by rw [upd_n (by omega)]; exact h3) ?_)
        cases hb : mLA (upd s (8 + 5 * k + 4) 0) j with
        | false => exact i_pos (bP_bf rfl) (no (by unfold mAlone; rw [hb, Bool.and_false]))
        | true =>
          refine i_neg (by decide) ?_
          rwa [if_pos (show mAlone s k j = true by unfold mAlone; rw [ha, hb, hh]; rfl)] at ih
    · exact i_neg (fun z => h3 ((nz_i (dv3 hd) (by omega)).mp z)) (no (by unfold mAlone; rw [show mHas s j = false from decide_eq_false h3]; rfl))
theorem cntN_0 {f : Nat → Bool} : ∀ {n : Nat}, (∀ k, k < n → f k = false) → cntN f n = 0
  | 0, _ => rfl
  | n + 1, h => by
    unfold cntN
    rw [cntN_0 (fun k hk => h k (by omega)), h n (by omega)]
    rfl
theorem upd_upd {i : Nat} {v w : Int32} (h : s i = w) : upd (upd s i v) i w = s := by
  funext j
  by_cases hj : j = i
  · rw [hj, upd_e, h]
  · rw [upd_n hj, upd_n hj]
end CLD
