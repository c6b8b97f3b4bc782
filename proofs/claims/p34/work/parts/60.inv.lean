/-! what holds between the calls: each lease ends later than now, and has a notice just if it is not allowed; the counters of no device are 0 -/
section INV
variable {s z s' : aS0} {ch x y p v h : Int32} {k d : Nat}
def dOK (s : aS0) (k : Nat) : Prop := (s (104 + 10 * k + 3)) = (-6) ∨ (s 0 < (s (104 + 10 * k + 5)) ∧ (mLA s k = true ↔ (s (104 + 10 * k + 6)) = (-6)))
def ZC (s : aS0) : Prop := ∀ k, nD s ≤ k → k < 16 → (s (104 + 10 * k + 7)) = 0 ∧ (s (104 + 10 * k + 8)) = 0 ∧ (s (104 + 10 * k + 9)) = 0
def IX (s : aS0) : Prop := (∀ k, k < nD s → dOK s k) ∧ ZC s
theorem alw_g (h : ∀ i, i < 104 → ¬ i = 3 → ¬ i = 4 → ¬ i = 6 → ¬ i = 7 → z i = s i) (hC : C3 s) : mAlw z ch x y p = mAlw s ch x y p := by
  have lS := hC.1.2
  have lE := hC.2.1.2
  have eS : nS z = nS s := by unfold nS; rw [h 1 (by omega) (by omega) (by omega) (by omega) (by omega)]
  have eE : nE z = nE s := by unfold nE; rw [h 2 (by omega) (by omega) (by omega) (by omega) (by omega)]
  unfold mAlw mBar mRes
  rw [eS, eE, h 0 (by omega) (by omega) (by omega) (by omega) (by omega)]
  rw [anyN_congr (f := mBarBy z ch x y p) (g := mBarBy s ch x y p) (fun k hk => by
    unfold mBarBy
    rw [h 5 (by omega) (by omega) (by omega) (by omega) (by omega), h (8 + 5 * k + 0) (by omega) (by omega) (by omega) (by omega) (by omega), h (8 + 5 * k + 1) (by omega) (by omega) (by omega) (by omega) (by omega), h (8 + 5 * k + 2) (by omega) (by omega) (by omega) (by omega) (by omega), h (8 + 5 * k + 3) (by omega) (by omega) (by omega) (by omega) (by omega), h (8 + 5 * k + 4) (by omega) (by omega) (by omega) (by omega) (by omega)])]
  rw [anyN_congr (f := mResBy z ch x y p (s 0)) (g := mResBy s ch x y p (s 0)) (fun k hk => by
    unfold mResBy mOn
    rw [h (48 + 7 * k + 0) (by omega) (by omega) (by omega) (by omega) (by omega), h (48 + 7 * k + 1) (by omega) (by omega) (by omega) (by omega) (by omega), h (48 + 7 * k + 2) (by omega) (by omega) (by omega) (by omega) (by omega), h (48 + 7 * k + 3) (by omega) (by omega) (by omega) (by omega) (by omega), h (48 + 7 * k + 4) (by omega) (by omega) (by omega) (by omega) (by omega), h (48 + 7 * k + 5) (by omega) (by omega) (by omega) (by omega) (by omega), h (48 + 7 * k + 6) (by omega) (by omega) (by omega) (by omega) (by omega)])]
theorem LA_g (h : ∀ i, i < 104 → ¬ i = 3 → ¬ i = 4 → ¬ i = 6 → ¬ i = 7 → z i = s i) (hC : C3 s) (hk : ∀ f, f < 5 → z (104 + 10 * k + f) = s (104 + 10 * k + f)) : mLA z k = mLA s k := by
  unfold mLA mAlwF
  rw [alw_g h hC, hk 0 (by omega), hk 1 (by omega), hk 3 (by omega), hk 4 (by omega)]
theorem dOK_g (h : ∀ i, i < 104 → ¬ i = 3 → ¬ i = 4 → ¬ i = 6 → ¬ i = 7 → z i = s i) (hC : C3 s) (hk : ∀ f, f < 7 → z (104 + 10 * k + f) = s (104 + 10 * k + f)) (ho : dOK s k) : dOK z k := by
  unfold dOK
  rw [LA_g h hC (fun f hf => hk f (by omega)), hk 3 (by omega), hk 5 (by omega), hk 6 (by omega), h 0 (by omega) (by omega) (by omega) (by omega) (by omega)]
  exact ho
/-- a change of one device that is there -/
theorem IX_dev (hI : IX s) (hC : C3 s) (hk : k < nD s) (hs : ∀ i, i < 104 + 10 * k ∨ 104 + 10 * k + 10 ≤ i → s' i = s i) (ho : dOK s' k) : IX s' := by
  have eD : nD s' = nD s := by unfold nD; rw [hs 3 (by omega)]
  refine ⟨fun j hj => ?_, fun j hj h16 => ?_⟩
  · rw [eD] at hj
    by_cases hjk : j = k
    · rw [hjk]; exact ho
    · exact dOK_g (fun i hi _ _ _ _ => hs i (by omega)) hC (fun f hf => hs _ (by omega)) (hI.1 j hj)
  · rw [eD] at hj
    rw [hs _ (by omega), hs _ (by omega), hs _ (by omega)]
    exact hI.2 j hj h16
/-- cells ahead of the stations that don't matter -/
theorem IX_4 (hI : IX s) (hC : C3 s) : IX (upd s 4 v) := by
  have eD : nD (upd s 4 v) = nD s := nD_upd (by omega)
  refine ⟨fun j hj => ?_, fun j hj h16 => ?_⟩
  · rw [eD] at hj
    exact dOK_g (fun i hi _ h4 _ _ => upd_n h4) hC (fun f hf => upd_n (by omega)) (hI.1 j hj)
  · rw [eD] at hj
    rw [upd_n (by omega), upd_n (by omega), upd_n (by omega)]
    exact hI.2 j hj h16
/-- behind a review -/
theorem IX_rev (hW : WF s) (hE : ∀ k, k < nD s → (s (104 + 10 * k + 3)) = (-6) ∨ s 0 < (s (104 + 10 * k + 5))) (hZ : ZC s) : IX (mRev s) := by
  have hC := WF_C hW
  have hro : ∀ i, (∀ j, j < nD s → ¬ i = 104 + 10 * j + 6) → mRev s i = s i := rev_o (nD s)
  refine ⟨fun k hk => ?_, fun k hk h16 => ?_⟩
  · rw [nD_rev] at hk
    have e0 : mRev s 0 = s 0 := mRev_lo (by omega)
    have e3 : mRev s (104 + 10 * k + 3) = s (104 + 10 * k + 3) := hro _ (fun j hj => by omega)
    have e5 : mRev s (104 + 10 * k + 5) = s (104 + 10 * k + 5) := hro _ (fun j hj => by omega)
    unfold dOK
    rw [e0, e3, e5, LA_g (fun i hi _ _ _ _ => mRev_lo hi) hC (fun f hf => hro _ (fun j hj => by omega)), mRev_6 hC hk]
    rcases hE k hk with q | q
    · exact Or.inl q
    · by_cases h3 : (s (104 + 10 * k + 3)) = (-6)
      · exact Or.inl h3
      · refine Or.inr ⟨q, ?_⟩
        rw [if_pos (show mHas s k = true from decide_eq_true h3)]
        cases ha : mLA s k with
        | true => simp
        | false =>
          refine ⟨fun w => absurd w (by decide), fun w => ?_⟩
          rw [if_neg (by decide)] at w
          exfalso
          split at w
          · exact rg_6 hW.1 (by omega) w
          · rename_i h6; exact h6 w
  · rw [nD_rev] at hk
    rw [hro _ (fun j hj => by omega), hro _ (fun j hj => by omega), hro _ (fun j hj => by omega)]
    exact hZ k hk h16
/-- a change ahead of the devices, then a review -/
theorem IX_low (hI : IX s) (hW : WF s') (h0 : s' 0 = s 0) (h3 : s' 3 = s 3) (hs : ∀ i, 104 ≤ i → s' i = s i) : IX (mRev s') := by
  have eD : nD s' = nD s := by unfold nD; rw [h3]
  refine IX_rev hW (fun k hk => ?_) (fun k hk h16 => ?_)
  · rw [eD] at hk
    rw [h0, hs _ (by omega), hs _ (by omega)]
    exact (hI.1 k hk).imp id (fun q => q.1)
  · rw [eD] at hk
    rw [hs _ (by omega), hs _ (by omega), hs _ (by omega)]
    exact hI.2 k hk h16
theorem WF_newE {r f t : Int32} (hW : WF s) (h8 : nE s < 8) (hf : rg f 9999) (ht : rg t 9999) : WF (aNewE s x y r ch f t) := by
  have lS := (WF_S hW).2
  have e : ∀ i, i < 48 + 7 * nE s ∨ 48 + 7 * nE s + 7 ≤ i → ¬ i = 2 → aNewE s x y r ch f t i = s i := fun i hi h => aNewE_o hi h
  have e2 : aNewE s x y r ch f t 2 = nI (nE s + 1) := by unfold aNewE; rw [upd_e, (WF_E hW).1, nI_1]
  have hw : evW (aNewE s x y r ch f t) (nE s) := by
    unfold aNewE
    refine ⟨?_, ?_, Or.inl ?_⟩
    · rw [upd_n (by omega), upd_n (by omega), upd_n (by omega), upd_e]; exact hf
    · rw [upd_n (by omega), upd_n (by omega), upd_e]; exact ht
    · rw [upd_n (by omega), upd_e]
  generalize aNewE s x y r ch f t = s1 at *
  obtain ⟨a0, a1, a2, a3, a5, a6, a7, aS, aE, aD⟩ := hW
  have eS : nS s1 = nS s := by unfold nS; rw [e 1 (by omega) (by omega)]
  have eE : nE s1 = nE s + 1 := by rw [show nE s1 = (s1 2).toNatClampNeg from rfl, e2, nI_clamp (by omega)]
  have eD : nD s1 = nD s := by unfold nD; rw [e 3 (by omega) (by omega)]
  refine ⟨by rw [e 0 (by omega) (by omega)]; exact a0, by rw [e 1 (by omega) (by omega)]; exact a1, ⟨nE s + 1, by omega, e2⟩, by rw [e 3 (by omega) (by omega)]; exact a3, by rw [e 5 (by omega) (by omega)]; exact a5, by rw [e 6 (by omega) (by omega)]; exact a6, by rw [e 7 (by omega) (by omega)]; exact a7, ?_, ?_, ?_⟩
  · intro j hj
    rw [eS] at hj
    unfold stW
    rw [e _ (by omega) (by omega), e _ (by omega) (by omega), e _ (by omega) (by omega)]
    exact aS j hj
  · intro j hj
    rw [eE] at hj
    by_cases hjk : j = nE s
    · rw [hjk]; exact hw
    · unfold evW
      rw [e _ (by omega) (by omega), e _ (by omega) (by omega), e _ (by omega) (by omega)]
      exact aE j (by omega)
  · intro j hj
    rw [eD] at hj
    unfold dvW
    rw [e _ (by omega) (by omega), e _ (by omega) (by omega), e _ (by omega) (by omega), e _ (by omega) (by omega), e _ (by omega) (by omega)]
    exact aD j hj
theorem IX_newE {r f t : Int32} (hI : IX s) (hW : WF s) (h8 : nE s < 8) (hf : rg f 9999) (ht : rg t 9999) : IX (mRev (aNewE s x y r ch f t)) :=
  IX_low hI (WF_newE hW h8 hf ht) (aNewE_o (by omega) (by omega)) (aNewE_o (by omega) (by omega)) (fun i hi => aNewE_o (by omega) (by omega))
/-- a new station sleeps: it bars nobody -/
theorem newS_o {i : Nat} (h : i < 8 + 5 * nS s ∨ 8 + 5 * nS s + 5 ≤ i) (h1 : ¬ i = 1) : aNewS s x y ch p i = s i := by
  unfold aNewS
  rw [upd_n h1, upd_n (by omega), upd_n (by omega), upd_n (by omega), upd_n (by omega), upd_n (by omega)]
theorem alw_newS {c u w q : Int32} (hW : WF s) (h8 : nS s < 8) : mAlw (aNewS s x y ch p) c u w q = mAlw s c u w q := by
  have lE := (WF_E hW).2
  have h : ∀ i, i < 8 + 5 * nS s ∨ 8 + 5 * nS s + 5 ≤ i → ¬ i = 1 → aNewS s x y ch p i = s i := fun i hi h1 => newS_o hi h1
  have e1 : aNewS s x y ch p 1 = nI (nS s + 1) := by unfold aNewS; rw [upd_e, (WF_S hW).1, nI_1]
  have e4 : aNewS s x y ch p (8 + 5 * nS s + 4) = 0 := by unfold aNewS; rw [upd_n (by omega), upd_e]
  generalize aNewS s x y ch p = z at *
  have eS : nS z = nS s + 1 := by rw [show nS z = (z 1).toNatClampNeg from rfl, e1, nI_clamp (by omega)]
  have eE : nE z = nE s := by unfold nE; rw [h 2 (by omega) (by omega)]
  unfold mAlw mBar mRes
  rw [eS, eE, h 0 (by omega) (by omega)]
  have b1 : mBarBy z c u w q (nS s) = false := decide_eq_false (fun a => a.1 e4)
  rw [show anyN (mBarBy z c u w q) (nS s + 1) = anyN (mBarBy z c u w q) (nS s) by rw [anyN, b1, Bool.or_false]]
  rw [anyN_congr (f := mBarBy z c u w q) (g := mBarBy s c u w q) (fun k hk => by
    unfold mBarBy
    rw [h 5 (by omega) (by omega), h (8 + 5 * k + 0) (by omega) (by omega), h (8 + 5 * k + 1) (by omega) (by omega), h (8 + 5 * k + 2) (by omega) (by omega), h (8 + 5 * k + 3) (by omega) (by omega), h (8 + 5 * k + 4) (by omega) (by omega)])]
  rw [anyN_congr (f := mResBy z c u w q (s 0)) (g := mResBy s c u w q (s 0)) (fun k hk => by
    unfold mResBy mOn
    rw [h (48 + 7 * k + 0) (by omega) (by omega), h (48 + 7 * k + 1) (by omega) (by omega), h (48 + 7 * k + 2) (by omega) (by omega), h (48 + 7 * k + 3) (by omega) (by omega), h (48 + 7 * k + 4) (by omega) (by omega), h (48 + 7 * k + 5) (by omega) (by omega), h (48 + 7 * k + 6) (by omega) (by omega)])]
theorem IX_newS (hI : IX s) (hW : WF s) (h8 : nS s < 8) : IX (aNewS s x y ch p) := by
  have ho : ∀ i, 48 ≤ i → aNewS s x y ch p i = s i := fun i hi => newS_o (by omega) (by omega)
  have eD : nD (aNewS s x y ch p) = nD s := by unfold nD; rw [newS_o (by omega) (by omega)]
  refine ⟨fun k hk => ?_, fun k hk h16 => ?_⟩
  · rw [eD] at hk
    have ha : mLA (aNewS s x y ch p) k = mLA s k := by
      unfold mLA mAlwF
      rw [alw_newS hW h8, ho _ (by omega), ho _ (by omega), ho _ (by omega), ho _ (by omega)]
    unfold dOK
    rw [ha, newS_o (i := 0) (by omega) (by omega), ho _ (by omega), ho _ (by omega), ho _ (by omega)]
    exact hI.1 k hk
  · rw [eD] at hk
    rw [ho _ (by omega), ho _ (by omega), ho _ (by omega)]
    exact hI.2 k hk h16
theorem IX_newD (hI : IX s) (hW : WF s) (h16 : nD s < 16) : IX (aNewD s x y p) := by
  have hC := WF_C hW
  have e3 : aNewD s x y p 3 = nI (nD s + 1) := by unfold aNewD; rw [upd_e, (WF_D hW).1, nI_1]
  have eD : nD (aNewD s x y p) = nD s + 1 := by rw [show nD (aNewD s x y p) = ((aNewD s x y p) 3).toNatClampNeg from rfl, e3, nI_clamp (by omega)]
  refine ⟨fun k hk => ?_, fun k hk hk16 => ?_⟩
  · rw [eD] at hk
    by_cases hkd : k = nD s
    · rw [hkd]; exact Or.inl (aNewD_w (s := s) (x := x) (y := y) (p := p)).2.2.2.1
    · exact dOK_g (fun i hi h3 _ _ _ => aNewD_o (by omega) h3) hC (fun f hf => aNewD_o (by omega) (by omega)) (hI.1 k (by omega))
  · rw [eD] at hk
    rw [aNewD_o (by omega) (by omega), aNewD_o (by omega) (by omega), aNewD_o (by omega) (by omega)]
    exact hI.2 k (by omega) hk16
theorem off_alw (hD : nD s ≤ 16) (ho : ¬ mOff s k p = (-6)) : mAlwF s k (mOff s k p) p = true := by
  rcases off_up hD k p 8 (Nat.le_refl 8) with ⟨h1, -⟩ | ⟨c0, -, h2, h3, -⟩
  · exact absurd h1 ho
  · have e : mOff s k p = nI c0 := by unfold mOff; rw [h3]
    rw [e]
    unfold okc at h2
    exact (Bool.and_eq_true _ _ ▸ h2).1
theorem IX_newL (hI : IX s) (hW : WF s) (hk : k < nD s) (h0 : rg (s 0) 9999) {n : Nat} (hn : 1 ≤ n ∧ n ≤ 99) (ha : mAlwF s k ch p = true) : IX (aNewL s k ch p (nI n)) := by
  have hC := WF_C hW
  have hC4 : C3 (upd s 4 0) := C3_upd hC (by omega)
  have hs : ∀ i, i < 104 + 10 * k + 3 ∨ 104 + 10 * k + 7 ≤ i → aNewL s k ch p (nI n) i = upd s 4 0 i := by
    intro i hi
    unfold aNewL
    rw [upd_n (by omega), upd_n (by omega), upd_n (by omega), upd_n (by omega)]
  refine IX_dev (s := upd s 4 0) (k := k) (IX_4 hI hC) hC4 (by rw [nD_upd (by omega)]; exact hk) (fun i hi => hs i (by omega)) (Or.inr ⟨?_, ?_⟩)
  · rw [hs 0 (by omega), upd_n (by omega)]
    have e5 : aNewL s k ch p (nI n) (104 + 10 * k + 5) = s 0 + nI n := by unfold aNewL; rw [upd_n (by omega), upd_e]
    rw [e5]
    obtain ⟨a, la, ea⟩ := h0
    rw [ea, nI_add, nI_ltI (by omega) (by omega)]
    omega
  · have e6 : aNewL s k ch p (nI n) (104 + 10 * k + 6) = (-6) := by unfold aNewL; rw [upd_e]
    have e3 : aNewL s k ch p (nI n) (104 + 10 * k + 3) = ch := by unfold aNewL; rw [upd_n (by omega), upd_n (by omega), upd_n (by omega), upd_e]
    have e4 : aNewL s k ch p (nI n) (104 + 10 * k + 4) = p := by unfold aNewL; rw [upd_n (by omega), upd_n (by omega), upd_e]
    have hla : mLA (aNewL s k ch p (nI n)) k = true := by
      rw [← ha]
      unfold mLA mAlwF
      rw [e3, e4, alw_g (s := s) (fun i hi _ h4 _ _ => by rw [hs i (by omega), upd_n h4]) hC, hs (104 + 10 * k + 0) (by omega), hs (104 + 10 * k + 1) (by omega), upd_n (by omega), upd_n (by omega)]
    rw [hla, e6]
    exact ⟨fun _ => rfl, fun _ => rfl⟩
theorem IX_renew (hI : IX s) (hW : WF s) (hk : k < nD s) (h0 : rg (s 0) 9999) {n : Nat} (hn : 1 ≤ n ∧ n ≤ 99) (h3 : ¬ (s (104 + 10 * k + 3)) = (-6)) : IX (upd (upd s 4 0) (104 + 10 * k + 5) (s 0 + nI n)) := by
  have hC := WF_C hW
  have hC4 : C3 (upd s 4 0) := C3_upd hC (by omega)
  refine IX_dev (s := upd s 4 0) (k := k) (IX_4 hI hC) hC4 (by rw [nD_upd (by omega)]; exact hk) (fun i hi => upd_n (by omega)) ?_
  have hla : mLA (upd (upd s 4 0) (104 + 10 * k + 5) (s 0 + nI n)) k = mLA s k := LA_g (fun i hi _ h4 _ _ => by rw [upd_n (by omega), upd_n h4]) hC (fun f hf => by rw [upd_n (by omega), upd_n (by omega)])
  refine Or.inr ⟨?_, ?_⟩
  · rw [upd_e, upd_n (by omega), upd_n (by omega)]
    obtain ⟨a, la, ea⟩ := h0
    rw [ea, nI_add, nI_ltI (by omega) (by omega)]
    omega
  · rw [hla, upd_n (by omega), upd_n (by omega)]
    exact ((hI.1 k hk).resolve_left h3).2
theorem IX_ends (hI : IX s) (hW : WF s) (hk : k < nD s) : IX (mEnds s k) := IX_dev hI (WF_C hW) hk (fun i hi => mEnds_o (by omega)) (Or.inl mEnds_w.1)
/-! an hour -/
theorem endN_p (n : Nat) : ∀ k, k < n → (itN mEndS s n) (104 + 10 * k + 3) = (-6) ∨ (itN mEndS s n) 0 < (itN mEndS s n) (104 + 10 * k + 5) := by
  induction n with
  | zero => exact fun k h => absurd h (Nat.not_lt_zero _)
  | succ n ih =>
    intro k hk
    show (mEndS n (itN mEndS s n)) (104 + 10 * k + 3) = (-6) ∨ (mEndS n (itN mEndS s n)) 0 < (mEndS n (itN mEndS s n)) (104 + 10 * k + 5)
    by_cases hkn : k = n
    · subst hkn
      generalize itN mEndS s k = w
      unfold mEndS
      split
      · exact Or.inl mEnds_w.1
      · rename_i hno
        by_cases h3 : w (104 + 10 * k + 3) = (-6)
        · exact Or.inl h3
        · refine Or.inr (Decidable.not_not.mp (fun q => hno ⟨decide_eq_true h3, q⟩))
    · rw [endS_o (by omega), endS_o (by omega), endS_o (by omega)]
      exact ih k (by omega)
theorem IX_hop {c : Int32} (hI : IX z) (hW : WF z) (hk : k < nD z) (h6 : ¬ (z (104 + 10 * k + 6)) = (-6)) (ha : mAlwF z k c p = true) : IX (mHop z k c p) := by
  have h3 : ¬ (z (104 + 10 * k + 3)) = (-6) := rg_6 (dv_notice (WF_dv hW hk) h6).1 (by omega)
  have hC := WF_C hW
  have hs : ∀ i, i < 104 + 10 * k + 3 ∨ i = 104 + 10 * k + 5 ∨ 104 + 10 * k + 8 ≤ i → mHop z k c p i = z i := by
    intro i hi
    unfold mHop
    rw [upd_n (by omega), upd_n (by omega), upd_n (by omega), upd_n (by omega)]
  refine IX_dev hI hC hk (fun i hi => hs i (by omega)) (Or.inr ⟨?_, ?_⟩)
  · rw [hs 0 (by omega), hs _ (by omega)]
    exact ((hI.1 k hk).resolve_left h3).1
  · have e6 : mHop z k c p (104 + 10 * k + 6) = (-6) := by unfold mHop; rw [upd_n (by omega), upd_e]
    have e3 : mHop z k c p (104 + 10 * k + 3) = c := by unfold mHop; rw [upd_n (by omega), upd_n (by omega), upd_n (by omega), upd_e]
    have e4 : mHop z k c p (104 + 10 * k + 4) = p := by unfold mHop; rw [upd_n (by omega), upd_n (by omega), upd_e]
    have hla : mLA (mHop z k c p) k = true := by
      rw [← ha]
      unfold mLA mAlwF
      rw [e3, e4, alw_g (s := z) (fun i hi _ _ _ _ => hs i (by omega)) hC, hs _ (by omega), hs _ (by omega)]
    rw [hla, e6]
    exact ⟨fun _ => rfl, fun _ => rfl⟩
theorem IX_str (hI : IX z) (hW : WF z) (hk : k < nD z) : IX (mStr z k) := by
  refine IX_dev hI (WF_C hW) hk (fun i hi => ?_) (Or.inl ?_)
  · unfold mStr
    rw [upd_n (by omega), mEnds_o (by omega)]
  · unfold mStr
    rw [upd_n (by omega)]
    exact mEnds_w.1
theorem IX_askN (hI : IX z) (hW : WF z) (hk : k < nD z) (h6 : ¬ (z (104 + 10 * k + 6)) = (-6)) : ∀ n, IX (mAskN z k n).2
  | 0 => IX_str hI hW hk
  | n + 1 => by
    unfold mAskN
    split
    · exact IX_askN hI hW hk h6 n
    · rename_i ho
      exact IX_hop hI hW hk h6 (off_alw (WF_D hW).2 ho)
theorem IX_hopN (hI : IX s) (hW : WF s) : ∀ n, n ≤ nD s → IX (itN mHopS (0, s) n).2
  | 0, _ => hI
  | n + 1, hn => by
    have ih := IX_hopN hI hW n (by omega)
    have hWn := WF_hopN hW n (by omega)
    have hD : nD (itN mHopS (0, s) n).2 = nD s := nD_lo (itN_lo2 (fun k z => mHopS_lo (by omega)) n)
    show IX (mHopS n (itN mHopS (0, s) n)).2
    generalize itN mHopS (0, s) n = w at *
    unfold mHopS
    split
    · rename_i hh
      exact IX_askN ih hWn (by rw [hD]; exact hn) hh.2 _
    · exact ih
theorem IX_cutN (hI : IX s) (hW : WF s) : ∀ n, n ≤ nD s → IX (itN mCutS s n)
  | 0, _ => hI
  | n + 1, hn => by
    have ih := IX_cutN hI hW n (by omega)
    have hWn : WF (itN mCutS s n) := itN_P (P := WF) hW (fun _ _ => WF_cutS) n
    have hD : nD (itN mCutS s n) = nD s := nD_lo (itN_lo (fun k s => mCutS_lo (by omega)) n)
    show IX (mCutS n (itN mCutS s n))
    generalize itN mCutS s n = w at *
    unfold mCutS
    split
    · refine IX_dev ih (WF_C hWn) (by rw [hD]; exact hn) (fun i hi => ?_) (Or.inl ?_)
      · rw [upd_n (by omega), mEnds_o (by omega)]
      · rw [upd_n (by omega)]; exact mEnds_w.1
    · exact ih
theorem IX_p1 (hI : IX s) (hW : WF s) (h0 : rg (s 0) 99999) : IX (mP1 s).2 := by
  have hW1 : WF (upd s 0 (s 0 + 1)) := WF_hour hW (rg_1 h0)
  have hZ1 : ZC (mEndL (upd s 0 (s 0 + 1))) := by
    intro k hk h16
    have eD : nD (mEndL (upd s 0 (s 0 + 1))) = nD s := (nD_lo (mEndL_lo (by omega))).trans (nD_upd (by omega))
    rw [eD] at hk
    unfold mEndL
    rw [endN_o _ _ (fun j hj => by omega), endN_o _ _ (fun j hj => by omega), endN_o _ _ (fun j hj => by omega), upd_n (by omega), upd_n (by omega), upd_n (by omega)]
    exact hI.2 k hk h16
  have hW2 := WF_endL hW1
  have hI2 : IX (mRev (mEndL (upd s 0 (s 0 + 1)))) := IX_rev hW2 (fun k hk => endN_p _ k (by rwa [nD_lo (mEndL_lo (by omega))] at hk)) hZ1
  have hW3 := WF_rev hW2
  show IX (mCutL (mHopL (mRev (mEndL (upd s 0 (s 0 + 1))))).2)
  generalize mRev (mEndL (upd s 0 (s 0 + 1))) = s3 at *
  exact IX_cutN (IX_hopN hI2 hW3 _ (Nat.le_refl _)) (WF_hopL hW3) _ (Nat.le_refl _)
theorem IX_pn {a : Nat} (hI : IX s) (hW : WF s) (h0 : s 0 = nI a) (n : Nat) (hn : a + n ≤ 99999) : IX (mPn s n).2 := by
  induction n with
  | zero =>
    rw [show mPn s 0 = (0, s) from rfl]
    exact hI
  | succ n ih =>
    obtain ⟨w, e, -⟩ := mPn_ok hW h0 n (by omega)
    rw [mPn_s]
    have := ih (by omega)
    generalize mPn s n = z at *
    dsimp only
    exact IX_p1 this w ⟨a + n, by omega, e⟩
end INV
