/-! every step keeps the states well formed -/
theorem C_lo {s s' : aS0} (h : ∀ i, i < 104 → s' i = s i) (hC : C3 s) : C3 s' := C3_of hC (h 1 (by omega)) (h 2 (by omega)) (h 3 (by omega))
theorem WF_dev {s s' : aS0} {k : Nat} (h : WF s) (hs : ∀ i, i < 104 + 10 * k ∨ 104 + 10 * k + 10 ≤ i → s' i = s i) (hk : k < nD s → dvW s' k) : WF s' := by
  obtain ⟨h0, h1, h2, h3, h5, h6, h7, hS, hE, hD⟩ := h
  have e : ∀ i, i < 104 → s' i = s i := fun i hi => hs i (by omega)
  have eS : nS s' = nS s := by unfold nS; rw [e 1 (by omega)]
  have eE : nE s' = nE s := by unfold nE; rw [e 2 (by omega)]
  have eD : nD s' = nD s := by unfold nD; rw [e 3 (by omega)]
  have lS := (rg_n h1 (by omega)).2
  have lE := (rg_n h2 (by omega)).2
  refine ⟨by rw [e 0 (by omega)]; exact h0, by rw [e 1 (by omega)]; exact h1, by rw [e 2 (by omega)]; exact h2, by rw [e 3 (by omega)]; exact h3, by rw [e 5 (by omega)]; exact h5, by rw [e 6 (by omega)]; exact h6, by rw [e 7 (by omega)]; exact h7, ?_, ?_, ?_⟩
  · intro j hj
    rw [eS] at hj
    have hj8 : j < 8 := Nat.lt_of_lt_of_le hj lS
    unfold stW
    rw [e _ (by omega), e _ (by omega), e _ (by omega)]
    exact hS j hj
  · intro j hj
    rw [eE] at hj
    have hj8 : j < 8 := Nat.lt_of_lt_of_le hj lE
    unfold evW
    rw [e _ (by omega), e _ (by omega), e _ (by omega)]
    exact hE j hj
  · intro j hj
    rw [eD] at hj
    by_cases hjk : j = k
    · rw [hjk]; exact hk (hjk ▸ hj)
    · unfold dvW
      rw [hs _ (by omega), hs _ (by omega), hs _ (by omega), hs _ (by omega), hs _ (by omega)]
      exact hD j hj
theorem WF_dv {s : aS0} {k : Nat} (h : WF s) (hk : k < nD s) : dvW s k := h.2.2.2.2.2.2.2.2.2 k hk
theorem WF_ev {s : aS0} {k : Nat} (h : WF s) (hk : k < nE s) : evW s k := h.2.2.2.2.2.2.2.2.1 k hk
theorem WF_st {s : aS0} {k : Nat} (h : WF s) (hk : k < nS s) : stW s k := h.2.2.2.2.2.2.2.1 k hk
theorem rg_6 {v : Int32} {B : Nat} (h : rg v B) (hB : B < 2 ^ 31) : ¬ v = (-6) := by
  obtain ⟨n, h1, rfl⟩ := h
  intro z
  have := nI_pos (n := n) (by omega)
  rw [z] at this
  exact this (by decide)
theorem rg_m1 {v : Int32} {B : Nat} (h : rg v B) (hB : B < 2 ^ 31) : ¬ v = (-1) := by
  obtain ⟨n, h1, rfl⟩ := h
  intro z
  have := nI_pos (n := n) (by omega)
  rw [z] at this
  exact this (by decide)
theorem dv_lease {s : aS0} {k : Nat} (h : dvW s k) (h3 : ¬ (s (104 + 10 * k + 3)) = (-6)) : rg (s (104 + 10 * k + 3)) 7 ∧ rg (s (104 + 10 * k + 4)) 3 ∧ rg (s (104 + 10 * k + 5)) 200000 ∧ ((s (104 + 10 * k + 6)) = (-6) ∨ rg (s (104 + 10 * k + 6)) 100000) := h.2.elim (fun z => absurd z.1 h3) id
theorem dv_notice {s : aS0} {k : Nat} (h : dvW s k) (h6 : ¬ (s (104 + 10 * k + 6)) = (-6)) : rg (s (104 + 10 * k + 3)) 7 ∧ rg (s (104 + 10 * k + 4)) 3 ∧ rg (s (104 + 10 * k + 5)) 200000 ∧ rg (s (104 + 10 * k + 6)) 100000 := h.2.elim (fun z => absurd z.2.2.2 h6) (fun z => ⟨z.1, z.2.1, z.2.2.1, z.2.2.2.elim (fun q => absurd q h6) id⟩)
theorem mEnds_o {s : aS0} {k i : Nat} (h : i < 104 + 10 * k + 3 ∨ 104 + 10 * k + 7 ≤ i) : mEnds s k i = s i := by
  unfold mEnds
  rw [upd_n (by omega), upd_n (by omega), upd_n (by omega), upd_n (by omega)]
theorem mEnds_w {s : aS0} {k : Nat} : mEnds s k (104 + 10 * k + 3) = (-6) ∧ mEnds s k (104 + 10 * k + 4) = (-6) ∧ mEnds s k (104 + 10 * k + 5) = (-6) ∧ mEnds s k (104 + 10 * k + 6) = (-6) := by
  unfold mEnds
  refine ⟨?_, ?_, ?_, ?_⟩
  · rw [upd_n (by omega), upd_n (by omega), upd_n (by omega), upd_e]
  · rw [upd_n (by omega), upd_n (by omega), upd_e]
  · rw [upd_n (by omega), upd_e]
  · rw [upd_e]
theorem WF_ends {s : aS0} {k : Nat} (h : WF s) : WF (mEnds s k) := by
  refine WF_dev (k := k) h (fun i hi => mEnds_o (by omega)) (fun hk => ⟨?_, Or.inl mEnds_w⟩)
  rw [mEnds_o (by omega)]
  exact (WF_dv h hk).1
theorem WF_hi {s : aS0} {k f : Nat} {v : Int32} (h : WF s) (hf : 7 ≤ f ∧ f < 10) : WF (upd s (104 + 10 * k + f) v) := by
  refine WF_dev (k := k) h (fun i hi => upd_n (by omega)) (fun hk => ?_)
  unfold dvW
  rw [upd_n (by omega), upd_n (by omega), upd_n (by omega), upd_n (by omega), upd_n (by omega)]
  exact WF_dv h hk
theorem WF_revS {s : aS0} {k : Nat} (h : WF s) : WF (mRevS k s) := by
  unfold mRevS
  split
  · rename_i hh
    have h3 : ¬ (s (104 + 10 * k + 3)) = (-6) := of_decide_eq_true hh
    refine WF_dev (k := k) h (fun i hi => upd_n (by omega)) (fun hk => ?_)
    have hd := WF_dv h hk
    obtain ⟨l3, l4, l5, l6⟩ := dv_lease hd h3
    unfold dvW
    rw [upd_n (by omega), upd_n (by omega), upd_n (by omega), upd_n (by omega), upd_e]
    refine ⟨hd.1, Or.inr ⟨l3, l4, l5, ?_⟩⟩
    split
    · exact Or.inl rfl
    · split
      · exact Or.inr h.1
      · exact l6
  · exact h
theorem itN_P {α : Type} {P : α → Prop} {f : Nat → α → α} {a : α} (h0 : P a) (hs : ∀ k z, P z → P (f k z)) : ∀ n, P (itN f a n)
  | 0 => h0
  | n + 1 => hs n _ (itN_P h0 hs n)
theorem WF_rev {s : aS0} (h : WF s) : WF (mRev s) := itN_P (P := WF) h (fun _ _ => WF_revS) _
theorem mEndS_lo {s : aS0} {k i : Nat} (hi : i < 104) : mEndS k s i = s i := by
  unfold mEndS
  split
  · exact mEnds_o (by omega)
  · rfl
theorem WF_endS {s : aS0} {k : Nat} (h : WF s) : WF (mEndS k s) := by
  unfold mEndS
  split
  · exact WF_ends h
  · exact h
theorem WF_endL {s : aS0} (h : WF s) : WF (mEndL s) := itN_P (P := WF) h (fun _ _ => WF_endS) _
theorem mCutS_lo {s : aS0} {k i : Nat} (hi : i < 104) : mCutS k s i = s i := by
  unfold mCutS
  split
  · rw [upd_n (by omega)]; exact mEnds_o (by omega)
  · rfl
theorem WF_cutS {s : aS0} {k : Nat} (h : WF s) : WF (mCutS k s) := by
  unfold mCutS
  split
  · exact WF_hi (WF_ends h) (by omega)
  · exact h
theorem WF_cutL {s : aS0} (h : WF s) : WF (mCutL s) := itN_P (P := WF) h (fun _ _ => WF_cutS) _
theorem mOff_rg (s : aS0) (d : Nat) (p : Int32) : mOff s d p = (-6) ∨ rg (mOff s d p) 7 := by
  have : ∀ n, n ≤ 8 → ((itN (mOffS s d p) ((-6), 0) n).1 = (-6) ∨ rg (itN (mOffS s d p) ((-6), 0) n).1 7) := by
    intro n
    induction n with
    | zero => exact fun _ => Or.inl rfl
    | succ n ih =>
      intro hn
      show (mOffS s d p n (itN (mOffS s d p) ((-6), 0) n)).1 = (-6) ∨ rg (mOffS s d p n (itN (mOffS s d p) ((-6), 0) n)).1 7
      unfold mOffS
      split
      · split
        · exact Or.inr ⟨n, by omega, rfl⟩
        · exact ih (by omega)
      · exact ih (by omega)
  exact this 8 (Nat.le_refl 8)
theorem WF_hop {s : aS0} {k : Nat} {ch p : Int32} (h : WF s) (hl : k < nD s → rg (s (104 + 10 * k + 5)) 200000) (hc : rg ch 7) (hp : rg p 3) : WF (mHop s k ch p) := by
  unfold mHop
  refine WF_hi ?_ (by omega)
  refine WF_dev (k := k) h (fun i hi => by rw [upd_n (by omega), upd_n (by omega), upd_n (by omega)]) (fun hk => ?_)
  unfold dvW
  rw [upd_n (by omega), upd_n (by omega), upd_n (by omega)]
  refine ⟨(WF_dv h hk).1, Or.inr ⟨?_, ?_, ?_, Or.inl upd_e⟩⟩
  · rw [upd_n (by omega), upd_n (by omega), upd_e]; exact hc
  · rw [upd_n (by omega), upd_e]; exact hp
  · rw [upd_n (by omega), upd_n (by omega), upd_n (by omega)]; exact hl hk
theorem mHop_lo {s : aS0} {k i : Nat} {ch p : Int32} (hi : i < 104) : mHop s k ch p i = s i := by
  unfold mHop
  rw [upd_n (by omega), upd_n (by omega), upd_n (by omega), upd_n (by omega)]
theorem mStr_lo {s : aS0} {k i : Nat} (hi : i < 104) : mStr s k i = s i := by
  unfold mStr
  rw [upd_n (by omega)]
  exact mEnds_o (by omega)
theorem mAskN_lo {s : aS0} {k i : Nat} (hi : i < 104) : ∀ p, (mAskN s k p).2 i = s i
  | 0 => mStr_lo hi
  | p + 1 => by
    unfold mAskN
    split
    · exact mAskN_lo hi p
    · exact mHop_lo hi
theorem WF_askN {s : aS0} {k : Nat} (h : WF s) (hl : k < nD s → rg (s (104 + 10 * k + 5)) 200000) : ∀ p, p ≤ 4 → WF (mAskN s k p).2
  | 0, _ => WF_hi (WF_ends h) (by omega)
  | p + 1, hp => by
    unfold mAskN
    split
    · exact WF_askN h hl p (by omega)
    · rename_i h6
      exact WF_hop h hl ((mOff_rg s k (nI p)).elim (fun z => absurd z h6) id) ⟨p, by omega, rfl⟩
theorem mHopS_lo {z : Int32 × aS0} {k i : Nat} (hi : i < 104) : (mHopS k z).2 i = z.2 i := by
  unfold mHopS
  split
  · exact mAskN_lo hi _
  · rfl
theorem hop_ok {s : aS0} {k : Nat} (h : WF s) (hk : k < nD s) (h6 : ¬ (s (104 + 10 * k + 6)) = (-6)) : rg (s (104 + 10 * k + 4)) 3 ∧ rg (s (104 + 10 * k + 5)) 200000 := ⟨(dv_notice (WF_dv h hk) h6).2.1, (dv_notice (WF_dv h hk) h6).2.2.1⟩
theorem WF_hopS {z : Int32 × aS0} {k : Nat} (h : WF z.2) (hk : k < nD z.2) : WF (mHopS k z).2 := by
  unfold mHopS
  split
  · rename_i hh
    obtain ⟨h4, h5⟩ := hop_ok h hk hh.2
    have := (rg_n h4 (by omega)).2
    exact WF_askN h (fun _ => h5) _ (by omega)
  · exact h
theorem itN_lo2 {f : Nat → Int32 × aS0 → Int32 × aS0} {i : Nat} {a : Int32 × aS0} (hf : ∀ k z, (f k z).2 i = z.2 i) : ∀ n, (itN f a n).2 i = a.2 i
  | 0 => rfl
  | n + 1 => by
    show (f n (itN f a n)).2 i = a.2 i
    rw [hf, itN_lo2 hf n]
theorem WF_hopN {s : aS0} (h : WF s) : ∀ n, n ≤ nD s → WF (itN mHopS (0, s) n).2
  | 0, _ => h
  | n + 1, hn => by
    refine WF_hopS (WF_hopN h n (by omega)) ?_
    unfold nD
    rw [itN_lo2 (fun k z => mHopS_lo (by omega))]
    exact hn
theorem WF_hopL {s : aS0} (h : WF s) : WF (mHopL s).2 := WF_hopN h _ (Nat.le_refl _)
theorem WF_hour {s : aS0} {v : Int32} (h : WF s) (hv : rg v 100000) : WF (upd s 0 v) := by
  obtain ⟨h0, h1, h2, h3, h5, h6, h7, hS, hE, hD⟩ := h
  have e : ∀ i, ¬ i = 0 → upd s 0 v i = s i := fun i hi => upd_n hi
  have eS : nS (upd s 0 v) = nS s := by unfold nS; rw [e 1 (by omega)]
  have eE : nE (upd s 0 v) = nE s := by unfold nE; rw [e 2 (by omega)]
  have eD : nD (upd s 0 v) = nD s := by unfold nD; rw [e 3 (by omega)]
  unfold WF
  rw [eS, eE, eD, upd_e, e 1 (by omega), e 2 (by omega), e 3 (by omega), e 5 (by omega), e 6 (by omega), e 7 (by omega)]
  refine ⟨hv, h1, h2, h3, h5, h6, h7, ?_, ?_, ?_⟩
  · intro j hj; unfold stW; rw [e _ (by omega), e _ (by omega), e _ (by omega)]; exact hS j hj
  · intro j hj; unfold evW; rw [e _ (by omega), e _ (by omega), e _ (by omega)]; exact hE j hj
  · intro j hj; unfold dvW; rw [e _ (by omega), e _ (by omega), e _ (by omega), e _ (by omega), e _ (by omega)]; exact hD j hj
theorem rg_1 {v : Int32} {B : Nat} (h : rg v B) : rg (v + 1) (B + 1) := by
  obtain ⟨n, h1, rfl⟩ := h
  exact ⟨n + 1, by omega, nI_1 n⟩
theorem rg_le {v : Int32} {B C : Nat} (h : rg v B) (hB : B ≤ C) : rg v C := by
  obtain ⟨n, h1, rfl⟩ := h
  exact ⟨n, by omega, rfl⟩
theorem WF_p1 {s : aS0} (h : WF s) (h0 : rg (s 0) 99999) : WF (mP1 s).2 := WF_cutL (WF_hopL (WF_rev (WF_endL (WF_hour h (rg_1 h0)))))
theorem mRev_lo {s : aS0} {i : Nat} (hi : i < 104) : mRev s i = s i := itN_lo (fun _ _ => mRevS_3 hi) _
theorem mEndL_lo {s : aS0} {i : Nat} (hi : i < 104) : mEndL s i = s i := itN_lo (fun _ _ => mEndS_lo hi) _
theorem mCutL_lo {s : aS0} {i : Nat} (hi : i < 104) : mCutL s i = s i := itN_lo (fun _ _ => mCutS_lo hi) _
theorem mHopL_lo {s : aS0} {i : Nat} (hi : i < 104) : (mHopL s).2 i = s i := itN_lo2 (fun _ _ => mHopS_lo hi) _
theorem mP1_lo {s : aS0} {i : Nat} (hi : i < 104) : (mP1 s).2 i = upd s 0 (s 0 + 1) i := by
  show mCutL _ i = _
  rw [mCutL_lo hi, mHopL_lo hi, mRev_lo hi, mEndL_lo hi]
