/-! changes of the class's cells beside changes of the row -/
section UPD
variable {m : aM} {s : aS0} {v : Int32} {b k : Nat}
theorem cel {c j c' j' i i' : Nat} (h : m c' b j' = s i') (hiff : (c' = c ∧ j' = j) ↔ i' = i) : a_up m c b j v c' b j' = upd s i v i' := by
  by_cases hi : i' = i
  · obtain ⟨rfl, rfl⟩ := hiff.mpr hi
    rw [hi, up_e, upd_e]
  · rw [upd_n hi, up_o, h]
    by_cases hc : c' = c
    · exact Or.inr (Or.inr (fun z => hi (hiff.mp ⟨hc, z⟩)))
    · exact Or.inl hc
def cor (i c j : Nat) : Prop := (i = 0 ∧ c = 0 ∧ j = 4) ∨ (i = 4 ∧ c = 0 ∧ j = 5) ∨ (i < 8 ∧ 5 ≤ i ∧ c = 26 ∧ j = i - 5) ∨ (∃ k f, k < 8 ∧ f < 5 ∧ i = 8 + 5 * k + f ∧ c = 4 + f ∧ j = k) ∨ (∃ k f, k < 8 ∧ f < 7 ∧ i = 48 + 7 * k + f ∧ c = 9 + f ∧ j = k)
theorem Rp_lo {i c j : Nat} (hR : Rp m b s) (hco : cor i c j) (hW : WF (upd s i v)) : Rp (a_up m c b j v) b (upd s i v) := by
  obtain ⟨hC, ⟨a1, a2, a3, a4, a5, a6, a7, a8⟩, hS, hE, hD, hW0⟩ := hR
  have lS := (WF_S hW0).2
  have lE := (WF_E hW0).2
  have hi : i < 104 ∧ ¬ i = 1 ∧ ¬ i = 2 ∧ ¬ i = 3 ∧ c < 27 := by
    rcases hco with h | h | h | ⟨k, f, h⟩ | ⟨k, f, h⟩ <;> omega
  have eS : nS (upd s i v) = nS s := by unfold nS; rw [upd_n (by omega)]
  have eE : nE (upd s i v) = nE s := by unfold nE; rw [upd_n (by omega)]
  have eD : nD (upd s i v) = nD s := by unfold nD; rw [upd_n (by omega)]
  refine ⟨Cst_of hC (fun c' hc' => by funext j'; exact up_o (by omega)), ?_, ?_, ?_, ?_, hW⟩
  · refine ⟨cel a1 ?_, cel a2 ?_, cel a3 ?_, cel a4 ?_, cel a5 ?_, cel a6 ?_, cel a7 ?_, cel a8 ?_⟩ <;> (rcases hco with h | h | h | ⟨k, f, h⟩ | ⟨k, f, h⟩ <;> omega)
  · intro n hn
    rw [eS] at hn
    obtain ⟨b0, b1, b2, b3, b4⟩ := hS n hn
    refine ⟨cel b0 ?_, cel b1 ?_, cel b2 ?_, cel b3 ?_, cel b4 ?_⟩ <;> (rcases hco with h | h | h | ⟨k, f, h⟩ | ⟨k, f, h⟩ <;> omega)
  · intro n hn
    rw [eE] at hn
    obtain ⟨b0, b1, b2, b3, b4, b5, b6⟩ := hE n hn
    refine ⟨cel b0 ?_, cel b1 ?_, cel b2 ?_, cel b3 ?_, cel b4 ?_, cel b5 ?_, cel b6 ?_⟩ <;> (rcases hco with h | h | h | ⟨k, f, h⟩ | ⟨k, f, h⟩ <;> omega)
  · intro n hn
    rw [eD] at hn
    have q : ∀ c', 16 ≤ c' → c' < 26 → a_up m c b j v c' b n = m c' b n := fun c' h1 h2 => up_o (by rcases hco with h | h | h | ⟨k, f, h⟩ | ⟨k, f, h⟩ <;> omega)
    unfold Rd
    rw [q 16 (by omega) (by omega), q 17 (by omega) (by omega), q 18 (by omega) (by omega), q 19 (by omega) (by omega), q 20 (by omega) (by omega), q 21 (by omega) (by omega), q 22 (by omega) (by omega), q 23 (by omega) (by omega), q 24 (by omega) (by omega), q 25 (by omega) (by omega), upd_n (by omega), upd_n (by omega), upd_n (by omega), upd_n (by omega), upd_n (by omega), upd_n (by omega), upd_n (by omega), upd_n (by omega), upd_n (by omega), upd_n (by omega)]
    exact hD n hn
theorem Rp_hour (hR : Rp m b s) (hv : rg v 100000) : Rp (a_up m 0 b 4 v) b (upd s 0 v) := Rp_lo hR (Or.inl ⟨rfl, rfl, rfl⟩) (WF_hour (Rp_W hR) hv)
theorem WF_4 (hW : WF s) : WF (upd s 4 v) := by
  obtain ⟨h0, h1, h2, h3, h5, h6, h7, hS, hE, hD⟩ := hW
  have e : ∀ i, ¬ i = 4 → upd s 4 v i = s i := fun i hi => upd_n hi
  have eS : nS (upd s 4 v) = nS s := by unfold nS; rw [e 1 (by omega)]
  have eE : nE (upd s 4 v) = nE s := by unfold nE; rw [e 2 (by omega)]
  have eD : nD (upd s 4 v) = nD s := by unfold nD; rw [e 3 (by omega)]
  unfold WF
  rw [eS, eE, eD, e 0 (by omega), e 1 (by omega), e 2 (by omega), e 3 (by omega), e 5 (by omega), e 6 (by omega), e 7 (by omega)]
  refine ⟨h0, h1, h2, h3, h5, h6, h7, ?_, ?_, ?_⟩
  · intro j hj; unfold stW; rw [e _ (by omega), e _ (by omega), e _ (by omega)]; exact hS j hj
  · intro j hj; unfold evW; rw [e _ (by omega), e _ (by omega), e _ (by omega)]; exact hE j hj
  · intro j hj; unfold dvW; rw [e _ (by omega), e _ (by omega), e _ (by omega), e _ (by omega), e _ (by omega)]; exact hD j hj
theorem Rp_reason (hR : Rp m b s) : Rp (a_up m 0 b 5 v) b (upd s 4 v) := Rp_lo hR (Or.inr (Or.inl ⟨rfl, rfl, rfl⟩)) (WF_4 (Rp_W hR))
theorem Rp_hi {f : Nat} (hR : Rp m b s) (hf : 7 ≤ f ∧ f < 10) : Rp (a_up m (16 + f) b k v) b (upd s (104 + 10 * k + f) v) := by
  refine Rp_dev (k := k) hR (fun i hi => upd_n (by omega)) (Fr_up (by omega)) (fun c j hc h => up_o (by omega)) (fun hk => ?_) (WF_hi (Rp_W hR) hf)
  obtain ⟨q0, q1, q2, q3, q6, q7, q8, q9, q4⟩ := Rp_d hR hk
  unfold Rd
  rw [up_o (by omega), up_o (by omega), up_o (by omega), up_o (by omega), up_o (by omega), up_o (c' := 20) (by omega), up_o (c' := 21) (by omega), upd_n (i := 104 + 10 * k + f) (j := 104 + 10 * k + 0) (by omega), upd_n (j := 104 + 10 * k + 1) (by omega), upd_n (j := 104 + 10 * k + 2) (by omega), upd_n (j := 104 + 10 * k + 3) (by omega), upd_n (j := 104 + 10 * k + 4) (by omega), upd_n (j := 104 + 10 * k + 5) (by omega), upd_n (j := 104 + 10 * k + 6) (by omega)]
  exact ⟨q0, q1, q2, q3, q6, cel q7 (by omega), cel q8 (by omega), cel q9 (by omega), q4⟩
theorem Fr_rem : Fr b m (cRem m b k) := Fr_tr (Fr_up (by omega)) (Fr_up (by omega))
theorem Rp_rem (hR : Rp m b s) : Rp (cRem m b k) b (mEnds s k) := by
  refine Rp_dev (k := k) hR (fun i hi => mEnds_o (by omega)) Fr_rem (fun c j hc h => ?_) (fun hk => ?_) (WF_ends (Rp_W hR))
  · unfold cRem
    rw [up_o (by omega), up_o (by omega)]
  · obtain ⟨q0, q1, q2, q3, q6, q7, q8, q9, q4⟩ := Rp_d hR hk
    obtain ⟨e3, e4, e5, e6⟩ := mEnds_w (s := s) (k := k)
    have o : ∀ c, ¬ c = 19 → ¬ c = 22 → cRem m b k c b k = m c b k := fun c h1 h2 => by unfold cRem; rw [up_o (by omega), up_o (by omega)]
    unfold Rd
    rw [e3, e4, e5, e6, o 16 (by omega) (by omega), o 17 (by omega) (by omega), o 18 (by omega) (by omega), o 23 (by omega) (by omega), o 24 (by omega) (by omega), o 25 (by omega) (by omega), mEnds_o (by omega), mEnds_o (by omega), mEnds_o (by omega), mEnds_o (by omega), mEnds_o (by omega), mEnds_o (by omega)]
    refine ⟨q0, q1, q2, ?_, ?_, q7, q8, q9, fun z => absurd rfl z⟩
    · unfold cRem; rw [up_o (by omega), up_e]; rfl
    · unfold cRem; rw [up_e]; rfl
theorem Rp_not (hR : Rp m b s) (hW : WF (upd s (104 + 10 * k + 6) v)) : Rp (a_up m 22 b k (nz v)) b (upd s (104 + 10 * k + 6) v) := by
  refine Rp_dev (k := k) hR (fun i hi => upd_n (by omega)) (Fr_up (by omega)) (fun c j hc h => up_o (by omega)) (fun hk => ?_) hW
  obtain ⟨q0, q1, q2, q3, q6, q7, q8, q9, q4⟩ := Rp_d hR hk
  have o : ∀ c, ¬ c = 22 → a_up m 22 b k (nz v) c b k = m c b k := fun c h => up_o (Or.inl h)
  unfold Rd
  rw [o 16 (by omega), o 17 (by omega), o 18 (by omega), o 19 (by omega), o 20 (by omega), o 21 (by omega), o 23 (by omega), o 24 (by omega), o 25 (by omega), up_e, upd_e, upd_n (by omega), upd_n (by omega), upd_n (by omega), upd_n (by omega), upd_n (by omega), upd_n (by omega), upd_n (by omega), upd_n (by omega), upd_n (by omega)]
  exact ⟨q0, q1, q2, q3, rfl, q7, q8, q9, q4⟩
theorem Fr_put {ch p : Int32} : Fr b m (cPutOn m b k ch p) := Fr_tr (Fr_tr (Fr_up (by omega)) (Fr_up (by omega))) (Fr_up (by omega))
theorem put_o {ch p : Int32} {c j : Nat} (h : (¬ c = 19 ∧ ¬ c = 20 ∧ ¬ c = 22) ∨ ¬ j = k) : cPutOn m b k ch p c b j = m c b j := by
  unfold cPutOn
  rw [up_o (by omega), up_o (by omega), up_o (by omega)]
theorem Rp_hop {ch p : Int32} (hR : Rp m b s) (h3 : ¬ (s (104 + 10 * k + 3)) = (-6)) (hc : rg ch 7) (hW : WF (mHop s k ch p)) : Rp (a_up (cPutOn m b k ch p) 23 b k (m 23 b k + 1)) b (mHop s k ch p) := by
  refine Rp_dev (k := k) hR (fun i hi => ?_) (Fr_tr Fr_put (Fr_up (by omega))) (fun c j hc h => ?_) (fun hk => ?_) hW
  · unfold mHop; rw [upd_n (by omega), upd_n (by omega), upd_n (by omega), upd_n (by omega)]
  · rw [up_o (by omega), put_o (by omega)]
  · obtain ⟨q0, q1, q2, q3, q6, q7, q8, q9, q4⟩ := Rp_d hR hk
    have o : ∀ c, ¬ c = 19 → ¬ c = 20 → ¬ c = 22 → ¬ c = 23 → a_up (cPutOn m b k ch p) 23 b k (m 23 b k + 1) c b k = m c b k := fun c h1 h2 h4 h5 => by rw [up_o (Or.inl h5), put_o (Or.inl ⟨h1, h2, h4⟩)]
    have so : ∀ i, ¬ i = 104 + 10 * k + 3 → ¬ i = 104 + 10 * k + 4 → ¬ i = 104 + 10 * k + 6 → ¬ i = 104 + 10 * k + 7 → mHop s k ch p i = s i := fun i h1 h2 h4 h5 => by unfold mHop; rw [upd_n h5, upd_n h4, upd_n h2, upd_n h1]
    unfold Rd
    rw [o 16 (by omega) (by omega) (by omega) (by omega), o 17 (by omega) (by omega) (by omega) (by omega), o 18 (by omega) (by omega) (by omega) (by omega), o 21 (by omega) (by omega) (by omega) (by omega), o 24 (by omega) (by omega) (by omega) (by omega), o 25 (by omega) (by omega) (by omega) (by omega), so _ (by omega) (by omega) (by omega) (by omega), so _ (by omega) (by omega) (by omega) (by omega), so _ (by omega) (by omega) (by omega) (by omega), so (104 + 10 * k + 5) (by omega) (by omega) (by omega) (by omega), so (104 + 10 * k + 8) (by omega) (by omega) (by omega) (by omega), so (104 + 10 * k + 9) (by omega) (by omega) (by omega) (by omega), up_e]
    refine ⟨q0, q1, q2, ?_, ?_, ?_, q8, q9, fun _ => ⟨?_, (q4 h3).2⟩⟩
    · unfold mHop cPutOn
      rw [up_o (by omega), up_o (by omega), up_o (by omega), up_e, upd_n (by omega), upd_n (by omega), upd_n (by omega), upd_e, nz_n (rg_6 hc (by omega))]
    · unfold mHop cPutOn
      rw [up_o (by omega), up_e, upd_n (by omega), upd_e]
      rfl
    · unfold mHop
      rw [upd_e, q7]
    · unfold mHop cPutOn
      rw [up_o (by omega), up_o (by omega), up_e, upd_n (by omega), upd_n (by omega), upd_e]
end UPD
