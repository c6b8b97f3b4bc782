/-! more changes that keep the states well formed, and the class's cells beside them -/
section WF2
variable {m m' : aM} {s s' : aS0} {v : Int32} {b k i : Nat}
theorem WF_one (h : WF s) (hi : i < 104 ∧ ¬ i = 0 ∧ ¬ i = 1 ∧ ¬ i = 2 ∧ ¬ i = 3) (h5 : i = 5 → rg v 100) (h6 : i = 6 → rg v 12 ∧ ¬ v = 0) (h7 : i = 7 → rg v 20) (hS : ∀ k, k < 8 → (i = 8 + 5 * k + 2 → rg v 7) ∧ (i = 8 + 5 * k + 3 → rg v 4) ∧ (i = 8 + 5 * k + 4 → v = 0 ∨ v = 1)) (hE : ∀ k, k < 8 → (i = 48 + 7 * k + 4 → rg v 9999) ∧ (i = 48 + 7 * k + 5 → rg v 9999) ∧ (i = 48 + 7 * k + 6 → v = 0 ∨ v = 1)) : WF (upd s i v) := by
  have lS := (WF_S h).2
  have lE := (WF_E h).2
  obtain ⟨a0, a1, a2, a3, a5, a6, a7, aS, aE, aD⟩ := h
  have eS : nS (upd s i v) = nS s := by unfold nS; rw [upd_n (by omega)]
  have eE : nE (upd s i v) = nE s := by unfold nE; rw [upd_n (by omega)]
  have eD : nD (upd s i v) = nD s := by unfold nD; rw [upd_n (by omega)]
  have one : ∀ (P : Int32 → Prop) (j : Nat), P (s j) → (i = j → P v) → P (upd s i v j) := by
    intro P j h1 h2
    by_cases hj : j = i
    · rw [hj, upd_e]; exact h2 hj.symm
    · rw [upd_n hj]; exact h1
  refine ⟨one (fun z => rg z 100000) 0 a0 (by omega), one (fun z => rg z 8) 1 a1 (by omega), one (fun z => rg z 8) 2 a2 (by omega), one (fun z => rg z 16) 3 a3 (by omega), one (fun z => rg z 100) 5 a5 h5, one (fun z => rg z 12 ∧ ¬ z = 0) 6 a6 h6, one (fun z => rg z 20) 7 a7 h7, ?_, ?_, ?_⟩
  · intro j hj
    rw [eS] at hj
    obtain ⟨b1, b2, b3⟩ := aS j hj
    obtain ⟨c1, c2, c3⟩ := hS j (by omega)
    exact ⟨one (fun z => rg z 7) _ b1 c1, one (fun z => rg z 4) _ b2 c2, one (fun z => z = 0 ∨ z = 1) _ b3 c3⟩
  · intro j hj
    rw [eE] at hj
    obtain ⟨b1, b2, b3⟩ := aE j hj
    obtain ⟨c1, c2, c3⟩ := hE j (by omega)
    exact ⟨one (fun z => rg z 9999) _ b1 c1, one (fun z => rg z 9999) _ b2 c2, one (fun z => z = 0 ∨ z = 1) _ b3 c3⟩
  · intro j hj
    rw [eD] at hj
    unfold dvW
    rw [upd_n (by omega), upd_n (by omega), upd_n (by omega), upd_n (by omega), upd_n (by omega)]
    exact aD j hj
theorem WF_awake (h : WF s) (hk : k < 8) (hv : v = 0 ∨ v = 1) : WF (upd s (8 + 5 * k + 4) v) :=
  WF_one h (by omega) (by omega) (by omega) (by omega) (fun j hj => ⟨by omega, by omega, fun _ => hv⟩) (fun j hj => ⟨by omega, by omega, by omega⟩)
theorem WF_canc (h : WF s) (hk : k < 8) (hv : v = 0 ∨ v = 1) : WF (upd s (48 + 7 * k + 6) v) :=
  WF_one h (by omega) (by omega) (by omega) (by omega) (fun j hj => ⟨by omega, by omega, by omega⟩) (fun j hj => ⟨by omega, by omega, fun _ => hv⟩)
/-- one more station -/
theorem add_S (hR : Rp m b s) (hk : k = nS s) (h8 : k < 8) (hs : ∀ i, i < 8 + 5 * k ∨ 8 + 5 * k + 5 ≤ i → ¬ i = 1 → s' i = s i) (h1 : s' 1 = nI (k + 1)) (hw : stW s' k) (hF : Fr b m m') (hm : ∀ c j, c < 27 → ¬ (4 ≤ c ∧ c ≤ 8 ∧ j = k) → ¬ (c = 1 ∧ j = 5) → m' c b j = m c b j) (hc : m' 1 b 5 = nI (k + 1)) (hn : Rs m' b s' k) : Rp m' b s' := by
  obtain ⟨hC, ⟨q1, q2, q3, q4, q5, q6, q7, q8⟩, rS, rE, rD, hW⟩ := hR
  have lE := (WF_E hW).2
  obtain ⟨a0, a1, a2, a3, a5, a6, a7, aS, aE, aD⟩ := hW
  have e : ∀ i, i < 8 + 5 * k ∨ 8 + 5 * k + 5 ≤ i → ¬ i = 1 → s' i = s i := hs
  have eS : nS s' = k + 1 := by unfold nS; rw [h1, nI_clamp (by omega)]
  have eE : nE s' = nE s := by unfold nE; rw [e 2 (by omega) (by omega)]
  have eD : nD s' = nD s := by unfold nD; rw [e 3 (by omega) (by omega)]
  have hW' : WF s' := by
    refine ⟨by rw [e 0 (by omega) (by omega)]; exact a0, ⟨k + 1, by omega, h1⟩, by rw [e 2 (by omega) (by omega)]; exact a2, by rw [e 3 (by omega) (by omega)]; exact a3, by rw [e 5 (by omega) (by omega)]; exact a5, by rw [e 6 (by omega) (by omega)]; exact a6, by rw [e 7 (by omega) (by omega)]; exact a7, ?_, ?_, ?_⟩
    · intro j hj
      rw [eS] at hj
      by_cases hjk : j = k
      · rw [hjk]; exact hw
      · unfold stW
        rw [e _ (by omega) (by omega), e _ (by omega) (by omega), e _ (by omega) (by omega)]
        exact aS j (by omega)
    · intro j hj
      rw [eE] at hj
      unfold evW
      rw [e _ (by omega) (by omega), e _ (by omega) (by omega), e _ (by omega) (by omega)]
      exact aE j hj
    · intro j hj
      rw [eD] at hj
      unfold dvW
      rw [e _ (by omega) (by omega), e _ (by omega) (by omega), e _ (by omega) (by omega), e _ (by omega) (by omega), e _ (by omega) (by omega)]
      exact aD j hj
  refine ⟨Cst_Fr hC hF, ⟨?_, ?_, ?_, ?_, ?_, ?_, ?_, ?_⟩, ?_, ?_, ?_, hW'⟩
  · rw [hm _ _ (by omega) (by omega) (by omega), e _ (by omega) (by omega)]; exact q1
  · rw [hm _ _ (by omega) (by omega) (by omega), e _ (by omega) (by omega)]; exact q2
  · rw [hm _ _ (by omega) (by omega) (by omega), e _ (by omega) (by omega)]; exact q3
  · rw [hm _ _ (by omega) (by omega) (by omega), e _ (by omega) (by omega)]; exact q4
  · rw [hm _ _ (by omega) (by omega) (by omega), e _ (by omega) (by omega)]; exact q5
  · rw [hc, h1]
  · rw [hm _ _ (by omega) (by omega) (by omega), e _ (by omega) (by omega)]; exact q7
  · rw [hm _ _ (by omega) (by omega) (by omega), e _ (by omega) (by omega)]; exact q8
  · intro j hj
    rw [eS] at hj
    by_cases hjk : j = k
    · rw [hjk]; exact hn
    · unfold Rs
      rw [hm 4 j (by omega) (by omega) (by omega), hm 5 j (by omega) (by omega) (by omega), hm 6 j (by omega) (by omega) (by omega), hm 7 j (by omega) (by omega) (by omega), hm 8 j (by omega) (by omega) (by omega), e _ (by omega) (by omega), e _ (by omega) (by omega), e _ (by omega) (by omega), e _ (by omega) (by omega), e _ (by omega) (by omega)]
      exact rS j (by omega)
  · intro j hj
    rw [eE] at hj
    unfold Re
    rw [hm 9 j (by omega) (by omega) (by omega), hm 10 j (by omega) (by omega) (by omega), hm 11 j (by omega) (by omega) (by omega), hm 12 j (by omega) (by omega) (by omega), hm 13 j (by omega) (by omega) (by omega), hm 14 j (by omega) (by omega) (by omega), hm 15 j (by omega) (by omega) (by omega), e _ (by omega) (by omega), e _ (by omega) (by omega), e _ (by omega) (by omega), e _ (by omega) (by omega), e _ (by omega) (by omega), e _ (by omega) (by omega), e _ (by omega) (by omega)]
    exact rE j hj
  · intro j hj
    rw [eD] at hj
    unfold Rd
    rw [hm 16 j (by omega) (by omega) (by omega), hm 17 j (by omega) (by omega) (by omega), hm 18 j (by omega) (by omega) (by omega), hm 19 j (by omega) (by omega) (by omega), hm 20 j (by omega) (by omega) (by omega), hm 21 j (by omega) (by omega) (by omega), hm 22 j (by omega) (by omega) (by omega), hm 23 j (by omega) (by omega) (by omega), hm 24 j (by omega) (by omega) (by omega), hm 25 j (by omega) (by omega) (by omega), e _ (by omega) (by omega), e _ (by omega) (by omega), e _ (by omega) (by omega), e _ (by omega) (by omega), e _ (by omega) (by omega), e _ (by omega) (by omega), e _ (by omega) (by omega), e _ (by omega) (by omega), e _ (by omega) (by omega), e _ (by omega) (by omega)]
    exact rD j hj
/-- one more event -/
theorem add_E (hR : Rp m b s) (hk : k = nE s) (h8 : k < 8) (hs : ∀ i, i < 48 + 7 * k ∨ 48 + 7 * k + 7 ≤ i → ¬ i = 2 → s' i = s i) (h1 : s' 2 = nI (k + 1)) (hw : evW s' k) (hF : Fr b m m') (hm : ∀ c j, c < 27 → ¬ (9 ≤ c ∧ c ≤ 15 ∧ j = k) → ¬ (c = 2 ∧ j = 7) → m' c b j = m c b j) (hc : m' 2 b 7 = nI (k + 1)) (hn : Re m' b s' k) : Rp m' b s' := by
  obtain ⟨hC, ⟨q1, q2, q3, q4, q5, q6, q7, q8⟩, rS, rE, rD, hW⟩ := hR
  have lS := (WF_S hW).2
  obtain ⟨a0, a1, a2, a3, a5, a6, a7, aS, aE, aD⟩ := hW
  have e : ∀ i, i < 48 + 7 * k ∨ 48 + 7 * k + 7 ≤ i → ¬ i = 2 → s' i = s i := hs
  have eS : nS s' = nS s := by unfold nS; rw [e 1 (by omega) (by omega)]
  have eE : nE s' = k + 1 := by unfold nE; rw [h1, nI_clamp (by omega)]
  have eD : nD s' = nD s := by unfold nD; rw [e 3 (by omega) (by omega)]
  have hW' : WF s' := by
    refine ⟨by rw [e 0 (by omega) (by omega)]; exact a0, by rw [e 1 (by omega) (by omega)]; exact a1, ⟨k + 1, by omega, h1⟩, by rw [e 3 (by omega) (by omega)]; exact a3, by rw [e 5 (by omega) (by omega)]; exact a5, by rw [e 6 (by omega) (by omega)]; exact a6, by rw [e 7 (by omega) (by omega)]; exact a7, ?_, ?_, ?_⟩
    · intro j hj
      rw [eS] at hj
      unfold stW
      rw [e _ (by omega) (by omega), e _ (by omega) (by omega), e _ (by omega) (by omega)]
      exact aS j hj
    · intro j hj
      rw [eE] at hj
      by_cases hjk : j = k
      · rw [hjk]; exact hw
      · unfold evW
        rw [e _ (by omega) (by omega), e _ (by omega) (by omega), e _ (by omega) (by omega)]
        exact aE j (by omega)
    · intro j hj
      rw [eD] at hj
      unfold dvW
      rw [e _ (by omega) (by omega), e _ (by omega) (by omega), e _ (by omega) (by omega), e _ (by omega) (by omega), e _ (by omega) (by omega)]
      exact aD j hj
  refine ⟨Cst_Fr hC hF, ⟨?_, ?_, ?_, ?_, ?_, ?_, ?_, ?_⟩, ?_, ?_, ?_, hW'⟩
  · rw [hm _ _ (by omega) (by omega) (by omega), e _ (by omega) (by omega)]; exact q1
  · rw [hm _ _ (by omega) (by omega) (by omega), e _ (by omega) (by omega)]; exact q2
  · rw [hm _ _ (by omega) (by omega) (by omega), e _ (by omega) (by omega)]; exact q3
  · rw [hm _ _ (by omega) (by omega) (by omega), e _ (by omega) (by omega)]; exact q4
  · rw [hm _ _ (by omega) (by omega) (by omega), e _ (by omega) (by omega)]; exact q5
  · rw [hm _ _ (by omega) (by omega) (by omega), e _ (by omega) (by omega)]; exact q6
  · rw [hc, h1]
  · rw [hm _ _ (by omega) (by omega) (by omega), e _ (by omega) (by omega)]; exact q8
  · intro j hj
    rw [eS] at hj
    unfold Rs
    rw [hm 4 j (by omega) (by omega) (by omega), hm 5 j (by omega) (by omega) (by omega), hm 6 j (by omega) (by omega) (by omega), hm 7 j (by omega) (by omega) (by omega), hm 8 j (by omega) (by omega) (by omega), e _ (by omega) (by omega), e _ (by omega) (by omega), e _ (by omega) (by omega), e _ (by omega) (by omega), e _ (by omega) (by omega)]
    exact rS j (by omega)
  · intro j hj
    rw [eE] at hj
    by_cases hjk : j = k
    · rw [hjk]; exact hn
    · unfold Re
      rw [hm 9 j (by omega) (by omega) (by omega), hm 10 j (by omega) (by omega) (by omega), hm 11 j (by omega) (by omega) (by omega), hm 12 j (by omega) (by omega) (by omega), hm 13 j (by omega) (by omega) (by omega), hm 14 j (by omega) (by omega) (by omega), hm 15 j (by omega) (by omega) (by omega), e _ (by omega) (by omega), e _ (by omega) (by omega), e _ (by omega) (by omega), e _ (by omega) (by omega), e _ (by omega) (by omega), e _ (by omega) (by omega), e _ (by omega) (by omega)]
      exact rE j (by omega)
  · intro j hj
    rw [eD] at hj
    unfold Rd
    rw [hm 16 j (by omega) (by omega) (by omega), hm 17 j (by omega) (by omega) (by omega), hm 18 j (by omega) (by omega) (by omega), hm 19 j (by omega) (by omega) (by omega), hm 20 j (by omega) (by omega) (by omega), hm 21 j (by omega) (by omega) (by omega), hm 22 j (by omega) (by omega) (by omega), hm 23 j (by omega) (by omega) (by omega), hm 24 j (by omega) (by omega) (by omega), hm 25 j (by omega) (by omega) (by omega), e _ (by omega) (by omega), e _ (by omega) (by omega), e _ (by omega) (by omega), e _ (by omega) (by omega), e _ (by omega) (by omega), e _ (by omega) (by omega), e _ (by omega) (by omega), e _ (by omega) (by omega), e _ (by omega) (by omega), e _ (by omega) (by omega)]
    exact rD j hj
/-- one more device -/
theorem add_D (hR : Rp m b s) (hk : k = nD s) (h8 : k < 16) (hs : ∀ i, i < 104 + 10 * k ∨ 104 + 10 * k + 10 ≤ i → ¬ i = 3 → s' i = s i) (h1 : s' 3 = nI (k + 1)) (hw : dvW s' k) (hF : Fr b m m') (hm : ∀ c j, c < 27 → ¬ (16 ≤ c ∧ c ≤ 25 ∧ j = k) → ¬ (c = 3 ∧ j = 10) → m' c b j = m c b j) (hc : m' 3 b 10 = nI (k + 1)) (hn : Rd m' b s' k) : Rp m' b s' := by
  obtain ⟨hC, ⟨q1, q2, q3, q4, q5, q6, q7, q8⟩, rS, rE, rD, hW⟩ := hR
  have lS := (WF_S hW).2
  have lE := (WF_E hW).2
  obtain ⟨a0, a1, a2, a3, a5, a6, a7, aS, aE, aD⟩ := hW
  have e : ∀ i, i < 104 + 10 * k ∨ 104 + 10 * k + 10 ≤ i → ¬ i = 3 → s' i = s i := hs
  have eS : nS s' = nS s := by unfold nS; rw [e 1 (by omega) (by omega)]
  have eE : nE s' = nE s := by unfold nE; rw [e 2 (by omega) (by omega)]
  have eD : nD s' = k + 1 := by unfold nD; rw [h1, nI_clamp (by omega)]
  have hW' : WF s' := by
    refine ⟨by rw [e 0 (by omega) (by omega)]; exact a0, by rw [e 1 (by omega) (by omega)]; exact a1, by rw [e 2 (by omega) (by omega)]; exact a2, ⟨k + 1, by omega, h1⟩, by rw [e 5 (by omega) (by omega)]; exact a5, by rw [e 6 (by omega) (by omega)]; exact a6, by rw [e 7 (by omega) (by omega)]; exact a7, ?_, ?_, ?_⟩
    · intro j hj
      rw [eS] at hj
      unfold stW
      rw [e _ (by omega) (by omega), e _ (by omega) (by omega), e _ (by omega) (by omega)]
      exact aS j hj
    · intro j hj
      rw [eE] at hj
      unfold evW
      rw [e _ (by omega) (by omega), e _ (by omega) (by omega), e _ (by omega) (by omega)]
      exact aE j hj
    · intro j hj
      rw [eD] at hj
      by_cases hjk : j = k
      · rw [hjk]; exact hw
      · unfold dvW
        rw [e _ (by omega) (by omega), e _ (by omega) (by omega), e _ (by omega) (by omega), e _ (by omega) (by omega), e _ (by omega) (by omega)]
        exact aD j (by omega)
  refine ⟨Cst_Fr hC hF, ⟨?_, ?_, ?_, ?_, ?_, ?_, ?_, ?_⟩, ?_, ?_, ?_, hW'⟩
  · rw [hm _ _ (by omega) (by omega) (by omega), e _ (by omega) (by omega)]; exact q1
  · rw [hm _ _ (by omega) (by omega) (by omega), e _ (by omega) (by omega)]; exact q2
  · rw [hm _ _ (by omega) (by omega) (by omega), e _ (by omega) (by omega)]; exact q3
  · rw [hm _ _ (by omega) (by omega) (by omega), e _ (by omega) (by omega)]; exact q4
  · rw [hm _ _ (by omega) (by omega) (by omega), e _ (by omega) (by omega)]; exact q5
  · rw [hm _ _ (by omega) (by omega) (by omega), e _ (by omega) (by omega)]; exact q6
  · rw [hm _ _ (by omega) (by omega) (by omega), e _ (by omega) (by omega)]; exact q7
  · rw [hc, h1]
  · intro j hj
    rw [eS] at hj
    unfold Rs
    rw [hm 4 j (by omega) (by omega) (by omega), hm 5 j (by omega) (by omega) (by omega), hm 6 j (by omega) (by omega) (by omega), hm 7 j (by omega) (by omega) (by omega), hm 8 j (by omega) (by omega) (by omega), e _ (by omega) (by omega), e _ (by omega) (by omega), e _ (by omega) (by omega), e _ (by omega) (by omega), e _ (by omega) (by omega)]
    exact rS j (by omega)
  · intro j hj
    rw [eE] at hj
    unfold Re
    rw [hm 9 j (by omega) (by omega) (by omega), hm 10 j (by omega) (by omega) (by omega), hm 11 j (by omega) (by omega) (by omega), hm 12 j (by omega) (by omega) (by omega), hm 13 j (by omega) (by omega) (by omega), hm 14 j (by omega) (by omega) (by omega), hm 15 j (by omega) (by omega) (by omega), e _ (by omega) (by omega), e _ (by omega) (by omega), e _ (by omega) (by omega), e _ (by omega) (by omega), e _ (by omega) (by omega), e _ (by omega) (by omega), e _ (by omega) (by omega)]
    exact rE j (by omega)
  · intro j hj
    rw [eD] at hj
    by_cases hjk : j = k
    · rw [hjk]; exact hn
    · unfold Rd
      rw [hm 16 j (by omega) (by omega) (by omega), hm 17 j (by omega) (by omega) (by omega), hm 18 j (by omega) (by omega) (by omega), hm 19 j (by omega) (by omega) (by omega), hm 20 j (by omega) (by omega) (by omega), hm 21 j (by omega) (by omega) (by omega), hm 22 j (by omega) (by omega) (by omega), hm 23 j (by omega) (by omega) (by omega), hm 24 j (by omega) (by omega) (by omega), hm 25 j (by omega) (by omega) (by omega), e _ (by omega) (by omega), e _ (by omega) (by omega), e _ (by omega) (by omega), e _ (by omega) (by omega), e _ (by omega) (by omega), e _ (by omega) (by omega), e _ (by omega) (by omega), e _ (by omega) (by omega), e _ (by omega) (by omega), e _ (by omega) (by omega)]
      exact rD j (by omega)
end WF2
