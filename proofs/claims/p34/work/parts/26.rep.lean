/-! what a block of the class's memory holds; how it changes -/
def nz (v : Int32) : Int32 := if v = (-6) then (-1) else v
def Cst (m : aM) : Prop := (∀ k, k ≤ 4 → m 41 0 k = radI (nI k)) ∧ (∀ k, k ≤ 3 → m 42 0 k = rchI (nI k)) ∧ (m 44 0 0 = 0 ∧ m 44 0 1 = 1 ∧ m 44 0 2 = 0) ∧ (m 45 0 0 = 100 ∧ m 45 0 1 = 12 ∧ m 45 0 2 = 20)
def Rs (m : aM) (b : Nat) (s : aS0) (k : Nat) : Prop := m 4 b k = (s (8 + 5 * k + 0)) ∧ m 5 b k = (s (8 + 5 * k + 1)) ∧ m 6 b k = (s (8 + 5 * k + 2)) ∧ m 7 b k = (s (8 + 5 * k + 3)) ∧ m 8 b k = (s (8 + 5 * k + 4))
def Re (m : aM) (b : Nat) (s : aS0) (k : Nat) : Prop := m 9 b k = (s (48 + 7 * k + 0)) ∧ m 10 b k = (s (48 + 7 * k + 1)) ∧ m 11 b k = (s (48 + 7 * k + 2)) ∧ m 12 b k = (s (48 + 7 * k + 3)) ∧ m 13 b k = (s (48 + 7 * k + 4)) ∧ m 14 b k = (s (48 + 7 * k + 5)) ∧ m 15 b k = (s (48 + 7 * k + 6))
def Rd (m : aM) (b : Nat) (s : aS0) (k : Nat) : Prop := m 16 b k = (s (104 + 10 * k + 0)) ∧ m 17 b k = (s (104 + 10 * k + 1)) ∧ m 18 b k = (s (104 + 10 * k + 2)) ∧ m 19 b k = nz (s (104 + 10 * k + 3)) ∧ m 22 b k = nz (s (104 + 10 * k + 6)) ∧ m 23 b k = (s (104 + 10 * k + 7)) ∧ m 24 b k = (s (104 + 10 * k + 8)) ∧ m 25 b k = (s (104 + 10 * k + 9)) ∧ (¬ (s (104 + 10 * k + 3)) = (-6) → m 20 b k = (s (104 + 10 * k + 4)) ∧ m 21 b k = (s (104 + 10 * k + 5)))
def Rn (m : aM) (b : Nat) (s : aS0) : Prop := m 0 b 4 = s 0 ∧ m 0 b 5 = s 4 ∧ m 26 b 0 = s 5 ∧ m 26 b 1 = s 6 ∧ m 26 b 2 = s 7 ∧ m 1 b 5 = s 1 ∧ m 2 b 7 = s 2 ∧ m 3 b 10 = s 3
def Rp (m : aM) (b : Nat) (s : aS0) : Prop := Cst m ∧ Rn m b s ∧ (∀ k, k < nS s → Rs m b s k) ∧ (∀ k, k < nE s → Re m b s k) ∧ (∀ k, k < nD s → Rd m b s k) ∧ WF s
def Fr (b : Nat) (m m' : aM) : Prop := ∀ c b', (27 ≤ c ∨ ¬ b' = b) → m' c b' = m c b'
theorem Fr_rf {b : Nat} {m : aM} : Fr b m m := fun _ _ _ => rfl
theorem Fr_tr {b : Nat} {m m1 m2 : aM} (h : Fr b m m1) (h2 : Fr b m1 m2) : Fr b m m2 := fun c b' q => (h2 c b' q).trans (h c b' q)
theorem up_e {m : aM} {c b j : Nat} {v : Int32} : a_up m c b j v c b j = v := by simp [a_up]
theorem up_o {m : aM} {c b j c' b' j' : Nat} {v : Int32} (h : ¬ c' = c ∨ ¬ b' = b ∨ ¬ j' = j) : a_up m c b j v c' b' j' = m c' b' j' := by
  unfold a_up
  rw [if_neg]
  rintro ⟨h1, h2, h3⟩
  rcases h with h | h | h
  · exact h h1
  · exact h h2
  · exact h h3
theorem Fr_up {b c j : Nat} {m : aM} {v : Int32} (hc : c < 27) : Fr b m (a_up m c b j v) := by
  intro c' b' h
  funext j'
  exact up_o (by omega)
theorem Cst_of {m m' : aM} (h : Cst m) (hm : ∀ c, 41 ≤ c → m' c 0 = m c 0) : Cst m' := by
  unfold Cst
  rw [hm 41 (by omega), hm 42 (by omega), hm 44 (by omega), hm 45 (by omega)]
  exact h
theorem Cst_Fr {b : Nat} {m m' : aM} (h : Cst m) (hF : Fr b m m') : Cst m' := Cst_of h (fun c hc => hF c 0 (Or.inl (by omega)))
theorem Rp_W {m : aM} {b : Nat} {s : aS0} (h : Rp m b s) : WF s := h.2.2.2.2.2
/-- cells of other blocks don't matter -/
theorem Rp_cp {m m' : aM} {b b' : Nat} {s : aS0} (h : Rp m b s) (hC : Cst m') (hm : ∀ c, c < 27 → ∀ j, j < (a_kd c).2 + 11 → m' c b' j = m c b j) : Rp m' b' s := by
  obtain ⟨-, ⟨a1, a2, a3, a4, a5, a6, a7, a8⟩, hS, hE, hD, hW⟩ := h
  have lS := (WF_S hW).2
  have lE := (WF_E hW).2
  have lD := (WF_D hW).2
  refine ⟨hC, ?_, ?_, ?_, ?_, hW⟩
  · unfold Rn
    rw [hm 0 (by omega) 4 (by decide), hm 0 (by omega) 5 (by decide), hm 26 (by omega) 0 (by decide), hm 26 (by omega) 1 (by decide), hm 26 (by omega) 2 (by decide), hm 1 (by omega) 5 (by decide), hm 2 (by omega) 7 (by decide), hm 3 (by omega) 10 (by decide)]
    exact ⟨a1, a2, a3, a4, a5, a6, a7, a8⟩
  · intro k hk
    have q : ∀ c, 4 ≤ c → c ≤ 8 → m' c b' k = m c b k := fun c h1 h2 => hm c (by omega) k (by
      have := (show ∀ c, c ≤ 8 → 4 ≤ c → (a_kd c).2 = 8 by decide +kernel) c h2 h1
      omega)
    unfold Rs
    rw [q 4 (by omega) (by omega), q 5 (by omega) (by omega), q 6 (by omega) (by omega), q 7 (by omega) (by omega), q 8 (by omega) (by omega)]
    exact hS k hk
  · intro k hk
    have q : ∀ c, 9 ≤ c → c ≤ 15 → m' c b' k = m c b k := fun c h1 h2 => hm c (by omega) k (by
      have := (show ∀ c, c ≤ 15 → 9 ≤ c → (a_kd c).2 = 8 by decide +kernel) c h2 h1
      omega)
    unfold Re
    rw [q 9 (by omega) (by omega), q 10 (by omega) (by omega), q 11 (by omega) (by omega), q 12 (by omega) (by omega), q 13 (by omega) (by omega), q 14 (by omega) (by omega), q 15 (by omega) (by omega)]
    exact hE k hk
  · intro k hk
    have q : ∀ c, 16 ≤ c → c ≤ 25 → m' c b' k = m c b k := fun c h1 h2 => hm c (by omega) k (by
      have := (show ∀ c, c ≤ 25 → 16 ≤ c → (a_kd c).2 = 16 by decide +kernel) c h2 h1
      omega)
    unfold Rd
    rw [q 16 (by omega) (by omega), q 17 (by omega) (by omega), q 18 (by omega) (by omega), q 19 (by omega) (by omega), q 20 (by omega) (by omega), q 21 (by omega) (by omega), q 22 (by omega) (by omega), q 23 (by omega) (by omega), q 24 (by omega) (by omega), q 25 (by omega) (by omega)]
    exact hD k hk
theorem Rp_Fr {m m' : aM} {b b' : Nat} {s : aS0} (h : Rp m b' s) (hF : Fr b m m') (hb : ¬ b' = b) : Rp m' b' s := Rp_cp h (Cst_Fr h.1 hF) (fun c _ j _ => by rw [hF c b' (Or.inr hb)])
/-- a change of one device -/
theorem Rp_dev {m m' : aM} {b k : Nat} {s s' : aS0} (h : Rp m b s) (hs : ∀ i, i < 104 + 10 * k ∨ 104 + 10 * k + 10 ≤ i → s' i = s i) (hF : Fr b m m') (hm : ∀ c j, c < 27 → (c < 16 ∨ 25 < c ∨ ¬ j = k) → m' c b j = m c b j) (hd : k < nD s → Rd m' b s' k) (hW : WF s') : Rp m' b s' := by
  obtain ⟨hC, ⟨a1, a2, a3, a4, a5, a6, a7, a8⟩, hS, hE, hD, hW0⟩ := h
  have e : ∀ i, i < 104 → s' i = s i := fun i hi => hs i (by omega)
  have eS : nS s' = nS s := by unfold nS; rw [e 1 (by omega)]
  have eE : nE s' = nE s := by unfold nE; rw [e 2 (by omega)]
  have eD : nD s' = nD s := by unfold nD; rw [e 3 (by omega)]
  have lS := (WF_S hW0).2
  have lE := (WF_E hW0).2
  refine ⟨Cst_Fr hC hF, ?_, ?_, ?_, ?_, hW⟩
  · unfold Rn
    rw [hm 0 4 (by omega) (by omega), hm 0 5 (by omega) (by omega), hm 26 0 (by omega) (by omega), hm 26 1 (by omega) (by omega), hm 26 2 (by omega) (by omega), hm 1 5 (by omega) (by omega), hm 2 7 (by omega) (by omega), hm 3 10 (by omega) (by omega), e 0 (by omega), e 1 (by omega), e 2 (by omega), e 3 (by omega), e 4 (by omega), e 5 (by omega), e 6 (by omega), e 7 (by omega)]
    exact ⟨a1, a2, a3, a4, a5, a6, a7, a8⟩
  · intro j hj
    rw [eS] at hj
    unfold Rs
    rw [hm 4 j (by omega) (by omega), hm 5 j (by omega) (by omega), hm 6 j (by omega) (by omega), hm 7 j (by omega) (by omega), hm 8 j (by omega) (by omega), e _ (by omega), e _ (by omega), e _ (by omega), e _ (by omega), e _ (by omega)]
    exact hS j hj
  · intro j hj
    rw [eE] at hj
    unfold Re
    rw [hm 9 j (by omega) (by omega), hm 10 j (by omega) (by omega), hm 11 j (by omega) (by omega), hm 12 j (by omega) (by omega), hm 13 j (by omega) (by omega), hm 14 j (by omega) (by omega), hm 15 j (by omega) (by omega), e _ (by omega), e _ (by omega), e _ (by omega), e _ (by omega), e _ (by omega), e _ (by omega), e _ (by omega)]
    exact hE j hj
  · intro j hj
    rw [eD] at hj
    by_cases hjk : j = k
    · rw [hjk]; exact hd (hjk ▸ hj)
    · have q : ∀ c, c < 27 → m' c b j = m c b j := fun c hc => hm c j hc (by omega)
      unfold Rd
      rw [q 16 (by omega), q 17 (by omega), q 18 (by omega), q 19 (by omega), q 20 (by omega), q 21 (by omega), q 22 (by omega), q 23 (by omega), q 24 (by omega), q 25 (by omega), hs _ (by omega), hs _ (by omega), hs _ (by omega), hs _ (by omega), hs _ (by omega), hs _ (by omega), hs _ (by omega), hs _ (by omega), hs _ (by omega), hs _ (by omega)]
      exact hD j hj
theorem nz_i {v : Int32} {B : Nat} (h : v = (-6) ∨ rg v B) (hB : B < 2 ^ 31) : ¬ nz v = (-1) ↔ ¬ v = (-6) := by
  unfold nz
  rcases h with h | h
  · rw [if_pos h]; exact ⟨fun z => absurd rfl z, fun z => absurd h z⟩
  · rw [if_neg (rg_6 h hB)]; exact ⟨fun _ => rg_6 h hB, fun _ => rg_m1 h hB⟩
theorem nz_n {v : Int32} (h : ¬ v = (-6)) : nz v = v := if_neg h
theorem nz_6 : nz (-6) = (-1) := rfl
theorem dv3 {s : aS0} {k : Nat} (h : dvW s k) : (s (104 + 10 * k + 3)) = (-6) ∨ rg (s (104 + 10 * k + 3)) 7 := h.2.elim (fun z => Or.inl z.1) (fun z => Or.inr z.1)
theorem dv6 {s : aS0} {k : Nat} (h : dvW s k) : (s (104 + 10 * k + 6)) = (-6) ∨ rg (s (104 + 10 * k + 6)) 100000 := h.2.elim (fun z => Or.inl z.2.2.2) (fun z => z.2.2.2)
theorem near_c {x y u v f : Int32} : nearP x y u v f ↔ ¬ f * f < (u - x) * (u - x) + (v - y) * (v - y) := by
  unfold nearP
  rw [sq_c x u, sq_c y v]
/-- the conditions at the head, of the class -/
theorem has_nI {x : Int32} {n : Nat} (h : ¬ x < 0 ∧ x < nI n) (hn : n < 2 ^ 31) : ∃ k, k < n ∧ x = nI k := by
  obtain ⟨j, hj, rfl⟩ := nI_of h.1
  exact ⟨j, (nI_ltI hj hn).mp h.2, rfl⟩
