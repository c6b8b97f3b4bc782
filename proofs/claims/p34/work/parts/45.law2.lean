/-! the law's offer -/
section LW2
variable {m : aM} {s : aS0} {ch x y p : Int32} {k d : Nat} {Q : Int32 → aM → Prop}
def okc (s : aS0) (d : Nat) (p : Int32) (c : Nat) : Bool := mAlwF s d (nI c) p && mFree s d (nI c) p
def dO (s : aS0) (d : Nat) (p : Int32) : Nat → Int32 × Nat
  | 0 => ((-6), 99)
  | j + 1 => if okc s d p (7 - j) = true ∧ mOth s (nI d) (nI (7 - j)) ≤ (dO s d p j).2 then (nI (7 - j), mOth s (nI d) (nI (7 - j))) else dO s d p j
theorem oth_le (hD : nD s ≤ 16) {dd : Int32} : mOth s dd ch ≤ 16 := Nat.le_trans (cntN_le _ _) hD
theorem off_up (hD : nD s ≤ 16) (d : Nat) (p : Int32) : ∀ n, n ≤ 8 → ((itN (mOffS s d p) ((-6), 0) n).1 = (-6) ∧ ∀ c, c < n → okc s d p c = false) ∨ (∃ c0, c0 < n ∧ okc s d p c0 = true ∧ itN (mOffS s d p) ((-6), 0) n = (nI c0, nI (mOth s (nI d) (nI c0))) ∧ ∀ c, c < n → okc s d p c = true → mOth s (nI d) (nI c0) < mOth s (nI d) (nI c) ∨ (mOth s (nI d) (nI c0) = mOth s (nI d) (nI c) ∧ c0 ≤ c)) := by
  intro n
  induction n with
  | zero => exact fun _ => Or.inl ⟨rfl, fun c h => absurd h (Nat.not_lt_zero _)⟩
  | succ n ih =>
    intro hn
    have hs : itN (mOffS s d p) ((-6), 0) (n + 1) = mOffS s d p n (itN (mOffS s d p) ((-6), 0) n) := rfl
    rw [hs]
    generalize itN (mOffS s d p) ((-6), 0) n = z at ih ⊢
    have ih := ih (by omega)
    cases hok : okc s d p n with
    | false =>
      have e : mOffS s d p n z = z := by
        unfold mOffS
        rw [if_neg (by unfold okc at hok; rw [hok]; decide)]
      rw [e]
      rcases ih with ⟨h1, h2⟩ | ⟨c0, h1, h2, h3, h4⟩
      · refine Or.inl ⟨h1, fun c hc => ?_⟩
        rcases Nat.lt_or_ge c n with q | q
        · exact h2 c q
        · obtain rfl : c = n := by omega
          exact hok
      · refine Or.inr ⟨c0, by omega, h2, h3, fun c hc hk => ?_⟩
        rcases Nat.lt_or_ge c n with q | q
        · exact h4 c q hk
        · obtain rfl : c = n := by omega
          rw [hok] at hk; cases hk
    | true =>
      have e : mOffS s d p n z = if z.1 = (-6) ∨ nI (mOth s (nI d) (nI n)) < z.2 then (nI n, nI (mOth s (nI d) (nI n))) else z := by
        unfold mOffS
        rw [if_pos (by unfold okc at hok; exact hok)]
      rw [e]
      rcases ih with ⟨h1, h2⟩ | ⟨c0, h1, h2, h3, h4⟩
      · rw [if_pos (Or.inl h1)]
        refine Or.inr ⟨n, by omega, hok, rfl, fun c hc hk => ?_⟩
        rcases Nat.lt_or_ge c n with q | q
        · rw [h2 c q] at hk; cases hk
        · obtain rfl : c = n := by omega
          exact Or.inr ⟨rfl, Nat.le_refl _⟩
      · have z1 : ¬ z.1 = (-6) := by rw [h3]; exact rg_6 (B := 7) ⟨c0, by omega, rfl⟩ (by omega)
        have z2 : z.2 = nI (mOth s (nI d) (nI c0)) := by rw [h3]
        have l0 := oth_le (s := s) (ch := nI c0) hD (dd := nI d)
        have l1 := oth_le (s := s) (ch := nI n) hD (dd := nI d)
        have hlt : (nI (mOth s (nI d) (nI n)) < z.2) ↔ mOth s (nI d) (nI n) < mOth s (nI d) (nI c0) := by rw [z2, nI_ltI (by omega) (by omega)]
        by_cases hl : mOth s (nI d) (nI n) < mOth s (nI d) (nI c0)
        · rw [if_pos (Or.inr (hlt.mpr hl))]
          refine Or.inr ⟨n, by omega, hok, rfl, fun c hc hk => ?_⟩
          rcases Nat.lt_or_ge c n with q | q
          · have := h4 c q hk
            omega
          · obtain rfl : c = n := by omega
            exact Or.inr ⟨rfl, Nat.le_refl _⟩
        · rw [if_neg (fun q => q.elim z1 (fun w => hl (hlt.mp w)))]
          refine Or.inr ⟨c0, by omega, h2, h3, fun c hc hk => ?_⟩
          rcases Nat.lt_or_ge c n with q | q
          · exact h4 c q hk
          · obtain rfl : c = n := by omega
            omega
theorem off_dn (hD : nD s ≤ 16) (d : Nat) (p : Int32) : ∀ j, j ≤ 8 → (dO s d p j = ((-6), 99) ∧ ∀ c, 8 - j ≤ c → c < 8 → okc s d p c = false) ∨ (∃ c0, 8 - j ≤ c0 ∧ c0 < 8 ∧ okc s d p c0 = true ∧ dO s d p j = (nI c0, mOth s (nI d) (nI c0)) ∧ ∀ c, 8 - j ≤ c → c < 8 → okc s d p c = true → mOth s (nI d) (nI c0) < mOth s (nI d) (nI c) ∨ (mOth s (nI d) (nI c0) = mOth s (nI d) (nI c) ∧ c0 ≤ c)) := by
  intro j
  induction j with
  | zero => exact fun _ => Or.inl ⟨rfl, fun c h1 h2 => absurd h2 (by omega)⟩
  | succ j ih =>
    intro hj
    have ih := ih (by omega)
    unfold dO
    have l1 := oth_le (s := s) (ch := nI (7 - j)) hD (dd := nI d)
    generalize dO s d p j = z at ih ⊢
    cases hok : okc s d p (7 - j) with
    | false =>
      rw [if_neg (fun q => by cases q.1)]
      rcases ih with ⟨h1, h2⟩ | ⟨c0, h0, h1, h2, h3, h4⟩
      · refine Or.inl ⟨h1, fun c hc hc8 => ?_⟩
        by_cases q : c = 7 - j
        · rw [q]; exact hok
        · exact h2 c (by omega) hc8
      · refine Or.inr ⟨c0, by omega, h1, h2, h3, fun c hc hc8 hk => ?_⟩
        by_cases q : c = 7 - j
        · rw [q, hok] at hk; cases hk
        · exact h4 c (by omega) hc8 hk
    | true =>
      rcases ih with ⟨h1, h2⟩ | ⟨c0, h0, h1, h2, h3, h4⟩
      · rw [if_pos ⟨rfl, by rw [h1]; show _ ≤ 99; omega⟩]
        refine Or.inr ⟨7 - j, by omega, by omega, hok, rfl, fun c hc hc8 hk => ?_⟩
        by_cases q : c = 7 - j
        · rw [q]; exact Or.inr ⟨rfl, Nat.le_refl _⟩
        · rw [h2 c (by omega) hc8] at hk; cases hk
      · have z2 : z.2 = mOth s (nI d) (nI c0) := by rw [h3]
        by_cases hl : mOth s (nI d) (nI (7 - j)) ≤ mOth s (nI d) (nI c0)
        · rw [if_pos ⟨rfl, by rw [z2]; exact hl⟩]
          refine Or.inr ⟨7 - j, by omega, by omega, hok, rfl, fun c hc hc8 hk => ?_⟩
          by_cases q : c = 7 - j
          · rw [q]; exact Or.inr ⟨rfl, Nat.le_refl _⟩
          · have := h4 c (by omega) hc8 hk
            omega
        · rw [if_neg (fun q => hl (z2 ▸ q.2))]
          refine Or.inr ⟨c0, by omega, h1, h2, h3, fun c hc hc8 hk => ?_⟩
          by_cases q : c = 7 - j
          · rw [q]; omega
          · exact h4 c (by omega) hc8 hk
theorem dO_off (hD : nD s ≤ 16) (d : Nat) (p : Int32) : (dO s d p 8).1 = mOff s d p := by
  unfold mOff
  rcases off_dn hD d p 8 (Nat.le_refl 8) with ⟨h1, h2⟩ | ⟨c0, h0, h1, h2, h3, h4⟩
  · rcases off_up hD d p 8 (Nat.le_refl 8) with ⟨g1, g2⟩ | ⟨c1, g1, g2, g3, g4⟩
    · rw [h1, g1]
    · rw [h2 c1 (by omega) g1] at g2; cases g2
  · rcases off_up hD d p 8 (Nat.le_refl 8) with ⟨g1, g2⟩ | ⟨c1, g1, g2, g3, g4⟩
    · rw [g2 c0 h1] at h2; cases h2
    · have a := h4 c1 (by omega) g1 g2
      have b := g4 c0 h1 h2
      obtain rfl : c0 = c1 := by omega
      rw [h3, g3]
theorem M_104_38 {f : Int32} {l c : Nat} (hW : WF s) (hd : d < nD s) (hp : rg p 3) (hc : c < 8) (ll : l ≤ 99) (h1 : okc s d p c = true → mOth s (nI d) (nI c) ≤ l → H_104_12 (nI d) p (nI c) (nI (mOth s (nI d) (nI c))) (nI c + (-1)) (setS m s) Q) (h2 : ¬ (okc s d p c = true ∧ mOth s (nI d) (nI c) ≤ l) → H_104_12 (nI d) p f (nI l) (nI c + (-1)) (setS m s) Q) : H_104_38 (nI d) p f (nI l) (nI c) 0 (bP (mAlwF s d (nI c) p = true)) 0 (setS m s) Q := by
  obtain ⟨eD, lD⟩ := WF_D hW
  have hd16 : d < 16 := by omega
  have h0 : bP (mAlwF s d (nI c) p = true) = bP ((mAlwF s d (nI c) p && !anyN (mNear s d (nI c) p) 0) = true) := by
    rw [show anyN (mNear s d (nI c) p) 0 = false from rfl, Bool.not_false, Bool.and_true]
  rw [h0]
  refine dn0 (n := nD s) (P := fun k => H_104_38 (nI d) p f (nI l) (nI c) (nI (cntN (fun k => decide (¬ nI k = nI d ∧ (s (104 + 10 * k + 3)) = nI c)) k)) (bP ((mAlwF s d (nI c) p && !anyN (mNear s d (nI c) p) k) = true)) (nI k) (setS m s) Q) ?_ ?_
  · refine T_104_38 ?_
    rw [rG3, eD]
    refine i_ge (Nat.le_refl _) (by omega) ?_
    have l1 := oth_le (s := s) (ch := nI c) lD (dd := nI d)
    have hoth : cntN (fun k => decide (¬ nI k = nI d ∧ (s (104 + 10 * k + 3)) = nI c)) (nD s) = mOth s (nI d) (nI c) := rfl
    rw [hoth]
    have hok : (mAlwF s d (nI c) p && !anyN (mNear s d (nI c) p) (nD s)) = okc s d p c := rfl
    rw [hok]
    cases ho : okc s d p c with
    | false => exact i_pos (bP_bf rfl) (h2 (fun q => by rw [ho] at q; cases q.1))
    | true =>
      refine i_neg (by decide) ?_
      by_cases hl : mOth s (nI d) (nI c) ≤ l
      · exact i_neg (nI_nlt hl (by omega)) (h1 ho hl)
      · exact i_pos (nI_lt (by omega) (by omega)) (h2 (fun q => hl q.2))
  · intro k hk ih
    have hk16 : k < 16 := by omega
    refine T_104_38 ?_
    rw [rG3, eD]
    refine i_lt hk (by omega) ?_
    simp only [rD0 hk16, gD0 hk16, rD1 hk16, gD1 hk16, rD2 hk16, gD2 hk16, rD3 hk16, gD3 hk16, rP0 hk16, gP0 hk16, rP1 hk16, gP1 hk16, rP2 hk16, gP2 hk16, rC0 hk16, gC0 hk16, rC1 hk16, gC1 hk16, rC2 hk16, gC2 hk16, rD0 hd16, gD0 hd16, rD1 hd16, gD1 hd16, rD2 hd16, gD2 hd16, rD3 hd16, gD3 hd16, rP0 hd16, gP0 hd16, rP1 hd16, gP1 hd16, rP2 hd16, gP2 hd16, rC0 hd16, gC0 hd16, rC1 hd16, gC1 hd16, rC2 hd16, gC2 hd16, true_and, nI_1]
    unfold cntN at ih
    have hsame : (mNear s d (nI c) p k = false) → (mAlwF s d (nI c) p && !anyN (mNear s d (nI c) p) (k + 1)) = (mAlwF s d (nI c) p && !anyN (mNear s d (nI c) p) k) := by
      intro z; simp only [anyN, z, Bool.or_false]
    by_cases hkd : k = d
    · refine i_pos (by rw [hkd]) ?_
      rw [hsame (by simp [mNear, hkd]), if_neg (by simp [hkd]), Nat.add_zero] at ih
      exact ih
    · have hkn : ¬ nI k = nI d := by rw [nI_eq (by omega) (by omega)]; exact hkd
      refine i_neg hkn ?_
      by_cases h3 : (s (104 + 10 * k + 3)) = nI c
      · refine i_pos h3 ?_
        rw [if_pos (by simp [hkn, h3])] at ih
        have l4 := (dv_lease (WF_dv hW hk) (by rw [h3]; exact rg_6 (B := 7) ⟨c, by omega, rfl⟩ (by omega))).2.1
        rw [rch_L hp, rch_L l4]
        cases hf : (mAlwF s d (nI c) p && !anyN (mNear s d (nI c) p) k) with
        | false =>
          refine i_pos (bP_bf rfl) ?_
          rw [bP_bf (show (mAlwF s d (nI c) p && !anyN (mNear s d (nI c) p) (k + 1)) = false by
            cases ha : mAlwF s d (nI c) p with
            | false => rfl
            | true =>
              rw [ha] at hf
              simp only [Bool.true_and, Bool.not_eq_false'] at hf
              simp only [anyN, hf, Bool.true_or, Bool.not_true, Bool.and_false])] at ih
          exact ih
        | true =>
          refine i_neg (by decide) ?_
          have ha : mAlwF s d (nI c) p = true := by
            cases ha : mAlwF s d (nI c) p with
            | false => rw [ha] at hf; cases hf
            | true => rfl
          have hb : anyN (mNear s d (nI c) p) k = false := by
            rw [ha, Bool.true_and] at hf
            cases hb : anyN (mNear s d (nI c) p) k with
            | false => rfl
            | true => rw [hb] at hf; cases hf
          by_cases hn : nearP (s (104 + 10 * d + 0)) (s (104 + 10 * d + 1)) (s (104 + 10 * k + 0)) (s (104 + 10 * k + 1)) (rchI p + rchI (s (104 + 10 * k + 4)))
          · refine i_pos hn ?_
            rw [bP_bf (show (mAlwF s d (nI c) p && !anyN (mNear s d (nI c) p) (k + 1)) = false by
              simp only [anyN, hb, mNear, decide_eq_true (⟨hkd, h3, hn⟩ : ¬ k = d ∧ (s (104 + 10 * k + 3)) = nI c ∧ nearP (s (104 + 10 * d + 0)) (s (104 + 10 * d + 1)) (s (104 + 10 * k + 0)) (s (104 + 10 * k + 1)) (rchI p + rchI (s (104 + 10 * k + 4)))), Bool.or_true, Bool.not_true, Bool.and_false])] at ih
            exact ih
          · refine i_neg hn ?_
            rw [bP_bt (show (mAlwF s d (nI c) p && !anyN (mNear s d (nI c) p) (k + 1)) = true by
              simp only [anyN, hb, ha, mNear, decide_eq_false (fun z : ¬ k = d ∧ (s (104 + 10 * k + 3)) = nI c ∧ nearP (s (104 + 10 * d + 0)) (s (104 + 10 * d + 1)) (s (104 + 10 * k + 0)) (s (104 + 10 * k + 1)) (rchI p + rchI (s (104 + 10 * k + 4))) => hn z.2.2), Bool.or_false, Bool.not_false, Bool.and_true])] at ih
            exact ih
      · refine i_neg h3 ?_
        rw [hsame (by simp only [mNear]; exact decide_eq_false (fun z => h3 z.2.1)), if_neg (by simp [h3]), Nat.add_zero] at ih
        exact ih
theorem M_104 (hW : WF s) (hd : d < nD s) (hp : rg p 3) (hQ : Q (mOff s d p) (setS m s)) : Mi 104 [.inr (34, 0), .inr (35, 0), .inr (36, 0), .inr (37, 0), .inr (38, 0), .inl (nI d), .inl p] (setS m s) Q := by
  obtain ⟨eD, lD⟩ := WF_D hW
  refine T_104 ?_
  have key : ∀ j, j ≤ 8 → H_104_12 (nI d) p (dO s d p j).1 (nI (dO s d p j).2) (nI (8 - j) + (-1)) (setS m s) Q := by
    refine dn ?_ ?_
    · refine T_104_12 (i_pos (by decide +kernel) ?_)
      rw [dO_off lD]
      exact hQ
    · intro j hj ih
      have ec : 8 - j = (7 - j) + 1 := by omega
      have ec2 : 8 - (j + 1) = 7 - j := by omega
      rw [ec2] at ih
      rw [ec, pk_m1]
      have hl : (dO s d p j).2 ≤ 99 := by
        rcases off_dn lD d p j (by omega) with ⟨h1, -⟩ | ⟨c0, -, -, -, h1, -⟩
        · rw [h1]; exact Nat.le_refl 99
        · rw [h1]; have := oth_le (s := s) (ch := nI c0) lD (dd := nI d); show _ ≤ 99; omega
      refine T_104_12 (i_neg (nI_pos (by omega)) ?_)
      refine M_103 hW (by omega) ⟨7 - j, by omega, rfl⟩ hp ?_
      unfold dO at ih
      refine M_104_38 hW hd hp (by omega) hl ?_ ?_
      · intro ho hle
        rwa [if_pos ⟨ho, hle⟩] at ih
      · intro hno
        rwa [if_neg hno] at ih
  have h := key 0 (Nat.zero_le _)
  rw [show nI (8 - 0) + (-1) = (7 : Int32) by decide +kernel] at h
  exact h
end LW2
