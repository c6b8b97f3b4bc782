/-! the law's methods that only look: allowed, may -/
section LW1
variable {m : aM} {s : aS0} {ch x y p : Int32} {k d : Nat} {Q : Int32 → aM → Prop}
theorem rch_L (hp : rg p 3) : rchL p = rchI p := by
  obtain ⟨n, ln, rfl⟩ := hp
  rcases (show n = 0 ∨ n = 1 ∨ n = 2 ∨ n = 3 by omega) with rfl | rfl | rfl | rfl <;> decide +kernel
theorem rad_L {v : Int32} (h : rg v 4) : radL v = radI v := by
  obtain ⟨n, ln, rfl⟩ := h
  rcases (show n = 0 ∨ n = 1 ∨ n = 2 ∨ n = 3 ∨ n = 4 by omega) with rfl | rfl | rfl | rfl | rfl <;> decide +kernel
theorem apart2 {a b : Int32} (ha : rg a 7) (hb : rg b 7) : (a - b < 2 ∧ b - a < 2) ↔ (¬ (a - b) < (-1) ∧ ¬ 1 < (a - b)) := by
  obtain ⟨i, li, rfl⟩ := ha
  obtain ⟨j, lj, rfl⟩ := hb
  have e1 := pk_sub_toInt (a := i) (b := j) (by omega) (by omega)
  have e2 := pk_sub_toInt (a := j) (b := i) (by omega) (by omega)
  simp only [Int32.lt_iff_toInt_lt, e1, e2, show ((-1 : Int32)).toInt = -1 by decide +kernel, show ((1 : Int32)).toInt = 1 by decide +kernel, show ((2 : Int32)).toInt = 2 by decide +kernel]
  omega
theorem sub_0 {a b : Int32} {B C : Nat} (h1 : rg a B) (h2 : rg b C) (hB : B < 2 ^ 30) (hC : C < 2 ^ 30) : (a - b = 0 ↔ a = b) := by
  obtain ⟨i, la, rfl⟩ := h1
  obtain ⟨j, lc, rfl⟩ := h2
  have e := pk_sub_toInt (a := i) (b := j) (by omega) (by omega)
  rw [← Int32.toInt_inj, nI_eq (by omega) (by omega), e, show (0 : Int32).toInt = 0 by decide +kernel]
  constructor <;> omega
theorem barBy_c (hW : WF s) (hk : k < nS s) (hc : rg ch 7) (hp : rg p 3) : mBarBy s ch x y p k = true ↔ ((s (8 + 5 * k + 4)) = 1 ∧ (s (8 + 5 * k + 2)) - ch < 2 ∧ ch - (s (8 + 5 * k + 2)) < 2 ∧ nearP x y (s (8 + 5 * k + 0)) (s (8 + 5 * k + 1)) ((if (s (8 + 5 * k + 2)) = ch then radL (s (8 + 5 * k + 3)) else radL (s (8 + 5 * k + 3)) * s 5 / 100) + rchL p)) := by
  obtain ⟨w2, w3, w4⟩ := WF_st hW hk
  have e1 := apart2 w2 hc
  have e2 : ((s (8 + 5 * k + 2)) - ch = 0) = ((s (8 + 5 * k + 2)) = ch) := propext (sub_0 w2 hc (by omega) (by omega))
  unfold mBarBy
  rw [decide_eq_true_eq, rch_L hp, rad_L w3]
  simp only [e2]
  constructor
  · rintro ⟨h4, h2, hn⟩
    exact ⟨w4.resolve_left h4, (e1.mpr h2).1, (e1.mpr h2).2, hn⟩
  · rintro ⟨h4, h2, h3, hn⟩
    exact ⟨by rw [h4]; decide, e1.mp ⟨h2, h3⟩, hn⟩
theorem and4i {A B C D : Prop} [Decidable A] [Decidable B] [Decidable C] [Decidable D] {X Y : Prop} (hx : A ∧ B ∧ C ∧ D → X) (hy : ¬ (A ∧ B ∧ C ∧ D) → Y) : if A then (if B then (if C then (if D then X else Y) else Y) else Y) else Y := by
  by_cases a : A
  · rw [if_pos a]
    by_cases b : B
    · rw [if_pos b]
      by_cases c : C
      · rw [if_pos c]
        by_cases d : D
        · rw [if_pos d]; exact hx ⟨a, b, c, d⟩
        · rw [if_neg d]; exact hy (fun z => d z.2.2.2)
      · rw [if_neg c]; exact hy (fun z => c z.2.2.1)
    · rw [if_neg b]; exact hy (fun z => b z.2.1)
  · rw [if_neg a]; exact hy (fun z => a z.1)
theorem on_if {A B C : Prop} [Decidable A] [Decidable B] [Decidable C] {X Y : Prop} (hx : A ∧ ¬ B ∧ C → X) (hy : ¬ (A ∧ ¬ B ∧ C) → Y) : if A then (if B then Y else if C then X else Y) else Y := by
  by_cases a : A
  · rw [if_pos a]
    by_cases b : B
    · rw [if_pos b]; exact hy (fun z => z.2.1 b)
    · rw [if_neg b]
      by_cases c : C
      · rw [if_pos c]; exact hx ⟨a, b, c⟩
      · rw [if_neg c]; exact hy (fun z => c z.2.2)
  · rw [if_neg a]; exact hy (fun z => a z.1)
theorem and2i {A B : Prop} [Decidable A] [Decidable B] {X Y : Prop} (hx : A ∧ B → X) (hy : ¬ (A ∧ B) → Y) : if A then (if B then X else Y) else Y := by
  by_cases a : A
  · rw [if_pos a]
    by_cases b : B
    · rw [if_pos b]; exact hx ⟨a, b⟩
    · rw [if_neg b]; exact hy (fun z => b z.2)
  · rw [if_neg a]; exact hy (fun z => a z.1)
theorem M_102_130 (hW : WF s) (hp : rg p 3) (hb : mBar s ch x y p = false) (hQ : Q (bP (mAlw s ch x y p = true)) (setS m s)) : H_102_130 ch x y p (s 0) 0 (setS m s) Q := by
  obtain ⟨eE, lE⟩ := WF_E hW
  refine dn0 (n := nE s) (P := fun k => (∀ j, j < k → mResBy s ch x y p (s 0) j = false) → H_102_130 ch x y p (s 0) (nI k) (setS m s) Q) ?_ ?_ (fun j hj => absurd hj (Nat.not_lt_zero _))
  · intro hno2
    refine T_102_130 ?_
    rw [rG2, eE]
    refine i_ge (Nat.le_refl _) (by omega) ?_
    rwa [bP_bt (by unfold mAlw mRes; rw [hb, anyN_f hno2]; rfl)] at hQ
  · intro k hk ih hno2
    have hk8 : k < 8 := by omega
    obtain ⟨w4, w5, w6⟩ := WF_ev hW hk
    have hgo : mResBy s ch x y p (s 0) k = false → H_102_130 ch x y p (s 0) (nI (k + 1)) (setS m s) Q := fun z => ih (fun j hj => by
      rcases Nat.lt_or_ge j k with q | q
      · exact hno2 j q
      · obtain rfl : j = k := by omega
        exact z)
    have hon : mOn s (s 0) k = decide ((s (48 + 7 * k + 6)) = 0 ∧ ¬ s 0 < (s (48 + 7 * k + 4)) ∧ s 0 < (s (48 + 7 * k + 5))) := by
      unfold mOn
      congr 1
      rw [on_lt w5 hW.1 (by omega) (by omega)]
    refine T_102_130 ?_
    rw [rG2, eE]
    refine i_lt hk (by omega) ?_
    simp only [rE0 hk8, gE0 hk8, rE1 hk8, gE1 hk8, rE2 hk8, gE2 hk8, rE3 hk8, gE3 hk8, rE4 hk8, gE4 hk8, rE5 hk8, gE5 hk8, rE6 hk8, gE6 hk8, true_and, nI_1, rch_L hp]
    refine on_if (fun ho => and2i (fun hn => ?_) (fun hn => hgo ?_)) (fun ho => hgo ?_)
    · have hr : mResBy s ch x y p (s 0) k = true := by
        unfold mResBy
        rw [hon, decide_eq_true ho, decide_eq_true hn]
        rfl
      rwa [bP_bf (by unfold mAlw mRes; rw [anyN_t hk hr]; simp)] at hQ
    · unfold mResBy
      rw [decide_eq_false hn, Bool.false_and]
    · unfold mResBy
      rw [hon, decide_eq_false ho, Bool.and_false]
theorem M_102 (hW : WF s) (hc : rg ch 7) (hp : rg p 3) (hQ : Q (bP (mAlw s ch x y p = true)) (setS m s)) : Mi 102 [.inr (34, 0), .inr (35, 0), .inr (36, 0), .inl ch, .inl x, .inl y, .inl p, .inl (s 0)] (setS m s) Q := by
  obtain ⟨eS, lS⟩ := WF_S hW
  refine T_102 ?_
  refine dn0 (n := nS s) (P := fun k => (∀ j, j < k → mBarBy s ch x y p j = false) → H_102_3 ch x y p (s 0) (nI k) (setS m s) Q) ?_ ?_ (fun j hj => absurd hj (Nat.not_lt_zero _))
  · intro hno
    refine T_102_3 ?_
    rw [rG1, eS]
    refine i_ge (Nat.le_refl _) (by omega) ?_
    exact M_102_130 hW hp (anyN_f hno) hQ
  · intro k hk ih hno
    have hk8 : k < 8 := by omega
    have hgo : mBarBy s ch x y p k = false → H_102_3 ch x y p (s 0) (nI (k + 1)) (setS m s) Q := fun z => ih (fun j hj => by
      rcases Nat.lt_or_ge j k with q | q
      · exact hno j q
      · obtain rfl : j = k := by omega
        exact z)
    have hbc := barBy_c (x := x) (y := y) hW hk hc hp
    have hyes : mBarBy s ch x y p k = true → Q 0 (setS m s) := by
      intro z
      rwa [bP_bf (by unfold mAlw mBar; rw [anyN_t hk z]; rfl)] at hQ
    have hno' : ¬ mBarBy s ch x y p k = true → H_102_3 ch x y p (s 0) (nI (k + 1)) (setS m s) Q := fun z => hgo (by simpa using z)
    refine T_102_3 ?_
    rw [rG1, eS]
    refine i_lt hk (by omega) ?_
    simp only [rA0 hk8, gA0 hk8, rA1 hk8, gA1 hk8, rA2 hk8, gA2 hk8, rA3 hk8, gA3 hk8, rA4 hk8, gA4 hk8, true_and, nI_1, rG5]
    by_cases h2 : (s (8 + 5 * k + 2)) = ch
    · refine i_pos h2 ?_
      rw [if_pos h2] at hbc
      exact and4i (fun z => hyes (hbc.mpr z)) (fun z => hno' (fun q => z (hbc.mp q)))
    · refine i_neg h2 ?_
      rw [if_neg h2] at hbc
      exact and4i (fun z => hyes (hbc.mpr z)) (fun z => hno' (fun q => z (hbc.mp q)))
theorem M_103 (hW : WF s) (hk : k < 16) (hc : rg ch 7) (hp : rg p 3) (hQ : Q (bP (mAlwF s k ch p = true)) (setS m s)) : Mi 103 [.inr (34, 0), .inr (35, 0), .inr (36, 0), .inr (37, 0), .inl (nI k), .inl ch, .inl p] (setS m s) Q := by
  refine T_103 ?_
  simp only [rD0 hk, gD0 hk, rD1 hk, gD1 hk, rD2 hk, gD2 hk, rD3 hk, gD3 hk, rP0 hk, gP0 hk, rP1 hk, gP1 hk, rP2 hk, gP2 hk, rC0 hk, gC0 hk, rC1 hk, gC1 hk, rC2 hk, gC2 hk, rG0, true_and]
  exact M_102 hW hc hp ⟨bP_01, hQ⟩
end LW1
