/-! calls that look: vacant, next, station -/
section LK2
variable {m : aM} {s : aS0} {b k d : Nat} {v x y p ch : Int32} {Q : Int32 → aM → Prop} {Qv : aM → Prop}
def mVac (s : aS0) (ch p : Int32) (k : Nat) : Bool := mAlw s ch (nI (10 * (k / 10) + 5)) (nI (10 * (k % 10) + 5)) p
theorem E_vacant : Same 86 [.inr (27, 0), .inl ch, .inl p] 170 [.inr (34, 0), .inl ch, .inl p] := by
  refine Look_Same ?_
  intro m s Q hR hH hT hq
  have hW := Rp_W hR.1
  refine T_86 ?_
  by_cases h1 : ch < 0 ∨ 7 < ch
  · exact i_pos h1 ⟨rfl, T_170 (i_neg (fun z => nin.mp z h1) (hq _))⟩
  refine i_neg h1 ?_
  by_cases h2 : p < 0 ∨ 3 < p
  · exact i_pos h2 ⟨rfl, T_170 (i_pos (nin.mpr h1) (i_neg (fun z => nin.mp z h2) (hq _)))⟩
  refine i_neg h2 ?_
  have hp : rg p 3 := rg_of (B := 3) (by omega) h2
  have ref : Mi 170 [.inr (34, 0), .inl ch, .inl p] (setS m s) (fun w m2 => Q (nI (cntN (mVac s ch p) 100)) w m2) := by
    refine T_170 (i_pos (nin.mpr h1) (i_pos (nin.mpr h2) ?_))
    refine dn0 (n := 100) (P := fun k => H_170_22 ch p (nI (cntN (mVac s ch p) k)) (nI k) (setS m s) (fun w m2 => Q (nI (cntN (mVac s ch p) 100)) w m2)) ?_ ?_
    · exact T_170_22 (i_neg (by decide) (hq _))
    · intro k hk ih
      refine T_170_22 (i_pos (nI_lt (b := 100) hk (by omega)) ?_)
      have e1 : (10 : Int32) * (nI k / 10) + 5 = nI (10 * (k / 10) + 5) := by
        rw [show (10 : Int32) = nI 10 from rfl, show (5 : Int32) = nI 5 from rfl, pk_div (by omega) (by omega) (by omega), pk_mul, nI_add]
      have e2 : (10 : Int32) * (iR (nI k) 10) + 5 = nI (10 * (k % 10) + 5) := by
        rw [show (10 : Int32) = nI 10 from rfl, show (5 : Int32) = nI 5 from rfl, iR_n (by omega) (by omega) (by omega), pk_mul, nI_add]
      rw [e1, e2, nI_1, nI_1, nI_z0]
      refine R_118 (WF_C hW) ?_
      unfold cntN at ih
      cases ha : mAlw s ch (nI (10 * (k / 10) + 5)) (nI (10 * (k % 10) + 5)) p with
      | false =>
        rw [if_neg (show ¬ mVac s ch p k = true by unfold mVac; rw [ha]; decide), Nat.add_zero] at ih
        exact i_pos (bP_bf rfl) ih
      | true =>
        rw [if_pos (show mVac s ch p k = true from ha)] at ih
        exact i_neg (by decide) ih
  refine dn0 (n := 10) (P := fun i => H_86_27 ch p (nI (cntN (mVac s ch p) (10 * i))) (nI (10 * i + 5)) m (fun v m1 => m1 = m ∧ Mi 170 [.inr (34, 0), .inl ch, .inl p] (setS m s) (fun w m2 => Q v w m2))) ?_ ?_
  · exact T_86_27 (i_pos (by decide) ⟨rfl, ref⟩)
  · intro i hi ihO
    refine T_86_27 (i_neg (nI_nlt (a := 99) (by omega) (by omega)) ?_)
    refine dn0 (n := 10) (P := fun j => H_86_37 ch p (nI (cntN (mVac s ch p) (10 * i + j))) (nI (10 * i + 5)) (nI (10 * j + 5)) m (fun v m1 => m1 = m ∧ Mi 170 [.inr (34, 0), .inl ch, .inl p] (setS m s) (fun w m2 => Q v w m2))) ?_ ?_
    · refine T_86_37 (i_pos (by decide) ?_)
      rw [show nI (10 * i + 5) + 10 = nI (10 * (i + 1) + 5) by rw [show (10 : Int32) = nI 10 from rfl, nI_add, show 10 * i + 5 + 10 = 10 * (i + 1) + 5 by omega], show 10 * i + 10 = 10 * (i + 1) by omega]
      exact ihO
    · intro j hj ih
      refine T_86_37 (i_neg (nI_nlt (a := 99) (by omega) (by omega)) (K_53 hR.1 hp ?_))
      rw [show nI (10 * j + 5) + 10 = nI (10 * (j + 1) + 5) by rw [show (10 : Int32) = nI 10 from rfl, nI_add, show 10 * j + 5 + 10 = 10 * (j + 1) + 5 by omega], nI_1]
      have ev : mVac s ch p (10 * i + j) = mAlw s ch (nI (10 * i + 5)) (nI (10 * j + 5)) p := by
        unfold mVac
        rw [show (10 * i + j) / 10 = i by omega, show (10 * i + j) % 10 = j by omega]
      rw [show 10 * i + (j + 1) = 10 * i + j + 1 by omega] at ih
      unfold cntN at ih
      cases ha : mAlw s ch (nI (10 * i + 5)) (nI (10 * j + 5)) p with
      | false =>
        rw [if_neg (show ¬ mVac s ch p (10 * i + j) = true by rw [ev, ha]; decide), Nat.add_zero] at ih
        exact i_pos (bP_bf rfl) ih
      | true =>
        rw [if_pos (show mVac s ch p (10 * i + j) = true by rw [ev, ha])] at ih
        exact i_neg (by decide) ih
/-- the order of the leases, as one number -/
def mKey (s : aS0) (d : Nat) : Nat := (((s (104 + 10 * d + 5)).toNatClampNeg * 2 + (if (s (104 + 10 * d + 6)) = (-6) then 1 else 0)) * 4 + (3 - (s (104 + 10 * d + 4)).toNatClampNeg)) * 16 + d
def mPl (s : aS0) (d : Nat) : Nat := cntN (fun j => mHas s j && decide (mKey s j < mKey s d)) (nD s)
theorem key_lt {a c : Nat} (ha : a < 16) (hc : c < 16) (wa : dvW s a) (wc : dvW s c) (la : ¬ (s (104 + 10 * a + 3)) = (-6)) (lc : ¬ (s (104 + 10 * c + 3)) = (-6)) : mKey s a < mKey s c ↔ ((s (104 + 10 * a + 5)) < (s (104 + 10 * c + 5)) ∨ ((s (104 + 10 * a + 5)) = (s (104 + 10 * c + 5)) ∧ ((¬ (s (104 + 10 * a + 6)) = (-6) ∧ (s (104 + 10 * c + 6)) = (-6)) ∨ (((s (104 + 10 * a + 6)) = (-6) ↔ (s (104 + 10 * c + 6)) = (-6)) ∧ ((s (104 + 10 * c + 4)) < (s (104 + 10 * a + 4)) ∨ ((s (104 + 10 * a + 4)) = (s (104 + 10 * c + 4)) ∧ a < c)))))) := by
  obtain ⟨-, ⟨p1, q1, e1⟩, ⟨n1, r1, f1⟩, -⟩ := dv_lease wa la
  obtain ⟨-, ⟨p2, q2, e2⟩, ⟨n2, r2, f2⟩, -⟩ := dv_lease wc lc
  unfold mKey
  rw [e1, e2, f1, f2, ixK (by omega), ixK (by omega), ixK (by omega), ixK (by omega), nI_ltI (by omega) (by omega), nI_eq (by omega) (by omega), nI_ltI (by omega) (by omega), nI_eq (by omega) (by omega)]
  by_cases h1 : (s (104 + 10 * a + 6)) = (-6)
  · rw [if_pos h1]
    by_cases h2 : (s (104 + 10 * c + 6)) = (-6)
    · rw [if_pos h2]
      simp only [h1, h2, not_true_eq_false, false_and, iff_self, true_and, false_or]
      omega
    · rw [if_neg h2]
      simp only [h1, h2, not_true_eq_false, false_and, iff_false, and_false, or_false]
      omega
  · rw [if_neg h1]
    by_cases h2 : (s (104 + 10 * c + 6)) = (-6)
    · rw [if_pos h2]
      simp only [h1, h2, not_false_eq_true, true_and, true_or, and_true]
      omega
    · rw [if_neg h2]
      simp only [h1, h2, not_false_eq_true, and_false, iff_self, true_and, false_or]
      omega
theorem key_ne {a c : Nat} (ha : a < 16) (hc : c < 16) (h : mKey s a = mKey s c) : a = c := by
  unfold mKey at h
  omega
theorem K_21 (hR : Rp m b s) (ha : d < nD s) (hc : k < nD s) (la : ¬ (s (104 + 10 * d + 3)) = (-6)) (lc : ¬ (s (104 + 10 * k + 3)) = (-6)) (hQ : Q (bP (mKey s d < mKey s k)) m) : Mi 21 [.inr (3, b), .inl (nI d), .inl (nI k)] m Q := by
  have lD := Rp_ld hR
  have wa := WF_dv (Rp_W hR) ha
  have wc := WF_dv (Rp_W hR) hc
  have hk := key_lt (by omega) (by omega) wa wc la lc
  obtain ⟨-, -, -, -, a6, -, -, -, a4⟩ := Rp_d hR ha
  obtain ⟨-, -, -, -, c6, -, -, -, c4⟩ := Rp_d hR hc
  have na := nz_i (dv6 wa) (by omega)
  have nc := nz_i (dv6 wc) (by omega)
  refine T_21 ?_
  rw [ixK (by omega), ixK (by omega), (a4 la).1, (a4 la).2, (c4 lc).1, (c4 lc).2, a6, c6, bP_iff na, bP_iff nc]
  refine ⟨inK (by omega) (by omega), inK (by omega) (by omega), ?_⟩
  have lt_ne : ∀ {u w : Int32}, u < w → ¬ u = w := fun {u w} h e => by rw [e] at h; exact absurd h Int32.lt_irrefl
  by_cases h5 : (s (104 + 10 * d + 5)) = (s (104 + 10 * k + 5))
  · refine i_pos h5 ?_
    have n5 : ¬ (s (104 + 10 * d + 5)) < (s (104 + 10 * k + 5)) := fun z => lt_ne z h5
    by_cases h1 : (s (104 + 10 * d + 6)) = (-6)
    · rw [bP_f (fun z => z h1)]
      by_cases h2 : (s (104 + 10 * k + 6)) = (-6)
      · rw [bP_f (fun z => z h2)]
        refine i_pos rfl ?_
        by_cases h4 : (s (104 + 10 * d + 4)) = (s (104 + 10 * k + 4))
        · refine i_pos h4 ?_
          have n4 : ¬ (s (104 + 10 * k + 4)) < (s (104 + 10 * d + 4)) := fun z => lt_ne z h4.symm
          by_cases hl : d < k
          · rw [bP_t (hk.mpr (Or.inr ⟨h5, Or.inr ⟨by rw [h1, h2], Or.inr ⟨h4, hl⟩⟩⟩))] at hQ
            exact i_lt hl (by omega) hQ
          · rw [bP_f (fun z => by
              rcases hk.mp z with q | ⟨-, ⟨q, -⟩ | ⟨-, q | ⟨-, q⟩⟩⟩
              · exact n5 q
              · exact q h1
              · exact n4 q
              · exact hl q)] at hQ
            exact i_ge (by omega) (by omega) hQ
        · refine i_neg h4 ?_
          by_cases hl : (s (104 + 10 * k + 4)) < (s (104 + 10 * d + 4))
          · rw [bP_t (hk.mpr (Or.inr ⟨h5, Or.inr ⟨by rw [h1, h2], Or.inl hl⟩⟩))] at hQ
            exact i_pos hl hQ
          · rw [bP_f (fun z => by
              rcases hk.mp z with q | ⟨-, ⟨q, -⟩ | ⟨-, q | ⟨q, -⟩⟩⟩
              · exact n5 q
              · exact q h1
              · exact hl q
              · exact h4 q)] at hQ
            exact i_neg hl hQ
      · rw [bP_t (show ¬ (s (104 + 10 * k + 6)) = (-6) from h2)]
        refine i_neg (by decide) ?_
        rw [bP_f (fun z => by
          rcases hk.mp z with q | ⟨-, ⟨q, -⟩ | ⟨q, -⟩⟩
          · exact n5 q
          · exact q h1
          · exact h2 (q.mp h1))] at hQ
        exact hQ
    · rw [bP_t (show ¬ (s (104 + 10 * d + 6)) = (-6) from h1)]
      by_cases h2 : (s (104 + 10 * k + 6)) = (-6)
      · rw [bP_f (fun z => z h2)]
        refine i_neg (by decide) ?_
        rw [bP_t (hk.mpr (Or.inr ⟨h5, Or.inl ⟨h1, h2⟩⟩))] at hQ
        exact hQ
      · rw [bP_t (show ¬ (s (104 + 10 * k + 6)) = (-6) from h2)]
        refine i_pos rfl ?_
        have heq : ((s (104 + 10 * d + 6)) = (-6) ↔ (s (104 + 10 * k + 6)) = (-6)) := ⟨fun z => absurd z h1, fun z => absurd z h2⟩
        by_cases h4 : (s (104 + 10 * d + 4)) = (s (104 + 10 * k + 4))
        · refine i_pos h4 ?_
          have n4 : ¬ (s (104 + 10 * k + 4)) < (s (104 + 10 * d + 4)) := fun z => lt_ne z h4.symm
          by_cases hl : d < k
          · rw [bP_t (hk.mpr (Or.inr ⟨h5, Or.inr ⟨heq, Or.inr ⟨h4, hl⟩⟩⟩))] at hQ
            exact i_lt hl (by omega) hQ
          · rw [bP_f (fun z => by
              rcases hk.mp z with q | ⟨-, ⟨-, q⟩ | ⟨-, q | ⟨-, q⟩⟩⟩
              · exact n5 q
              · exact h2 q
              · exact n4 q
              · exact hl q)] at hQ
            exact i_ge (by omega) (by omega) hQ
        · refine i_neg h4 ?_
          by_cases hl : (s (104 + 10 * k + 4)) < (s (104 + 10 * d + 4))
          · rw [bP_t (hk.mpr (Or.inr ⟨h5, Or.inr ⟨heq, Or.inl hl⟩⟩))] at hQ
            exact i_pos hl hQ
          · rw [bP_f (fun z => by
              rcases hk.mp z with q | ⟨-, ⟨-, q⟩ | ⟨-, q | ⟨q, -⟩⟩⟩
              · exact n5 q
              · exact h2 q
              · exact hl q
              · exact h4 q)] at hQ
            exact i_neg hl hQ
  · refine i_neg h5 ?_
    by_cases hl : (s (104 + 10 * d + 5)) < (s (104 + 10 * k + 5))
    · rw [bP_t (hk.mpr (Or.inl hl))] at hQ
      exact i_pos hl hQ
    · rw [bP_f (fun z => by
        rcases hk.mp z with q | ⟨q, -⟩
        · exact hl q
        · exact h5 q)] at hQ
      exact i_neg hl hQ
theorem sub_0 {B C : Nat} (h1 : rg x B) (h2 : rg y C) (hB : B < 2 ^ 30) (hC : C < 2 ^ 30) : (x - y = 0 ↔ x = y) ∧ (x - y < 0 ↔ x < y) := by
  obtain ⟨a, la, rfl⟩ := h1
  obtain ⟨c, lc, rfl⟩ := h2
  have e := pk_sub_toInt (a := a) (b := c) (by omega) (by omega)
  rw [← Int32.toInt_inj, Int32.lt_iff_toInt_lt, nI_eq (by omega) (by omega), nI_ltI (by omega) (by omega), e, show (0 : Int32).toInt = 0 by decide +kernel]
  constructor <;> omega
theorem R_164 (hW : WF s) (ha : d < nD s) (hc : k < nD s) (la : ¬ (s (104 + 10 * d + 3)) = (-6)) (lc : ¬ (s (104 + 10 * k + 3)) = (-6)) (hQ : Q (bP (mKey s d < mKey s k)) (setS m s)) : Mi 164 [.inr (34, 0), .inl (nI d), .inl (nI k)] (setS m s) Q := by
  have lD := (WF_D hW).2
  have hd16 : d < 16 := by omega
  have hk16 : k < 16 := by omega
  have wa := WF_dv hW ha
  have wc := WF_dv hW hc
  have hk := key_lt hd16 hk16 wa wc la lc
  obtain ⟨-, x4, x5, -⟩ := dv_lease wa la
  obtain ⟨-, y4, y5, -⟩ := dv_lease wc lc
  obtain ⟨z5, w5⟩ := sub_0 x5 y5 (by omega) (by omega)
  obtain ⟨z4, w4⟩ := sub_0 y4 x4 (by omega) (by omega)
  refine T_164 ?_
  simp only [S_s, ixD0 hd16, inD0 hd16, ixD1 hd16, inD1 hd16, ixD2 hd16, inD2 hd16, ixD3 hd16, inD3 hd16, ixD4 hd16, inD4 hd16, ixD5 hd16, inD5 hd16, ixD6 hd16, inD6 hd16, ixD7 hd16, inD7 hd16, ixD8 hd16, inD8 hd16, ixD9 hd16, inD9 hd16, ixD0 hk16, inD0 hk16, ixD1 hk16, inD1 hk16, ixD2 hk16, inD2 hk16, ixD3 hk16, inD3 hk16, ixD4 hk16, inD4 hk16, ixD5 hk16, inD5 hk16, ixD6 hk16, inD6 hk16, ixD7 hk16, inD7 hk16, ixD8 hk16, inD8 hk16, ixD9 hk16, inD9 hk16, true_and]
  have lt_ne : ∀ {u w : Int32}, u < w → ¬ u = w := fun {u w} h e => by rw [e] at h; exact absurd h Int32.lt_irrefl
  have tail : (s (104 + 10 * d + 5)) = (s (104 + 10 * k + 5)) → ((s (104 + 10 * d + 6)) = (-6) ↔ (s (104 + 10 * k + 6)) = (-6)) → (if (s (104 + 10 * k + 4)) - (s (104 + 10 * d + 4)) < 0 then Q 1 (setS m s) else if (s (104 + 10 * k + 4)) - (s (104 + 10 * d + 4)) = 0 then (if nI d < nI k then Q 1 (setS m s) else Q 0 (setS m s)) else Q 0 (setS m s)) := by
    intro h5 heq
    have n5 : ¬ (s (104 + 10 * d + 5)) < (s (104 + 10 * k + 5)) := fun z => lt_ne z h5
    by_cases hl : (s (104 + 10 * k + 4)) < (s (104 + 10 * d + 4))
    · rw [bP_t (hk.mpr (Or.inr ⟨h5, Or.inr ⟨heq, Or.inl hl⟩⟩))] at hQ
      exact i_pos (w4.mpr hl) hQ
    · refine i_neg (fun z => hl (w4.mp z)) ?_
      by_cases h4 : (s (104 + 10 * d + 4)) = (s (104 + 10 * k + 4))
      · refine i_pos (z4.mpr h4.symm) ?_
        by_cases hlt : d < k
        · rw [bP_t (hk.mpr (Or.inr ⟨h5, Or.inr ⟨heq, Or.inr ⟨h4, hlt⟩⟩⟩))] at hQ
          exact i_lt hlt (by omega) hQ
        · rw [bP_f (fun z => by
            rcases hk.mp z with q | ⟨-, ⟨q1, q2⟩ | ⟨-, q | ⟨-, q⟩⟩⟩
            · exact n5 q
            · exact q1 (heq.mpr q2)
            · exact hl q
            · exact hlt q)] at hQ
          exact i_ge (by omega) (by omega) hQ
      · refine i_neg (fun z => h4 (z4.mp z).symm) ?_
        rw [bP_f (fun z => by
          rcases hk.mp z with q | ⟨-, ⟨q1, q2⟩ | ⟨-, q | ⟨q, -⟩⟩⟩
          · exact n5 q
          · exact q1 (heq.mpr q2)
          · exact hl q
          · exact h4 q)] at hQ
        exact hQ
  by_cases h5 : (s (104 + 10 * d + 5)) = (s (104 + 10 * k + 5))
  · refine i_pos (z5.mpr h5) ?_
    have n5 : ¬ (s (104 + 10 * d + 5)) < (s (104 + 10 * k + 5)) := fun z => lt_ne z h5
    by_cases h1 : (s (104 + 10 * d + 6)) = (-6)
    · refine i_pos h1 ?_
      by_cases h2 : (s (104 + 10 * k + 6)) = (-6)
      · exact i_pos h2 (i_pos (by decide) (tail h5 ⟨fun _ => h2, fun _ => h1⟩))
      · refine i_neg h2 (i_neg (by decide) (i_neg (by decide) ?_))
        rw [bP_f (fun z => by
          rcases hk.mp z with q | ⟨-, ⟨q, -⟩ | ⟨q, -⟩⟩
          · exact n5 q
          · exact q h1
          · exact h2 (q.mp h1))] at hQ
        exact hQ
    · refine i_neg h1 ?_
      by_cases h2 : (s (104 + 10 * k + 6)) = (-6)
      · refine i_pos h2 (i_neg (by decide) (i_pos (by decide) ?_))
        rw [bP_t (hk.mpr (Or.inr ⟨h5, Or.inl ⟨h1, h2⟩⟩))] at hQ
        exact hQ
      · exact i_neg h2 (i_pos (by decide) (tail h5 ⟨fun z => absurd z h1, fun z => absurd z h2⟩))
  · refine i_neg (fun z => h5 (z5.mp z)) ?_
    by_cases hl : (s (104 + 10 * d + 5)) < (s (104 + 10 * k + 5))
    · rw [bP_t (hk.mpr (Or.inl hl))] at hQ
      exact i_pos (w5.mpr hl) hQ
    · rw [bP_f (fun z => by
        rcases hk.mp z with q | ⟨q, -⟩
        · exact hl q
        · exact h5 q)] at hQ
      exact i_neg (fun z => hl (w5.mp z)) hQ
theorem K_20 (hR : Rp m b s) (hk : k < nD s) (lk : ¬ (s (104 + 10 * k + 3)) = (-6)) (hQ : Q (nI (mPl s k)) m) : Mi 20 [.inr (3, b), .inl (nI k)] m Q := by
  have lD := Rp_ld hR
  refine T_20 ?_
  refine dn0 (n := nD s) (P := fun j => H_20_4 b (nI k) (nI (cntN (fun j => mHas s j && decide (mKey s j < mKey s k)) j)) (nI j) m Q) ?_ ?_
  · refine T_20_4 ?_
    rw [Rp_nd hR]
    exact i_ge (Nat.le_refl _) (by omega) hQ
  · intro j hj ih
    have hd := WF_dv (Rp_W hR) hj
    refine T_20_4 ?_
    rw [Rp_nd hR]
    refine i_lt hj (by omega) ⟨inK (by omega) (by omega), ?_⟩
    rw [ixK (by omega), (Rp_d hR hj).2.2.2.1, nI_1, nI_1]
    unfold cntN at ih
    by_cases h3 : ¬ (s (104 + 10 * j + 3)) = (-6)
    · refine i_pos ((nz_i (dv3 hd) (by omega)).mpr h3) (K_21 hR hj hk h3 lk ?_)
      have hh : mHas s j = true := decide_eq_true h3
      by_cases hlt : mKey s j < mKey s k
      · rw [if_pos (show (mHas s j && decide (mKey s j < mKey s k)) = true by rw [hh, decide_eq_true hlt]; rfl)] at ih
        rw [bP_t hlt]
        exact i_neg (by decide) ih
      · rw [if_neg (show ¬ (mHas s j && decide (mKey s j < mKey s k)) = true by rw [hh, decide_eq_false hlt]; decide), Nat.add_zero] at ih
        rw [bP_f hlt]
        exact i_pos (by decide) ih
    · refine i_neg (fun z => h3 ((nz_i (dv3 hd) (by omega)).mp z)) ?_
      have hh : mHas s j = false := decide_eq_false h3
      rw [if_neg (show ¬ (mHas s j && decide (mKey s j < mKey s k)) = true by rw [hh, Bool.false_and]; decide), Nat.add_zero] at ih
      exact ih
/-- the answer of next: the lease at that place, or none -/
def nxOk (s : aS0) (x v : Int32) : Prop := (v = (-6) ∧ ∀ j, j < nD s → ¬ (mHas s j = true ∧ nI (mPl s j) = x)) ∨ ∃ j, j < nD s ∧ (mHas s j = true ∧ nI (mPl s j) = x) ∧ v = nI j
theorem cntN_mono {f g : Nat → Bool} : ∀ {n : Nat}, (∀ k, k < n → f k = true → g k = true) → cntN f n ≤ cntN g n
  | 0, _ => Nat.le_refl 0
  | n + 1, h => by
    have ih := cntN_mono (f := f) (g := g) (n := n) (fun k hk => h k (by omega))
    unfold cntN
    by_cases hf : f n = true
    · rw [if_pos hf, if_pos (h n (by omega) hf)]; omega
    · rw [if_neg hf]; omega
theorem cntN_lt {f g : Nat → Bool} {i : Nat} : ∀ {n : Nat}, (∀ k, k < n → f k = true → g k = true) → i < n → g i = true → ¬ f i = true → cntN f n < cntN g n
  | 0, _, h, _, _ => absurd h (Nat.not_lt_zero _)
  | n + 1, h, hi, h1, h2 => by
    have mono := cntN_mono (f := f) (g := g) (n := n) (fun k hk => h k (by omega))
    unfold cntN
    by_cases hin : i = n
    · subst hin
      rw [if_neg h2, if_pos h1]; omega
    · have ih := cntN_lt (f := f) (g := g) (n := n) (fun k hk => h k (by omega)) (by omega) h1 h2
      by_cases hf : f n = true
      · rw [if_pos hf, if_pos (h n (by omega) hf)]; omega
      · rw [if_neg hf]; omega
theorem pl_lt {i j : Nat} (hi : i < nD s) (hhi : mHas s i = true) (h : mKey s i < mKey s j) : mPl s i < mPl s j := by
  refine cntN_lt (i := i) (fun k hk hf => ?_) hi ?_ ?_
  · rw [Bool.and_eq_true, decide_eq_true_eq] at hf ⊢
    exact ⟨hf.1, by omega⟩
  · rw [hhi, decide_eq_true h]; rfl
  · rw [Bool.and_eq_true, decide_eq_true_eq]
    exact fun z => absurd z.2 (Nat.lt_irrefl _)
theorem nx_one {v w : Int32} (hD : nD s ≤ 16) (h1 : nxOk s x v) (h2 : nxOk s x w) : v = w := by
  rcases h1 with ⟨e1, n1⟩ | ⟨i, hi, ⟨a1, a2⟩, e1⟩
  · rcases h2 with ⟨e2, n2⟩ | ⟨j, hj, b1, e2⟩
    · rw [e1, e2]
    · exact absurd b1 (n1 j hj)
  · rcases h2 with ⟨e2, n2⟩ | ⟨j, hj, ⟨b1, b2⟩, e2⟩
    · exact absurd ⟨a1, a2⟩ (n2 i hi)
    · rw [e1, e2]
      have li : mPl s i ≤ nD s := cntN_le _ _
      have lj : mPl s j ≤ nD s := cntN_le _ _
      have he : mPl s i = mPl s j := (nI_eq (by omega) (by omega)).mp (a2.trans b2.symm)
      rcases Nat.lt_trichotomy (mKey s i) (mKey s j) with q | q | q
      · have := pl_lt hi a1 q; omega
      · rw [key_ne (by omega) (by omega) q]
      · have := pl_lt hj b1 q; omega
theorem K_19 (hR : Rp m b s) (hQ : ∀ v, nxOk s x v → Q v m) : Mi 19 [.inr (3, b), .inl x] m Q := by
  have lD := Rp_ld hR
  refine T_19 ?_
  refine dn0 (n := nD s) (P := fun k => (∀ j, j < k → ¬ (mHas s j = true ∧ nI (mPl s j) = x)) → H_19_2 b x (nI k) m Q) ?_ ?_ (fun j hj => absurd hj (Nat.not_lt_zero _))
  · intro hno
    refine T_19_2 ?_
    rw [Rp_nd hR]
    exact i_ge (Nat.le_refl _) (by omega) (hQ _ (Or.inl ⟨rfl, hno⟩))
  · intro k hk ih hno
    have hd := WF_dv (Rp_W hR) hk
    have hgo : ¬ (mHas s k = true ∧ nI (mPl s k) = x) → H_19_2 b x (nI (k + 1)) m Q := by
      intro z
      refine ih (fun j hj => ?_)
      rcases Nat.lt_or_ge j k with q | q
      · exact hno j q
      · obtain rfl : j = k := by omega
        exact z
    refine T_19_2 ?_
    rw [Rp_nd hR]
    refine i_lt hk (by omega) ⟨inK (by omega) (by omega), ?_⟩
    rw [ixK (by omega), (Rp_d hR hk).2.2.2.1, nI_1]
    by_cases h3 : ¬ (s (104 + 10 * k + 3)) = (-6)
    · refine i_pos ((nz_i (dv3 hd) (by omega)).mpr h3) (K_20 hR hk h3 ?_)
      by_cases hp : nI (mPl s k) = x
      · exact i_pos hp (hQ _ (Or.inr ⟨k, hk, ⟨decide_eq_true h3, hp⟩, rfl⟩))
      · exact i_neg hp (hgo (fun z => hp z.2))
    · exact i_neg (fun z => h3 ((nz_i (dv3 hd) (by omega)).mp z)) (hgo (fun z => h3 (of_decide_eq_true z.1)))
theorem R_165_28 {f : Int32} (hW : WF s) (hk : k < nD s) (lk : ¬ (s (104 + 10 * k + 3)) = (-6)) (hQ : if nI (mPl s k) = x then H_165_12 x (nI k) (nI k + 1) (setS m s) Q else H_165_12 x f (nI k + 1) (setS m s) Q) : H_165_28 x f (nI k) 0 0 (setS m s) Q := by
  obtain ⟨e1, l1⟩ := WF_D hW
  have hk16 : k < 16 := by omega
  refine dn0 (n := nD s) (P := fun j => H_165_28 x f (nI k) (nI (cntN (fun j => mHas s j && decide (mKey s j < mKey s k)) j)) (nI j) (setS m s) Q) ?_ ?_
  · refine T_165_28 ?_
    rw [S_s, e1]
    refine i_ge (Nat.le_refl _) (by omega) ?_
    simp only [S_s, ixD0 hk16, inD0 hk16, ixD1 hk16, inD1 hk16, ixD2 hk16, inD2 hk16, ixD3 hk16, inD3 hk16, ixD4 hk16, inD4 hk16, ixD5 hk16, inD5 hk16, ixD6 hk16, inD6 hk16, ixD7 hk16, inD7 hk16, ixD8 hk16, inD8 hk16, ixD9 hk16, inD9 hk16, true_and]
    exact i_pos lk hQ
  · intro j hj ih
    have hj16 : j < 16 := by omega
    refine T_165_28 ?_
    rw [S_s, e1]
    refine i_lt hj (by omega) ?_
    simp only [S_s, ixD0 hk16, inD0 hk16, ixD1 hk16, inD1 hk16, ixD2 hk16, inD2 hk16, ixD3 hk16, inD3 hk16, ixD4 hk16, inD4 hk16, ixD5 hk16, inD5 hk16, ixD6 hk16, inD6 hk16, ixD7 hk16, inD7 hk16, ixD8 hk16, inD8 hk16, ixD9 hk16, inD9 hk16, ixD0 hj16, inD0 hj16, ixD1 hj16, inD1 hj16, ixD2 hj16, inD2 hj16, ixD3 hj16, inD3 hj16, ixD4 hj16, inD4 hj16, ixD5 hj16, inD5 hj16, ixD6 hj16, inD6 hj16, ixD7 hj16, inD7 hj16, ixD8 hj16, inD8 hj16, ixD9 hj16, inD9 hj16, true_and]
    refine i_pos lk ?_
    rw [nI_1, nI_1, nI_z0]
    unfold cntN at ih
    by_cases hjk : j = k
    · refine i_pos (by rw [hjk]) ?_
      rw [if_neg (show ¬ (mHas s j && decide (mKey s j < mKey s k)) = true by rw [hjk, decide_eq_false (Nat.lt_irrefl _), Bool.and_false]; decide), Nat.add_zero] at ih
      exact ih
    · refine i_neg (by rw [nI_eq (by omega) (by omega)]; exact hjk) ?_
      by_cases h3 : ¬ (s (104 + 10 * j + 3)) = (-6)
      · have hh : mHas s j = true := decide_eq_true h3
        refine i_pos h3 (R_164 hW hj hk h3 lk ?_)
        by_cases hlt : mKey s j < mKey s k
        · rw [if_pos (show (mHas s j && decide (mKey s j < mKey s k)) = true by rw [hh, decide_eq_true hlt]; rfl)] at ih
          rw [bP_t hlt]
          exact i_neg (by decide) ih
        · rw [if_neg (show ¬ (mHas s j && decide (mKey s j < mKey s k)) = true by rw [hh, decide_eq_false hlt]; decide), Nat.add_zero] at ih
          rw [bP_f hlt]
          exact i_pos (by decide) ih
      · have hh : mHas s j = false := decide_eq_false h3
        rw [if_neg (show ¬ (mHas s j && decide (mKey s j < mKey s k)) = true by rw [hh, Bool.false_and]; decide), Nat.add_zero] at ih
        exact i_neg h3 ih
theorem R_165 (hW : WF s) (hx : ¬ x < 0) (hQ : ∀ v, nxOk s x v → Q v (setS m s)) : Mi 165 [.inr (34, 0), .inl x] (setS m s) Q := by
  obtain ⟨e1, l1⟩ := WF_D hW
  refine T_165 (i_neg hx ?_)
  refine dn0 (n := nD s) (P := fun k => ∀ f, ((f = (-6) ∧ ∀ j, j < k → ¬ (mHas s j = true ∧ nI (mPl s j) = x)) ∨ ∃ j, j < k ∧ (mHas s j = true ∧ nI (mPl s j) = x) ∧ f = nI j) → H_165_12 x f (nI k) (setS m s) Q) ?_ ?_ (-6) (Or.inl ⟨rfl, fun j hj => absurd hj (Nat.not_lt_zero _)⟩)
  · intro f hf
    refine T_165_12 ?_
    rw [S_s, e1]
    exact i_ge (Nat.le_refl _) (by omega) (hQ f hf)
  · intro k hk ih f hf
    have hk16 : k < 16 := by omega
    refine T_165_12 ?_
    rw [S_s, e1]
    refine i_lt hk (by omega) ?_
    have keep : ¬ (mHas s k = true ∧ nI (mPl s k) = x) → H_165_12 x f (nI (k + 1)) (setS m s) Q := by
      intro z
      refine ih f ?_
      rcases hf with ⟨h1, h2⟩ | ⟨j, h1, h2, h3⟩
      · refine Or.inl ⟨h1, fun j hj => ?_⟩
        rcases Nat.lt_or_ge j k with q | q
        · exact h2 j q
        · obtain rfl : j = k := by omega
          exact z
      · exact Or.inr ⟨j, by omega, h2, h3⟩
    by_cases h3 : ¬ (s (104 + 10 * k + 3)) = (-6)
    · refine R_165_28 hW hk h3 ?_
      rw [nI_1]
      by_cases hp : nI (mPl s k) = x
      · exact i_pos hp (ih (nI k) (Or.inr ⟨k, by omega, ⟨decide_eq_true h3, hp⟩, rfl⟩))
      · exact i_neg hp (keep (fun z => hp z.2))
    · have hz := keep (fun z => h3 (of_decide_eq_true z.1))
      refine T_165_28 ?_
      rw [S_s, e1]
      refine i_pos (by rw [nI0]; exact nI_lt (by omega) (by omega)) ?_
      simp only [S_s, ixD0 hk16, inD0 hk16, ixD1 hk16, inD1 hk16, ixD2 hk16, inD2 hk16, ixD3 hk16, inD3 hk16, ixD4 hk16, inD4 hk16, ixD5 hk16, inD5 hk16, ixD6 hk16, inD6 hk16, ixD7 hk16, inD7 hk16, ixD8 hk16, inD8 hk16, ixD9 hk16, inD9 hk16, true_and, nI_1]
      exact i_neg h3 hz
theorem E_next : Same 83 [.inr (27, 0), .inl x] 165 [.inr (34, 0), .inl x] := by
  refine Look_Same ?_
  intro m s Q hR hH hT hq
  have hW := Rp_W hR.1
  refine T_83 ?_
  by_cases h1 : x < 0
  · exact i_pos h1 ⟨rfl, T_165 (i_pos h1 (hq _))⟩
  refine i_neg h1 (K_19 hR.1 ?_)
  intro v hv
  refine ⟨rfl, R_165 hW h1 ?_⟩
  intro w hw
  rw [nx_one (WF_D hW).2 hv hw]
  exact hq w
end LK2
