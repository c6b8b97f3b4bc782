/-! the class's methods that only look -/
section CL1
variable {m : aM} {s : aS0} {ch x y p h : Int32} {b k d : Nat} {Q : Int32 → aM → Prop}
def bRad (s : aS0) (ch : Int32) (k : Nat) : Int32 := if (s (8 + 5 * k + 4)) = 0 then (-1) else if (s (8 + 5 * k + 2)) - ch = 0 then radI (s (8 + 5 * k + 3)) else if (s (8 + 5 * k + 2)) - ch = 1 ∨ (s (8 + 5 * k + 2)) - ch = (-1) then radI (s (8 + 5 * k + 3)) * s 5 / 100 else (-1)
theorem K_54 (hR : Rp m b s) (hk : k < nS s) (hQ : Q (bRad s ch k) m) : Mi 54 [.inr (0, b), .inl (nI k), .inl ch] m Q := by
  have hW := Rp_W hR
  have lS := (WF_S hW).2
  obtain ⟨hC, hN, hS, -⟩ := hR
  obtain ⟨s0, s1, s2, s3, s4⟩ := hS k hk
  obtain ⟨w2, ⟨n3, l3, e3⟩, w4⟩ := WF_st hW hk
  have hk8 : k < 8 := by omega
  refine T_54 ?_
  rw [ixK (by omega), s2, s3, s4, e3, ixK (by omega), hC.1 n3 l3, hN.2.2.1]
  refine ⟨inK hk8 (by omega), ?_⟩
  unfold bRad at hQ
  rw [e3] at hQ
  by_cases h4 : (s (8 + 5 * k + 4)) = 0
  · refine i_pos h4 ?_; rwa [if_pos h4] at hQ
  · refine i_neg h4 ⟨inK (by omega) (by omega), ?_⟩
    rw [if_neg h4] at hQ
    by_cases h0 : (s (8 + 5 * k + 2)) - ch = 0
    · refine i_pos h0 ?_; rwa [if_pos h0] at hQ
    · refine i_neg h0 ?_
      rw [if_neg h0] at hQ
      by_cases h1 : (s (8 + 5 * k + 2)) - ch = 1
      · refine i_pos h1 ?_; rwa [if_pos (Or.inl h1)] at hQ
      · refine i_neg h1 ?_
        by_cases h2 : (s (8 + 5 * k + 2)) - ch = (-1)
        · refine i_pos h2 ?_; rwa [if_pos (Or.inr h2)] at hQ
        · refine i_neg h2 ?_; rwa [if_neg (fun z => z.elim h1 h2)] at hQ
theorem rad_n (k : Int32) : ∃ n, n ≤ 40 ∧ radI k = nI n := by
  unfold radI
  split
  · exact ⟨4, by omega, rfl⟩
  · split
    · exact ⟨9, by omega, rfl⟩
    · split
      · exact ⟨16, by omega, rfl⟩
      · split
        · exact ⟨26, by omega, rfl⟩
        · exact ⟨40, by omega, rfl⟩
theorem i32_abs1 (z : Int32) : (¬ z < (-1) ∧ ¬ 1 < z) ↔ (z = 0 ∨ z = 1 ∨ z = (-1)) := by
  rw [Int32.lt_iff_toInt_lt, Int32.lt_iff_toInt_lt, ← Int32.toInt_inj, ← Int32.toInt_inj, ← Int32.toInt_inj, show ((-1 : Int32)).toInt = -1 by decide +kernel, show ((1 : Int32)).toInt = 1 by decide +kernel, show ((0 : Int32)).toInt = 0 by decide +kernel]
  omega
theorem barBy_rad (hW : WF s) (k : Nat) : mBarBy s ch x y p k = decide (¬ bRad s ch k = (-1) ∧ nearP x y (s (8 + 5 * k + 0)) (s (8 + 5 * k + 1)) (bRad s ch k + rchI p)) := by
  unfold mBarBy bRad
  obtain ⟨n, ln, en⟩ := rad_n (s (8 + 5 * k + 3))
  obtain ⟨a, la, ea⟩ := hW.2.2.2.2.1
  have q1 : ¬ radI (s (8 + 5 * k + 3)) = (-1) := rg_m1 (B := 40) ⟨n, ln, en⟩ (by omega)
  have q2 : ¬ radI (s (8 + 5 * k + 3)) * s 5 / 100 = (-1) := by
    have hle : n * a ≤ 40 * 100 := Nat.mul_le_mul ln la
    refine rg_m1 (B := 40) ⟨n * a / 100, by omega, ?_⟩ (by omega)
    rw [en, ea, pk_mul, show (100 : Int32) = nI 100 from rfl, pk_div (by omega) (by omega) (by omega)]
  congr 1
  apply propext
  by_cases h4 : (s (8 + 5 * k + 4)) = 0
  · rw [if_pos h4]
    exact ⟨fun z => absurd h4 z.1, fun z => absurd rfl z.1⟩
  · rw [if_neg h4, i32_abs1]
    by_cases h0 : (s (8 + 5 * k + 2)) - ch = 0
    · rw [if_pos h0, if_pos h0]
      exact ⟨fun z => ⟨q1, z.2.2⟩, fun z => ⟨h4, Or.inl h0, z.2⟩⟩
    · rw [if_neg h0, if_neg h0]
      by_cases h1 : (s (8 + 5 * k + 2)) - ch = 1 ∨ (s (8 + 5 * k + 2)) - ch = (-1)
      · rw [if_pos h1]
        exact ⟨fun z => ⟨q2, z.2.2⟩, fun z => ⟨h4, Or.inr h1, z.2⟩⟩
      · rw [if_neg h1]
        exact ⟨fun z => z.2.1.elim (fun q => absurd q h0) (fun q => absurd q h1), fun z => absurd rfl z.1⟩
theorem on_lt {t h : Int32} {B C : Nat} (ht : rg t B) (hh : rg h C) (hB : B < 2 ^ 31) (hC : C < 2 ^ 31) : (¬ (t - 1) < h) ↔ h < t := by
  obtain ⟨n, ln, rfl⟩ := ht
  obtain ⟨j, lj, rfl⟩ := hh
  cases n with
  | zero =>
    constructor
    · intro z
      exact absurd (show (nI 0 - 1) < nI j by
        rw [Int32.lt_iff_toInt_lt, nI_toInt (by omega), show (nI 0 - 1).toInt = -1 by decide +kernel]
        omega) z
    · intro z
      exact absurd z (nI_nlt (by omega) (by omega))
  | succ n =>
    rw [nI_pred, nI_ltI (by omega) (by omega), nI_ltI (by omega) (by omega)]
    omega
theorem K_53_80 (hR : Rp m b s) (hp : rg p 3) (hb : mBar s ch x y p = false) (hQ : Q (bP (mAlw s ch x y p = true)) m) : H_53_80 b ch p x y 0 m Q := by
  have hW := Rp_W hR
  obtain ⟨eE, lE⟩ := WF_E hW
  obtain ⟨hC, hN, -, hE, -⟩ := hR
  obtain ⟨np, lp, ep⟩ := hp
  have hrch : m 42 0 np = rchI p := by rw [ep]; exact hC.2.1 np lp
  refine dn0 (n := nE s) (P := fun k => (∀ j, j < k → mResBy s ch x y p (s 0) j = false) → H_53_80 b ch p x y (nI k) m Q) ?_ ?_ (fun j hj => absurd hj (Nat.not_lt_zero _))
  · intro hno
    refine T_53_80 ?_
    rw [hN.2.2.2.2.2.2.1, eE]
    refine i_ge (Nat.le_refl _) (by omega) ?_
    rwa [bP_bt (by unfold mAlw mRes; rw [hb, anyN_f hno]; rfl)] at hQ
  · intro k hk ih hno
    have hk8 : k < 8 := by omega
    obtain ⟨e0, e1, e2, e3, e4, e5, e6⟩ := hE k hk
    obtain ⟨w4, w5, w6⟩ := WF_ev hW hk
    have hgo : mResBy s ch x y p (s 0) k = false → H_53_80 b ch p x y (nI (k + 1)) m Q := by
      intro z
      refine ih (fun j hj => ?_)
      rcases Nat.lt_or_ge j k with q | q
      · exact hno j q
      · obtain rfl : j = k := by omega
        exact z
    refine T_53_80 ?_
    rw [hN.2.2.2.2.2.2.1, eE]
    refine i_lt hk (by omega) ?_
    rw [ixK (by omega), e0, e1, e2, e3, e4, e5, e6, hN.1, nI_1, show p.toNatClampNeg = np by rw [ep, ixK (by omega)], hrch]
    refine ⟨inK hk8 (by omega), ?_⟩
    by_cases h3 : (s (48 + 7 * k + 3)) = ch
    · refine i_pos h3 ?_
      have hon : mOn s (s 0) k = decide ((s (48 + 7 * k + 6)) = 0 ∧ ¬ s 0 < (s (48 + 7 * k + 4)) ∧ s 0 < (s (48 + 7 * k + 5))) := by
        unfold mOn
        congr 1
        rw [on_lt w5 hW.1 (by omega) (by omega)]
      by_cases ho : (s (48 + 7 * k + 6)) = 0 ∧ ¬ s 0 < (s (48 + 7 * k + 4)) ∧ s 0 < (s (48 + 7 * k + 5))
      · refine i_pos ho ?_
        refine ⟨by rw [ep]; exact inK (by omega) (by omega), ?_⟩
        rw [decide_eq_true ho] at hon
        by_cases hn : nearP x y (s (48 + 7 * k + 0)) (s (48 + 7 * k + 1)) ((s (48 + 7 * k + 2)) + rchI p)
        · refine i_pos (near_c.mp hn) ?_
          have hr : mResBy s ch x y p (s 0) k = true := by
            unfold mResBy
            rw [hon, decide_eq_true ⟨h3, hn⟩]
            rfl
          rwa [bP_bf (by unfold mAlw mRes; rw [anyN_t hk hr]; simp)] at hQ
        · refine i_neg (fun z => hn (near_c.mpr z)) ?_
          refine hgo ?_
          unfold mResBy
          rw [decide_eq_false (fun z => hn z.2), Bool.false_and]
      · refine i_neg ho ?_
        rw [decide_eq_false ho] at hon
        exact hgo (by unfold mResBy; rw [hon, Bool.and_false])
    · refine i_neg h3 ?_
      refine hgo ?_
      unfold mResBy
      rw [decide_eq_false (fun z => h3 z.1), Bool.false_and]
theorem K_53 (hR : Rp m b s) (hp : rg p 3) (hQ : Q (bP (mAlw s ch x y p = true)) m) : Mi 53 [.inr (0, b), .inl ch, .inl p, .inl x, .inl y] m Q := by
  have hW := Rp_W hR
  obtain ⟨eS, lS⟩ := WF_S hW
  have hR0 := hR
  obtain ⟨hC, hN, hS, -⟩ := hR
  have hp0 := hp
  obtain ⟨np, lp, ep⟩ := hp
  have hrch : m 42 0 np = rchI p := by rw [ep]; exact hC.2.1 np lp
  refine T_53 ?_
  refine dn0 (n := nS s) (P := fun k => (∀ j, j < k → mBarBy s ch x y p j = false) → H_53_3 b ch p x y (nI k) m Q) ?_ ?_ (fun j hj => absurd hj (Nat.not_lt_zero _))
  · intro hno
    refine T_53_3 ?_
    rw [hN.2.2.2.2.2.1, eS]
    refine i_ge (Nat.le_refl _) (by omega) ?_
    exact K_53_80 hR0 hp0 (anyN_f hno) hQ
  · intro k hk ih hno
    have hk8 : k < 8 := by omega
    obtain ⟨s0, s1, -⟩ := hS k hk
    have hgo : mBarBy s ch x y p k = false → H_53_3 b ch p x y (nI (k + 1)) m Q := by
      intro z
      refine ih (fun j hj => ?_)
      rcases Nat.lt_or_ge j k with q | q
      · exact hno j q
      · obtain rfl : j = k := by omega
        exact z
    refine T_53_3 ?_
    rw [hN.2.2.2.2.2.1, eS]
    refine i_lt hk (by omega) ?_
    refine K_54 hR0 hk ?_
    rw [ixK (by omega), s0, s1, nI_1, show p.toNatClampNeg = np by rw [ep, ixK (by omega)], hrch]
    by_cases hr : bRad s ch k = (-1)
    · refine i_pos hr (hgo ?_)
      rw [barBy_rad hW]
      exact decide_eq_false (fun z => z.1 hr)
    · refine i_neg hr ⟨inK hk8 (by omega), by rw [ep]; exact inK (by omega) (by omega), ?_⟩
      by_cases hn : nearP x y (s (8 + 5 * k + 0)) (s (8 + 5 * k + 1)) (bRad s ch k + rchI p)
      · refine i_pos (near_c.mp hn) ?_
        have hbb : mBarBy s ch x y p k = true := by
          rw [barBy_rad hW]
          exact decide_eq_true ⟨hr, hn⟩
        rwa [bP_bf (by unfold mAlw mBar; rw [anyN_t hk hbb]; rfl)] at hQ
      · refine i_neg (fun z => hn (near_c.mpr z)) (hgo ?_)
        rw [barBy_rad hW]
        exact decide_eq_false (fun z => hn z.2)
end CL1
