/-! leaves: methods whose answer is written down; by program but for the words (wip/p34/gen9.py) -/
def radI (k : Int32) : Int32 := if k = 0 then 4 else if k = 1 then 9 else if k = 2 then 16 else if k = 3 then 26 else 40
def rchI (k : Int32) : Int32 := if k = 0 then 1 else if k = 1 then 3 else if k = 2 then 6 else 10
abbrev nearP (x y ox oy far : Int32) : Prop := ¬ far * far < (x - ox) * (x - ox) + (y - oy) * (y - oy)
def cPutOn (m : aM) (b k : Nat) (ch p : Int32) : aM := a_up (a_up (a_up m 19 b k ch) 20 b k p) 22 b k (-1)
def cRem (m : aM) (b k : Nat) : aM := a_up (a_up m 19 b k (-1)) 22 b k (-1)
def rchL (k : Int32) : Int32 := if k < 2 then 1 + 2 * k else if k = 2 then 6 else 10
def radL (k : Int32) : Int32 := if k < 3 then (k + 2) * (k + 2) else 14 * k - 16
def lowI (v n : Int32) : Int32 := iR (v &&& 2147483647) n
theorem sq_c (a b : Int32) : (a - b) * (a - b) = (b - a) * (b - a) := by
  have h : b - a = -(a - b) := Int32.neg_sub.symm
  rw [h, Int32.neg_mul, Int32.mul_neg, Int32.neg_neg]
theorem n_bP {p : Prop} [Decidable p] {m : aM} {P : Int32 → aM → Prop} (h : P (bP (¬ p)) m) : if p then P 0 m else P 1 m := by
  by_cases hp : p
  · rw [if_pos hp]; rwa [bP_f (fun z => z hp)] at h
  · rw [if_neg hp]; rwa [bP_t hp] at h
/-- VacantAir.isOutside -/
theorem T_93 {x0 x1 x2 : Int32} {m : aM} {Q : Int32 → aM → Prop} (h :
   if x0 < x1 then
    Q 1 m
   else
    if x2 < x0 then
     Q 1 m
    else
     Q 0 m
  ) : Mi 93 [.inl x0, .inl x1, .inl x2] m Q := by
  refine Mi_in ML_93 (show Rg 93 0 [some (.inl x0), some (.inl x1), some (.inl x2)] [] m (qI Q) from ?_)
  refine r_iload_n L_93_0 rfl ?_
  refine r_iload_n L_93_1 rfl ?_
  refine r_icmp L_93_2 rfl (i_mono h (fun c1 h => ?_) (fun c1 h => ?_))
  · refine r_iconst L_93_10 kI_1 ?_
    refine r_goto L_93_11 ?_
    exact r_zret L_93_15 RT_93 (Or.inr rfl) h
  · refine r_iload_n L_93_5 rfl ?_
    refine r_iload_n L_93_6 rfl ?_
    refine r_icmpn L_93_7 cc_le (i_mono h (fun c2 h => ?_) (fun c2 h => ?_))
    · refine r_iconst L_93_10 kI_1 ?_
      refine r_goto L_93_11 ?_
      exact r_zret L_93_15 RT_93 (Or.inr rfl) h
    · refine r_iconst L_93_14 kI_0 ?_
      exact r_zret L_93_15 RT_93 (Or.inl rfl) h
theorem V_93 {x0 x1 x2 : Int32} {m : aM} {P : Int32 → aM → Prop} (h : P (bP (x0 < x1 ∨ x2 < x0)) m) : Mi 93 [.inl x0, .inl x1, .inl x2] m P := by
  refine T_93 ?_
  repeat' (first | (refine And.intro (by first | assumption | exact g0 (by assumption)) ?_) | split)
  all_goals first
    | exact h
    | (rw [bP_t (by clear h; simp_all only [not_true_eq_false, not_false_eq_true, and_true, true_and, and_false, false_and, or_true, true_or, or_false, false_or, and_self, or_self])] at h; exact h)
    | (rw [bP_f (by clear h; simp_all only [not_true_eq_false, not_false_eq_true, and_true, true_and, and_false, false_and, or_true, true_or, or_false, false_or, and_self, or_self])] at h; exact h)
/-- VacantAir.isNoPlace -/
theorem T_94 {x0 x1 : Int32} {m : aM} {Q : Int32 → aM → Prop} (h :
   if x0 < 0 ∨ 99 < x0 then
    Q 1 m
   else
    if x1 < 0 ∨ 99 < x1 then
     Q 1 m
    else
     Q 0 m
  ) : Mi 94 [.inl x0, .inl x1] m Q := by
  refine Mi_in ML_94 (show Rg 94 0 [some (.inl x0), some (.inl x1)] [] m (qI Q) from ?_)
  refine r_iload_n L_94_0 rfl ?_
  refine r_iconst L_94_1 kI_0 ?_
  refine r_bipush L_94_2 kB_99 ?_
  refine r_cs L_94_4 (by decide) rfl (V_93 ?_)
  refine r_ifneP L_94_7 (i_mono h (fun c1 h => ?_) (fun c1 h => ?_))
  · refine r_iconst L_94_20 kI_1 ?_
    refine r_goto L_94_21 ?_
    exact r_zret L_94_25 RT_94 (Or.inr rfl) h
  · refine r_iload_n L_94_10 rfl ?_
    refine r_iconst L_94_11 kI_0 ?_
    refine r_bipush L_94_12 kB_99 ?_
    refine r_cs L_94_14 (by decide) rfl (V_93 ?_)
    refine r_ifeqP L_94_17 (i_mono h (fun c2 h => ?_) (fun c2 h => ?_))
    · refine r_iconst L_94_20 kI_1 ?_
      refine r_goto L_94_21 ?_
      exact r_zret L_94_25 RT_94 (Or.inr rfl) h
    · refine r_iconst L_94_24 kI_0 ?_
      exact r_zret L_94_25 RT_94 (Or.inl rfl) h
theorem V_94 {x0 x1 : Int32} {m : aM} {P : Int32 → aM → Prop} (h : P (bP ((x0 < 0 ∨ 99 < x0) ∨ (x1 < 0 ∨ 99 < x1))) m) : Mi 94 [.inl x0, .inl x1] m P := by
  refine T_94 ?_
  repeat' (first | (refine And.intro (by first | assumption | exact g0 (by assumption)) ?_) | split)
  all_goals first
    | exact h
    | (rw [bP_t (by clear h; simp_all only [not_true_eq_false, not_false_eq_true, and_true, true_and, and_false, false_and, or_true, true_or, or_false, false_or, and_self, or_self])] at h; exact h)
    | (rw [bP_f (by clear h; simp_all only [not_true_eq_false, not_false_eq_true, and_true, true_and, and_false, false_and, or_true, true_or, or_false, false_or, and_self, or_self])] at h; exact h)
/-- VacantAir.isWithin -/
theorem T_95 {x0 x1 x2 : Int32} {m : aM} {Q : Int32 → aM → Prop} (h :
   if (x2 * x2) < ((x0 * x0) + (x1 * x1)) then
    Q 0 m
   else
    Q 1 m
  ) : Mi 95 [.inl x0, .inl x1, .inl x2] m Q := by
  refine Mi_in ML_95 (show Rg 95 0 [some (.inl x0), some (.inl x1), some (.inl x2)] [] m (qI Q) from ?_)
  refine r_iload_n L_95_0 rfl ?_
  refine r_iload_n L_95_1 rfl ?_
  refine r_imul L_95_2 ?_
  refine r_iload_n L_95_3 rfl ?_
  refine r_iload_n L_95_4 rfl ?_
  refine r_imul L_95_5 ?_
  refine r_iadd L_95_6 ?_
  refine r_iload_n L_95_7 rfl ?_
  refine r_iload_n L_95_8 rfl ?_
  refine r_imul L_95_9 ?_
  refine r_icmp L_95_10 rfl (i_mono h (fun c1 h => ?_) (fun c1 h => ?_))
  · refine r_iconst L_95_17 kI_0 ?_
    exact r_zret L_95_18 RT_95 (Or.inl rfl) h
  · refine r_iconst L_95_13 kI_1 ?_
    refine r_goto L_95_14 ?_
    exact r_zret L_95_18 RT_95 (Or.inr rfl) h
theorem V_95 {x0 x1 x2 : Int32} {m : aM} {P : Int32 → aM → Prop} (h : P (bP (¬ x2 * x2 < x0 * x0 + x1 * x1)) m) : Mi 95 [.inl x0, .inl x1, .inl x2] m P := by
  refine T_95 ?_
  repeat' (first | (refine And.intro (by first | assumption | exact g0 (by assumption)) ?_) | split)
  all_goals first
    | exact h
    | (rw [bP_t (by clear h; simp_all only [not_true_eq_false, not_false_eq_true, and_true, true_and, and_false, false_and, or_true, true_or, or_false, false_or, and_self, or_self])] at h; exact h)
    | (rw [bP_f (by clear h; simp_all only [not_true_eq_false, not_false_eq_true, and_true, true_and, and_false, false_and, or_true, true_or, or_false, false_or, and_self, or_self])] at h; exact h)
/-- Devices.has -/
theorem T_9 {b : Nat} {x1 : Int32} {m : aM} {Q : Int32 → aM → Prop} (h :
   if x1 < 0 then
    Q 0 m
   else
    if x1 < (m 3 b 10) then
     Q 1 m
    else
     Q 0 m
  ) : Mi 9 [.inr (3, b), .inl x1] m Q := by
  refine Mi_in ML_9 (show Rg 9 0 [some (.inr (3, b)), some (.inl x1)] [] m (qI Q) from ?_)
  refine r_iload_n L_9_0 rfl ?_
  refine r_if L_9_1 rfl (i_mono h (fun c1 h => ?_) (fun c1 h => ?_))
  · refine r_iconst L_9_16 kI_0 ?_
    exact r_zret L_9_17 RT_9 (Or.inl rfl) h
  · refine r_iload_n L_9_4 rfl ?_
    refine r_aload_n L_9_5 rfl ?_
    refine r_geti L_9_6 rfl rfl ?_
    refine r_icmpn L_9_9 cc_ge (i_mono h (fun c2 h => ?_) (fun c2 h => ?_))
    · refine r_iconst L_9_12 kI_1 ?_
      refine r_goto L_9_13 ?_
      exact r_zret L_9_17 RT_9 (Or.inr rfl) h
    · refine r_iconst L_9_16 kI_0 ?_
      exact r_zret L_9_17 RT_9 (Or.inl rfl) h
theorem V_9 {b : Nat} {x1 : Int32} {m : aM} {P : Int32 → aM → Prop} (h : P (bP (¬ x1 < 0 ∧ x1 < m 3 b 10)) m) : Mi 9 [.inr (3, b), .inl x1] m P := by
  refine T_9 ?_
  repeat' (first | (refine And.intro (by first | assumption | exact g0 (by assumption)) ?_) | split)
  all_goals first
    | exact h
    | (rw [bP_t (by clear h; simp_all only [not_true_eq_false, not_false_eq_true, and_true, true_and, and_false, false_and, or_true, true_or, or_false, false_or, and_self, or_self])] at h; exact h)
    | (rw [bP_f (by clear h; simp_all only [not_true_eq_false, not_false_eq_true, and_true, true_and, and_false, false_and, or_true, true_or, or_false, false_or, and_self, or_self])] at h; exact h)
/-- Events.has -/
theorem T_23 {b : Nat} {x1 : Int32} {m : aM} {Q : Int32 → aM → Prop} (h :
   if x1 < 0 then
    Q 0 m
   else
    if x1 < (m 2 b 7) then
     Q 1 m
    else
     Q 0 m
  ) : Mi 23 [.inr (2, b), .inl x1] m Q := by
  refine Mi_in ML_23 (show Rg 23 0 [some (.inr (2, b)), some (.inl x1)] [] m (qI Q) from ?_)
  refine r_iload_n L_23_0 rfl ?_
  refine r_if L_23_1 rfl (i_mono h (fun c1 h => ?_) (fun c1 h => ?_))
  · refine r_iconst L_23_16 kI_0 ?_
    exact r_zret L_23_17 RT_23 (Or.inl rfl) h
  · refine r_iload_n L_23_4 rfl ?_
    refine r_aload_n L_23_5 rfl ?_
    refine r_geti L_23_6 rfl rfl ?_
    refine r_icmpn L_23_9 cc_ge (i_mono h (fun c2 h => ?_) (fun c2 h => ?_))
    · refine r_iconst L_23_12 kI_1 ?_
      refine r_goto L_23_13 ?_
      exact r_zret L_23_17 RT_23 (Or.inr rfl) h
    · refine r_iconst L_23_16 kI_0 ?_
      exact r_zret L_23_17 RT_23 (Or.inl rfl) h
theorem V_23 {b : Nat} {x1 : Int32} {m : aM} {P : Int32 → aM → Prop} (h : P (bP (¬ x1 < 0 ∧ x1 < m 2 b 7)) m) : Mi 23 [.inr (2, b), .inl x1] m P := by
  refine T_23 ?_
  repeat' (first | (refine And.intro (by first | assumption | exact g0 (by assumption)) ?_) | split)
  all_goals first
    | exact h
    | (rw [bP_t (by clear h; simp_all only [not_true_eq_false, not_false_eq_true, and_true, true_and, and_false, false_and, or_true, true_or, or_false, false_or, and_self, or_self])] at h; exact h)
    | (rw [bP_f (by clear h; simp_all only [not_true_eq_false, not_false_eq_true, and_true, true_and, and_false, false_and, or_true, true_or, or_false, false_or, and_self, or_self])] at h; exact h)
/-- Stations.has -/
theorem T_56 {b : Nat} {x1 : Int32} {m : aM} {Q : Int32 → aM → Prop} (h :
   if x1 < 0 then
    Q 0 m
   else
    if x1 < (m 1 b 5) then
     Q 1 m
    else
     Q 0 m
  ) : Mi 56 [.inr (1, b), .inl x1] m Q := by
  refine Mi_in ML_56 (show Rg 56 0 [some (.inr (1, b)), some (.inl x1)] [] m (qI Q) from ?_)
  refine r_iload_n L_56_0 rfl ?_
  refine r_if L_56_1 rfl (i_mono h (fun c1 h => ?_) (fun c1 h => ?_))
  · refine r_iconst L_56_16 kI_0 ?_
    exact r_zret L_56_17 RT_56 (Or.inl rfl) h
  · refine r_iload_n L_56_4 rfl ?_
    refine r_aload_n L_56_5 rfl ?_
    refine r_geti L_56_6 rfl rfl ?_
    refine r_icmpn L_56_9 cc_ge (i_mono h (fun c2 h => ?_) (fun c2 h => ?_))
    · refine r_iconst L_56_12 kI_1 ?_
      refine r_goto L_56_13 ?_
      exact r_zret L_56_17 RT_56 (Or.inr rfl) h
    · refine r_iconst L_56_16 kI_0 ?_
      exact r_zret L_56_17 RT_56 (Or.inl rfl) h
theorem V_56 {b : Nat} {x1 : Int32} {m : aM} {P : Int32 → aM → Prop} (h : P (bP (¬ x1 < 0 ∧ x1 < m 1 b 5)) m) : Mi 56 [.inr (1, b), .inl x1] m P := by
  refine T_56 ?_
  repeat' (first | (refine And.intro (by first | assumption | exact g0 (by assumption)) ?_) | split)
  all_goals first
    | exact h
    | (rw [bP_t (by clear h; simp_all only [not_true_eq_false, not_false_eq_true, and_true, true_and, and_false, false_and, or_true, true_or, or_false, false_or, and_self, or_self])] at h; exact h)
    | (rw [bP_f (by clear h; simp_all only [not_true_eq_false, not_false_eq_true, and_true, true_and, and_false, false_and, or_true, true_or, or_false, false_or, and_self, or_self])] at h; exact h)
/-- Devices.hasLease -/
theorem T_10 {b : Nat} {x1 : Int32} {m : aM} {Q : Int32 → aM → Prop} (h :
   a_in x1 16 = true ∧
    if (m 19 b x1.toNatClampNeg) = (-1) then
     Q 0 m
    else
     Q 1 m
  ) : Mi 10 [.inr (3, b), .inl x1] m Q := by
  refine Mi_in ML_10 (show Rg 10 0 [some (.inr (3, b)), some (.inl x1)] [] m (qI Q) from ?_)
  refine r_aload_n L_10_0 rfl ?_
  refine r_getr (c' := 19) (d' := b) L_10_1 rfl rfl ?_
  refine r_iload_n L_10_4 rfl ?_
  obtain ⟨g1, h⟩ := h
  refine r_iald (N := 16) (j := x1.toNatClampNeg) L_10_5 (by decide +kernel) rfl g1 rfl ?_
  refine r_iconst L_10_6 kI_m1 ?_
  refine r_icmp L_10_7 rfl (i_mono h (fun c2 h => ?_) (fun c2 h => ?_))
  · refine r_iconst L_10_14 kI_0 ?_
    exact r_zret L_10_15 RT_10 (Or.inl rfl) h
  · refine r_iconst L_10_10 kI_1 ?_
    refine r_goto L_10_11 ?_
    exact r_zret L_10_15 RT_10 (Or.inr rfl) h
theorem V_10 {b : Nat} {x1 : Int32} {m : aM} {P : Int32 → aM → Prop} (g0 : a_in x1 16 = true) (h : P (bP (¬ m 19 b x1.toNatClampNeg = (-1))) m) : Mi 10 [.inr (3, b), .inl x1] m P := by
  refine T_10 ?_
  repeat' (first | (refine And.intro (by first | assumption | exact g0 (by assumption)) ?_) | split)
  all_goals first
    | exact h
    | (rw [bP_t (by clear h; simp_all only [not_true_eq_false, not_false_eq_true, and_true, true_and, and_false, false_and, or_true, true_or, or_false, false_or, and_self, or_self])] at h; exact h)
    | (rw [bP_f (by clear h; simp_all only [not_true_eq_false, not_false_eq_true, and_true, true_and, and_false, false_and, or_true, true_or, or_false, false_or, and_self, or_self])] at h; exact h)
/-- Devices.hasNotice -/
theorem T_11 {b : Nat} {x1 : Int32} {m : aM} {Q : Int32 → aM → Prop} (h :
   a_in x1 16 = true ∧
    if (m 22 b x1.toNatClampNeg) = (-1) then
     Q 0 m
    else
     Q 1 m
  ) : Mi 11 [.inr (3, b), .inl x1] m Q := by
  refine Mi_in ML_11 (show Rg 11 0 [some (.inr (3, b)), some (.inl x1)] [] m (qI Q) from ?_)
  refine r_aload_n L_11_0 rfl ?_
  refine r_getr (c' := 22) (d' := b) L_11_1 rfl rfl ?_
  refine r_iload_n L_11_4 rfl ?_
  obtain ⟨g1, h⟩ := h
  refine r_iald (N := 16) (j := x1.toNatClampNeg) L_11_5 (by decide +kernel) rfl g1 rfl ?_
  refine r_iconst L_11_6 kI_m1 ?_
  refine r_icmp L_11_7 rfl (i_mono h (fun c2 h => ?_) (fun c2 h => ?_))
  · refine r_iconst L_11_14 kI_0 ?_
    exact r_zret L_11_15 RT_11 (Or.inl rfl) h
  · refine r_iconst L_11_10 kI_1 ?_
    refine r_goto L_11_11 ?_
    exact r_zret L_11_15 RT_11 (Or.inr rfl) h
theorem V_11 {b : Nat} {x1 : Int32} {m : aM} {P : Int32 → aM → Prop} (g0 : a_in x1 16 = true) (h : P (bP (¬ m 22 b x1.toNatClampNeg = (-1))) m) : Mi 11 [.inr (3, b), .inl x1] m P := by
  refine T_11 ?_
  repeat' (first | (refine And.intro (by first | assumption | exact g0 (by assumption)) ?_) | split)
  all_goals first
    | exact h
    | (rw [bP_t (by clear h; simp_all only [not_true_eq_false, not_false_eq_true, and_true, true_and, and_false, false_and, or_true, true_or, or_false, false_or, and_self, or_self])] at h; exact h)
    | (rw [bP_f (by clear h; simp_all only [not_true_eq_false, not_false_eq_true, and_true, true_and, and_false, false_and, or_true, true_or, or_false, false_or, and_self, or_self])] at h; exact h)
/-- Devices.putOn -/
theorem T_12 {b : Nat} {x1 x2 x3 : Int32} {m : aM} {Q : aM → Prop} (h :
   (a_in x1 16 = true ∧
    (∀ m2, m2 = a_up m 19 b x1.toNatClampNeg x2 →
    (∀ m3, m3 = a_up m2 20 b x1.toNatClampNeg x3 →
    (∀ m4, m4 = a_up m3 22 b x1.toNatClampNeg (-1) →
    Q m4))))
  ) : Mv 12 [.inr (3, b), .inl x1, .inl x2, .inl x3] m Q := by
  refine Mv_in ML_12 (show Rg 12 0 [some (.inr (3, b)), some (.inl x1), some (.inl x2), some (.inl x3)] [] m (qV Q) from ?_)
  refine r_aload_n L_12_0 rfl ?_
  refine r_getr (c' := 19) (d' := b) L_12_1 rfl rfl ?_
  refine r_iload_n L_12_4 rfl ?_
  refine r_iload_n L_12_5 rfl ?_
  obtain ⟨g1, h⟩ := h
  refine r_iast (N := 16) (j := x1.toNatClampNeg) L_12_6 (by decide +kernel) rfl g1 rfl ?_
  refine r_nm fun m2 em2 => ?_
  have h := h m2 em2
  refine r_aload_n L_12_7 rfl ?_
  refine r_getr (c' := 20) (d' := b) L_12_8 rfl rfl ?_
  refine r_iload_n L_12_11 rfl ?_
  refine r_iload_n L_12_12 rfl ?_
  refine r_iast (N := 16) (j := x1.toNatClampNeg) L_12_13 (by decide +kernel) rfl g1 rfl ?_
  refine r_nm fun m3 em3 => ?_
  have h := h m3 em3
  refine r_aload_n L_12_14 rfl ?_
  refine r_getr (c' := 22) (d' := b) L_12_15 rfl rfl ?_
  refine r_iload_n L_12_18 rfl ?_
  refine r_iconst L_12_19 kI_m1 ?_
  refine r_iast (N := 16) (j := x1.toNatClampNeg) L_12_20 (by decide +kernel) rfl g1 rfl ?_
  refine r_nm fun m4 em4 => ?_
  have h := h m4 em4
  exact r_vret L_12_21 RT_12 h
theorem V_12 {b : Nat} {x1 x2 x3 : Int32} {m : aM} {P : aM → Prop} (g0 : a_in x1 16 = true) (h : P (cPutOn m b x1.toNatClampNeg x2 x3)) : Mv 12 [.inr (3, b), .inl x1, .inl x2, .inl x3] m P := by
  exact T_12 ⟨g0, fun m1 e1 m2 e2 m3 e3 => by subst e1 e2 e3; exact h⟩
/-- Devices.removeLease -/
theorem T_13 {b : Nat} {x1 : Int32} {m : aM} {Q : aM → Prop} (h :
   (a_in x1 16 = true ∧
    (∀ m2, m2 = a_up m 19 b x1.toNatClampNeg (-1) →
    (∀ m3, m3 = a_up m2 22 b x1.toNatClampNeg (-1) →
    Q m3)))
  ) : Mv 13 [.inr (3, b), .inl x1] m Q := by
  refine Mv_in ML_13 (show Rg 13 0 [some (.inr (3, b)), some (.inl x1)] [] m (qV Q) from ?_)
  refine r_aload_n L_13_0 rfl ?_
  refine r_getr (c' := 19) (d' := b) L_13_1 rfl rfl ?_
  refine r_iload_n L_13_4 rfl ?_
  refine r_iconst L_13_5 kI_m1 ?_
  obtain ⟨g1, h⟩ := h
  refine r_iast (N := 16) (j := x1.toNatClampNeg) L_13_6 (by decide +kernel) rfl g1 rfl ?_
  refine r_nm fun m2 em2 => ?_
  have h := h m2 em2
  refine r_aload_n L_13_7 rfl ?_
  refine r_getr (c' := 22) (d' := b) L_13_8 rfl rfl ?_
  refine r_iload_n L_13_11 rfl ?_
  refine r_iconst L_13_12 kI_m1 ?_
  refine r_iast (N := 16) (j := x1.toNatClampNeg) L_13_13 (by decide +kernel) rfl g1 rfl ?_
  refine r_nm fun m3 em3 => ?_
  have h := h m3 em3
  exact r_vret L_13_14 RT_13 h
theorem V_13 {b : Nat} {x1 : Int32} {m : aM} {P : aM → Prop} (g0 : a_in x1 16 = true) (h : P (cRem m b x1.toNatClampNeg)) : Mv 13 [.inr (3, b), .inl x1] m P := by
  exact T_13 ⟨g0, fun m1 e1 m2 e2 => by subst e1 e2; exact h⟩
/-- Events.isOn -/
theorem T_24 {b : Nat} {x1 x2 : Int32} {m : aM} {Q : Int32 → aM → Prop} (h :
   a_in x1 8 = true ∧
    if (m 15 b x1.toNatClampNeg) = 0 then
     (if x2 < (m 13 b x1.toNatClampNeg) then
      Q 0 m
     else
      if x2 < (m 14 b x1.toNatClampNeg) then
       Q 1 m
      else
       Q 0 m)
    else
     Q 0 m
  ) : Mi 24 [.inr (2, b), .inl x1, .inl x2] m Q := by
  refine Mi_in ML_24 (show Rg 24 0 [some (.inr (2, b)), some (.inl x1), some (.inl x2)] [] m (qI Q) from ?_)
  refine r_aload_n L_24_0 rfl ?_
  refine r_getr (c' := 15) (d' := b) L_24_1 rfl rfl ?_
  refine r_iload_n L_24_4 rfl ?_
  obtain ⟨g1, h⟩ := h
  refine r_iald (N := 8) (j := x1.toNatClampNeg) L_24_5 (by decide +kernel) rfl g1 rfl ?_
  refine r_ifn L_24_6 rfl (i_mono h (fun c2 h => ?_) (fun c2 h => ?_))
  · refine r_aload_n L_24_9 rfl ?_
    refine r_getr (c' := 13) (d' := b) L_24_10 rfl rfl ?_
    refine r_iload_n L_24_13 rfl ?_
    refine r_iald (N := 8) (j := x1.toNatClampNeg) L_24_14 (by decide +kernel) rfl g1 rfl ?_
    refine r_iload_n L_24_15 rfl ?_
    refine r_icmp L_24_16 rfl (i_mono h (fun c3 h => ?_) (fun c3 h => ?_))
    · refine r_iconst L_24_33 kI_0 ?_
      exact r_zret L_24_34 RT_24 (Or.inl rfl) h
    · refine r_iload_n L_24_19 rfl ?_
      refine r_aload_n L_24_20 rfl ?_
      refine r_getr (c' := 14) (d' := b) L_24_21 rfl rfl ?_
      refine r_iload_n L_24_24 rfl ?_
      refine r_iald (N := 8) (j := x1.toNatClampNeg) L_24_25 (by decide +kernel) rfl g1 rfl ?_
      refine r_icmpn L_24_26 cc_ge (i_mono h (fun c4 h => ?_) (fun c4 h => ?_))
      · refine r_iconst L_24_29 kI_1 ?_
        refine r_goto L_24_30 ?_
        exact r_zret L_24_34 RT_24 (Or.inr rfl) h
      · refine r_iconst L_24_33 kI_0 ?_
        exact r_zret L_24_34 RT_24 (Or.inl rfl) h
  · refine r_iconst L_24_33 kI_0 ?_
    exact r_zret L_24_34 RT_24 (Or.inl rfl) h
theorem V_24 {b : Nat} {x1 x2 : Int32} {m : aM} {P : Int32 → aM → Prop} (g0 : a_in x1 8 = true) (h : P (bP (m 15 b x1.toNatClampNeg = 0 ∧ ¬ x2 < m 13 b x1.toNatClampNeg ∧ x2 < m 14 b x1.toNatClampNeg)) m) : Mi 24 [.inr (2, b), .inl x1, .inl x2] m P := by
  refine T_24 ?_
  repeat' (first | (refine And.intro (by first | assumption | exact g0 (by assumption)) ?_) | split)
  all_goals first
    | exact h
    | (rw [bP_t (by clear h; simp_all only [not_true_eq_false, not_false_eq_true, and_true, true_and, and_false, false_and, or_true, true_or, or_false, false_or, and_self, or_self])] at h; exact h)
    | (rw [bP_f (by clear h; simp_all only [not_true_eq_false, not_false_eq_true, and_true, true_and, and_false, false_and, or_true, true_or, or_false, false_or, and_self, or_self])] at h; exact h)
/-- State.asksNow -/
theorem T_45 {b : Nat} {x1 : Int32} {m : aM} {Q : Int32 → aM → Prop} (h :
   ¬ (m 26 b 1) = 0 ∧
    if (iR ((m 0 b 4) + x1) (m 26 b 1)) = 0 then
     Q 1 m
    else
     Q 0 m
  ) : Mi 45 [.inr (0, b), .inl x1] m Q := by
  refine Mi_in ML_45 (show Rg 45 0 [some (.inr (0, b)), some (.inl x1)] [] m (qI Q) from ?_)
  refine r_aload_n L_45_0 rfl ?_
  refine r_geti L_45_1 rfl rfl ?_
  refine r_iload_n L_45_4 rfl ?_
  refine r_iadd L_45_5 ?_
  refine r_aload_n L_45_6 rfl ?_
  refine r_getr (c' := 26) (d' := b) L_45_7 rfl rfl ?_
  refine r_iconst L_45_10 kI_1 ?_
  refine r_iald (N := 3) (j := 1) L_45_11 (by decide +kernel) rfl (by decide +kernel) (by decide +kernel) ?_
  obtain ⟨g1, h⟩ := h
  refine r_irem L_45_12 g1 ?_
  refine r_ifn L_45_13 rfl (i_mono h (fun c2 h => ?_) (fun c2 h => ?_))
  · refine r_iconst L_45_16 kI_1 ?_
    refine r_goto L_45_17 ?_
    exact r_zret L_45_21 RT_45 (Or.inr rfl) h
  · refine r_iconst L_45_20 kI_0 ?_
    exact r_zret L_45_21 RT_45 (Or.inl rfl) h
theorem V_45 {b : Nat} {x1 : Int32} {m : aM} {P : Int32 → aM → Prop} (g0 : ¬ m 26 b 1 = 0) (h : P (bP (iR (m 0 b 4 + x1) (m 26 b 1) = 0)) m) : Mi 45 [.inr (0, b), .inl x1] m P := by
  refine T_45 ?_
  repeat' (first | (refine And.intro (by first | assumption | exact g0 (by assumption)) ?_) | split)
  all_goals first
    | exact h
    | (rw [bP_t (by clear h; simp_all only [not_true_eq_false, not_false_eq_true, and_true, true_and, and_false, false_and, or_true, true_or, or_false, false_or, and_self, or_self])] at h; exact h)
    | (rw [bP_f (by clear h; simp_all only [not_true_eq_false, not_false_eq_true, and_true, true_and, and_false, false_and, or_true, true_or, or_false, false_or, and_self, or_self])] at h; exact h)
/-- Law.low -/
theorem T_98 {x0 x1 : Int32} {m : aM} {Q : Int32 → aM → Prop} (h :
   ¬ x1 = 0 ∧
    Q (iR (x0 &&& 2147483647) x1) m
  ) : Mi 98 [.inl x0, .inl x1] m Q := by
  refine Mi_in ML_98 (show Rg 98 0 [some (.inl x0), some (.inl x1)] [] m (qI Q) from ?_)
  refine r_iload_n L_98_0 rfl ?_
  refine r_ldc L_98_1 kN_2147483647 ?_
  refine r_iand L_98_3 ?_
  refine r_iload_n L_98_4 rfl ?_
  obtain ⟨g1, h⟩ := h
  refine r_irem L_98_5 g1 ?_
  exact r_iret L_98_6 RT_98 h
theorem V_98 {x0 x1 : Int32} {m : aM} {P : Int32 → aM → Prop} (g0 : ¬ x1 = 0) (h : P (lowI x0 x1) m) : Mi 98 [.inl x0, .inl x1] m P := by
  exact T_98 ⟨g0, h⟩
/-- Law.reach -/
theorem T_99 {x0 : Int32} {m : aM} {Q : Int32 → aM → Prop} (h :
   if x0 < 2 then
    Q (1 + (2 * x0)) m
   else
    if x0 = 2 then
     Q 6 m
    else
     Q 10 m
  ) : Mi 99 [.inl x0] m Q := by
  refine Mi_in ML_99 (show Rg 99 0 [some (.inl x0)] [] m (qI Q) from ?_)
  refine r_iload_n L_99_0 rfl ?_
  refine r_iconst L_99_1 kI_2 ?_
  refine r_icmpn L_99_2 cc_ge (i_mono h (fun c1 h => ?_) (fun c1 h => ?_))
  · refine r_iconst L_99_5 kI_1 ?_
    refine r_iconst L_99_6 kI_2 ?_
    refine r_iload_n L_99_7 rfl ?_
    refine r_imul L_99_8 ?_
    refine r_iadd L_99_9 ?_
    refine r_goto L_99_10 ?_
    exact r_iret L_99_25 RT_99 h
  · refine r_iload_n L_99_13 rfl ?_
    refine r_iconst L_99_14 kI_2 ?_
    refine r_icmpn L_99_15 rfl (i_mono h (fun c2 h => ?_) (fun c2 h => ?_))
    · refine r_bipush L_99_18 kB_6 ?_
      refine r_goto L_99_20 ?_
      exact r_iret L_99_25 RT_99 h
    · refine r_bipush L_99_23 kB_10 ?_
      exact r_iret L_99_25 RT_99 h
theorem V_99 {x0 : Int32} {m : aM} {P : Int32 → aM → Prop} (h : P (rchL x0) m) : Mi 99 [.inl x0] m P := by
  refine T_99 ?_
  unfold rchL at h
  (repeat' split) <;> simp_all
/-- Law.radius -/
theorem T_100 {x0 : Int32} {m : aM} {Q : Int32 → aM → Prop} (h :
   if x0 < 3 then
    Q ((x0 + 2) * (x0 + 2)) m
   else
    Q ((14 * x0) - 16) m
  ) : Mi 100 [.inl x0] m Q := by
  refine Mi_in ML_100 (show Rg 100 0 [some (.inl x0)] [] m (qI Q) from ?_)
  refine r_iload_n L_100_0 rfl ?_
  refine r_iconst L_100_1 kI_3 ?_
  refine r_icmpn L_100_2 cc_ge (i_mono h (fun c1 h => ?_) (fun c1 h => ?_))
  · refine r_iload_n L_100_5 rfl ?_
    refine r_iconst L_100_6 kI_2 ?_
    refine r_iadd L_100_7 ?_
    refine r_iload_n L_100_8 rfl ?_
    refine r_iconst L_100_9 kI_2 ?_
    refine r_iadd L_100_10 ?_
    refine r_imul L_100_11 ?_
    refine r_goto L_100_12 ?_
    exact r_iret L_100_22 RT_100 h
  · refine r_bipush L_100_15 kB_14 ?_
    refine r_iload_n L_100_17 rfl ?_
    refine r_imul L_100_18 ?_
    refine r_bipush L_100_19 kB_16 ?_
    refine r_isub L_100_21 ?_
    exact r_iret L_100_22 RT_100 h
theorem V_100 {x0 : Int32} {m : aM} {P : Int32 → aM → Prop} (h : P (radL x0) m) : Mi 100 [.inl x0] m P := by
  refine T_100 ?_
  unfold radL at h
  (repeat' split) <;> simp_all
/-- Law.near -/
theorem T_101 {x0 x1 x2 x3 x4 : Int32} {m : aM} {Q : Int32 → aM → Prop} (h :
   if x2 < x0 then
    (if x3 < x1 then
     (if (x4 * x4) < (((x0 - x2) * (x0 - x2)) + ((x1 - x3) * (x1 - x3))) then
      Q 0 m
     else
      Q 1 m)
    else
     if (x4 * x4) < (((x0 - x2) * (x0 - x2)) + ((x3 - x1) * (x3 - x1))) then
      Q 0 m
     else
      Q 1 m)
   else
    if x3 < x1 then
     (if (x4 * x4) < (((x2 - x0) * (x2 - x0)) + ((x1 - x3) * (x1 - x3))) then
      Q 0 m
     else
      Q 1 m)
    else
     if (x4 * x4) < (((x2 - x0) * (x2 - x0)) + ((x3 - x1) * (x3 - x1))) then
      Q 0 m
     else
      Q 1 m
  ) : Mi 101 [.inl x0, .inl x1, .inl x2, .inl x3, .inl x4] m Q := by
  refine Mi_in ML_101 (show Rg 101 0 [some (.inl x0), some (.inl x1), some (.inl x2), some (.inl x3), some (.inl x4), none, none] [] m (qI Q) from ?_)
  refine r_iload_n L_101_0 rfl ?_
  refine r_iload_n L_101_1 rfl ?_
  refine r_icmpn L_101_2 cc_le (i_mono h (fun c1 h => ?_) (fun c1 h => ?_))
  · refine r_iload_n L_101_5 rfl ?_
    refine r_iload_n L_101_6 rfl ?_
    refine r_isub L_101_7 ?_
    refine r_goto L_101_8 ?_
    refine r_istore (ls1 := [some (.inl x0), some (.inl x1), some (.inl x2), some (.inl x3), some (.inl x4), some (.inl (x0 - x2)), none]) L_101_14 (Nat.le_of_ble_eq_true rfl) rfl ?_
    refine r_iload_n L_101_16 rfl ?_
    refine r_iload_n L_101_17 rfl ?_
    refine r_icmpn L_101_18 cc_le (i_mono h (fun c2 h => ?_) (fun c2 h => ?_))
    · refine r_iload_n L_101_21 rfl ?_
      refine r_iload_n L_101_22 rfl ?_
      refine r_isub L_101_23 ?_
      refine r_goto L_101_24 ?_
      refine r_istore (ls1 := [some (.inl x0), some (.inl x1), some (.inl x2), some (.inl x3), some (.inl x4), some (.inl (x0 - x2)), some (.inl (x1 - x3))]) L_101_30 (Nat.le_of_ble_eq_true rfl) rfl ?_
      refine r_iload L_101_32 rfl ?_
      refine r_iload L_101_34 rfl ?_
      refine r_imul L_101_36 ?_
      refine r_iload L_101_37 rfl ?_
      refine r_iload L_101_39 rfl ?_
      refine r_imul L_101_41 ?_
      refine r_iadd L_101_42 ?_
      refine r_iload L_101_43 rfl ?_
      refine r_iload L_101_45 rfl ?_
      refine r_imul L_101_47 ?_
      refine r_icmp L_101_48 rfl (i_mono h (fun c3 h => ?_) (fun c3 h => ?_))
      · refine r_iconst L_101_55 kI_0 ?_
        exact r_zret L_101_56 RT_101 (Or.inl rfl) h
      · refine r_iconst L_101_51 kI_1 ?_
        refine r_goto L_101_52 ?_
        exact r_zret L_101_56 RT_101 (Or.inr rfl) h
    · refine r_iload_n L_101_27 rfl ?_
      refine r_iload_n L_101_28 rfl ?_
      refine r_isub L_101_29 ?_
      refine r_istore (ls1 := [some (.inl x0), some (.inl x1), some (.inl x2), some (.inl x3), some (.inl x4), some (.inl (x0 - x2)), some (.inl (x3 - x1))]) L_101_30 (Nat.le_of_ble_eq_true rfl) rfl ?_
      refine r_iload L_101_32 rfl ?_
      refine r_iload L_101_34 rfl ?_
      refine r_imul L_101_36 ?_
      refine r_iload L_101_37 rfl ?_
      refine r_iload L_101_39 rfl ?_
      refine r_imul L_101_41 ?_
      refine r_iadd L_101_42 ?_
      refine r_iload L_101_43 rfl ?_
      refine r_iload L_101_45 rfl ?_
      refine r_imul L_101_47 ?_
      refine r_icmp L_101_48 rfl (i_mono h (fun c4 h => ?_) (fun c4 h => ?_))
      · refine r_iconst L_101_55 kI_0 ?_
        exact r_zret L_101_56 RT_101 (Or.inl rfl) h
      · refine r_iconst L_101_51 kI_1 ?_
        refine r_goto L_101_52 ?_
        exact r_zret L_101_56 RT_101 (Or.inr rfl) h
  · refine r_iload_n L_101_11 rfl ?_
    refine r_iload_n L_101_12 rfl ?_
    refine r_isub L_101_13 ?_
    refine r_istore (ls1 := [some (.inl x0), some (.inl x1), some (.inl x2), some (.inl x3), some (.inl x4), some (.inl (x2 - x0)), none]) L_101_14 (Nat.le_of_ble_eq_true rfl) rfl ?_
    refine r_iload_n L_101_16 rfl ?_
    refine r_iload_n L_101_17 rfl ?_
    refine r_icmpn L_101_18 cc_le (i_mono h (fun c5 h => ?_) (fun c5 h => ?_))
    · refine r_iload_n L_101_21 rfl ?_
      refine r_iload_n L_101_22 rfl ?_
      refine r_isub L_101_23 ?_
      refine r_goto L_101_24 ?_
      refine r_istore (ls1 := [some (.inl x0), some (.inl x1), some (.inl x2), some (.inl x3), some (.inl x4), some (.inl (x2 - x0)), some (.inl (x1 - x3))]) L_101_30 (Nat.le_of_ble_eq_true rfl) rfl ?_
      refine r_iload L_101_32 rfl ?_
      refine r_iload L_101_34 rfl ?_
      refine r_imul L_101_36 ?_
      refine r_iload L_101_37 rfl ?_
      refine r_iload L_101_39 rfl ?_
      refine r_imul L_101_41 ?_
      refine r_iadd L_101_42 ?_
      refine r_iload L_101_43 rfl ?_
      refine r_iload L_101_45 rfl ?_
      refine r_imul L_101_47 ?_
      refine r_icmp L_101_48 rfl (i_mono h (fun c6 h => ?_) (fun c6 h => ?_))
      · refine r_iconst L_101_55 kI_0 ?_
        exact r_zret L_101_56 RT_101 (Or.inl rfl) h
      · refine r_iconst L_101_51 kI_1 ?_
        refine r_goto L_101_52 ?_
        exact r_zret L_101_56 RT_101 (Or.inr rfl) h
    · refine r_iload_n L_101_27 rfl ?_
      refine r_iload_n L_101_28 rfl ?_
      refine r_isub L_101_29 ?_
      refine r_istore (ls1 := [some (.inl x0), some (.inl x1), some (.inl x2), some (.inl x3), some (.inl x4), some (.inl (x2 - x0)), some (.inl (x3 - x1))]) L_101_30 (Nat.le_of_ble_eq_true rfl) rfl ?_
      refine r_iload L_101_32 rfl ?_
      refine r_iload L_101_34 rfl ?_
      refine r_imul L_101_36 ?_
      refine r_iload L_101_37 rfl ?_
      refine r_iload L_101_39 rfl ?_
      refine r_imul L_101_41 ?_
      refine r_iadd L_101_42 ?_
      refine r_iload L_101_43 rfl ?_
      refine r_iload L_101_45 rfl ?_
      refine r_imul L_101_47 ?_
      refine r_icmp L_101_48 rfl (i_mono h (fun c7 h => ?_) (fun c7 h => ?_))
      · refine r_iconst L_101_55 kI_0 ?_
        exact r_zret L_101_56 RT_101 (Or.inl rfl) h
      · refine r_iconst L_101_51 kI_1 ?_
        refine r_goto L_101_52 ?_
        exact r_zret L_101_56 RT_101 (Or.inr rfl) h
theorem V_101 {x0 x1 x2 x3 x4 : Int32} {m : aM} {P : Int32 → aM → Prop} (h : P (bP (nearP x0 x1 x2 x3 x4)) m) : Mi 101 [.inl x0, .inl x1, .inl x2, .inl x3, .inl x4] m P := by
  refine T_101 ?_
  unfold nearP at h
  split <;> split
  · refine n_bP h
  · rw [sq_c x1 x3] at h; refine n_bP h
  · rw [sq_c x0 x2] at h; refine n_bP h
  · rw [sq_c x0 x2, sq_c x1 x3] at h; refine n_bP h
