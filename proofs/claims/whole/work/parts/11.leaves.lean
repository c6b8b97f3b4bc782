/-! leaves: methods whose answer is written down; by program but for the words (wip/whole/gen9.py) -/
def radI (k : Int32) : Int32 := if k = 0 then 4 else if k = 1 then 9 else if k = 2 then 16 else if k = 3 then 26 else 40
def rchI (k : Int32) : Int32 := if k = 0 then 1 else if k = 1 then 3 else if k = 2 then 6 else 10
abbrev nearP (x y ox oy far : Int32) : Prop := ¬ far * far < (x - ox) * (x - ox) + (y - oy) * (y - oy)
def cPutOn (m : aM) (b k : Nat) (ch p : Int32) : aM := a_up (a_up (a_up m 19 b k ch) 20 b k p) 22 b k (-1)
def cRem (m : aM) (b k : Nat) : aM := a_up (a_up m 19 b k (-1)) 22 b k (-1)
def rEnds (m : aM) (k : Int32) : aM := a_up (a_up (a_up (a_up m 35 0 (104 + 10 * k + 3).toNatClampNeg (-6)) 35 0 (104 + 10 * k + 4).toNatClampNeg (-6)) 35 0 (104 + 10 * k + 5).toNatClampNeg (-6)) 35 0 (104 + 10 * k + 6).toNatClampNeg (-6)
/-- VacantAir.isOutside -/
theorem T_93 {x0 x1 x2 : Int32} {m : aM} {Q : Int32 → aM → Prop} (h :
   if x0 < x1 then
    Q 1 m
   else
    if x2 < x0 then
     Q 1 m
    else
     Q 0 m
  ) : Mi 93 [.inl x0, .inl x1, .inl x2] m Q := by
  refine Mi_in ML_93 (show Rg 93 0 [some (.inl x0), some (.inl x1), some (.inl x2)] [] m (qI Q) from ?_)
  refine r_iload_n L_93_0 rfl ?_
  refine r_iload_n L_93_1 rfl ?_
  refine r_icmp L_93_2 rfl (i_mono h (fun c1 h => ?_) (fun c1 h => ?_))
  · refine r_iconst L_93_10 kI_1 ?_
    refine r_goto L_93_11 ?_
    exact r_zret L_93_15 RT_93 (Or.inr rfl) h
  · refine r_iload_n L_93_5 rfl ?_
    refine r_iload_n L_93_6 rfl ?_
    refine r_icmpn L_93_7 cc_le (i_mono h (fun c2 h => ?_) (fun c2 h => ?_))
    · refine r_iconst L_93_10 kI_1 ?_
      refine r_goto L_93_11 ?_
      exact r_zret L_93_15 RT_93 (Or.inr rfl) h
    · refine r_iconst L_93_14 kI_0 ?_
      exact r_zret L_93_15 RT_93 (Or.inl rfl) h
theorem V_93 {x0 x1 x2 : Int32} {m : aM} {P : Int32 → aM → Prop} (h : P (bP (x0 < x1 ∨ x2 < x0)) m) : Mi 93 [.inl x0, .inl x1, .inl x2] m P := by
  refine T_93 ?_
  repeat' (first | (refine And.intro (by first | assumption | exact g0 (by assumption)) ?_) | split)
  all_goals first
    | exact h
    | (rw [bP_t (by clear h; simp_all only [not_true_eq_false, not_false_eq_true, and_true, true_and, and_false, false_and, or_true, true_or, or_false, false_or, and_self, or_self])] at h; exact h)
    | (rw [bP_f (by clear h; simp_all only [not_true_eq_false, not_false_eq_true, and_true, true_and, and_false, false_and, or_true, true_or, or_false, false_or, and_self, or_self])] at h; exact h)
/-- VacantAir.isNoPlace -/
theorem T_94 {x0 x1 : Int32} {m : aM} {Q : Int32 → aM → Prop} (h :
   if x0 < 0 ∨ 99 < x0 then
    Q 1 m
   else
    if x1 < 0 ∨ 99 < x1 then
     Q 1 m
    else
     Q 0 m
  ) : Mi 94 [.inl x0, .inl x1] m Q := by
  refine Mi_in ML_94 (show Rg 94 0 [some (.inl x0), some (.inl x1)] [] m (qI Q) from ?_)
  refine r_iload_n L_94_0 rfl ?_
  refine r_iconst L_94_1 kI_0 ?_
  refine r_bipush L_94_2 kB_99 ?_
  refine r_cs L_94_4 (by decide) rfl (V_93 ?_)
  refine r_ifneP L_94_7 (i_mono h (fun c1 h => ?_) (fun c1 h => ?_))
  · refine r_iconst L_94_20 kI_1 ?_
    refine r_goto L_94_21 ?_
    exact r_zret L_94_25 RT_94 (Or.inr rfl) h
  · refine r_iload_n L_94_10 rfl ?_
    refine r_iconst L_94_11 kI_0 ?_
    refine r_bipush L_94_12 kB_99 ?_
    refine r_cs L_94_14 (by decide) rfl (V_93 ?_)
    refine r_ifeqP L_94_17 (i_mono h (fun c2 h => ?_) (fun c2 h => ?_))
    · refine r_iconst L_94_20 kI_1 ?_
      refine r_goto L_94_21 ?_
      exact r_zret L_94_25 RT_94 (Or.inr rfl) h
    · refine r_iconst L_94_24 kI_0 ?_
      exact r_zret L_94_25 RT_94 (Or.inl rfl) h
theorem V_94 {x0 x1 : Int32} {m : aM} {P : Int32 → aM → Prop} (h : P (bP ((x0 < 0 ∨ 99 < x0) ∨ (x1 < 0 ∨ 99 < x1))) m) : Mi 94 [.inl x0, .inl x1] m P := by
  refine T_94 ?_
  repeat' (first | (refine And.intro (by first | assumption | exact g0 (by assumption)) ?_) | split)
  all_goals first
    | exact h
    | (rw [bP_t (by clear h; simp_all only [not_true_eq_false, not_false_eq_true, and_true, true_and, and_false, false_and, or_true, true_or, or_false, false_or, and_self, or_self])] at h; exact h)
    | (rw [bP_f (by clear h; simp_all only [not_true_eq_false, not_false_eq_true, and_true, true_and, and_false, false_and, or_true, true_or, or_false, false_or, and_self, or_self])] at h; exact h)
/-- VacantAir.isWithin -/
theorem T_95 {x0 x1 x2 : Int32} {m : aM} {Q : Int32 → aM → Prop} (h :
   if (x2 * x2) < ((x0 * x0) + (x1 * x1)) then
    Q 0 m
   else
    Q 1 m
  ) : Mi 95 [.inl x0, .inl x1, .inl x2] m Q := by
  refine Mi_in ML_95 (show Rg 95 0 [some (.inl x0), some (.inl x1), some (.inl x2)] [] m (qI Q) from ?_)
  refine r_iload_n L_95_0 rfl ?_
  refine r_iload_n L_95_1 rfl ?_
  refine r_imul L_95_2 ?_
  refine r_iload_n L_95_3 rfl ?_
  refine r_iload_n L_95_4 rfl ?_
  refine r_imul L_95_5 ?_
  refine r_iadd L_95_6 ?_
  refine r_iload_n L_95_7 rfl ?_
  refine r_iload_n L_95_8 rfl ?_
  refine r_imul L_95_9 ?_
  refine r_icmp L_95_10 rfl (i_mono h (fun c1 h => ?_) (fun c1 h => ?_))
  · refine r_iconst L_95_17 kI_0 ?_
    exact r_zret L_95_18 RT_95 (Or.inl rfl) h
  · refine r_iconst L_95_13 kI_1 ?_
    refine r_goto L_95_14 ?_
    exact r_zret L_95_18 RT_95 (Or.inr rfl) h
theorem V_95 {x0 x1 x2 : Int32} {m : aM} {P : Int32 → aM → Prop} (h : P (bP (¬ x2 * x2 < x0 * x0 + x1 * x1)) m) : Mi 95 [.inl x0, .inl x1, .inl x2] m P := by
  refine T_95 ?_
  repeat' (first | (refine And.intro (by first | assumption | exact g0 (by assumption)) ?_) | split)
  all_goals first
    | exact h
    | (rw [bP_t (by clear h; simp_all only [not_true_eq_false, not_false_eq_true, and_true, true_and, and_false, false_and, or_true, true_or, or_false, false_or, and_self, or_self])] at h; exact h)
    | (rw [bP_f (by clear h; simp_all only [not_true_eq_false, not_false_eq_true, and_true, true_and, and_false, false_and, or_true, true_or, or_false, false_or, and_self, or_self])] at h; exact h)
/-- Model.in -/
theorem T_97 {x0 x1 x2 : Int32} {m : aM} {Q : Int32 → aM → Prop} (h :
   if x0 < x1 then
    Q 0 m
   else
    if x2 < x0 then
     Q 0 m
    else
     Q 1 m
  ) : Mi 97 [.inl x0, .inl x1, .inl x2] m Q := by
  refine Mi_in ML_97 (show Rg 97 0 [some (.inl x0), some (.inl x1), some (.inl x2)] [] m (qI Q) from ?_)
  refine r_iload_n L_97_0 rfl ?_
  refine r_iload_n L_97_1 rfl ?_
  refine r_icmp L_97_2 rfl (i_mono h (fun c1 h => ?_) (fun c1 h => ?_))
  · refine r_iconst L_97_14 kI_0 ?_
    exact r_zret L_97_15 RT_97 (Or.inl rfl) h
  · refine r_iload_n L_97_5 rfl ?_
    refine r_iload_n L_97_6 rfl ?_
    refine r_icmp L_97_7 rfl (i_mono h (fun c2 h => ?_) (fun c2 h => ?_))
    · refine r_iconst L_97_14 kI_0 ?_
      exact r_zret L_97_15 RT_97 (Or.inl rfl) h
    · refine r_iconst L_97_10 kI_1 ?_
      refine r_goto L_97_11 ?_
      exact r_zret L_97_15 RT_97 (Or.inr rfl) h
theorem V_97 {x0 x1 x2 : Int32} {m : aM} {P : Int32 → aM → Prop} (h : P (bP (¬ x0 < x1 ∧ ¬ x2 < x0)) m) : Mi 97 [.inl x0, .inl x1, .inl x2] m P := by
  refine T_97 ?_
  repeat' (first | (refine And.intro (by first | assumption | exact g0 (by assumption)) ?_) | split)
  all_goals first
    | exact h
    | (rw [bP_t (by clear h; simp_all only [not_true_eq_false, not_false_eq_true, and_true, true_and, and_false, false_and, or_true, true_or, or_false, false_or, and_self, or_self])] at h; exact h)
    | (rw [bP_f (by clear h; simp_all only [not_true_eq_false, not_false_eq_true, and_true, true_and, and_false, false_and, or_true, true_or, or_false, false_or, and_self, or_self])] at h; exact h)
/-- Devices.has -/
theorem T_9 {b : Nat} {x1 : Int32} {m : aM} {Q : Int32 → aM → Prop} (h :
   if x1 < 0 then
    Q 0 m
   else
    if x1 < (m 3 b 10) then
     Q 1 m
    else
     Q 0 m
  ) : Mi 9 [.inr (3, b), .inl x1] m Q := by
  refine Mi_in ML_9 (show Rg 9 0 [some (.inr (3, b)), some (.inl x1)] [] m (qI Q) from ?_)
  refine r_iload_n L_9_0 rfl ?_
  refine r_if L_9_1 rfl (i_mono h (fun c1 h => ?_) (fun c1 h => ?_))
  · refine r_iconst L_9_16 kI_0 ?_
    exact r_zret L_9_17 RT_9 (Or.inl rfl) h
  · refine r_iload_n L_9_4 rfl ?_
    refine r_aload_n L_9_5 rfl ?_
    refine r_geti L_9_6 rfl rfl ?_
    refine r_icmpn L_9_9 cc_ge (i_mono h (fun c2 h => ?_) (fun c2 h => ?_))
    · refine r_iconst L_9_12 kI_1 ?_
      refine r_goto L_9_13 ?_
      exact r_zret L_9_17 RT_9 (Or.inr rfl) h
    · refine r_iconst L_9_16 kI_0 ?_
      exact r_zret L_9_17 RT_9 (Or.inl rfl) h
theorem V_9 {b : Nat} {x1 : Int32} {m : aM} {P : Int32 → aM → Prop} (h : P (bP (¬ x1 < 0 ∧ x1 < m 3 b 10)) m) : Mi 9 [.inr (3, b), .inl x1] m P := by
  refine T_9 ?_
  repeat' (first | (refine And.intro (by first | assumption | exact g0 (by assumption)) ?_) | split)
  all_goals first
    | exact h
    | (rw [bP_t (by clear h; simp_all only [not_true_eq_false, not_false_eq_true, and_true, true_and, and_false, false_and, or_true, true_or, or_false, false_or, and_self, or_self])] at h; exact h)
    | (rw [bP_f (by clear h; simp_all only [not_true_eq_false, not_false_eq_true, and_true, true_and, and_false, false_and, or_true, true_or, or_false, false_or, and_self, or_self])] at h; exact h)
/-- Events.has -/
theorem T_23 {b : Nat} {x1 : Int32} {m : aM} {Q : Int32 → aM → Prop} (h :
   if x1 < 0 then
    Q 0 m
   else
    if x1 < (m 2 b 7) then
     Q 1 m
    else
     Q 0 m
  ) : Mi 23 [.inr (2, b), .inl x1] m Q := by
  refine Mi_in ML_23 (show Rg 23 0 [some (.inr (2, b)), some (.inl x1)] [] m (qI Q) from ?_)
  refine r_iload_n L_23_0 rfl ?_
  refine r_if L_23_1 rfl (i_mono h (fun c1 h => ?_) (fun c1 h => ?_))
  · refine r_iconst L_23_16 kI_0 ?_
    exact r_zret L_23_17 RT_23 (Or.inl rfl) h
  · refine r_iload_n L_23_4 rfl ?_
    refine r_aload_n L_23_5 rfl ?_
    refine r_geti L_23_6 rfl rfl ?_
    refine r_icmpn L_23_9 cc_ge (i_mono h (fun c2 h => ?_) (fun c2 h => ?_))
    · refine r_iconst L_23_12 kI_1 ?_
      refine r_goto L_23_13 ?_
      exact r_zret L_23_17 RT_23 (Or.inr rfl) h
    · refine r_iconst L_23_16 kI_0 ?_
      exact r_zret L_23_17 RT_23 (Or.inl rfl) h
theorem V_23 {b : Nat} {x1 : Int32} {m : aM} {P : Int32 → aM → Prop} (h : P (bP (¬ x1 < 0 ∧ x1 < m 2 b 7)) m) : Mi 23 [.inr (2, b), .inl x1] m P := by
  refine T_23 ?_
  repeat' (first | (refine And.intro (by first | assumption | exact g0 (by assumption)) ?_) | split)
  all_goals first
    | exact h
    | (rw [bP_t (by clear h; simp_all only [not_true_eq_false, not_false_eq_true, and_true, true_and, and_false, false_and, or_true, true_or, or_false, false_or, and_self, or_self])] at h; exact h)
    | (rw [bP_f (by clear h; simp_all only [not_true_eq_false, not_false_eq_true, and_true, true_and, and_false, false_and, or_true, true_or, or_false, false_or, and_self, or_self])] at h; exact h)
/-- Stations.has -/
theorem T_56 {b : Nat} {x1 : Int32} {m : aM} {Q : Int32 → aM → Prop} (h :
   if x1 < 0 then
    Q 0 m
   else
    if x1 < (m 1 b 5) then
     Q 1 m
    else
     Q 0 m
  ) : Mi 56 [.inr (1, b), .inl x1] m Q := by
  refine Mi_in ML_56 (show Rg 56 0 [some (.inr (1, b)), some (.inl x1)] [] m (qI Q) from ?_)
  refine r_iload_n L_56_0 rfl ?_
  refine r_if L_56_1 rfl (i_mono h (fun c1 h => ?_) (fun c1 h => ?_))
  · refine r_iconst L_56_16 kI_0 ?_
    exact r_zret L_56_17 RT_56 (Or.inl rfl) h
  · refine r_iload_n L_56_4 rfl ?_
    refine r_aload_n L_56_5 rfl ?_
    refine r_geti L_56_6 rfl rfl ?_
    refine r_icmpn L_56_9 cc_ge (i_mono h (fun c2 h => ?_) (fun c2 h => ?_))
    · refine r_iconst L_56_12 kI_1 ?_
      refine r_goto L_56_13 ?_
      exact r_zret L_56_17 RT_56 (Or.inr rfl) h
    · refine r_iconst L_56_16 kI_0 ?_
      exact r_zret L_56_17 RT_56 (Or.inl rfl) h
theorem V_56 {b : Nat} {x1 : Int32} {m : aM} {P : Int32 → aM → Prop} (h : P (bP (¬ x1 < 0 ∧ x1 < m 1 b 5)) m) : Mi 56 [.inr (1, b), .inl x1] m P := by
  refine T_56 ?_
  repeat' (first | (refine And.intro (by first | assumption | exact g0 (by assumption)) ?_) | split)
  all_goals first
    | exact h
    | (rw [bP_t (by clear h; simp_all only [not_true_eq_false, not_false_eq_true, and_true, true_and, and_false, false_and, or_true, true_or, or_false, false_or, and_self, or_self])] at h; exact h)
    | (rw [bP_f (by clear h; simp_all only [not_true_eq_false, not_false_eq_true, and_true, true_and, and_false, false_and, or_true, true_or, or_false, false_or, and_self, or_self])] at h; exact h)
/-- Devices.hasLease -/
theorem T_10 {b : Nat} {x1 : Int32} {m : aM} {Q : Int32 → aM → Prop} (h :
   a_in x1 16 = true ∧
    if (m 19 b x1.toNatClampNeg) = (-1) then
     Q 0 m
    else
     Q 1 m
  ) : Mi 10 [.inr (3, b), .inl x1] m Q := by
  refine Mi_in ML_10 (show Rg 10 0 [some (.inr (3, b)), some (.inl x1)] [] m (qI Q) from ?_)
  refine r_aload_n L_10_0 rfl ?_
  refine r_getr (c' := 19) (d' := b) L_10_1 rfl rfl ?_
  refine r_iload_n L_10_4 rfl ?_
  obtain ⟨g1, h⟩ := h
  refine r_iald (N := 16) (j := x1.toNatClampNeg) L_10_5 (by decide +kernel) rfl g1 rfl ?_
  refine r_iconst L_10_6 kI_m1 ?_
  refine r_icmp L_10_7 rfl (i_mono h (fun c2 h => ?_) (fun c2 h => ?_))
  · refine r_iconst L_10_14 kI_0 ?_
    exact r_zret L_10_15 RT_10 (Or.inl rfl) h
  · refine r_iconst L_10_10 kI_1 ?_
    refine r_goto L_10_11 ?_
    exact r_zret L_10_15 RT_10 (Or.inr rfl) h
theorem V_10 {b : Nat} {x1 : Int32} {m : aM} {P : Int32 → aM → Prop} (g0 : a_in x1 16 = true) (h : P (bP (¬ m 19 b x1.toNatClampNeg = (-1))) m) : Mi 10 [.inr (3, b), .inl x1] m P := by
  refine T_10 ?_
  repeat' (first | (refine And.intro (by first | assumption | exact g0 (by assumption)) ?_) | split)
  all_goals first
    | exact h
    | (rw [bP_t (by clear h; simp_all only [not_true_eq_false, not_false_eq_true, and_true, true_and, and_false, false_and, or_true, true_or, or_false, false_or, and_self, or_self])] at h; exact h)
    | (rw [bP_f (by clear h; simp_all only [not_true_eq_false, not_false_eq_true, and_true, true_and, and_false, false_and, or_true, true_or, or_false, false_or, and_self, or_self])] at h; exact h)
/-- Devices.hasNotice -/
theorem T_11 {b : Nat} {x1 : Int32} {m : aM} {Q : Int32 → aM → Prop} (h :
   a_in x1 16 = true ∧
    if (m 22 b x1.toNatClampNeg) = (-1) then
     Q 0 m
    else
     Q 1 m
  ) : Mi 11 [.inr (3, b), .inl x1] m Q := by
  refine Mi_in ML_11 (show Rg 11 0 [some (.inr (3, b)), some (.inl x1)] [] m (qI Q) from ?_)
  refine r_aload_n L_11_0 rfl ?_
  refine r_getr (c' := 22) (d' := b) L_11_1 rfl rfl ?_
  refine r_iload_n L_11_4 rfl ?_
  obtain ⟨g1, h⟩ := h
  refine r_iald (N := 16) (j := x1.toNatClampNeg) L_11_5 (by decide +kernel) rfl g1 rfl ?_
  refine r_iconst L_11_6 kI_m1 ?_
  refine r_icmp L_11_7 rfl (i_mono h (fun c2 h => ?_) (fun c2 h => ?_))
  · refine r_iconst L_11_14 kI_0 ?_
    exact r_zret L_11_15 RT_11 (Or.inl rfl) h
  · refine r_iconst L_11_10 kI_1 ?_
    refine r_goto L_11_11 ?_
    exact r_zret L_11_15 RT_11 (Or.inr rfl) h
theorem V_11 {b : Nat} {x1 : Int32} {m : aM} {P : Int32 → aM → Prop} (g0 : a_in x1 16 = true) (h : P (bP (¬ m 22 b x1.toNatClampNeg = (-1))) m) : Mi 11 [.inr (3, b), .inl x1] m P := by
  refine T_11 ?_
  repeat' (first | (refine And.intro (by first | assumption | exact g0 (by assumption)) ?_) | split)
  all_goals first
    | exact h
    | (rw [bP_t (by clear h; simp_all only [not_true_eq_false, not_false_eq_true, and_true, true_and, and_false, false_and, or_true, true_or, or_false, false_or, and_self, or_self])] at h; exact h)
    | (rw [bP_f (by clear h; simp_all only [not_true_eq_false, not_false_eq_true, and_true, true_and, and_false, false_and, or_true, true_or, or_false, false_or, and_self, or_self])] at h; exact h)
/-- Devices.putOn -/
theorem T_12 {b : Nat} {x1 x2 x3 : Int32} {m : aM} {Q : aM → Prop} (h :
   (a_in x1 16 = true ∧
    (∀ m2, m2 = a_up m 19 b x1.toNatClampNeg x2 →
    (∀ m3, m3 = a_up m2 20 b x1.toNatClampNeg x3 →
    (∀ m4, m4 = a_up m3 22 b x1.toNatClampNeg (-1) →
    Q m4))))
  ) : Mv 12 [.inr (3, b), .inl x1, .inl x2, .inl x3] m Q := by
  refine Mv_in ML_12 (show Rg 12 0 [some (.inr (3, b)), some (.inl x1), some (.inl x2), some (.inl x3)] [] m (qV Q) from ?_)
  refine r_aload_n L_12_0 rfl ?_
  refine r_getr (c' := 19) (d' := b) L_12_1 rfl rfl ?_
  refine r_iload_n L_12_4 rfl ?_
  refine r_iload_n L_12_5 rfl ?_
  obtain ⟨g1, h⟩ := h
  refine r_iast (N := 16) (j := x1.toNatClampNeg) L_12_6 (by decide +kernel) rfl g1 rfl ?_
  refine r_nm fun m2 em2 => ?_
  have h := h m2 em2
  refine r_aload_n L_12_7 rfl ?_
  refine r_getr (c' := 20) (d' := b) L_12_8 rfl rfl ?_
  refine r_iload_n L_12_11 rfl ?_
  refine r_iload_n L_12_12 rfl ?_
  refine r_iast (N := 16) (j := x1.toNatClampNeg) L_12_13 (by decide +kernel) rfl g1 rfl ?_
  refine r_nm fun m3 em3 => ?_
  have h := h m3 em3
  refine r_aload_n L_12_14 rfl ?_
  refine r_getr (c' := 22) (d' := b) L_12_15 rfl rfl ?_
  refine r_iload_n L_12_18 rfl ?_
  refine r_iconst L_12_19 kI_m1 ?_
  refine r_iast (N := 16) (j := x1.toNatClampNeg) L_12_20 (by decide +kernel) rfl g1 rfl ?_
  refine r_nm fun m4 em4 => ?_
  have h := h m4 em4
  exact r_vret L_12_21 RT_12 h
theorem V_12 {b : Nat} {x1 x2 x3 : Int32} {m : aM} {P : aM → Prop} (g0 : a_in x1 16 = true) (h : P (cPutOn m b x1.toNatClampNeg x2 x3)) : Mv 12 [.inr (3, b), .inl x1, .inl x2, .inl x3] m P := by
  exact T_12 ⟨g0, fun m1 e1 m2 e2 m3 e3 => by subst e1 e2 e3; exact h⟩
/-- Devices.removeLease -/
theorem T_13 {b : Nat} {x1 : Int32} {m : aM} {Q : aM → Prop} (h :
   (a_in x1 16 = true ∧
    (∀ m2, m2 = a_up m 19 b x1.toNatClampNeg (-1) →
    (∀ m3, m3 = a_up m2 22 b x1.toNatClampNeg (-1) →
    Q m3)))
  ) : Mv 13 [.inr (3, b), .inl x1] m Q := by
  refine Mv_in ML_13 (show Rg 13 0 [some (.inr (3, b)), some (.inl x1)] [] m (qV Q) from ?_)
  refine r_aload_n L_13_0 rfl ?_
  refine r_getr (c' := 19) (d' := b) L_13_1 rfl rfl ?_
  refine r_iload_n L_13_4 rfl ?_
  refine r_iconst L_13_5 kI_m1 ?_
  obtain ⟨g1, h⟩ := h
  refine r_iast (N := 16) (j := x1.toNatClampNeg) L_13_6 (by decide +kernel) rfl g1 rfl ?_
  refine r_nm fun m2 em2 => ?_
  have h := h m2 em2
  refine r_aload_n L_13_7 rfl ?_
  refine r_getr (c' := 22) (d' := b) L_13_8 rfl rfl ?_
  refine r_iload_n L_13_11 rfl ?_
  refine r_iconst L_13_12 kI_m1 ?_
  refine r_iast (N := 16) (j := x1.toNatClampNeg) L_13_13 (by decide +kernel) rfl g1 rfl ?_
  refine r_nm fun m3 em3 => ?_
  have h := h m3 em3
  exact r_vret L_13_14 RT_13 h
theorem V_13 {b : Nat} {x1 : Int32} {m : aM} {P : aM → Prop} (g0 : a_in x1 16 = true) (h : P (cRem m b x1.toNatClampNeg)) : Mv 13 [.inr (3, b), .inl x1] m P := by
  exact T_13 ⟨g0, fun m1 e1 m2 e2 => by subst e1 e2; exact h⟩
/-- Events.isOn -/
theorem T_24 {b : Nat} {x1 x2 : Int32} {m : aM} {Q : Int32 → aM → Prop} (h :
   a_in x1 8 = true ∧
    if (m 15 b x1.toNatClampNeg) = 0 then
     (if x2 < (m 13 b x1.toNatClampNeg) then
      Q 0 m
     else
      if x2 < (m 14 b x1.toNatClampNeg) then
       Q 1 m
      else
       Q 0 m)
    else
     Q 0 m
  ) : Mi 24 [.inr (2, b), .inl x1, .inl x2] m Q := by
  refine Mi_in ML_24 (show Rg 24 0 [some (.inr (2, b)), some (.inl x1), some (.inl x2)] [] m (qI Q) from ?_)
  refine r_aload_n L_24_0 rfl ?_
  refine r_getr (c' := 15) (d' := b) L_24_1 rfl rfl ?_
  refine r_iload_n L_24_4 rfl ?_
  obtain ⟨g1, h⟩ := h
  refine r_iald (N := 8) (j := x1.toNatClampNeg) L_24_5 (by decide +kernel) rfl g1 rfl ?_
  refine r_ifn L_24_6 rfl (i_mono h (fun c2 h => ?_) (fun c2 h => ?_))
  · refine r_aload_n L_24_9 rfl ?_
    refine r_getr (c' := 13) (d' := b) L_24_10 rfl rfl ?_
    refine r_iload_n L_24_13 rfl ?_
    refine r_iald (N := 8) (j := x1.toNatClampNeg) L_24_14 (by decide +kernel) rfl g1 rfl ?_
    refine r_iload_n L_24_15 rfl ?_
    refine r_icmp L_24_16 rfl (i_mono h (fun c3 h => ?_) (fun c3 h => ?_))
    · refine r_iconst L_24_33 kI_0 ?_
      exact r_zret L_24_34 RT_24 (Or.inl rfl) h
    · refine r_iload_n L_24_19 rfl ?_
      refine r_aload_n L_24_20 rfl ?_
      refine r_getr (c' := 14) (d' := b) L_24_21 rfl rfl ?_
      refine r_iload_n L_24_24 rfl ?_
      refine r_iald (N := 8) (j := x1.toNatClampNeg) L_24_25 (by decide +kernel) rfl g1 rfl ?_
      refine r_icmpn L_24_26 cc_ge (i_mono h (fun c4 h => ?_) (fun c4 h => ?_))
      · refine r_iconst L_24_29 kI_1 ?_
        refine r_goto L_24_30 ?_
        exact r_zret L_24_34 RT_24 (Or.inr rfl) h
      · refine r_iconst L_24_33 kI_0 ?_
        exact r_zret L_24_34 RT_24 (Or.inl rfl) h
  · refine r_iconst L_24_33 kI_0 ?_
    exact r_zret L_24_34 RT_24 (Or.inl rfl) h
theorem V_24 {b : Nat} {x1 x2 : Int32} {m : aM} {P : Int32 → aM → Prop} (g0 : a_in x1 8 = true) (h : P (bP (m 15 b x1.toNatClampNeg = 0 ∧ ¬ x2 < m 13 b x1.toNatClampNeg ∧ x2 < m 14 b x1.toNatClampNeg)) m) : Mi 24 [.inr (2, b), .inl x1, .inl x2] m P := by
  refine T_24 ?_
  repeat' (first | (refine And.intro (by first | assumption | exact g0 (by assumption)) ?_) | split)
  all_goals first
    | exact h
    | (rw [bP_t (by clear h; simp_all only [not_true_eq_false, not_false_eq_true, and_true, true_and, and_false, false_and, or_true, true_or, or_false, false_or, and_self, or_self])] at h; exact h)
    | (rw [bP_f (by clear h; simp_all only [not_true_eq_false, not_false_eq_true, and_true, true_and, and_false, false_and, or_true, true_or, or_false, false_or, and_self, or_self])] at h; exact h)
/-- State.asksNow -/
theorem T_45 {b : Nat} {x1 : Int32} {m : aM} {Q : Int32 → aM → Prop} (h :
   ¬ (m 26 b 1) = 0 ∧
    if (iR ((m 0 b 4) + x1) (m 26 b 1)) = 0 then
     Q 1 m
    else
     Q 0 m
  ) : Mi 45 [.inr (0, b), .inl x1] m Q := by
  refine Mi_in ML_45 (show Rg 45 0 [some (.inr (0, b)), some (.inl x1)] [] m (qI Q) from ?_)
  refine r_aload_n L_45_0 rfl ?_
  refine r_geti L_45_1 rfl rfl ?_
  refine r_iload_n L_45_4 rfl ?_
  refine r_iadd L_45_5 ?_
  refine r_aload_n L_45_6 rfl ?_
  refine r_getr (c' := 26) (d' := b) L_45_7 rfl rfl ?_
  refine r_iconst L_45_10 kI_1 ?_
  refine r_iald (N := 3) (j := 1) L_45_11 (by decide +kernel) rfl (by decide +kernel) (by decide +kernel) ?_
  obtain ⟨g1, h⟩ := h
  refine r_irem L_45_12 g1 ?_
  refine r_ifn L_45_13 rfl (i_mono h (fun c2 h => ?_) (fun c2 h => ?_))
  · refine r_iconst L_45_16 kI_1 ?_
    refine r_goto L_45_17 ?_
    exact r_zret L_45_21 RT_45 (Or.inr rfl) h
  · refine r_iconst L_45_20 kI_0 ?_
    exact r_zret L_45_21 RT_45 (Or.inl rfl) h
theorem V_45 {b : Nat} {x1 : Int32} {m : aM} {P : Int32 → aM → Prop} (g0 : ¬ m 26 b 1 = 0) (h : P (bP (iR (m 0 b 4 + x1) (m 26 b 1) = 0)) m) : Mi 45 [.inr (0, b), .inl x1] m P := by
  refine T_45 ?_
  repeat' (first | (refine And.intro (by first | assumption | exact g0 (by assumption)) ?_) | split)
  all_goals first
    | exact h
    | (rw [bP_t (by clear h; simp_all only [not_true_eq_false, not_false_eq_true, and_true, true_and, and_false, false_and, or_true, true_or, or_false, false_or, and_self, or_self])] at h; exact h)
    | (rw [bP_f (by clear h; simp_all only [not_true_eq_false, not_false_eq_true, and_true, true_and, and_false, false_and, or_true, true_or, or_false, false_or, and_self, or_self])] at h; exact h)
/-- ActText.hasMore -/
theorem T_4 {m : aM} {Q : Int32 → aM → Prop} (h :
   if (m 32 0 3) = (-6) then
    (if (m 32 0 2) < (m 32 0 1) then
     Q 1 m
    else
     Q 0 m)
   else
    Q 0 m
  ) : Mi 4 [.inr (32, 0)] m Q := by
  refine Mi_in ML_4 (show Rg 4 0 [some (.inr (32, 0))] [] m (qI Q) from ?_)
  refine r_aload_n L_4_0 rfl ?_
  refine r_geti L_4_1 rfl rfl ?_
  refine r_bipush L_4_4 kB_m6 ?_
  refine r_icmpn L_4_6 rfl (i_mono h (fun c1 h => ?_) (fun c1 h => ?_))
  · refine r_aload_n L_4_9 rfl ?_
    refine r_geti L_4_10 rfl rfl ?_
    refine r_aload_n L_4_13 rfl ?_
    refine r_geti L_4_14 rfl rfl ?_
    refine r_icmpn L_4_17 cc_ge (i_mono h (fun c2 h => ?_) (fun c2 h => ?_))
    · refine r_iconst L_4_20 kI_1 ?_
      refine r_goto L_4_21 ?_
      exact r_zret L_4_25 RT_4 (Or.inr rfl) h
    · refine r_iconst L_4_24 kI_0 ?_
      exact r_zret L_4_25 RT_4 (Or.inl rfl) h
  · refine r_iconst L_4_24 kI_0 ?_
    exact r_zret L_4_25 RT_4 (Or.inl rfl) h
theorem V_4 {m : aM} {P : Int32 → aM → Prop} (h : P (bP (m 32 0 3 = (-6) ∧ m 32 0 2 < m 32 0 1)) m) : Mi 4 [.inr (32, 0)] m P := by
  refine T_4 ?_
  repeat' (first | (refine And.intro (by first | assumption | exact g0 (by assumption)) ?_) | split)
  all_goals first
    | exact h
    | (rw [bP_t (by clear h; simp_all only [not_true_eq_false, not_false_eq_true, and_true, true_and, and_false, false_and, or_true, true_or, or_false, false_or, and_self, or_self])] at h; exact h)
    | (rw [bP_f (by clear h; simp_all only [not_true_eq_false, not_false_eq_true, and_true, true_and, and_false, false_and, or_true, true_or, or_false, false_or, and_self, or_self])] at h; exact h)
/-- ActText.isDigitAt -/
theorem T_8 {x1 : Int32} {m : aM} {Q : Int32 → aM → Prop} (h :
   if x1 < (m 32 0 1) then
    (a_in x1 80 = true ∧
     if (m 33 0 x1.toNatClampNeg) < 48 then
      Q 0 m
     else
      if 57 < (m 33 0 x1.toNatClampNeg) then
       Q 0 m
      else
       Q 1 m)
   else
    Q 0 m
  ) : Mi 8 [.inr (32, 0), .inl x1] m Q := by
  refine Mi_in ML_8 (show Rg 8 0 [some (.inr (32, 0)), some (.inl x1)] [] m (qI Q) from ?_)
  refine r_iload_n L_8_0 rfl ?_
  refine r_aload_n L_8_1 rfl ?_
  refine r_geti L_8_2 rfl rfl ?_
  refine r_icmpn L_8_5 cc_ge (i_mono h (fun c1 h => ?_) (fun c1 h => ?_))
  · refine r_aload_n L_8_8 rfl ?_
    refine r_getr (c' := 33) (d' := 0) L_8_9 rfl rfl ?_
    refine r_iload_n L_8_12 rfl ?_
    obtain ⟨g2, h⟩ := h
    refine r_iald (N := 80) (j := x1.toNatClampNeg) L_8_13 (by decide +kernel) rfl g2 rfl ?_
    refine r_bipush L_8_14 kB_48 ?_
    refine r_icmp L_8_16 rfl (i_mono h (fun c3 h => ?_) (fun c3 h => ?_))
    · refine r_iconst L_8_34 kI_0 ?_
      exact r_zret L_8_35 RT_8 (Or.inl rfl) h
    · refine r_aload_n L_8_19 rfl ?_
      refine r_getr (c' := 33) (d' := 0) L_8_20 rfl rfl ?_
      refine r_iload_n L_8_23 rfl ?_
      refine r_iald (N := 80) (j := x1.toNatClampNeg) L_8_24 (by decide +kernel) rfl g2 rfl ?_
      refine r_bipush L_8_25 kB_57 ?_
      refine r_icmp L_8_27 rfl (i_mono h (fun c4 h => ?_) (fun c4 h => ?_))
      · refine r_iconst L_8_34 kI_0 ?_
        exact r_zret L_8_35 RT_8 (Or.inl rfl) h
      · refine r_iconst L_8_30 kI_1 ?_
        refine r_goto L_8_31 ?_
        exact r_zret L_8_35 RT_8 (Or.inr rfl) h
  · refine r_iconst L_8_34 kI_0 ?_
    exact r_zret L_8_35 RT_8 (Or.inl rfl) h
theorem V_8 {x1 : Int32} {m : aM} {P : Int32 → aM → Prop} (g0 : x1 < m 32 0 1 → a_in x1 80 = true) (h : P (bP (x1 < m 32 0 1 ∧ ¬ m 33 0 x1.toNatClampNeg < 48 ∧ ¬ 57 < m 33 0 x1.toNatClampNeg)) m) : Mi 8 [.inr (32, 0), .inl x1] m P := by
  refine T_8 ?_
  repeat' (first | (refine And.intro (by first | assumption | exact g0 (by assumption)) ?_) | split)
  all_goals first
    | exact h
    | (rw [bP_t (by clear h; simp_all only [not_true_eq_false, not_false_eq_true, and_true, true_and, and_false, false_and, or_true, true_or, or_false, false_or, and_self, or_self])] at h; exact h)
    | (rw [bP_f (by clear h; simp_all only [not_true_eq_false, not_false_eq_true, and_true, true_and, and_false, false_and, or_true, true_or, or_false, false_or, and_self, or_self])] at h; exact h)
/-- Model.isStation -/
theorem T_101 {x1 : Int32} {m : aM} {Q : Int32 → aM → Prop} (h :
   if x1 < 0 then
    Q 0 m
   else
    if x1 < (m 35 0 1) then
     Q 1 m
    else
     Q 0 m
  ) : Mi 101 [.inr (34, 0), .inl x1] m Q := by
  refine Mi_in ML_101 (show Rg 101 0 [some (.inr (34, 0)), some (.inl x1)] [] m (qI Q) from ?_)
  refine r_iload_n L_101_0 rfl ?_
  refine r_if L_101_1 rfl (i_mono h (fun c1 h => ?_) (fun c1 h => ?_))
  · refine r_iconst L_101_18 kI_0 ?_
    exact r_zret L_101_19 RT_101 (Or.inl rfl) h
  · refine r_iload_n L_101_4 rfl ?_
    refine r_aload_n L_101_5 rfl ?_
    refine r_getr (c' := 35) (d' := 0) L_101_6 rfl rfl ?_
    refine r_iconst L_101_9 kI_1 ?_
    refine r_iald (N := 264) (j := 1) L_101_10 (by decide +kernel) rfl (by decide +kernel) (by decide +kernel) ?_
    refine r_icmpn L_101_11 cc_ge (i_mono h (fun c2 h => ?_) (fun c2 h => ?_))
    · refine r_iconst L_101_14 kI_1 ?_
      refine r_goto L_101_15 ?_
      exact r_zret L_101_19 RT_101 (Or.inr rfl) h
    · refine r_iconst L_101_18 kI_0 ?_
      exact r_zret L_101_19 RT_101 (Or.inl rfl) h
theorem V_101 {x1 : Int32} {m : aM} {P : Int32 → aM → Prop} (h : P (bP (¬ x1 < 0 ∧ x1 < m 35 0 1)) m) : Mi 101 [.inr (34, 0), .inl x1] m P := by
  refine T_101 ?_
  repeat' (first | (refine And.intro (by first | assumption | exact g0 (by assumption)) ?_) | split)
  all_goals first
    | exact h
    | (rw [bP_t (by clear h; simp_all only [not_true_eq_false, not_false_eq_true, and_true, true_and, and_false, false_and, or_true, true_or, or_false, false_or, and_self, or_self])] at h; exact h)
    | (rw [bP_f (by clear h; simp_all only [not_true_eq_false, not_false_eq_true, and_true, true_and, and_false, false_and, or_true, true_or, or_false, false_or, and_self, or_self])] at h; exact h)
/-- Model.isEvent -/
theorem T_102 {x1 : Int32} {m : aM} {Q : Int32 → aM → Prop} (h :
   if x1 < 0 then
    Q 0 m
   else
    if x1 < (m 35 0 2) then
     Q 1 m
    else
     Q 0 m
  ) : Mi 102 [.inr (34, 0), .inl x1] m Q := by
  refine Mi_in ML_102 (show Rg 102 0 [some (.inr (34, 0)), some (.inl x1)] [] m (qI Q) from ?_)
  refine r_iload_n L_102_0 rfl ?_
  refine r_if L_102_1 rfl (i_mono h (fun c1 h => ?_) (fun c1 h => ?_))
  · refine r_iconst L_102_18 kI_0 ?_
    exact r_zret L_102_19 RT_102 (Or.inl rfl) h
  · refine r_iload_n L_102_4 rfl ?_
    refine r_aload_n L_102_5 rfl ?_
    refine r_getr (c' := 35) (d' := 0) L_102_6 rfl rfl ?_
    refine r_iconst L_102_9 kI_2 ?_
    refine r_iald (N := 264) (j := 2) L_102_10 (by decide +kernel) rfl (by decide +kernel) (by decide +kernel) ?_
    refine r_icmpn L_102_11 cc_ge (i_mono h (fun c2 h => ?_) (fun c2 h => ?_))
    · refine r_iconst L_102_14 kI_1 ?_
      refine r_goto L_102_15 ?_
      exact r_zret L_102_19 RT_102 (Or.inr rfl) h
    · refine r_iconst L_102_18 kI_0 ?_
      exact r_zret L_102_19 RT_102 (Or.inl rfl) h
theorem V_102 {x1 : Int32} {m : aM} {P : Int32 → aM → Prop} (h : P (bP (¬ x1 < 0 ∧ x1 < m 35 0 2)) m) : Mi 102 [.inr (34, 0), .inl x1] m P := by
  refine T_102 ?_
  repeat' (first | (refine And.intro (by first | assumption | exact g0 (by assumption)) ?_) | split)
  all_goals first
    | exact h
    | (rw [bP_t (by clear h; simp_all only [not_true_eq_false, not_false_eq_true, and_true, true_and, and_false, false_and, or_true, true_or, or_false, false_or, and_self, or_self])] at h; exact h)
    | (rw [bP_f (by clear h; simp_all only [not_true_eq_false, not_false_eq_true, and_true, true_and, and_false, false_and, or_true, true_or, or_false, false_or, and_self, or_self])] at h; exact h)
/-- Model.isDevice -/
theorem T_103 {x1 : Int32} {m : aM} {Q : Int32 → aM → Prop} (h :
   if x1 < 0 then
    Q 0 m
   else
    if x1 < (m 35 0 3) then
     Q 1 m
    else
     Q 0 m
  ) : Mi 103 [.inr (34, 0), .inl x1] m Q := by
  refine Mi_in ML_103 (show Rg 103 0 [some (.inr (34, 0)), some (.inl x1)] [] m (qI Q) from ?_)
  refine r_iload_n L_103_0 rfl ?_
  refine r_if L_103_1 rfl (i_mono h (fun c1 h => ?_) (fun c1 h => ?_))
  · refine r_iconst L_103_18 kI_0 ?_
    exact r_zret L_103_19 RT_103 (Or.inl rfl) h
  · refine r_iload_n L_103_4 rfl ?_
    refine r_aload_n L_103_5 rfl ?_
    refine r_getr (c' := 35) (d' := 0) L_103_6 rfl rfl ?_
    refine r_iconst L_103_9 kI_3 ?_
    refine r_iald (N := 264) (j := 3) L_103_10 (by decide +kernel) rfl (by decide +kernel) (by decide +kernel) ?_
    refine r_icmpn L_103_11 cc_ge (i_mono h (fun c2 h => ?_) (fun c2 h => ?_))
    · refine r_iconst L_103_14 kI_1 ?_
      refine r_goto L_103_15 ?_
      exact r_zret L_103_19 RT_103 (Or.inr rfl) h
    · refine r_iconst L_103_18 kI_0 ?_
      exact r_zret L_103_19 RT_103 (Or.inl rfl) h
theorem V_103 {x1 : Int32} {m : aM} {P : Int32 → aM → Prop} (h : P (bP (¬ x1 < 0 ∧ x1 < m 35 0 3)) m) : Mi 103 [.inr (34, 0), .inl x1] m P := by
  refine T_103 ?_
  repeat' (first | (refine And.intro (by first | assumption | exact g0 (by assumption)) ?_) | split)
  all_goals first
    | exact h
    | (rw [bP_t (by clear h; simp_all only [not_true_eq_false, not_false_eq_true, and_true, true_and, and_false, false_and, or_true, true_or, or_false, false_or, and_self, or_self])] at h; exact h)
    | (rw [bP_f (by clear h; simp_all only [not_true_eq_false, not_false_eq_true, and_true, true_and, and_false, false_and, or_true, true_or, or_false, false_or, and_self, or_self])] at h; exact h)
/-- Model.ofStation -/
theorem T_104 {x1 x2 : Int32} {m : aM} {Q : Int32 → aM → Prop} (h :
   a_in ((8 + (5 * x1)) + x2) 264 = true ∧
    Q (m 35 0 ((8 + (5 * x1)) + x2).toNatClampNeg) m
  ) : Mi 104 [.inr (34, 0), .inl x1, .inl x2] m Q := by
  refine Mi_in ML_104 (show Rg 104 0 [some (.inr (34, 0)), some (.inl x1), some (.inl x2)] [] m (qI Q) from ?_)
  refine r_aload_n L_104_0 rfl ?_
  refine r_getr (c' := 35) (d' := 0) L_104_1 rfl rfl ?_
  refine r_bipush L_104_4 kB_8 ?_
  refine r_iconst L_104_6 kI_5 ?_
  refine r_iload_n L_104_7 rfl ?_
  refine r_imul L_104_8 ?_
  refine r_iadd L_104_9 ?_
  refine r_iload_n L_104_10 rfl ?_
  refine r_iadd L_104_11 ?_
  obtain ⟨g1, h⟩ := h
  refine r_iald (N := 264) (j := ((8 + (5 * x1)) + x2).toNatClampNeg) L_104_12 (by decide +kernel) rfl g1 rfl ?_
  exact r_iret L_104_13 RT_104 h
theorem V_104 {x1 x2 : Int32} {m : aM} {P : Int32 → aM → Prop} (g0 : a_in (8 + 5 * x1 + x2) 264 = true) (h : P (m 35 0 (8 + 5 * x1 + x2).toNatClampNeg) m) : Mi 104 [.inr (34, 0), .inl x1, .inl x2] m P := by
  exact T_104 ⟨g0, h⟩
/-- Model.ofEvent -/
theorem T_105 {x1 x2 : Int32} {m : aM} {Q : Int32 → aM → Prop} (h :
   a_in ((48 + (7 * x1)) + x2) 264 = true ∧
    Q (m 35 0 ((48 + (7 * x1)) + x2).toNatClampNeg) m
  ) : Mi 105 [.inr (34, 0), .inl x1, .inl x2] m Q := by
  refine Mi_in ML_105 (show Rg 105 0 [some (.inr (34, 0)), some (.inl x1), some (.inl x2)] [] m (qI Q) from ?_)
  refine r_aload_n L_105_0 rfl ?_
  refine r_getr (c' := 35) (d' := 0) L_105_1 rfl rfl ?_
  refine r_bipush L_105_4 kB_48 ?_
  refine r_bipush L_105_6 kB_7 ?_
  refine r_iload_n L_105_8 rfl ?_
  refine r_imul L_105_9 ?_
  refine r_iadd L_105_10 ?_
  refine r_iload_n L_105_11 rfl ?_
  refine r_iadd L_105_12 ?_
  obtain ⟨g1, h⟩ := h
  refine r_iald (N := 264) (j := ((48 + (7 * x1)) + x2).toNatClampNeg) L_105_13 (by decide +kernel) rfl g1 rfl ?_
  exact r_iret L_105_14 RT_105 h
theorem V_105 {x1 x2 : Int32} {m : aM} {P : Int32 → aM → Prop} (g0 : a_in (48 + 7 * x1 + x2) 264 = true) (h : P (m 35 0 (48 + 7 * x1 + x2).toNatClampNeg) m) : Mi 105 [.inr (34, 0), .inl x1, .inl x2] m P := by
  exact T_105 ⟨g0, h⟩
/-- Model.ofDevice -/
theorem T_106 {x1 x2 : Int32} {m : aM} {Q : Int32 → aM → Prop} (h :
   a_in ((104 + (10 * x1)) + x2) 264 = true ∧
    Q (m 35 0 ((104 + (10 * x1)) + x2).toNatClampNeg) m
  ) : Mi 106 [.inr (34, 0), .inl x1, .inl x2] m Q := by
  refine Mi_in ML_106 (show Rg 106 0 [some (.inr (34, 0)), some (.inl x1), some (.inl x2)] [] m (qI Q) from ?_)
  refine r_aload_n L_106_0 rfl ?_
  refine r_getr (c' := 35) (d' := 0) L_106_1 rfl rfl ?_
  refine r_bipush L_106_4 kB_104 ?_
  refine r_bipush L_106_6 kB_10 ?_
  refine r_iload_n L_106_8 rfl ?_
  refine r_imul L_106_9 ?_
  refine r_iadd L_106_10 ?_
  refine r_iload_n L_106_11 rfl ?_
  refine r_iadd L_106_12 ?_
  obtain ⟨g1, h⟩ := h
  refine r_iald (N := 264) (j := ((104 + (10 * x1)) + x2).toNatClampNeg) L_106_13 (by decide +kernel) rfl g1 rfl ?_
  exact r_iret L_106_14 RT_106 h
theorem V_106 {x1 x2 : Int32} {m : aM} {P : Int32 → aM → Prop} (g0 : a_in (104 + 10 * x1 + x2) 264 = true) (h : P (m 35 0 (104 + 10 * x1 + x2).toNatClampNeg) m) : Mi 106 [.inr (34, 0), .inl x1, .inl x2] m P := by
  exact T_106 ⟨g0, h⟩
/-- Model.puts -/
theorem T_107 {x1 x2 x3 : Int32} {m : aM} {Q : aM → Prop} (h :
   (a_in ((104 + (10 * x1)) + x2) 264 = true ∧
    (∀ m2, m2 = a_up m 35 0 ((104 + (10 * x1)) + x2).toNatClampNeg x3 →
    Q m2))
  ) : Mv 107 [.inr (34, 0), .inl x1, .inl x2, .inl x3] m Q := by
  refine Mv_in ML_107 (show Rg 107 0 [some (.inr (34, 0)), some (.inl x1), some (.inl x2), some (.inl x3)] [] m (qV Q) from ?_)
  refine r_aload_n L_107_0 rfl ?_
  refine r_getr (c' := 35) (d' := 0) L_107_1 rfl rfl ?_
  refine r_bipush L_107_4 kB_104 ?_
  refine r_bipush L_107_6 kB_10 ?_
  refine r_iload_n L_107_8 rfl ?_
  refine r_imul L_107_9 ?_
  refine r_iadd L_107_10 ?_
  refine r_iload_n L_107_11 rfl ?_
  refine r_iadd L_107_12 ?_
  refine r_iload_n L_107_13 rfl ?_
  obtain ⟨g1, h⟩ := h
  refine r_iast (N := 264) (j := ((104 + (10 * x1)) + x2).toNatClampNeg) L_107_14 (by decide +kernel) rfl g1 rfl ?_
  refine r_nm fun m2 em2 => ?_
  have h := h m2 em2
  exact r_vret L_107_15 RT_107 h
theorem V_107 {x1 x2 x3 : Int32} {m : aM} {P : aM → Prop} (g0 : a_in (104 + 10 * x1 + x2) 264 = true) (h : P (a_up m 35 0 (104 + 10 * x1 + x2).toNatClampNeg x3)) : Mv 107 [.inr (34, 0), .inl x1, .inl x2, .inl x3] m P := by
  exact T_107 ⟨g0, fun m1 e1 => by subst e1; exact h⟩
/-- Model.isPlace -/
theorem T_108 {x0 x1 : Int32} {m : aM} {Q : Int32 → aM → Prop} (h :
   if ¬ x0 < 0 ∧ ¬ 99 < x0 then
    (if ¬ x1 < 0 ∧ ¬ 99 < x1 then
     Q 1 m
    else
     Q 0 m)
   else
    Q 0 m
  ) : Mi 108 [.inl x0, .inl x1] m Q := by
  refine Mi_in ML_108 (show Rg 108 0 [some (.inl x0), some (.inl x1)] [] m (qI Q) from ?_)
  refine r_iload_n L_108_0 rfl ?_
  refine r_iconst L_108_1 kI_0 ?_
  refine r_bipush L_108_2 kB_99 ?_
  refine r_cs L_108_4 (by decide) rfl (V_97 ?_)
  refine r_ifeqP L_108_7 (i_mono h (fun c1 h => ?_) (fun c1 h => ?_))
  · refine r_iload_n L_108_10 rfl ?_
    refine r_iconst L_108_11 kI_0 ?_
    refine r_bipush L_108_12 kB_99 ?_
    refine r_cs L_108_14 (by decide) rfl (V_97 ?_)
    refine r_ifeqP L_108_17 (i_mono h (fun c2 h => ?_) (fun c2 h => ?_))
    · refine r_iconst L_108_20 kI_1 ?_
      refine r_goto L_108_21 ?_
      exact r_zret L_108_25 RT_108 (Or.inr rfl) h
    · refine r_iconst L_108_24 kI_0 ?_
      exact r_zret L_108_25 RT_108 (Or.inl rfl) h
  · refine r_iconst L_108_24 kI_0 ?_
    exact r_zret L_108_25 RT_108 (Or.inl rfl) h
theorem V_108 {x0 x1 : Int32} {m : aM} {P : Int32 → aM → Prop} (h : P (bP ((¬ x0 < 0 ∧ ¬ 99 < x0) ∧ (¬ x1 < 0 ∧ ¬ 99 < x1))) m) : Mi 108 [.inl x0, .inl x1] m P := by
  refine T_108 ?_
  repeat' (first | (refine And.intro (by first | assumption | exact g0 (by assumption)) ?_) | split)
  all_goals first
    | exact h
    | (rw [bP_t (by clear h; simp_all only [not_true_eq_false, not_false_eq_true, and_true, true_and, and_false, false_and, or_true, true_or, or_false, false_or, and_self, or_self])] at h; exact h)
    | (rw [bP_f (by clear h; simp_all only [not_true_eq_false, not_false_eq_true, and_true, true_and, and_false, false_and, or_true, true_or, or_false, false_or, and_self, or_self])] at h; exact h)
/-- Model.isChannel -/
theorem T_109 {x0 : Int32} {m : aM} {Q : Int32 → aM → Prop} (h :
   Q (bP (¬ x0 < 0 ∧ ¬ 7 < x0)) m
  ) : Mi 109 [.inl x0] m Q := by
  refine Mi_in ML_109 (show Rg 109 0 [some (.inl x0)] [] m (qI Q) from ?_)
  refine r_iload_n L_109_0 rfl ?_
  refine r_iconst L_109_1 kI_0 ?_
  refine r_bipush L_109_2 kB_7 ?_
  refine r_cs L_109_4 (by decide) rfl (V_97 ?_)
  exact r_zret L_109_7 RT_109 bP_01 h
theorem V_109 {x0 : Int32} {m : aM} {P : Int32 → aM → Prop} (h : P (bP (¬ x0 < 0 ∧ ¬ 7 < x0)) m) : Mi 109 [.inl x0] m P := by
  refine T_109 ?_
  repeat' (first | (refine And.intro (by first | assumption | exact g0 (by assumption)) ?_) | split)
  all_goals first
    | exact h
    | (rw [bP_t (by clear h; simp_all only [not_true_eq_false, not_false_eq_true, and_true, true_and, and_false, false_and, or_true, true_or, or_false, false_or, and_self, or_self])] at h; exact h)
    | (rw [bP_f (by clear h; simp_all only [not_true_eq_false, not_false_eq_true, and_true, true_and, and_false, false_and, or_true, true_or, or_false, false_or, and_self, or_self])] at h; exact h)
/-- Model.isPower -/
theorem T_110 {x0 : Int32} {m : aM} {Q : Int32 → aM → Prop} (h :
   Q (bP (¬ x0 < 0 ∧ ¬ 3 < x0)) m
  ) : Mi 110 [.inl x0] m Q := by
  refine Mi_in ML_110 (show Rg 110 0 [some (.inl x0)] [] m (qI Q) from ?_)
  refine r_iload_n L_110_0 rfl ?_
  refine r_iconst L_110_1 kI_0 ?_
  refine r_iconst L_110_2 kI_3 ?_
  refine r_cs L_110_3 (by decide) rfl (V_97 ?_)
  exact r_zret L_110_6 RT_110 bP_01 h
theorem V_110 {x0 : Int32} {m : aM} {P : Int32 → aM → Prop} (h : P (bP (¬ x0 < 0 ∧ ¬ 3 < x0)) m) : Mi 110 [.inl x0] m P := by
  refine T_110 ?_
  repeat' (first | (refine And.intro (by first | assumption | exact g0 (by assumption)) ?_) | split)
  all_goals first
    | exact h
    | (rw [bP_t (by clear h; simp_all only [not_true_eq_false, not_false_eq_true, and_true, true_and, and_false, false_and, or_true, true_or, or_false, false_or, and_self, or_self])] at h; exact h)
    | (rw [bP_f (by clear h; simp_all only [not_true_eq_false, not_false_eq_true, and_true, true_and, and_false, false_and, or_true, true_or, or_false, false_or, and_self, or_self])] at h; exact h)
/-- Model.radiusOf -/
theorem T_111 {x0 : Int32} {m : aM} {Q : Int32 → aM → Prop} (h :
   if x0 = 0 then
    Q 4 m
   else
    if x0 = 1 then
     Q 9 m
    else
     if x0 = 2 then
      Q 16 m
     else
      if x0 = 3 then
       Q 26 m
      else
       Q 40 m
  ) : Mi 111 [.inl x0] m Q := by
  refine Mi_in ML_111 (show Rg 111 0 [some (.inl x0)] [] m (qI Q) from ?_)
  refine r_iload_n L_111_0 rfl ?_
  refine r_ifn L_111_1 rfl (i_mono h (fun c1 h => ?_) (fun c1 h => ?_))
  · refine r_iconst L_111_4 kI_4 ?_
    refine r_goto L_111_5 ?_
    exact r_iret L_111_40 RT_111 h
  · refine r_iload_n L_111_8 rfl ?_
    refine r_iconst L_111_9 kI_1 ?_
    refine r_icmpn L_111_10 rfl (i_mono h (fun c2 h => ?_) (fun c2 h => ?_))
    · refine r_bipush L_111_13 kB_9 ?_
      refine r_goto L_111_15 ?_
      exact r_iret L_111_40 RT_111 h
    · refine r_iload_n L_111_18 rfl ?_
      refine r_iconst L_111_19 kI_2 ?_
      refine r_icmpn L_111_20 rfl (i_mono h (fun c3 h => ?_) (fun c3 h => ?_))
      · refine r_bipush L_111_23 kB_16 ?_
        refine r_goto L_111_25 ?_
        exact r_iret L_111_40 RT_111 h
      · refine r_iload_n L_111_28 rfl ?_
        refine r_iconst L_111_29 kI_3 ?_
        refine r_icmpn L_111_30 rfl (i_mono h (fun c4 h => ?_) (fun c4 h => ?_))
        · refine r_bipush L_111_33 kB_26 ?_
          refine r_goto L_111_35 ?_
          exact r_iret L_111_40 RT_111 h
        · refine r_bipush L_111_38 kB_40 ?_
          exact r_iret L_111_40 RT_111 h
theorem V_111 {x0 : Int32} {m : aM} {P : Int32 → aM → Prop} (h : P (radI x0) m) : Mi 111 [.inl x0] m P := by
  refine T_111 ?_
  unfold radI at h
  (repeat' split) <;> simp_all
/-- Model.reach -/
theorem T_112 {x0 : Int32} {m : aM} {Q : Int32 → aM → Prop} (h :
   if x0 = 0 then
    Q 1 m
   else
    if x0 = 1 then
     Q 3 m
    else
     if x0 = 2 then
      Q 6 m
     else
      Q 10 m
  ) : Mi 112 [.inl x0] m Q := by
  refine Mi_in ML_112 (show Rg 112 0 [some (.inl x0)] [] m (qI Q) from ?_)
  refine r_iload_n L_112_0 rfl ?_
  refine r_ifn L_112_1 rfl (i_mono h (fun c1 h => ?_) (fun c1 h => ?_))
  · refine r_iconst L_112_4 kI_1 ?_
    refine r_goto L_112_5 ?_
    exact r_iret L_112_29 RT_112 h
  · refine r_iload_n L_112_8 rfl ?_
    refine r_iconst L_112_9 kI_1 ?_
    refine r_icmpn L_112_10 rfl (i_mono h (fun c2 h => ?_) (fun c2 h => ?_))
    · refine r_iconst L_112_13 kI_3 ?_
      refine r_goto L_112_14 ?_
      exact r_iret L_112_29 RT_112 h
    · refine r_iload_n L_112_17 rfl ?_
      refine r_iconst L_112_18 kI_2 ?_
      refine r_icmpn L_112_19 rfl (i_mono h (fun c3 h => ?_) (fun c3 h => ?_))
      · refine r_bipush L_112_22 kB_6 ?_
        refine r_goto L_112_24 ?_
        exact r_iret L_112_29 RT_112 h
      · refine r_bipush L_112_27 kB_10 ?_
        exact r_iret L_112_29 RT_112 h
theorem V_112 {x0 : Int32} {m : aM} {P : Int32 → aM → Prop} (h : P (rchI x0) m) : Mi 112 [.inl x0] m P := by
  refine T_112 ?_
  unfold rchI at h
  (repeat' split) <;> simp_all
/-- Model.isNear -/
theorem T_113 {x0 x1 x2 x3 x4 : Int32} {m : aM} {Q : Int32 → aM → Prop} (h :
   if (x4 * x4) < (((x0 - x2) * (x0 - x2)) + ((x1 - x3) * (x1 - x3))) then
    Q 0 m
   else
    Q 1 m
  ) : Mi 113 [.inl x0, .inl x1, .inl x2, .inl x3, .inl x4] m Q := by
  refine Mi_in ML_113 (show Rg 113 0 [some (.inl x0), some (.inl x1), some (.inl x2), some (.inl x3), some (.inl x4)] [] m (qI Q) from ?_)
  refine r_iload_n L_113_0 rfl ?_
  refine r_iload_n L_113_1 rfl ?_
  refine r_isub L_113_2 ?_
  refine r_iload_n L_113_3 rfl ?_
  refine r_iload_n L_113_4 rfl ?_
  refine r_isub L_113_5 ?_
  refine r_imul L_113_6 ?_
  refine r_iload_n L_113_7 rfl ?_
  refine r_iload_n L_113_8 rfl ?_
  refine r_isub L_113_9 ?_
  refine r_iload_n L_113_10 rfl ?_
  refine r_iload_n L_113_11 rfl ?_
  refine r_isub L_113_12 ?_
  refine r_imul L_113_13 ?_
  refine r_iadd L_113_14 ?_
  refine r_iload L_113_15 rfl ?_
  refine r_iload L_113_17 rfl ?_
  refine r_imul L_113_19 ?_
  refine r_icmp L_113_20 rfl (i_mono h (fun c1 h => ?_) (fun c1 h => ?_))
  · refine r_iconst L_113_27 kI_0 ?_
    exact r_zret L_113_28 RT_113 (Or.inl rfl) h
  · refine r_iconst L_113_23 kI_1 ?_
    refine r_goto L_113_24 ?_
    exact r_zret L_113_28 RT_113 (Or.inr rfl) h
theorem V_113 {x0 x1 x2 x3 x4 : Int32} {m : aM} {P : Int32 → aM → Prop} (h : P (bP (nearP x0 x1 x2 x3 x4)) m) : Mi 113 [.inl x0, .inl x1, .inl x2, .inl x3, .inl x4] m P := by
  refine T_113 ?_
  unfold nearP at h
  repeat' (first | (refine And.intro (by first | assumption | exact g0 (by assumption)) ?_) | split)
  all_goals first
    | exact h
    | (rw [bP_t (by clear h; simp_all only [not_true_eq_false, not_false_eq_true, and_true, true_and, and_false, false_and, or_true, true_or, or_false, false_or, and_self, or_self])] at h; exact h)
    | (rw [bP_f (by clear h; simp_all only [not_true_eq_false, not_false_eq_true, and_true, true_and, and_false, false_and, or_true, true_or, or_false, false_or, and_self, or_self])] at h; exact h)
/-- Model.hasLease -/
theorem T_120 {x1 : Int32} {m : aM} {Q : Int32 → aM → Prop} (h :
   a_in (104 + 10 * x1 + 3) 264 = true ∧
    if (m 35 0 (104 + 10 * x1 + 3).toNatClampNeg) = (-6) then
     Q 0 m
    else
     Q 1 m
  ) : Mi 120 [.inr (34, 0), .inl x1] m Q := by
  refine Mi_in ML_120 (show Rg 120 0 [some (.inr (34, 0)), some (.inl x1)] [] m (qI Q) from ?_)
  refine r_aload_n L_120_0 rfl ?_
  refine r_iload_n L_120_1 rfl ?_
  refine r_iconst L_120_2 kI_3 ?_
  obtain ⟨g1, h⟩ := h
  refine r_cv L_120_3 rfl (V_106 g1 ?_)
  refine r_bipush L_120_6 kB_m6 ?_
  refine r_icmp L_120_8 rfl (i_mono h (fun c2 h => ?_) (fun c2 h => ?_))
  · refine r_iconst L_120_15 kI_0 ?_
    exact r_zret L_120_16 RT_120 (Or.inl rfl) h
  · refine r_iconst L_120_11 kI_1 ?_
    refine r_goto L_120_12 ?_
    exact r_zret L_120_16 RT_120 (Or.inr rfl) h
theorem V_120 {x1 : Int32} {m : aM} {P : Int32 → aM → Prop} (g0 : a_in (104 + 10 * x1 + 3) 264 = true) (h : P (bP (¬ m 35 0 (104 + 10 * x1 + 3).toNatClampNeg = (-6))) m) : Mi 120 [.inr (34, 0), .inl x1] m P := by
  refine T_120 ?_
  repeat' (first | (refine And.intro (by first | assumption | exact g0 (by assumption)) ?_) | split)
  all_goals first
    | exact h
    | (rw [bP_t (by clear h; simp_all only [not_true_eq_false, not_false_eq_true, and_true, true_and, and_false, false_and, or_true, true_or, or_false, false_or, and_self, or_self])] at h; exact h)
    | (rw [bP_f (by clear h; simp_all only [not_true_eq_false, not_false_eq_true, and_true, true_and, and_false, false_and, or_true, true_or, or_false, false_or, and_self, or_self])] at h; exact h)
/-- Model.ends -/
theorem T_126 {x1 : Int32} {m : aM} {Q : aM → Prop} (h :
   a_in (104 + 10 * x1 + 3) 264 = true ∧
    (∀ m2, m2 = a_up m 35 0 (104 + 10 * x1 + 3).toNatClampNeg (-6) →
    a_in (104 + 10 * x1 + 4) 264 = true ∧
     (∀ m4, m4 = a_up m2 35 0 (104 + 10 * x1 + 4).toNatClampNeg (-6) →
     a_in (104 + 10 * x1 + 5) 264 = true ∧
      (∀ m6, m6 = a_up m4 35 0 (104 + 10 * x1 + 5).toNatClampNeg (-6) →
      a_in (104 + 10 * x1 + 6) 264 = true ∧
       (∀ m8, m8 = a_up m6 35 0 (104 + 10 * x1 + 6).toNatClampNeg (-6) →
       Q m8))))
  ) : Mv 126 [.inr (34, 0), .inl x1] m Q := by
  refine Mv_in ML_126 (show Rg 126 0 [some (.inr (34, 0)), some (.inl x1)] [] m (qV Q) from ?_)
  refine r_aload_n L_126_0 rfl ?_
  refine r_iload_n L_126_1 rfl ?_
  refine r_iconst L_126_2 kI_3 ?_
  refine r_bipush L_126_3 kB_m6 ?_
  obtain ⟨g1, h⟩ := h
  refine r_cvv L_126_5 rfl (V_107 g1 ?_)
  refine r_nm fun m2 em2 => ?_
  have h := h m2 em2
  refine r_aload_n L_126_8 rfl ?_
  refine r_iload_n L_126_9 rfl ?_
  refine r_iconst L_126_10 kI_4 ?_
  refine r_bipush L_126_11 kB_m6 ?_
  obtain ⟨g3, h⟩ := h
  refine r_cvv L_126_13 rfl (V_107 g3 ?_)
  refine r_nm fun m4 em4 => ?_
  have h := h m4 em4
  refine r_aload_n L_126_16 rfl ?_
  refine r_iload_n L_126_17 rfl ?_
  refine r_iconst L_126_18 kI_5 ?_
  refine r_bipush L_126_19 kB_m6 ?_
  obtain ⟨g5, h⟩ := h
  refine r_cvv L_126_21 rfl (V_107 g5 ?_)
  refine r_nm fun m6 em6 => ?_
  have h := h m6 em6
  refine r_aload_n L_126_24 rfl ?_
  refine r_iload_n L_126_25 rfl ?_
  refine r_bipush L_126_26 kB_6 ?_
  refine r_bipush L_126_28 kB_m6 ?_
  obtain ⟨g7, h⟩ := h
  refine r_cvv L_126_30 rfl (V_107 g7 ?_)
  refine r_nm fun m8 em8 => ?_
  have h := h m8 em8
  exact r_vret L_126_33 RT_126 h
theorem V_126 {x1 : Int32} {m : aM} {P : aM → Prop} (g0 : a_in (104 + 10 * x1 + 3) 264 = true) (g1 : a_in (104 + 10 * x1 + 4) 264 = true) (g2 : a_in (104 + 10 * x1 + 5) 264 = true) (g3 : a_in (104 + 10 * x1 + 6) 264 = true) (h : P (rEnds m x1)) : Mv 126 [.inr (34, 0), .inl x1] m P := by
  exact T_126 ⟨g0, fun m1 e1 => ⟨g1, fun m2 e2 => ⟨g2, fun m3 e3 => ⟨g3, fun m4 e4 => by subst e1 e2 e3 e4; exact h⟩⟩⟩⟩
/-- Model.isAt -/
theorem T_147 {x1 x2 : Int32} {m : aM} {Q : Int32 → aM → Prop} (h :
   if (m 34 0 9) < (m 34 0 8) then
    (a_in (m 34 0 9) 80 = true ∧
     if ¬ (m 40 0 (m 34 0 9).toNatClampNeg) < x1 ∧ ¬ x2 < (m 40 0 (m 34 0 9).toNatClampNeg) then
      Q 1 m
     else
      Q 0 m)
   else
    Q 0 m
  ) : Mi 147 [.inr (34, 0), .inl x1, .inl x2] m Q := by
  refine Mi_in ML_147 (show Rg 147 0 [some (.inr (34, 0)), some (.inl x1), some (.inl x2)] [] m (qI Q) from ?_)
  refine r_aload_n L_147_0 rfl ?_
  refine r_geti L_147_1 rfl rfl ?_
  refine r_aload_n L_147_4 rfl ?_
  refine r_geti L_147_5 rfl rfl ?_
  refine r_icmpn L_147_8 cc_ge (i_mono h (fun c1 h => ?_) (fun c1 h => ?_))
  · refine r_aload_n L_147_11 rfl ?_
    refine r_getr (c' := 40) (d' := 0) L_147_12 rfl rfl ?_
    refine r_aload_n L_147_15 rfl ?_
    refine r_geti L_147_16 rfl rfl ?_
    obtain ⟨g2, h⟩ := h
    refine r_iald (N := 80) (j := (m 34 0 9).toNatClampNeg) L_147_19 (by decide +kernel) rfl g2 rfl ?_
    refine r_iload_n L_147_20 rfl ?_
    refine r_iload_n L_147_21 rfl ?_
    refine r_cs L_147_22 (by decide) rfl (V_97 ?_)
    refine r_ifeqP L_147_25 (i_mono h (fun c3 h => ?_) (fun c3 h => ?_))
    · refine r_iconst L_147_28 kI_1 ?_
      refine r_goto L_147_29 ?_
      exact r_zret L_147_33 RT_147 (Or.inr rfl) h
    · refine r_iconst L_147_32 kI_0 ?_
      exact r_zret L_147_33 RT_147 (Or.inl rfl) h
  · refine r_iconst L_147_32 kI_0 ?_
    exact r_zret L_147_33 RT_147 (Or.inl rfl) h
theorem V_147 {x1 x2 : Int32} {m : aM} {P : Int32 → aM → Prop} (g0 : m 34 0 9 < m 34 0 8 → a_in (m 34 0 9) 80 = true) (h : P (bP (m 34 0 9 < m 34 0 8 ∧ ¬ m 40 0 (m 34 0 9).toNatClampNeg < x1 ∧ ¬ x2 < m 40 0 (m 34 0 9).toNatClampNeg)) m) : Mi 147 [.inr (34, 0), .inl x1, .inl x2] m P := by
  refine T_147 ?_
  repeat' (first | (refine And.intro (by first | assumption | exact g0 (by assumption)) ?_) | split)
  all_goals first
    | exact h
    | (rw [bP_t (by clear h; simp_all only [not_true_eq_false, not_false_eq_true, and_true, true_and, and_false, false_and, or_true, true_or, or_false, false_or, and_self, or_self])] at h; exact h)
    | (rw [bP_f (by clear h; simp_all only [not_true_eq_false, not_false_eq_true, and_true, true_and, and_false, false_and, or_true, true_or, or_false, false_or, and_self, or_self])] at h; exact h)
