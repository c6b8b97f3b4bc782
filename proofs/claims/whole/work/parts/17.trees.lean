/-! trees: what is left of a method when its rows are walked; by program (wip/whole/gen9.py) -/
def H_98_18 (x1 : Int32) (m : aM) (Q : aM → Prop) : Prop := Rg 98 18 [some (.inr (34, 0)), some (.inl x1)] [] m (qV Q)
def H_98_59 (x1 : Int32) (m : aM) (Q : aM → Prop) : Prop := Rg 98 59 [some (.inr (34, 0)), some (.inl x1)] [] m (qV Q)
/-- Model.records, the loop at 59 -/
theorem T_98_59 {x1 : Int32} {m : aM} {Q : aM → Prop} (h :
   if x1 < 264 then
    (a_in x1 264 = true ∧
     (a_in ((264 * (m 34 0 5)) + x1) 1320 = true ∧
      (∀ m4, m4 = a_up m 36 0 ((264 * (m 34 0 5)) + x1).toNatClampNeg (m 35 0 x1.toNatClampNeg) →
      H_98_59 (x1 + 1) m4 Q)))
   else
    (∀ m5, m5 = a_up m 34 0 5 ((m 34 0 5) + 1) →
    Q m5)
  ) : H_98_59 x1 m Q := by
  show Rg 98 59 [some (.inr (34, 0)), some (.inl x1)] [] m (qV Q)
  refine r_iload_n L_98_59 rfl ?_
  refine r_sipush L_98_60 kS_264 ?_
  refine r_icmpn L_98_63 cc_ge (i_mono h (fun c1 h => ?_) (fun c1 h => ?_))
  · refine r_aload_n L_98_66 rfl ?_
    refine r_getr (c' := 36) (d' := 0) L_98_67 rfl rfl ?_
    refine r_sipush L_98_70 kS_264 ?_
    refine r_aload_n L_98_73 rfl ?_
    refine r_geti L_98_74 rfl rfl ?_
    refine r_imul L_98_77 ?_
    refine r_iload_n L_98_78 rfl ?_
    refine r_iadd L_98_79 ?_
    refine r_aload_n L_98_80 rfl ?_
    refine r_getr (c' := 35) (d' := 0) L_98_81 rfl rfl ?_
    refine r_iload_n L_98_84 rfl ?_
    obtain ⟨g2, h⟩ := h
    refine r_iald (N := 264) (j := x1.toNatClampNeg) L_98_85 (by decide +kernel) rfl g2 rfl ?_
    obtain ⟨g3, h⟩ := h
    refine r_iast (N := 1320) (j := ((264 * (m 34 0 5)) + x1).toNatClampNeg) L_98_86 (by decide +kernel) rfl g3 rfl ?_
    refine r_nm fun m4 em4 => ?_
    have h := h m4 em4
    refine r_iinc (ls1 := [some (.inr (34, 0)), some (.inl (x1 + 1))]) L_98_87 kI_1 rfl (Nat.le_of_ble_eq_true rfl) rfl ?_
    refine r_goto L_98_90 ?_
    exact h
  · refine r_aload_n L_98_93 rfl ?_
    refine r_dup L_98_94 ?_
    refine r_geti L_98_95 rfl rfl ?_
    refine r_iconst L_98_98 kI_1 ?_
    refine r_iadd L_98_99 ?_
    refine r_put L_98_100 ⟨rfl, rfl⟩ (fun z => absurd z (by decide)) ?_
    refine r_nm fun m5 em5 => ?_
    have h := h m5 em5
    exact r_vret L_98_103 RT_98 h
/-- Model.records, the loop at 18 -/
theorem T_98_18 {x1 : Int32} {m : aM} {Q : aM → Prop} (h :
   if x1 < 1056 then
    (a_in (x1 + 264) 1320 = true ∧
     (a_in x1 1320 = true ∧
      (∀ m4, m4 = a_up m 36 0 x1.toNatClampNeg (m 36 0 (x1 + 264).toNatClampNeg) →
      H_98_18 (x1 + 1) m4 Q)))
   else
    (∀ m5, m5 = a_up m 34 0 5 ((m 34 0 5) - 1) →
    H_98_59 0 m5 Q)
  ) : H_98_18 x1 m Q := by
  show Rg 98 18 [some (.inr (34, 0)), some (.inl x1)] [] m (qV Q)
  refine r_iload_n L_98_18 rfl ?_
  refine r_sipush L_98_19 kS_1056 ?_
  refine r_icmpn L_98_22 cc_ge (i_mono h (fun c1 h => ?_) (fun c1 h => ?_))
  · refine r_aload_n L_98_25 rfl ?_
    refine r_getr (c' := 36) (d' := 0) L_98_26 rfl rfl ?_
    refine r_iload_n L_98_29 rfl ?_
    refine r_aload_n L_98_30 rfl ?_
    refine r_getr (c' := 36) (d' := 0) L_98_31 rfl rfl ?_
    refine r_iload_n L_98_34 rfl ?_
    refine r_sipush L_98_35 kS_264 ?_
    refine r_iadd L_98_38 ?_
    obtain ⟨g2, h⟩ := h
    refine r_iald (N := 1320) (j := (x1 + 264).toNatClampNeg) L_98_39 (by decide +kernel) rfl g2 rfl ?_
    obtain ⟨g3, h⟩ := h
    refine r_iast (N := 1320) (j := x1.toNatClampNeg) L_98_40 (by decide +kernel) rfl g3 rfl ?_
    refine r_nm fun m4 em4 => ?_
    have h := h m4 em4
    refine r_iinc (ls1 := [some (.inr (34, 0)), some (.inl (x1 + 1))]) L_98_41 kI_1 rfl (Nat.le_of_ble_eq_true rfl) rfl ?_
    refine r_goto L_98_44 ?_
    exact h
  · refine r_aload_n L_98_47 rfl ?_
    refine r_dup L_98_48 ?_
    refine r_geti L_98_49 rfl rfl ?_
    refine r_iconst L_98_52 kI_1 ?_
    refine r_isub L_98_53 ?_
    refine r_put L_98_54 ⟨rfl, rfl⟩ (fun z => absurd z (by decide)) ?_
    refine r_nm fun m5 em5 => ?_
    have h := h m5 em5
    refine r_iconst L_98_57 kI_0 ?_
    refine r_istore_n (ls1 := [some (.inr (34, 0)), some (.inl 0)]) L_98_58 (Nat.le_of_ble_eq_true rfl) rfl ?_
    exact h
/-- Model.records -/
theorem T_98 {m : aM} {Q : aM → Prop} (h :
   if (m 34 0 6) = 0 then
    (if (m 34 0 5) = 5 then
     H_98_18 0 m Q
    else
     H_98_59 0 m Q)
   else
    Q m
  ) : Mv 98 [.inr (34, 0)] m Q := by
  refine Mv_in ML_98 (show Rg 98 0 [some (.inr (34, 0)), none] [] m (qV Q) from ?_)
  refine r_aload_n L_98_0 rfl ?_
  refine r_geti L_98_1 rfl rfl ?_
  refine r_if L_98_4 rfl (i_mono h (fun c1 h => ?_) (fun c1 h => ?_))
  · refine r_aload_n L_98_8 rfl ?_
    refine r_geti L_98_9 rfl rfl ?_
    refine r_iconst L_98_12 kI_5 ?_
    refine r_icmpn L_98_13 rfl (i_mono h (fun c2 h => ?_) (fun c2 h => ?_))
    · refine r_iconst L_98_16 kI_0 ?_
      refine r_istore_n (ls1 := [some (.inr (34, 0)), some (.inl 0)]) L_98_17 (Nat.le_of_ble_eq_true rfl) rfl ?_
      exact h
    · refine r_iconst L_98_57 kI_0 ?_
      refine r_istore_n (ls1 := [some (.inr (34, 0)), some (.inl 0)]) L_98_58 (Nat.le_of_ble_eq_true rfl) rfl ?_
      exact h
  · exact r_vret L_98_7 RT_98 h
def H_99_2 (x1 : Int32) (m : aM) (Q : aM → Prop) : Prop := Rg 99 2 [some (.inr (34, 0)), some (.inl x1)] [] m (qV Q)
/-- Model.holds, the loop at 2 -/
theorem T_99_2 {x1 : Int32} {m : aM} {Q : aM → Prop} (h :
   if x1 < 264 then
    (a_in x1 264 = true ∧
     (∀ m3, m3 = a_up m 39 0 x1.toNatClampNeg (m 35 0 x1.toNatClampNeg) →
     H_99_2 (x1 + 1) m3 Q))
   else
    Q m
  ) : H_99_2 x1 m Q := by
  show Rg 99 2 [some (.inr (34, 0)), some (.inl x1)] [] m (qV Q)
  refine r_iload_n L_99_2 rfl ?_
  refine r_sipush L_99_3 kS_264 ?_
  refine r_icmpn L_99_6 cc_ge (i_mono h (fun c1 h => ?_) (fun c1 h => ?_))
  · refine r_aload_n L_99_9 rfl ?_
    refine r_getr (c' := 39) (d' := 0) L_99_10 rfl rfl ?_
    refine r_iload_n L_99_13 rfl ?_
    refine r_aload_n L_99_14 rfl ?_
    refine r_getr (c' := 35) (d' := 0) L_99_15 rfl rfl ?_
    refine r_iload_n L_99_18 rfl ?_
    obtain ⟨g2, h⟩ := h
    refine r_iald (N := 264) (j := x1.toNatClampNeg) L_99_19 (by decide +kernel) rfl g2 rfl ?_
    refine r_iast (N := 264) (j := x1.toNatClampNeg) L_99_20 (by decide +kernel) rfl g2 rfl ?_
    refine r_nm fun m3 em3 => ?_
    have h := h m3 em3
    refine r_iinc (ls1 := [some (.inr (34, 0)), some (.inl (x1 + 1))]) L_99_21 kI_1 rfl (Nat.le_of_ble_eq_true rfl) rfl ?_
    refine r_goto L_99_24 ?_
    exact h
  · exact r_vret L_99_27 RT_99 h
/-- Model.holds -/
theorem T_99 {m : aM} {Q : aM → Prop} (h :
   H_99_2 0 m Q
  ) : Mv 99 [.inr (34, 0)] m Q := by
  refine Mv_in ML_99 (show Rg 99 0 [some (.inr (34, 0)), none] [] m (qV Q) from ?_)
  refine r_iconst L_99_0 kI_0 ?_
  refine r_istore_n (ls1 := [some (.inr (34, 0)), some (.inl 0)]) L_99_1 (Nat.le_of_ble_eq_true rfl) rfl ?_
  exact h
def H_100_2 (x1 : Int32) (m : aM) (Q : aM → Prop) : Prop := Rg 100 2 [some (.inr (34, 0)), some (.inl x1)] [] m (qV Q)
/-- Model.lets, the loop at 2 -/
theorem T_100_2 {x1 : Int32} {m : aM} {Q : aM → Prop} (h :
   if x1 < 264 then
    (a_in x1 264 = true ∧
     (∀ m3, m3 = a_up m 35 0 x1.toNatClampNeg (m 39 0 x1.toNatClampNeg) →
     H_100_2 (x1 + 1) m3 Q))
   else
    Q m
  ) : H_100_2 x1 m Q := by
  show Rg 100 2 [some (.inr (34, 0)), some (.inl x1)] [] m (qV Q)
  refine r_iload_n L_100_2 rfl ?_
  refine r_sipush L_100_3 kS_264 ?_
  refine r_icmpn L_100_6 cc_ge (i_mono h (fun c1 h => ?_) (fun c1 h => ?_))
  · refine r_aload_n L_100_9 rfl ?_
    refine r_getr (c' := 35) (d' := 0) L_100_10 rfl rfl ?_
    refine r_iload_n L_100_13 rfl ?_
    refine r_aload_n L_100_14 rfl ?_
    refine r_getr (c' := 39) (d' := 0) L_100_15 rfl rfl ?_
    refine r_iload_n L_100_18 rfl ?_
    obtain ⟨g2, h⟩ := h
    refine r_iald (N := 264) (j := x1.toNatClampNeg) L_100_19 (by decide +kernel) rfl g2 rfl ?_
    refine r_iast (N := 264) (j := x1.toNatClampNeg) L_100_20 (by decide +kernel) rfl g2 rfl ?_
    refine r_nm fun m3 em3 => ?_
    have h := h m3 em3
    refine r_iinc (ls1 := [some (.inr (34, 0)), some (.inl (x1 + 1))]) L_100_21 kI_1 rfl (Nat.le_of_ble_eq_true rfl) rfl ?_
    refine r_goto L_100_24 ?_
    exact h
  · exact r_vret L_100_27 RT_100 h
/-- Model.lets -/
theorem T_100 {m : aM} {Q : aM → Prop} (h :
   H_100_2 0 m Q
  ) : Mv 100 [.inr (34, 0)] m Q := by
  refine Mv_in ML_100 (show Rg 100 0 [some (.inr (34, 0)), none] [] m (qV Q) from ?_)
  refine r_iconst L_100_0 kI_0 ?_
  refine r_istore_n (ls1 := [some (.inr (34, 0)), some (.inl 0)]) L_100_1 (Nat.le_of_ble_eq_true rfl) rfl ?_
  exact h
/-- Model.isBarredBy -/
theorem T_114 {x1 x2 x3 x4 x5 : Int32} {m : aM} {Q : Int32 → aM → Prop} (h :
   a_in (8 + 5 * x1 + 2) 264 = true ∧
    a_in (8 + 5 * x1 + 4) 264 = true ∧
     if (m 35 0 (8 + 5 * x1 + 4).toNatClampNeg) = 0 then
      Q 0 m
     else
      if ¬ ((m 35 0 (8 + 5 * x1 + 2).toNatClampNeg) - x2) < (-1) ∧ ¬ 1 < ((m 35 0 (8 + 5 * x1 + 2).toNatClampNeg) - x2) then
       (a_in (8 + 5 * x1 + 3) 264 = true ∧
        if ((m 35 0 (8 + 5 * x1 + 2).toNatClampNeg) - x2) = 0 then
         (a_in (8 + 5 * x1 + 0) 264 = true ∧
          a_in (8 + 5 * x1 + 1) 264 = true ∧
           Q (bP (nearP x3 x4 (m 35 0 (8 + 5 * x1 + 0).toNatClampNeg) (m 35 0 (8 + 5 * x1 + 1).toNatClampNeg) ((radI (m 35 0 (8 + 5 * x1 + 3).toNatClampNeg)) + (rchI x5)))) m)
        else
         a_in (8 + 5 * x1 + 0) 264 = true ∧
          a_in (8 + 5 * x1 + 1) 264 = true ∧
           Q (bP (nearP x3 x4 (m 35 0 (8 + 5 * x1 + 0).toNatClampNeg) (m 35 0 (8 + 5 * x1 + 1).toNatClampNeg) ((((radI (m 35 0 (8 + 5 * x1 + 3).toNatClampNeg)) * (m 35 0 5)) / 100) + (rchI x5)))) m)
      else
       Q 0 m
  ) : Mi 114 [.inr (34, 0), .inl x1, .inl x2, .inl x3, .inl x4, .inl x5] m Q := by
  refine Mi_in ML_114 (show Rg 114 0 [some (.inr (34, 0)), some (.inl x1), some (.inl x2), some (.inl x3), some (.inl x4), some (.inl x5), none, none, none] [] m (qI Q) from ?_)
  refine r_aload_n L_114_0 rfl ?_
  refine r_iload_n L_114_1 rfl ?_
  refine r_iconst L_114_2 kI_2 ?_
  obtain ⟨g1, h⟩ := h
  refine r_cv L_114_3 rfl (V_104 g1 ?_)
  refine r_iload_n L_114_6 rfl ?_
  refine r_isub L_114_7 ?_
  refine r_istore (ls1 := [some (.inr (34, 0)), some (.inl x1), some (.inl x2), some (.inl x3), some (.inl x4), some (.inl x5), some (.inl ((m 35 0 (8 + 5 * x1 + 2).toNatClampNeg) - x2)), none, none]) L_114_8 (Nat.le_of_ble_eq_true rfl) rfl ?_
  refine r_aload_n L_114_10 rfl ?_
  refine r_iload_n L_114_11 rfl ?_
  refine r_iconst L_114_12 kI_4 ?_
  obtain ⟨g2, h⟩ := h
  refine r_cv L_114_13 rfl (V_104 g2 ?_)
  refine r_if L_114_16 rfl (i_mono h (fun c3 h => ?_) (fun c3 h => ?_))
  · refine r_iconst L_114_29 kI_0 ?_
    exact r_zret L_114_30 RT_114 (Or.inl rfl) h
  · refine r_iload L_114_19 rfl ?_
    refine r_iconst L_114_21 kI_m1 ?_
    refine r_iconst L_114_22 kI_1 ?_
    refine r_cs L_114_23 (by decide) rfl (V_97 ?_)
    refine r_ifneP L_114_26 (i_mono h (fun c4 h => ?_) (fun c4 h => ?_))
    · refine r_aload_n L_114_31 rfl ?_
      refine r_iload_n L_114_32 rfl ?_
      refine r_iconst L_114_33 kI_3 ?_
      obtain ⟨g5, h⟩ := h
      refine r_cv L_114_34 rfl (V_104 g5 ?_)
      refine r_cs L_114_37 (by decide) rfl (V_111 ?_)
      refine r_istore (ls1 := [some (.inr (34, 0)), some (.inl x1), some (.inl x2), some (.inl x3), some (.inl x4), some (.inl x5), some (.inl ((m 35 0 (8 + 5 * x1 + 2).toNatClampNeg) - x2)), some (.inl (radI (m 35 0 (8 + 5 * x1 + 3).toNatClampNeg))), none]) L_114_40 (Nat.le_of_ble_eq_true rfl) rfl ?_
      refine r_iload L_114_42 rfl ?_
      refine r_ifn L_114_44 rfl (i_mono h (fun c6 h => ?_) (fun c6 h => ?_))
      · refine r_iload L_114_47 rfl ?_
        refine r_goto L_114_49 ?_
        refine r_istore (ls1 := [some (.inr (34, 0)), some (.inl x1), some (.inl x2), some (.inl x3), some (.inl x4), some (.inl x5), some (.inl ((m 35 0 (8 + 5 * x1 + 2).toNatClampNeg) - x2)), some (.inl (radI (m 35 0 (8 + 5 * x1 + 3).toNatClampNeg))), some (.inl (radI (m 35 0 (8 + 5 * x1 + 3).toNatClampNeg)))]) L_114_64 (Nat.le_of_ble_eq_true rfl) rfl ?_
        refine r_iload_n L_114_66 rfl ?_
        refine r_iload L_114_67 rfl ?_
        refine r_aload_n L_114_69 rfl ?_
        refine r_iload_n L_114_70 rfl ?_
        refine r_iconst L_114_71 kI_0 ?_
        obtain ⟨g7, h⟩ := h
        refine r_cv L_114_72 rfl (V_104 g7 ?_)
        refine r_aload_n L_114_75 rfl ?_
        refine r_iload_n L_114_76 rfl ?_
        refine r_iconst L_114_77 kI_1 ?_
        obtain ⟨g8, h⟩ := h
        refine r_cv L_114_78 rfl (V_104 g8 ?_)
        refine r_iload L_114_81 rfl ?_
        refine r_iload L_114_83 rfl ?_
        refine r_cs L_114_85 (by decide) rfl (V_112 ?_)
        refine r_iadd L_114_88 ?_
        refine r_cs L_114_89 (by decide) rfl (V_113 ?_)
        exact r_zret L_114_92 RT_114 bP_01 h
      · refine r_iload L_114_52 rfl ?_
        refine r_aload_n L_114_54 rfl ?_
        refine r_getr (c' := 35) (d' := 0) L_114_55 rfl rfl ?_
        refine r_iconst L_114_58 kI_5 ?_
        refine r_iald (N := 264) (j := 5) L_114_59 (by decide +kernel) rfl (by decide +kernel) (by decide +kernel) ?_
        refine r_imul L_114_60 ?_
        refine r_bipush L_114_61 kB_100 ?_
        refine r_idiv L_114_63 (by decide +kernel) ?_
        refine r_istore (ls1 := [some (.inr (34, 0)), some (.inl x1), some (.inl x2), some (.inl x3), some (.inl x4), some (.inl x5), some (.inl ((m 35 0 (8 + 5 * x1 + 2).toNatClampNeg) - x2)), some (.inl (radI (m 35 0 (8 + 5 * x1 + 3).toNatClampNeg))), some (.inl (((radI (m 35 0 (8 + 5 * x1 + 3).toNatClampNeg)) * (m 35 0 5)) / 100))]) L_114_64 (Nat.le_of_ble_eq_true rfl) rfl ?_
        refine r_iload_n L_114_66 rfl ?_
        refine r_iload L_114_67 rfl ?_
        refine r_aload_n L_114_69 rfl ?_
        refine r_iload_n L_114_70 rfl ?_
        refine r_iconst L_114_71 kI_0 ?_
        obtain ⟨g9, h⟩ := h
        refine r_cv L_114_72 rfl (V_104 g9 ?_)
        refine r_aload_n L_114_75 rfl ?_
        refine r_iload_n L_114_76 rfl ?_
        refine r_iconst L_114_77 kI_1 ?_
        obtain ⟨g10, h⟩ := h
        refine r_cv L_114_78 rfl (V_104 g10 ?_)
        refine r_iload L_114_81 rfl ?_
        refine r_iload L_114_83 rfl ?_
        refine r_cs L_114_85 (by decide) rfl (V_112 ?_)
        refine r_iadd L_114_88 ?_
        refine r_cs L_114_89 (by decide) rfl (V_113 ?_)
        exact r_zret L_114_92 RT_114 bP_01 h
    · refine r_iconst L_114_29 kI_0 ?_
      exact r_zret L_114_30 RT_114 (Or.inl rfl) h
/-- Model.isOn -/
theorem T_115 {x1 x2 : Int32} {m : aM} {Q : Int32 → aM → Prop} (h :
   a_in (48 + 7 * x1 + 6) 264 = true ∧
    if (m 35 0 (48 + 7 * x1 + 6).toNatClampNeg) = 0 then
     (a_in (48 + 7 * x1 + 4) 264 = true ∧
      a_in (48 + 7 * x1 + 5) 264 = true ∧
       if ¬ x2 < (m 35 0 (48 + 7 * x1 + 4).toNatClampNeg) ∧ ¬ ((m 35 0 (48 + 7 * x1 + 5).toNatClampNeg) - 1) < x2 then
        Q 1 m
       else
        Q 0 m)
    else
     Q 0 m
  ) : Mi 115 [.inr (34, 0), .inl x1, .inl x2] m Q := by
  refine Mi_in ML_115 (show Rg 115 0 [some (.inr (34, 0)), some (.inl x1), some (.inl x2)] [] m (qI Q) from ?_)
  refine r_aload_n L_115_0 rfl ?_
  refine r_iload_n L_115_1 rfl ?_
  refine r_bipush L_115_2 kB_6 ?_
  obtain ⟨g1, h⟩ := h
  refine r_cv L_115_4 rfl (V_105 g1 ?_)
  refine r_ifn L_115_7 rfl (i_mono h (fun c2 h => ?_) (fun c2 h => ?_))
  · refine r_iload_n L_115_10 rfl ?_
    refine r_aload_n L_115_11 rfl ?_
    refine r_iload_n L_115_12 rfl ?_
    refine r_iconst L_115_13 kI_4 ?_
    obtain ⟨g3, h⟩ := h
    refine r_cv L_115_14 rfl (V_105 g3 ?_)
    refine r_aload_n L_115_17 rfl ?_
    refine r_iload_n L_115_18 rfl ?_
    refine r_iconst L_115_19 kI_5 ?_
    obtain ⟨g4, h⟩ := h
    refine r_cv L_115_20 rfl (V_105 g4 ?_)
    refine r_iconst L_115_23 kI_1 ?_
    refine r_isub L_115_24 ?_
    refine r_cs L_115_25 (by decide) rfl (V_97 ?_)
    refine r_ifeqP L_115_28 (i_mono h (fun c5 h => ?_) (fun c5 h => ?_))
    · refine r_iconst L_115_31 kI_1 ?_
      refine r_goto L_115_32 ?_
      exact r_zret L_115_36 RT_115 (Or.inr rfl) h
    · refine r_iconst L_115_35 kI_0 ?_
      exact r_zret L_115_36 RT_115 (Or.inl rfl) h
  · refine r_iconst L_115_35 kI_0 ?_
    exact r_zret L_115_36 RT_115 (Or.inl rfl) h
def H_116_6 (x1 x2 x3 x4 x5 x6 : Int32) (m : aM) (Q : Int32 → aM → Prop) : Prop := Rg 116 6 [some (.inr (34, 0)), some (.inl x1), some (.inl x2), some (.inl x3), some (.inl x4), some (.inl x5), some (.inl x6)] [] m (qI Q)
/-- Model.isBarred, the loop at 6 -/
theorem T_116_6 {x1 x2 x3 x4 x5 x6 : Int32} {m : aM} {Q : Int32 → aM → Prop} (h :
   if x6 < (m 35 0 1) then
    (if x5 = 0 then
     (Mi 114 [.inr (34, 0), .inl x6, .inl x1, .inl x2, .inl x3, .inl x4] m (fun v4 m3 =>
      if v4 = 0 then
       H_116_6 x1 x2 x3 x4 0 (x6 + 1) m3 Q
      else
       H_116_6 x1 x2 x3 x4 1 (x6 + 1) m3 Q))
    else
     H_116_6 x1 x2 x3 x4 1 (x6 + 1) m Q)
   else
    (x5 = 0 ∨ x5 = 1) ∧
     Q x5 m
  ) : H_116_6 x1 x2 x3 x4 x5 x6 m Q := by
  show Rg 116 6 [some (.inr (34, 0)), some (.inl x1), some (.inl x2), some (.inl x3), some (.inl x4), some (.inl x5), some (.inl x6)] [] m (qI Q)
  refine r_iload L_116_6 rfl ?_
  refine r_aload_n L_116_8 rfl ?_
  refine r_getr (c' := 35) (d' := 0) L_116_9 rfl rfl ?_
  refine r_iconst L_116_12 kI_1 ?_
  refine r_iald (N := 264) (j := 1) L_116_13 (by decide +kernel) rfl (by decide +kernel) (by decide +kernel) ?_
  refine r_icmpn L_116_14 cc_ge (i_mono h (fun c1 h => ?_) (fun c1 h => ?_))
  · refine r_iload L_116_17 rfl ?_
    refine r_ifn L_116_19 rfl (i_mono h (fun c2 h => ?_) (fun c2 h => ?_))
    · refine r_aload_n L_116_22 rfl ?_
      refine r_iload L_116_23 rfl ?_
      refine r_iload_n L_116_25 rfl ?_
      refine r_iload_n L_116_26 rfl ?_
      refine r_iload_n L_116_27 rfl ?_
      refine r_iload L_116_28 rfl ?_
      refine r_cv L_116_30 rfl (Mi_mono h fun v4 m3 h => ?_)
      refine r_if L_116_33 rfl (i_mono h (fun c5 h => ?_) (fun c5 h => ?_))
      · refine r_iconst L_116_40 kI_0 ?_
        refine r_istore (ls1 := [some (.inr (34, 0)), some (.inl x1), some (.inl x2), some (.inl x3), some (.inl x4), some (.inl 0), some (.inl x6)]) L_116_41 (Nat.le_of_ble_eq_true rfl) rfl ?_
        refine r_iinc (ls1 := [some (.inr (34, 0)), some (.inl x1), some (.inl x2), some (.inl x3), some (.inl x4), some (.inl 0), some (.inl (x6 + 1))]) L_116_43 kI_1 rfl (Nat.le_of_ble_eq_true rfl) rfl ?_
        refine r_goto L_116_46 ?_
        exact h
      · refine r_iconst L_116_36 kI_1 ?_
        refine r_goto L_116_37 ?_
        refine r_istore (ls1 := [some (.inr (34, 0)), some (.inl x1), some (.inl x2), some (.inl x3), some (.inl x4), some (.inl 1), some (.inl x6)]) L_116_41 (Nat.le_of_ble_eq_true rfl) rfl ?_
        refine r_iinc (ls1 := [some (.inr (34, 0)), some (.inl x1), some (.inl x2), some (.inl x3), some (.inl x4), some (.inl 1), some (.inl (x6 + 1))]) L_116_43 kI_1 rfl (Nat.le_of_ble_eq_true rfl) rfl ?_
        refine r_goto L_116_46 ?_
        exact h
    · refine r_iconst L_116_36 kI_1 ?_
      refine r_goto L_116_37 ?_
      refine r_istore (ls1 := [some (.inr (34, 0)), some (.inl x1), some (.inl x2), some (.inl x3), some (.inl x4), some (.inl 1), some (.inl x6)]) L_116_41 (Nat.le_of_ble_eq_true rfl) rfl ?_
      refine r_iinc (ls1 := [some (.inr (34, 0)), some (.inl x1), some (.inl x2), some (.inl x3), some (.inl x4), some (.inl 1), some (.inl (x6 + 1))]) L_116_43 kI_1 rfl (Nat.le_of_ble_eq_true rfl) rfl ?_
      refine r_goto L_116_46 ?_
      exact h
  · refine r_iload L_116_49 rfl ?_
    exact r_zret L_116_51 RT_116 h.1 h.2
/-- Model.isBarred -/
theorem T_116 {x1 x2 x3 x4 : Int32} {m : aM} {Q : Int32 → aM → Prop} (h :
   H_116_6 x1 x2 x3 x4 0 0 m Q
  ) : Mi 116 [.inr (34, 0), .inl x1, .inl x2, .inl x3, .inl x4] m Q := by
  refine Mi_in ML_116 (show Rg 116 0 [some (.inr (34, 0)), some (.inl x1), some (.inl x2), some (.inl x3), some (.inl x4), none, none] [] m (qI Q) from ?_)
  refine r_iconst L_116_0 kI_0 ?_
  refine r_istore (ls1 := [some (.inr (34, 0)), some (.inl x1), some (.inl x2), some (.inl x3), some (.inl x4), some (.inl 0), none]) L_116_1 (Nat.le_of_ble_eq_true rfl) rfl ?_
  refine r_iconst L_116_3 kI_0 ?_
  refine r_istore (ls1 := [some (.inr (34, 0)), some (.inl x1), some (.inl x2), some (.inl x3), some (.inl x4), some (.inl 0), some (.inl 0)]) L_116_4 (Nat.le_of_ble_eq_true rfl) rfl ?_
  exact h
def H_117_6 (x1 x2 x3 x4 x5 x6 x7 : Int32) (m : aM) (Q : Int32 → aM → Prop) : Prop := ∀ d8 : Option aV, Rg 117 6 [some (.inr (34, 0)), some (.inl x1), some (.inl x2), some (.inl x3), some (.inl x4), some (.inl x5), some (.inl x6), some (.inl x7), d8] [] m (qI Q)
/-- Model.isReserved, the loop at 6 -/
theorem T_117_6 {x1 x2 x3 x4 x5 x6 x7 : Int32} {m : aM} {Q : Int32 → aM → Prop} (h :
   if x7 < (m 35 0 2) then
    (a_in (48 + 7 * x7 + 3) 264 = true ∧
     if (m 35 0 (48 + 7 * x7 + 3).toNatClampNeg) = x1 then
      (a_in (48 + 7 * x7 + 0) 264 = true ∧
       a_in (48 + 7 * x7 + 1) 264 = true ∧
        a_in (48 + 7 * x7 + 2) 264 = true ∧
         if nearP x2 x3 (m 35 0 (48 + 7 * x7 + 0).toNatClampNeg) (m 35 0 (48 + 7 * x7 + 1).toNatClampNeg) ((m 35 0 (48 + 7 * x7 + 2).toNatClampNeg) + (rchI x4)) then
          (if x6 = 0 then
           (Mi 115 [.inr (34, 0), .inl x7, .inl x5] m (fun v10 m9 =>
            if v10 = 0 then
             H_117_6 x1 x2 x3 x4 x5 0 (x7 + 1) m9 Q
            else
             H_117_6 x1 x2 x3 x4 x5 1 (x7 + 1) m9 Q))
          else
           H_117_6 x1 x2 x3 x4 x5 1 (x7 + 1) m Q)
         else
          if x6 = 0 then
           H_117_6 x1 x2 x3 x4 x5 0 (x7 + 1) m Q
          else
           H_117_6 x1 x2 x3 x4 x5 1 (x7 + 1) m Q)
     else
      if x6 = 0 then
       H_117_6 x1 x2 x3 x4 x5 0 (x7 + 1) m Q
      else
       H_117_6 x1 x2 x3 x4 x5 1 (x7 + 1) m Q)
   else
    (x6 = 0 ∨ x6 = 1) ∧
     Q x6 m
  ) : H_117_6 x1 x2 x3 x4 x5 x6 x7 m Q := by
  intro d8
  show Rg 117 6 [some (.inr (34, 0)), some (.inl x1), some (.inl x2), some (.inl x3), some (.inl x4), some (.inl x5), some (.inl x6), some (.inl x7), d8] [] m (qI Q)
  refine r_iload L_117_6 rfl ?_
  refine r_aload_n L_117_8 rfl ?_
  refine r_getr (c' := 35) (d' := 0) L_117_9 rfl rfl ?_
  refine r_iconst L_117_12 kI_2 ?_
  refine r_iald (N := 264) (j := 2) L_117_13 (by decide +kernel) rfl (by decide +kernel) (by decide +kernel) ?_
  refine r_icmpn L_117_14 cc_ge (i_mono h (fun c1 h => ?_) (fun c1 h => ?_))
  · refine r_aload_n L_117_17 rfl ?_
    refine r_iload L_117_18 rfl ?_
    refine r_iconst L_117_20 kI_3 ?_
    obtain ⟨g2, h⟩ := h
    refine r_cv L_117_21 rfl (V_105 g2 ?_)
    refine r_iload_n L_117_24 rfl ?_
    refine r_icmpn L_117_25 rfl (i_mono h (fun c3 h => ?_) (fun c3 h => ?_))
    · refine r_iload_n L_117_28 rfl ?_
      refine r_iload_n L_117_29 rfl ?_
      refine r_aload_n L_117_30 rfl ?_
      refine r_iload L_117_31 rfl ?_
      refine r_iconst L_117_33 kI_0 ?_
      obtain ⟨g4, h⟩ := h
      refine r_cv L_117_34 rfl (V_105 g4 ?_)
      refine r_aload_n L_117_37 rfl ?_
      refine r_iload L_117_38 rfl ?_
      refine r_iconst L_117_40 kI_1 ?_
      obtain ⟨g5, h⟩ := h
      refine r_cv L_117_41 rfl (V_105 g5 ?_)
      refine r_aload_n L_117_44 rfl ?_
      refine r_iload L_117_45 rfl ?_
      refine r_iconst L_117_47 kI_2 ?_
      obtain ⟨g6, h⟩ := h
      refine r_cv L_117_48 rfl (V_105 g6 ?_)
      refine r_iload L_117_51 rfl ?_
      refine r_cs L_117_53 (by decide) rfl (V_112 ?_)
      refine r_iadd L_117_56 ?_
      refine r_cs L_117_57 (by decide) rfl (V_113 ?_)
      refine r_ifeqP L_117_60 (i_mono h (fun c7 h => ?_) (fun c7 h => ?_))
      · refine r_iconst L_117_63 kI_1 ?_
        refine r_goto L_117_64 ?_
        refine r_istore (ls1 := [some (.inr (34, 0)), some (.inl x1), some (.inl x2), some (.inl x3), some (.inl x4), some (.inl x5), some (.inl x6), some (.inl x7), some (.inl 1)]) L_117_68 (Nat.le_of_ble_eq_true rfl) rfl ?_
        refine r_iload L_117_70 rfl ?_
        refine r_ifn L_117_72 rfl (i_mono h (fun c8 h => ?_) (fun c8 h => ?_))
        · refine r_iload L_117_75 rfl ?_
          refine r_if (p := ((1 : Int32) = 0)) L_117_77 rfl (i_neg (by decide +kernel) ?_)
          refine r_aload_n L_117_80 rfl ?_
          refine r_iload L_117_81 rfl ?_
          refine r_iload L_117_83 rfl ?_
          refine r_cv L_117_85 rfl (Mi_mono h fun v10 m9 h => ?_)
          refine r_if L_117_88 rfl (i_mono h (fun c11 h => ?_) (fun c11 h => ?_))
          · refine r_iconst L_117_95 kI_0 ?_
            refine r_istore (ls1 := [some (.inr (34, 0)), some (.inl x1), some (.inl x2), some (.inl x3), some (.inl x4), some (.inl x5), some (.inl 0), some (.inl x7), some (.inl 1)]) L_117_96 (Nat.le_of_ble_eq_true rfl) rfl ?_
            refine r_iinc (ls1 := [some (.inr (34, 0)), some (.inl x1), some (.inl x2), some (.inl x3), some (.inl x4), some (.inl x5), some (.inl 0), some (.inl (x7 + 1)), some (.inl 1)]) L_117_98 kI_1 rfl (Nat.le_of_ble_eq_true rfl) rfl ?_
            refine r_goto L_117_101 ?_
            exact h _
          · refine r_iconst L_117_91 kI_1 ?_
            refine r_goto L_117_92 ?_
            refine r_istore (ls1 := [some (.inr (34, 0)), some (.inl x1), some (.inl x2), some (.inl x3), some (.inl x4), some (.inl x5), some (.inl 1), some (.inl x7), some (.inl 1)]) L_117_96 (Nat.le_of_ble_eq_true rfl) rfl ?_
            refine r_iinc (ls1 := [some (.inr (34, 0)), some (.inl x1), some (.inl x2), some (.inl x3), some (.inl x4), some (.inl x5), some (.inl 1), some (.inl (x7 + 1)), some (.inl 1)]) L_117_98 kI_1 rfl (Nat.le_of_ble_eq_true rfl) rfl ?_
            refine r_goto L_117_101 ?_
            exact h _
        · refine r_iconst L_117_91 kI_1 ?_
          refine r_goto L_117_92 ?_
          refine r_istore (ls1 := [some (.inr (34, 0)), some (.inl x1), some (.inl x2), some (.inl x3), some (.inl x4), some (.inl x5), some (.inl 1), some (.inl x7), some (.inl 1)]) L_117_96 (Nat.le_of_ble_eq_true rfl) rfl ?_
          refine r_iinc (ls1 := [some (.inr (34, 0)), some (.inl x1), some (.inl x2), some (.inl x3), some (.inl x4), some (.inl x5), some (.inl 1), some (.inl (x7 + 1)), some (.inl 1)]) L_117_98 kI_1 rfl (Nat.le_of_ble_eq_true rfl) rfl ?_
          refine r_goto L_117_101 ?_
          exact h _
      · refine r_iconst L_117_67 kI_0 ?_
        refine r_istore (ls1 := [some (.inr (34, 0)), some (.inl x1), some (.inl x2), some (.inl x3), some (.inl x4), some (.inl x5), some (.inl x6), some (.inl x7), some (.inl 0)]) L_117_68 (Nat.le_of_ble_eq_true rfl) rfl ?_
        refine r_iload L_117_70 rfl ?_
        refine r_ifn L_117_72 rfl (i_mono h (fun c12 h => ?_) (fun c12 h => ?_))
        · refine r_iload L_117_75 rfl ?_
          refine r_if (p := ((0 : Int32) = 0)) L_117_77 rfl (i_pos (by decide +kernel) ?_)
          refine r_iconst L_117_95 kI_0 ?_
          refine r_istore (ls1 := [some (.inr (34, 0)), some (.inl x1), some (.inl x2), some (.inl x3), some (.inl x4), some (.inl x5), some (.inl 0), some (.inl x7), some (.inl 0)]) L_117_96 (Nat.le_of_ble_eq_true rfl) rfl ?_
          refine r_iinc (ls1 := [some (.inr (34, 0)), some (.inl x1), some (.inl x2), some (.inl x3), some (.inl x4), some (.inl x5), some (.inl 0), some (.inl (x7 + 1)), some (.inl 0)]) L_117_98 kI_1 rfl (Nat.le_of_ble_eq_true rfl) rfl ?_
          refine r_goto L_117_101 ?_
          exact h _
        · refine r_iconst L_117_91 kI_1 ?_
          refine r_goto L_117_92 ?_
          refine r_istore (ls1 := [some (.inr (34, 0)), some (.inl x1), some (.inl x2), some (.inl x3), some (.inl x4), some (.inl x5), some (.inl 1), some (.inl x7), some (.inl 0)]) L_117_96 (Nat.le_of_ble_eq_true rfl) rfl ?_
          refine r_iinc (ls1 := [some (.inr (34, 0)), some (.inl x1), some (.inl x2), some (.inl x3), some (.inl x4), some (.inl x5), some (.inl 1), some (.inl (x7 + 1)), some (.inl 0)]) L_117_98 kI_1 rfl (Nat.le_of_ble_eq_true rfl) rfl ?_
          refine r_goto L_117_101 ?_
          exact h _
    · refine r_iconst L_117_67 kI_0 ?_
      refine r_istore (ls1 := [some (.inr (34, 0)), some (.inl x1), some (.inl x2), some (.inl x3), some (.inl x4), some (.inl x5), some (.inl x6), some (.inl x7), some (.inl 0)]) L_117_68 (Nat.le_of_ble_eq_true rfl) rfl ?_
      refine r_iload L_117_70 rfl ?_
      refine r_ifn L_117_72 rfl (i_mono h (fun c13 h => ?_) (fun c13 h => ?_))
      · refine r_iload L_117_75 rfl ?_
        refine r_if (p := ((0 : Int32) = 0)) L_117_77 rfl (i_pos (by decide +kernel) ?_)
        refine r_iconst L_117_95 kI_0 ?_
        refine r_istore (ls1 := [some (.inr (34, 0)), some (.inl x1), some (.inl x2), some (.inl x3), some (.inl x4), some (.inl x5), some (.inl 0), some (.inl x7), some (.inl 0)]) L_117_96 (Nat.le_of_ble_eq_true rfl) rfl ?_
        refine r_iinc (ls1 := [some (.inr (34, 0)), some (.inl x1), some (.inl x2), some (.inl x3), some (.inl x4), some (.inl x5), some (.inl 0), some (.inl (x7 + 1)), some (.inl 0)]) L_117_98 kI_1 rfl (Nat.le_of_ble_eq_true rfl) rfl ?_
        refine r_goto L_117_101 ?_
        exact h _
      · refine r_iconst L_117_91 kI_1 ?_
        refine r_goto L_117_92 ?_
        refine r_istore (ls1 := [some (.inr (34, 0)), some (.inl x1), some (.inl x2), some (.inl x3), some (.inl x4), some (.inl x5), some (.inl 1), some (.inl x7), some (.inl 0)]) L_117_96 (Nat.le_of_ble_eq_true rfl) rfl ?_
        refine r_iinc (ls1 := [some (.inr (34, 0)), some (.inl x1), some (.inl x2), some (.inl x3), some (.inl x4), some (.inl x5), some (.inl 1), some (.inl (x7 + 1)), some (.inl 0)]) L_117_98 kI_1 rfl (Nat.le_of_ble_eq_true rfl) rfl ?_
        refine r_goto L_117_101 ?_
        exact h _
  · refine r_iload L_117_104 rfl ?_
    exact r_zret L_117_106 RT_117 h.1 h.2
/-- Model.isReserved -/
theorem T_117 {x1 x2 x3 x4 x5 : Int32} {m : aM} {Q : Int32 → aM → Prop} (h :
   H_117_6 x1 x2 x3 x4 x5 0 0 m Q
  ) : Mi 117 [.inr (34, 0), .inl x1, .inl x2, .inl x3, .inl x4, .inl x5] m Q := by
  refine Mi_in ML_117 (show Rg 117 0 [some (.inr (34, 0)), some (.inl x1), some (.inl x2), some (.inl x3), some (.inl x4), some (.inl x5), none, none, none] [] m (qI Q) from ?_)
  refine r_iconst L_117_0 kI_0 ?_
  refine r_istore (ls1 := [some (.inr (34, 0)), some (.inl x1), some (.inl x2), some (.inl x3), some (.inl x4), some (.inl x5), some (.inl 0), none, none]) L_117_1 (Nat.le_of_ble_eq_true rfl) rfl ?_
  refine r_iconst L_117_3 kI_0 ?_
  refine r_istore (ls1 := [some (.inr (34, 0)), some (.inl x1), some (.inl x2), some (.inl x3), some (.inl x4), some (.inl x5), some (.inl 0), some (.inl 0), none]) L_117_4 (Nat.le_of_ble_eq_true rfl) rfl ?_
  exact h _
/-- Model.isAllowed -/
theorem T_118 {x1 x2 x3 x4 : Int32} {m : aM} {Q : Int32 → aM → Prop} (h :
   Mi 116 [.inr (34, 0), .inl x1, .inl x2, .inl x3, .inl x4] m (fun v2 m1 =>
    if v2 = 0 then
     (Mi 117 [.inr (34, 0), .inl x1, .inl x2, .inl x3, .inl x4, .inl (m1 35 0 0)] m1 (fun v5 m4 =>
      if v5 = 0 then
       Q 1 m4
      else
       Q 0 m4))
    else
     Q 0 m1)
  ) : Mi 118 [.inr (34, 0), .inl x1, .inl x2, .inl x3, .inl x4] m Q := by
  refine Mi_in ML_118 (show Rg 118 0 [some (.inr (34, 0)), some (.inl x1), some (.inl x2), some (.inl x3), some (.inl x4)] [] m (qI Q) from ?_)
  refine r_aload_n L_118_0 rfl ?_
  refine r_iload_n L_118_1 rfl ?_
  refine r_iload_n L_118_2 rfl ?_
  refine r_iload_n L_118_3 rfl ?_
  refine r_iload L_118_4 rfl ?_
  refine r_cv L_118_6 rfl (Mi_mono h fun v2 m1 h => ?_)
  refine r_ifn L_118_9 rfl (i_mono h (fun c3 h => ?_) (fun c3 h => ?_))
  · refine r_aload_n L_118_12 rfl ?_
    refine r_iload_n L_118_13 rfl ?_
    refine r_iload_n L_118_14 rfl ?_
    refine r_iload_n L_118_15 rfl ?_
    refine r_iload L_118_16 rfl ?_
    refine r_aload_n L_118_18 rfl ?_
    refine r_getr (c' := 35) (d' := 0) L_118_19 rfl rfl ?_
    refine r_iconst L_118_22 kI_0 ?_
    refine r_iald (N := 264) (j := 0) L_118_23 (by decide +kernel) rfl (by decide +kernel) (by decide +kernel) ?_
    refine r_cv L_118_24 rfl (Mi_mono h fun v5 m4 h => ?_)
    refine r_ifn L_118_27 rfl (i_mono h (fun c6 h => ?_) (fun c6 h => ?_))
    · refine r_iconst L_118_30 kI_1 ?_
      refine r_goto L_118_31 ?_
      exact r_zret L_118_35 RT_118 (Or.inr rfl) h
    · refine r_iconst L_118_34 kI_0 ?_
      exact r_zret L_118_35 RT_118 (Or.inl rfl) h
  · refine r_iconst L_118_34 kI_0 ?_
    exact r_zret L_118_35 RT_118 (Or.inl rfl) h
/-- Model.isAllowedFor -/
theorem T_119 {x1 x2 x3 : Int32} {m : aM} {Q : Int32 → aM → Prop} (h :
   a_in (104 + 10 * x1 + 0) 264 = true ∧
    a_in (104 + 10 * x1 + 1) 264 = true ∧
     Mi 118 [.inr (34, 0), .inl x2, .inl (m 35 0 (104 + 10 * x1 + 0).toNatClampNeg), .inl (m 35 0 (104 + 10 * x1 + 1).toNatClampNeg), .inl x3] m (fun v4 m3 =>
      (v4 = 0 ∨ v4 = 1) ∧
       Q v4 m3)
  ) : Mi 119 [.inr (34, 0), .inl x1, .inl x2, .inl x3] m Q := by
  refine Mi_in ML_119 (show Rg 119 0 [some (.inr (34, 0)), some (.inl x1), some (.inl x2), some (.inl x3)] [] m (qI Q) from ?_)
  refine r_aload_n L_119_0 rfl ?_
  refine r_iload_n L_119_1 rfl ?_
  refine r_aload_n L_119_2 rfl ?_
  refine r_iload_n L_119_3 rfl ?_
  refine r_iconst L_119_4 kI_0 ?_
  obtain ⟨g1, h⟩ := h
  refine r_cv L_119_5 rfl (V_106 g1 ?_)
  refine r_aload_n L_119_8 rfl ?_
  refine r_iload_n L_119_9 rfl ?_
  refine r_iconst L_119_10 kI_1 ?_
  obtain ⟨g2, h⟩ := h
  refine r_cv L_119_11 rfl (V_106 g2 ?_)
  refine r_iload_n L_119_14 rfl ?_
  refine r_cv L_119_15 rfl (Mi_mono h fun v4 m3 h => ?_)
  exact r_zret L_119_18 RT_119 h.1 h.2
def H_121_6 (x1 x2 x3 x4 x5 : Int32) (m : aM) (Q : Int32 → aM → Prop) : Prop := ∀ d6 : Option aV, Rg 121 6 [some (.inr (34, 0)), some (.inl x1), some (.inl x2), some (.inl x3), some (.inl x4), some (.inl x5), d6] [] m (qI Q)
/-- Model.isFree, the loop at 6 -/
theorem T_121_6 {x1 x2 x3 x4 x5 : Int32} {m : aM} {Q : Int32 → aM → Prop} (h :
   if x5 < (m 35 0 3) then
    (if x5 = x1 then
     H_121_6 x1 x2 x3 x4 (x5 + 1) m Q
    else
     a_in (104 + 10 * x5 + 3) 264 = true ∧
      if (m 35 0 (104 + 10 * x5 + 3).toNatClampNeg) = x2 then
       (a_in (104 + 10 * x5 + 4) 264 = true ∧
        if x4 = 0 then
         H_121_6 x1 x2 x3 0 (x5 + 1) m Q
        else
         a_in (104 + 10 * x1 + 0) 264 = true ∧
          a_in (104 + 10 * x1 + 1) 264 = true ∧
           a_in (104 + 10 * x5 + 0) 264 = true ∧
            a_in (104 + 10 * x5 + 1) 264 = true ∧
             if nearP (m 35 0 (104 + 10 * x1 + 0).toNatClampNeg) (m 35 0 (104 + 10 * x1 + 1).toNatClampNeg) (m 35 0 (104 + 10 * x5 + 0).toNatClampNeg) (m 35 0 (104 + 10 * x5 + 1).toNatClampNeg) ((rchI x3) + (rchI (m 35 0 (104 + 10 * x5 + 4).toNatClampNeg))) then
              H_121_6 x1 x2 x3 0 (x5 + 1) m Q
             else
              H_121_6 x1 x2 x3 1 (x5 + 1) m Q)
      else
       H_121_6 x1 x2 x3 x4 (x5 + 1) m Q)
   else
    (x4 = 0 ∨ x4 = 1) ∧
     Q x4 m
  ) : H_121_6 x1 x2 x3 x4 x5 m Q := by
  intro d6
  show Rg 121 6 [some (.inr (34, 0)), some (.inl x1), some (.inl x2), some (.inl x3), some (.inl x4), some (.inl x5), d6] [] m (qI Q)
  refine r_iload L_121_6 rfl ?_
  refine r_aload_n L_121_8 rfl ?_
  refine r_getr (c' := 35) (d' := 0) L_121_9 rfl rfl ?_
  refine r_iconst L_121_12 kI_3 ?_
  refine r_iald (N := 264) (j := 3) L_121_13 (by decide +kernel) rfl (by decide +kernel) (by decide +kernel) ?_
  refine r_icmpn L_121_14 cc_ge (i_mono h (fun c1 h => ?_) (fun c1 h => ?_))
  · refine r_iload L_121_17 rfl ?_
    refine r_iload_n L_121_19 rfl ?_
    refine r_icmp L_121_20 rfl (i_mono h (fun c2 h => ?_) (fun c2 h => ?_))
    · refine r_iinc (ls1 := [some (.inr (34, 0)), some (.inl x1), some (.inl x2), some (.inl x3), some (.inl x4), some (.inl (x5 + 1)), d6]) L_121_97 kI_1 rfl (Nat.le_of_ble_eq_true rfl) rfl ?_
      refine r_goto L_121_100 ?_
      exact h _
    · refine r_aload_n L_121_23 rfl ?_
      refine r_iload L_121_24 rfl ?_
      refine r_iconst L_121_26 kI_3 ?_
      obtain ⟨g3, h⟩ := h
      refine r_cv L_121_27 rfl (V_106 g3 ?_)
      refine r_iload_n L_121_30 rfl ?_
      refine r_icmpn L_121_31 rfl (i_mono h (fun c4 h => ?_) (fun c4 h => ?_))
      · refine r_iload_n L_121_34 rfl ?_
        refine r_cs L_121_35 (by decide) rfl (V_112 ?_)
        refine r_aload_n L_121_38 rfl ?_
        refine r_iload L_121_39 rfl ?_
        refine r_iconst L_121_41 kI_4 ?_
        obtain ⟨g5, h⟩ := h
        refine r_cv L_121_42 rfl (V_106 g5 ?_)
        refine r_cs L_121_45 (by decide) rfl (V_112 ?_)
        refine r_iadd L_121_48 ?_
        refine r_istore (ls1 := [some (.inr (34, 0)), some (.inl x1), some (.inl x2), some (.inl x3), some (.inl x4), some (.inl x5), some (.inl ((rchI x3) + (rchI (m 35 0 (104 + 10 * x5 + 4).toNatClampNeg))))]) L_121_49 (Nat.le_of_ble_eq_true rfl) rfl ?_
        refine r_iload L_121_51 rfl ?_
        refine r_if L_121_53 rfl (i_mono h (fun c6 h => ?_) (fun c6 h => ?_))
        · refine r_iconst L_121_94 kI_0 ?_
          refine r_istore (ls1 := [some (.inr (34, 0)), some (.inl x1), some (.inl x2), some (.inl x3), some (.inl 0), some (.inl x5), some (.inl ((rchI x3) + (rchI (m 35 0 (104 + 10 * x5 + 4).toNatClampNeg))))]) L_121_95 (Nat.le_of_ble_eq_true rfl) rfl ?_
          refine r_iinc (ls1 := [some (.inr (34, 0)), some (.inl x1), some (.inl x2), some (.inl x3), some (.inl 0), some (.inl (x5 + 1)), some (.inl ((rchI x3) + (rchI (m 35 0 (104 + 10 * x5 + 4).toNatClampNeg))))]) L_121_97 kI_1 rfl (Nat.le_of_ble_eq_true rfl) rfl ?_
          refine r_goto L_121_100 ?_
          exact h _
        · refine r_aload_n L_121_56 rfl ?_
          refine r_iload_n L_121_57 rfl ?_
          refine r_iconst L_121_58 kI_0 ?_
          obtain ⟨g7, h⟩ := h
          refine r_cv L_121_59 rfl (V_106 g7 ?_)
          refine r_aload_n L_121_62 rfl ?_
          refine r_iload_n L_121_63 rfl ?_
          refine r_iconst L_121_64 kI_1 ?_
          obtain ⟨g8, h⟩ := h
          refine r_cv L_121_65 rfl (V_106 g8 ?_)
          refine r_aload_n L_121_68 rfl ?_
          refine r_iload L_121_69 rfl ?_
          refine r_iconst L_121_71 kI_0 ?_
          obtain ⟨g9, h⟩ := h
          refine r_cv L_121_72 rfl (V_106 g9 ?_)
          refine r_aload_n L_121_75 rfl ?_
          refine r_iload L_121_76 rfl ?_
          refine r_iconst L_121_78 kI_1 ?_
          obtain ⟨g10, h⟩ := h
          refine r_cv L_121_79 rfl (V_106 g10 ?_)
          refine r_iload L_121_82 rfl ?_
          refine r_cs L_121_84 (by decide) rfl (V_113 ?_)
          refine r_ifneP L_121_87 (i_mono h (fun c11 h => ?_) (fun c11 h => ?_))
          · refine r_iconst L_121_94 kI_0 ?_
            refine r_istore (ls1 := [some (.inr (34, 0)), some (.inl x1), some (.inl x2), some (.inl x3), some (.inl 0), some (.inl x5), some (.inl ((rchI x3) + (rchI (m 35 0 (104 + 10 * x5 + 4).toNatClampNeg))))]) L_121_95 (Nat.le_of_ble_eq_true rfl) rfl ?_
            refine r_iinc (ls1 := [some (.inr (34, 0)), some (.inl x1), some (.inl x2), some (.inl x3), some (.inl 0), some (.inl (x5 + 1)), some (.inl ((rchI x3) + (rchI (m 35 0 (104 + 10 * x5 + 4).toNatClampNeg))))]) L_121_97 kI_1 rfl (Nat.le_of_ble_eq_true rfl) rfl ?_
            refine r_goto L_121_100 ?_
            exact h _
          · refine r_iconst L_121_90 kI_1 ?_
            refine r_goto L_121_91 ?_
            refine r_istore (ls1 := [some (.inr (34, 0)), some (.inl x1), some (.inl x2), some (.inl x3), some (.inl 1), some (.inl x5), some (.inl ((rchI x3) + (rchI (m 35 0 (104 + 10 * x5 + 4).toNatClampNeg))))]) L_121_95 (Nat.le_of_ble_eq_true rfl) rfl ?_
            refine r_iinc (ls1 := [some (.inr (34, 0)), some (.inl x1), some (.inl x2), some (.inl x3), some (.inl 1), some (.inl (x5 + 1)), some (.inl ((rchI x3) + (rchI (m 35 0 (104 + 10 * x5 + 4).toNatClampNeg))))]) L_121_97 kI_1 rfl (Nat.le_of_ble_eq_true rfl) rfl ?_
            refine r_goto L_121_100 ?_
            exact h _
      · refine r_iinc (ls1 := [some (.inr (34, 0)), some (.inl x1), some (.inl x2), some (.inl x3), some (.inl x4), some (.inl (x5 + 1)), d6]) L_121_97 kI_1 rfl (Nat.le_of_ble_eq_true rfl) rfl ?_
        refine r_goto L_121_100 ?_
        exact h _
  · refine r_iload L_121_103 rfl ?_
    exact r_zret L_121_105 RT_121 h.1 h.2
/-- Model.isFree -/
theorem T_121 {x1 x2 x3 : Int32} {m : aM} {Q : Int32 → aM → Prop} (h :
   H_121_6 x1 x2 x3 1 0 m Q
  ) : Mi 121 [.inr (34, 0), .inl x1, .inl x2, .inl x3] m Q := by
  refine Mi_in ML_121 (show Rg 121 0 [some (.inr (34, 0)), some (.inl x1), some (.inl x2), some (.inl x3), none, none, none] [] m (qI Q) from ?_)
  refine r_iconst L_121_0 kI_1 ?_
  refine r_istore (ls1 := [some (.inr (34, 0)), some (.inl x1), some (.inl x2), some (.inl x3), some (.inl 1), none, none]) L_121_1 (Nat.le_of_ble_eq_true rfl) rfl ?_
  refine r_iconst L_121_3 kI_0 ?_
  refine r_istore (ls1 := [some (.inr (34, 0)), some (.inl x1), some (.inl x2), some (.inl x3), some (.inl 1), some (.inl 0), none]) L_121_4 (Nat.le_of_ble_eq_true rfl) rfl ?_
  exact h _
def H_122_5 (x1 x2 x3 x4 : Int32) (m : aM) (Q : Int32 → aM → Prop) : Prop := Rg 122 5 [some (.inr (34, 0)), some (.inl x1), some (.inl x2), some (.inl x3), some (.inl x4)] [] m (qI Q)
/-- Model.others, the loop at 5 -/
theorem T_122_5 {x1 x2 x3 x4 : Int32} {m : aM} {Q : Int32 → aM → Prop} (h :
   if x4 < (m 35 0 3) then
    (if x4 = x1 then
     H_122_5 x1 x2 (x3 + 0) (x4 + 1) m Q
    else
     a_in (104 + 10 * x4 + 3) 264 = true ∧
      if (m 35 0 (104 + 10 * x4 + 3).toNatClampNeg) = x2 then
       H_122_5 x1 x2 (x3 + 1) (x4 + 1) m Q
      else
       H_122_5 x1 x2 (x3 + 0) (x4 + 1) m Q)
   else
    Q x3 m
  ) : H_122_5 x1 x2 x3 x4 m Q := by
  show Rg 122 5 [some (.inr (34, 0)), some (.inl x1), some (.inl x2), some (.inl x3), some (.inl x4)] [] m (qI Q)
  refine r_iload L_122_5 rfl ?_
  refine r_aload_n L_122_7 rfl ?_
  refine r_getr (c' := 35) (d' := 0) L_122_8 rfl rfl ?_
  refine r_iconst L_122_11 kI_3 ?_
  refine r_iald (N := 264) (j := 3) L_122_12 (by decide +kernel) rfl (by decide +kernel) (by decide +kernel) ?_
  refine r_icmpn L_122_13 cc_ge (i_mono h (fun c1 h => ?_) (fun c1 h => ?_))
  · refine r_iload_n L_122_16 rfl ?_
    refine r_iload L_122_17 rfl ?_
    refine r_iload_n L_122_19 rfl ?_
    refine r_icmp L_122_20 rfl (i_mono h (fun c2 h => ?_) (fun c2 h => ?_))
    · refine r_iconst L_122_38 kI_0 ?_
      refine r_iadd L_122_39 ?_
      refine r_istore_n (ls1 := [some (.inr (34, 0)), some (.inl x1), some (.inl x2), some (.inl (x3 + 0)), some (.inl x4)]) L_122_40 (Nat.le_of_ble_eq_true rfl) rfl ?_
      refine r_iinc (ls1 := [some (.inr (34, 0)), some (.inl x1), some (.inl x2), some (.inl (x3 + 0)), some (.inl (x4 + 1))]) L_122_41 kI_1 rfl (Nat.le_of_ble_eq_true rfl) rfl ?_
      refine r_goto L_122_44 ?_
      exact h
    · refine r_aload_n L_122_23 rfl ?_
      refine r_iload L_122_24 rfl ?_
      refine r_iconst L_122_26 kI_3 ?_
      obtain ⟨g3, h⟩ := h
      refine r_cv L_122_27 rfl (V_106 g3 ?_)
      refine r_iload_n L_122_30 rfl ?_
      refine r_icmpn L_122_31 rfl (i_mono h (fun c4 h => ?_) (fun c4 h => ?_))
      · refine r_iconst L_122_34 kI_1 ?_
        refine r_goto L_122_35 ?_
        refine r_iadd L_122_39 ?_
        refine r_istore_n (ls1 := [some (.inr (34, 0)), some (.inl x1), some (.inl x2), some (.inl (x3 + 1)), some (.inl x4)]) L_122_40 (Nat.le_of_ble_eq_true rfl) rfl ?_
        refine r_iinc (ls1 := [some (.inr (34, 0)), some (.inl x1), some (.inl x2), some (.inl (x3 + 1)), some (.inl (x4 + 1))]) L_122_41 kI_1 rfl (Nat.le_of_ble_eq_true rfl) rfl ?_
        refine r_goto L_122_44 ?_
        exact h
      · refine r_iconst L_122_38 kI_0 ?_
        refine r_iadd L_122_39 ?_
        refine r_istore_n (ls1 := [some (.inr (34, 0)), some (.inl x1), some (.inl x2), some (.inl (x3 + 0)), some (.inl x4)]) L_122_40 (Nat.le_of_ble_eq_true rfl) rfl ?_
        refine r_iinc (ls1 := [some (.inr (34, 0)), some (.inl x1), some (.inl x2), some (.inl (x3 + 0)), some (.inl (x4 + 1))]) L_122_41 kI_1 rfl (Nat.le_of_ble_eq_true rfl) rfl ?_
        refine r_goto L_122_44 ?_
        exact h
  · refine r_iload_n L_122_47 rfl ?_
    exact r_iret L_122_48 RT_122 h
/-- Model.others -/
theorem T_122 {x1 x2 : Int32} {m : aM} {Q : Int32 → aM → Prop} (h :
   H_122_5 x1 x2 0 0 m Q
  ) : Mi 122 [.inr (34, 0), .inl x1, .inl x2] m Q := by
  refine Mi_in ML_122 (show Rg 122 0 [some (.inr (34, 0)), some (.inl x1), some (.inl x2), none, none] [] m (qI Q) from ?_)
  refine r_iconst L_122_0 kI_0 ?_
  refine r_istore_n (ls1 := [some (.inr (34, 0)), some (.inl x1), some (.inl x2), some (.inl 0), none]) L_122_1 (Nat.le_of_ble_eq_true rfl) rfl ?_
  refine r_iconst L_122_2 kI_0 ?_
  refine r_istore (ls1 := [some (.inr (34, 0)), some (.inl x1), some (.inl x2), some (.inl 0), some (.inl 0)]) L_122_3 (Nat.le_of_ble_eq_true rfl) rfl ?_
  exact h
def H_123_9 (x1 x2 x3 x4 x5 : Int32) (m : aM) (Q : Int32 → aM → Prop) : Prop := ∀ d6 d7 : Option aV, Rg 123 9 [some (.inr (34, 0)), some (.inl x1), some (.inl x2), some (.inl x3), some (.inl x4), some (.inl x5), d6, d7] [] m (qI Q)
/-- Model.offerFor, the loop at 9 -/
theorem T_123_9 {x1 x2 x3 x4 x5 : Int32} {m : aM} {Q : Int32 → aM → Prop} (h :
   if x5 < 8 then
    (Mi 119 [.inr (34, 0), .inl x1, .inl x5, .inl x2] m (fun v3 m2 =>
     if v3 = 0 then
      H_123_9 x1 x2 x3 x4 (x5 + 1) m2 Q
     else
      Mi 121 [.inr (34, 0), .inl x1, .inl x5, .inl x2] m2 (fun v6 m5 =>
       if v6 = 0 then
        H_123_9 x1 x2 x3 x4 (x5 + 1) m5 Q
       else
        Mi 122 [.inr (34, 0), .inl x1, .inl x5] m5 (fun v9 m8 =>
         if x3 = (-6) then
          H_123_9 x1 x2 x5 v9 (x5 + 1) m8 Q
         else
          if v9 < x4 then
           H_123_9 x1 x2 x5 v9 (x5 + 1) m8 Q
          else
           H_123_9 x1 x2 x3 x4 (x5 + 1) m8 Q))))
   else
    Q x3 m
  ) : H_123_9 x1 x2 x3 x4 x5 m Q := by
  intro d6 d7
  show Rg 123 9 [some (.inr (34, 0)), some (.inl x1), some (.inl x2), some (.inl x3), some (.inl x4), some (.inl x5), d6, d7] [] m (qI Q)
  refine r_iload L_123_9 rfl ?_
  refine r_bipush L_123_11 kB_8 ?_
  refine r_icmpn L_123_13 cc_ge (i_mono h (fun c1 h => ?_) (fun c1 h => ?_))
  · refine r_aload_n L_123_16 rfl ?_
    refine r_iload_n L_123_17 rfl ?_
    refine r_iload L_123_18 rfl ?_
    refine r_iload_n L_123_20 rfl ?_
    refine r_cv L_123_21 rfl (Mi_mono h fun v3 m2 h => ?_)
    refine r_if L_123_24 rfl (i_mono h (fun c4 h => ?_) (fun c4 h => ?_))
    · refine r_iinc (ls1 := [some (.inr (34, 0)), some (.inl x1), some (.inl x2), some (.inl x3), some (.inl x4), some (.inl (x5 + 1)), d6, d7]) L_123_93 kI_1 rfl (Nat.le_of_ble_eq_true rfl) rfl ?_
      refine r_goto L_123_96 ?_
      exact h _ _
    · refine r_aload_n L_123_27 rfl ?_
      refine r_iload_n L_123_28 rfl ?_
      refine r_iload L_123_29 rfl ?_
      refine r_iload_n L_123_31 rfl ?_
      refine r_cv L_123_32 rfl (Mi_mono h fun v6 m5 h => ?_)
      refine r_if L_123_35 rfl (i_mono h (fun c7 h => ?_) (fun c7 h => ?_))
      · refine r_iinc (ls1 := [some (.inr (34, 0)), some (.inl x1), some (.inl x2), some (.inl x3), some (.inl x4), some (.inl (x5 + 1)), d6, d7]) L_123_93 kI_1 rfl (Nat.le_of_ble_eq_true rfl) rfl ?_
        refine r_goto L_123_96 ?_
        exact h _ _
      · refine r_aload_n L_123_38 rfl ?_
        refine r_iload_n L_123_39 rfl ?_
        refine r_iload L_123_40 rfl ?_
        refine r_cv L_123_42 rfl (Mi_mono h fun v9 m8 h => ?_)
        refine r_istore (ls1 := [some (.inr (34, 0)), some (.inl x1), some (.inl x2), some (.inl x3), some (.inl x4), some (.inl x5), some (.inl v9), d7]) L_123_45 (Nat.le_of_ble_eq_true rfl) rfl ?_
        refine r_iload_n L_123_47 rfl ?_
        refine r_bipush L_123_48 kB_m6 ?_
        refine r_icmp L_123_50 rfl (i_mono h (fun c10 h => ?_) (fun c10 h => ?_))
        · refine r_iconst L_123_60 kI_1 ?_
          refine r_goto L_123_61 ?_
          refine r_istore (ls1 := [some (.inr (34, 0)), some (.inl x1), some (.inl x2), some (.inl x3), some (.inl x4), some (.inl x5), some (.inl v9), some (.inl 1)]) L_123_65 (Nat.le_of_ble_eq_true rfl) rfl ?_
          refine r_iload L_123_67 rfl ?_
          refine r_if (p := ((1 : Int32) = 0)) L_123_69 rfl (i_neg (by decide +kernel) ?_)
          refine r_iload L_123_72 rfl ?_
          refine r_goto L_123_74 ?_
          refine r_istore_n (ls1 := [some (.inr (34, 0)), some (.inl x1), some (.inl x2), some (.inl x5), some (.inl x4), some (.inl x5), some (.inl v9), some (.inl 1)]) L_123_78 (Nat.le_of_ble_eq_true rfl) rfl ?_
          refine r_iload L_123_79 rfl ?_
          refine r_if (p := ((1 : Int32) = 0)) L_123_81 rfl (i_neg (by decide +kernel) ?_)
          refine r_iload L_123_84 rfl ?_
          refine r_goto L_123_86 ?_
          refine r_istore (ls1 := [some (.inr (34, 0)), some (.inl x1), some (.inl x2), some (.inl x5), some (.inl v9), some (.inl x5), some (.inl v9), some (.inl 1)]) L_123_91 (Nat.le_of_ble_eq_true rfl) rfl ?_
          refine r_iinc (ls1 := [some (.inr (34, 0)), some (.inl x1), some (.inl x2), some (.inl x5), some (.inl v9), some (.inl (x5 + 1)), some (.inl v9), some (.inl 1)]) L_123_93 kI_1 rfl (Nat.le_of_ble_eq_true rfl) rfl ?_
          refine r_goto L_123_96 ?_
          exact h _ _
        · refine r_iload L_123_53 rfl ?_
          refine r_iload L_123_55 rfl ?_
          refine r_icmpn L_123_57 cc_ge (i_mono h (fun c11 h => ?_) (fun c11 h => ?_))
          · refine r_iconst L_123_60 kI_1 ?_
            refine r_goto L_123_61 ?_
            refine r_istore (ls1 := [some (.inr (34, 0)), some (.inl x1), some (.inl x2), some (.inl x3), some (.inl x4), some (.inl x5), some (.inl v9), some (.inl 1)]) L_123_65 (Nat.le_of_ble_eq_true rfl) rfl ?_
            refine r_iload L_123_67 rfl ?_
            refine r_if (p := ((1 : Int32) = 0)) L_123_69 rfl (i_neg (by decide +kernel) ?_)
            refine r_iload L_123_72 rfl ?_
            refine r_goto L_123_74 ?_
            refine r_istore_n (ls1 := [some (.inr (34, 0)), some (.inl x1), some (.inl x2), some (.inl x5), some (.inl x4), some (.inl x5), some (.inl v9), some (.inl 1)]) L_123_78 (Nat.le_of_ble_eq_true rfl) rfl ?_
            refine r_iload L_123_79 rfl ?_
            refine r_if (p := ((1 : Int32) = 0)) L_123_81 rfl (i_neg (by decide +kernel) ?_)
            refine r_iload L_123_84 rfl ?_
            refine r_goto L_123_86 ?_
            refine r_istore (ls1 := [some (.inr (34, 0)), some (.inl x1), some (.inl x2), some (.inl x5), some (.inl v9), some (.inl x5), some (.inl v9), some (.inl 1)]) L_123_91 (Nat.le_of_ble_eq_true rfl) rfl ?_
            refine r_iinc (ls1 := [some (.inr (34, 0)), some (.inl x1), some (.inl x2), some (.inl x5), some (.inl v9), some (.inl (x5 + 1)), some (.inl v9), some (.inl 1)]) L_123_93 kI_1 rfl (Nat.le_of_ble_eq_true rfl) rfl ?_
            refine r_goto L_123_96 ?_
            exact h _ _
          · refine r_iconst L_123_64 kI_0 ?_
            refine r_istore (ls1 := [some (.inr (34, 0)), some (.inl x1), some (.inl x2), some (.inl x3), some (.inl x4), some (.inl x5), some (.inl v9), some (.inl 0)]) L_123_65 (Nat.le_of_ble_eq_true rfl) rfl ?_
            refine r_iload L_123_67 rfl ?_
            refine r_if (p := ((0 : Int32) = 0)) L_123_69 rfl (i_pos (by decide +kernel) ?_)
            refine r_iload_n L_123_77 rfl ?_
            refine r_istore_n (ls1 := [some (.inr (34, 0)), some (.inl x1), some (.inl x2), some (.inl x3), some (.inl x4), some (.inl x5), some (.inl v9), some (.inl 0)]) L_123_78 (Nat.le_of_ble_eq_true rfl) rfl ?_
            refine r_iload L_123_79 rfl ?_
            refine r_if (p := ((0 : Int32) = 0)) L_123_81 rfl (i_pos (by decide +kernel) ?_)
            refine r_iload L_123_89 rfl ?_
            refine r_istore (ls1 := [some (.inr (34, 0)), some (.inl x1), some (.inl x2), some (.inl x3), some (.inl x4), some (.inl x5), some (.inl v9), some (.inl 0)]) L_123_91 (Nat.le_of_ble_eq_true rfl) rfl ?_
            refine r_iinc (ls1 := [some (.inr (34, 0)), some (.inl x1), some (.inl x2), some (.inl x3), some (.inl x4), some (.inl (x5 + 1)), some (.inl v9), some (.inl 0)]) L_123_93 kI_1 rfl (Nat.le_of_ble_eq_true rfl) rfl ?_
            refine r_goto L_123_96 ?_
            exact h _ _
  · refine r_iload_n L_123_99 rfl ?_
    exact r_iret L_123_100 RT_123 h
/-- Model.offerFor -/
theorem T_123 {x1 x2 : Int32} {m : aM} {Q : Int32 → aM → Prop} (h :
   H_123_9 x1 x2 (-6) 0 0 m Q
  ) : Mi 123 [.inr (34, 0), .inl x1, .inl x2] m Q := by
  refine Mi_in ML_123 (show Rg 123 0 [some (.inr (34, 0)), some (.inl x1), some (.inl x2), none, none, none, none, none] [] m (qI Q) from ?_)
  refine r_bipush L_123_0 kB_m6 ?_
  refine r_istore_n (ls1 := [some (.inr (34, 0)), some (.inl x1), some (.inl x2), some (.inl (-6)), none, none, none, none]) L_123_2 (Nat.le_of_ble_eq_true rfl) rfl ?_
  refine r_iconst L_123_3 kI_0 ?_
  refine r_istore (ls1 := [some (.inr (34, 0)), some (.inl x1), some (.inl x2), some (.inl (-6)), some (.inl 0), none, none, none]) L_123_4 (Nat.le_of_ble_eq_true rfl) rfl ?_
  refine r_iconst L_123_6 kI_0 ?_
  refine r_istore (ls1 := [some (.inr (34, 0)), some (.inl x1), some (.inl x2), some (.inl (-6)), some (.inl 0), some (.inl 0), none, none]) L_123_7 (Nat.le_of_ble_eq_true rfl) rfl ?_
  exact h _ _
/-- Model.isLeaseAllowed -/
theorem T_124 {x1 : Int32} {m : aM} {Q : Int32 → aM → Prop} (h :
   a_in (104 + 10 * x1 + 3) 264 = true ∧
    a_in (104 + 10 * x1 + 4) 264 = true ∧
     Mi 119 [.inr (34, 0), .inl x1, .inl (m 35 0 (104 + 10 * x1 + 3).toNatClampNeg), .inl (m 35 0 (104 + 10 * x1 + 4).toNatClampNeg)] m (fun v4 m3 =>
      (v4 = 0 ∨ v4 = 1) ∧
       Q v4 m3)
  ) : Mi 124 [.inr (34, 0), .inl x1] m Q := by
  refine Mi_in ML_124 (show Rg 124 0 [some (.inr (34, 0)), some (.inl x1)] [] m (qI Q) from ?_)
  refine r_aload_n L_124_0 rfl ?_
  refine r_iload_n L_124_1 rfl ?_
  refine r_aload_n L_124_2 rfl ?_
  refine r_iload_n L_124_3 rfl ?_
  refine r_iconst L_124_4 kI_3 ?_
  obtain ⟨g1, h⟩ := h
  refine r_cv L_124_5 rfl (V_106 g1 ?_)
  refine r_aload_n L_124_8 rfl ?_
  refine r_iload_n L_124_9 rfl ?_
  refine r_iconst L_124_10 kI_4 ?_
  obtain ⟨g2, h⟩ := h
  refine r_cv L_124_11 rfl (V_106 g2 ?_)
  refine r_cv L_124_14 rfl (Mi_mono h fun v4 m3 h => ?_)
  exact r_zret L_124_17 RT_124 h.1 h.2
def H_125_2 (x1 : Int32) (m : aM) (Q : aM → Prop) : Prop := ∀ d2 : Option aV, Rg 125 2 [some (.inr (34, 0)), some (.inl x1), d2] [] m (qV Q)
/-- Model.reviews, the loop at 2 -/
theorem T_125_2 {x1 : Int32} {m : aM} {Q : aM → Prop} (h :
   if x1 < (m 35 0 3) then
    (a_in (104 + 10 * x1 + 3) 264 = true ∧
     if ¬ m 35 0 (104 + 10 * x1 + 3).toNatClampNeg = (-6) then
      (Mi 124 [.inr (34, 0), .inl x1] m (fun v5 m4 =>
       if v5 = 0 then
        (a_in (104 + 10 * x1 + 6) 264 = true ∧
         if (m4 35 0 (104 + 10 * x1 + 6).toNatClampNeg) = (-6) then
          ((∀ m9, m9 = a_up m4 35 0 (104 + 10 * x1 + 6).toNatClampNeg (m4 35 0 0) →
          H_125_2 (x1 + 1) m9 Q))
         else
          (∀ m10, m10 = a_up m4 35 0 (104 + 10 * x1 + 6).toNatClampNeg (m4 35 0 (104 + 10 * x1 + 6).toNatClampNeg) →
          H_125_2 (x1 + 1) m10 Q))
       else
        a_in (104 + 10 * x1 + 6) 264 = true ∧
         (∀ m12, m12 = a_up m4 35 0 (104 + 10 * x1 + 6).toNatClampNeg (-6) →
         H_125_2 (x1 + 1) m12 Q)))
     else
      H_125_2 (x1 + 1) m Q)
   else
    Q m
  ) : H_125_2 x1 m Q := by
  intro d2
  show Rg 125 2 [some (.inr (34, 0)), some (.inl x1), d2] [] m (qV Q)
  refine r_iload_n L_125_2 rfl ?_
  refine r_aload_n L_125_3 rfl ?_
  refine r_getr (c' := 35) (d' := 0) L_125_4 rfl rfl ?_
  refine r_iconst L_125_7 kI_3 ?_
  refine r_iald (N := 264) (j := 3) L_125_8 (by decide +kernel) rfl (by decide +kernel) (by decide +kernel) ?_
  refine r_icmpn L_125_9 cc_ge (i_mono h (fun c1 h => ?_) (fun c1 h => ?_))
  · refine r_aload_n L_125_12 rfl ?_
    refine r_iload_n L_125_13 rfl ?_
    obtain ⟨g2, h⟩ := h
    refine r_cv L_125_14 rfl (V_120 g2 ?_)
    refine r_ifeqP L_125_17 (i_mono h (fun c3 h => ?_) (fun c3 h => ?_))
    · refine r_aload_n L_125_20 rfl ?_
      refine r_iload_n L_125_21 rfl ?_
      refine r_cv L_125_22 rfl (Mi_mono h fun v5 m4 h => ?_)
      refine r_istore_n (ls1 := [some (.inr (34, 0)), some (.inl x1), some (.inl v5)]) L_125_25 (Nat.le_of_ble_eq_true rfl) rfl ?_
      refine r_aload_n L_125_26 rfl ?_
      refine r_iload_n L_125_27 rfl ?_
      refine r_bipush L_125_28 kB_6 ?_
      refine r_iload_n L_125_30 rfl ?_
      refine r_if L_125_31 rfl (i_mono h (fun c6 h => ?_) (fun c6 h => ?_))
      · refine r_aload_n L_125_39 rfl ?_
        refine r_iload_n L_125_40 rfl ?_
        refine r_bipush L_125_41 kB_6 ?_
        obtain ⟨g7, h⟩ := h
        refine r_cv L_125_43 rfl (V_106 g7 ?_)
        refine r_bipush L_125_46 kB_m6 ?_
        refine r_icmpn L_125_48 rfl (i_mono h (fun c8 h => ?_) (fun c8 h => ?_))
        · refine r_aload_n L_125_51 rfl ?_
          refine r_getr (c' := 35) (d' := 0) L_125_52 rfl rfl ?_
          refine r_iconst L_125_55 kI_0 ?_
          refine r_iald (N := 264) (j := 0) L_125_56 (by decide +kernel) rfl (by decide +kernel) (by decide +kernel) ?_
          refine r_goto L_125_57 ?_
          refine r_cvv L_125_67 rfl (V_107 g7 ?_)
          refine r_nm fun m9 em9 => ?_
          have h := h m9 em9
          refine r_iinc (ls1 := [some (.inr (34, 0)), some (.inl (x1 + 1)), some (.inl v5)]) L_125_70 kI_1 rfl (Nat.le_of_ble_eq_true rfl) rfl ?_
          refine r_goto L_125_73 ?_
          exact h _
        · refine r_aload_n L_125_60 rfl ?_
          refine r_iload_n L_125_61 rfl ?_
          refine r_bipush L_125_62 kB_6 ?_
          refine r_cv L_125_64 rfl (V_106 g7 ?_)
          refine r_cvv L_125_67 rfl (V_107 g7 ?_)
          refine r_nm fun m10 em10 => ?_
          have h := h m10 em10
          refine r_iinc (ls1 := [some (.inr (34, 0)), some (.inl (x1 + 1)), some (.inl v5)]) L_125_70 kI_1 rfl (Nat.le_of_ble_eq_true rfl) rfl ?_
          refine r_goto L_125_73 ?_
          exact h _
      · refine r_bipush L_125_34 kB_m6 ?_
        refine r_goto L_125_36 ?_
        obtain ⟨g11, h⟩ := h
        refine r_cvv L_125_67 rfl (V_107 g11 ?_)
        refine r_nm fun m12 em12 => ?_
        have h := h m12 em12
        refine r_iinc (ls1 := [some (.inr (34, 0)), some (.inl (x1 + 1)), some (.inl v5)]) L_125_70 kI_1 rfl (Nat.le_of_ble_eq_true rfl) rfl ?_
        refine r_goto L_125_73 ?_
        exact h _
    · refine r_iinc (ls1 := [some (.inr (34, 0)), some (.inl (x1 + 1)), d2]) L_125_70 kI_1 rfl (Nat.le_of_ble_eq_true rfl) rfl ?_
      refine r_goto L_125_73 ?_
      exact h _
  · exact r_vret L_125_76 RT_125 h
/-- Model.reviews -/
theorem T_125 {m : aM} {Q : aM → Prop} (h :
   H_125_2 0 m Q
  ) : Mv 125 [.inr (34, 0)] m Q := by
  refine Mv_in ML_125 (show Rg 125 0 [some (.inr (34, 0)), none, none] [] m (qV Q) from ?_)
  refine r_iconst L_125_0 kI_0 ?_
  refine r_istore_n (ls1 := [some (.inr (34, 0)), some (.inl 0), none]) L_125_1 (Nat.le_of_ble_eq_true rfl) rfl ?_
  exact h _
def H_127_4 (x1 x2 : Int32) (m : aM) (Q : Int32 → aM → Prop) : Prop := Rg 127 4 [some (.inr (34, 0)), some (.inl x1), some (.inl x2)] [] m (qI Q)
/-- Model.notices, the loop at 4 -/
theorem T_127_4 {x1 x2 : Int32} {m : aM} {Q : Int32 → aM → Prop} (h :
   if x2 < (m 35 0 3) then
    (a_in (104 + 10 * x2 + 6) 264 = true ∧
     if (m 35 0 (104 + 10 * x2 + 6).toNatClampNeg) = (-6) then
      H_127_4 (x1 + 0) (x2 + 1) m Q
     else
      H_127_4 (x1 + 1) (x2 + 1) m Q)
   else
    Q x1 m
  ) : H_127_4 x1 x2 m Q := by
  show Rg 127 4 [some (.inr (34, 0)), some (.inl x1), some (.inl x2)] [] m (qI Q)
  refine r_iload_n L_127_4 rfl ?_
  refine r_aload_n L_127_5 rfl ?_
  refine r_getr (c' := 35) (d' := 0) L_127_6 rfl rfl ?_
  refine r_iconst L_127_9 kI_3 ?_
  refine r_iald (N := 264) (j := 3) L_127_10 (by decide +kernel) rfl (by decide +kernel) (by decide +kernel) ?_
  refine r_icmpn L_127_11 cc_ge (i_mono h (fun c1 h => ?_) (fun c1 h => ?_))
  · refine r_iload_n L_127_14 rfl ?_
    refine r_aload_n L_127_15 rfl ?_
    refine r_iload_n L_127_16 rfl ?_
    refine r_bipush L_127_17 kB_6 ?_
    obtain ⟨g2, h⟩ := h
    refine r_cv L_127_19 rfl (V_106 g2 ?_)
    refine r_bipush L_127_22 kB_m6 ?_
    refine r_icmp L_127_24 rfl (i_mono h (fun c3 h => ?_) (fun c3 h => ?_))
    · refine r_iconst L_127_31 kI_0 ?_
      refine r_iadd L_127_32 ?_
      refine r_istore_n (ls1 := [some (.inr (34, 0)), some (.inl (x1 + 0)), some (.inl x2)]) L_127_33 (Nat.le_of_ble_eq_true rfl) rfl ?_
      refine r_iinc (ls1 := [some (.inr (34, 0)), some (.inl (x1 + 0)), some (.inl (x2 + 1))]) L_127_34 kI_1 rfl (Nat.le_of_ble_eq_true rfl) rfl ?_
      refine r_goto L_127_37 ?_
      exact h
    · refine r_iconst L_127_27 kI_1 ?_
      refine r_goto L_127_28 ?_
      refine r_iadd L_127_32 ?_
      refine r_istore_n (ls1 := [some (.inr (34, 0)), some (.inl (x1 + 1)), some (.inl x2)]) L_127_33 (Nat.le_of_ble_eq_true rfl) rfl ?_
      refine r_iinc (ls1 := [some (.inr (34, 0)), some (.inl (x1 + 1)), some (.inl (x2 + 1))]) L_127_34 kI_1 rfl (Nat.le_of_ble_eq_true rfl) rfl ?_
      refine r_goto L_127_37 ?_
      exact h
  · refine r_iload_n L_127_40 rfl ?_
    exact r_iret L_127_41 RT_127 h
/-- Model.notices -/
theorem T_127 {m : aM} {Q : Int32 → aM → Prop} (h :
   H_127_4 0 0 m Q
  ) : Mi 127 [.inr (34, 0)] m Q := by
  refine Mi_in ML_127 (show Rg 127 0 [some (.inr (34, 0)), none, none] [] m (qI Q) from ?_)
  refine r_iconst L_127_0 kI_0 ?_
  refine r_istore_n (ls1 := [some (.inr (34, 0)), some (.inl 0), none]) L_127_1 (Nat.le_of_ble_eq_true rfl) rfl ?_
  refine r_iconst L_127_2 kI_0 ?_
  refine r_istore_n (ls1 := [some (.inr (34, 0)), some (.inl 0), some (.inl 0)]) L_127_3 (Nat.le_of_ble_eq_true rfl) rfl ?_
  exact h
def H_128_4 (x1 x2 : Int32) (m : aM) (Q : Int32 → aM → Prop) : Prop := Rg 128 4 [some (.inr (34, 0)), some (.inl x1), some (.inl x2)] [] m (qI Q)
/-- Model.leasesNow, the loop at 4 -/
theorem T_128_4 {x1 x2 : Int32} {m : aM} {Q : Int32 → aM → Prop} (h :
   if x2 < (m 35 0 3) then
    (a_in (104 + 10 * x2 + 3) 264 = true ∧
     if ¬ m 35 0 (104 + 10 * x2 + 3).toNatClampNeg = (-6) then
      H_128_4 (x1 + 1) (x2 + 1) m Q
     else
      H_128_4 (x1 + 0) (x2 + 1) m Q)
   else
    Q x1 m
  ) : H_128_4 x1 x2 m Q := by
  show Rg 128 4 [some (.inr (34, 0)), some (.inl x1), some (.inl x2)] [] m (qI Q)
  refine r_iload_n L_128_4 rfl ?_
  refine r_aload_n L_128_5 rfl ?_
  refine r_getr (c' := 35) (d' := 0) L_128_6 rfl rfl ?_
  refine r_iconst L_128_9 kI_3 ?_
  refine r_iald (N := 264) (j := 3) L_128_10 (by decide +kernel) rfl (by decide +kernel) (by decide +kernel) ?_
  refine r_icmpn L_128_11 cc_ge (i_mono h (fun c1 h => ?_) (fun c1 h => ?_))
  · refine r_iload_n L_128_14 rfl ?_
    refine r_aload_n L_128_15 rfl ?_
    refine r_iload_n L_128_16 rfl ?_
    obtain ⟨g2, h⟩ := h
    refine r_cv L_128_17 rfl (V_120 g2 ?_)
    refine r_ifeqP L_128_20 (i_mono h (fun c3 h => ?_) (fun c3 h => ?_))
    · refine r_iconst L_128_23 kI_1 ?_
      refine r_goto L_128_24 ?_
      refine r_iadd L_128_28 ?_
      refine r_istore_n (ls1 := [some (.inr (34, 0)), some (.inl (x1 + 1)), some (.inl x2)]) L_128_29 (Nat.le_of_ble_eq_true rfl) rfl ?_
      refine r_iinc (ls1 := [some (.inr (34, 0)), some (.inl (x1 + 1)), some (.inl (x2 + 1))]) L_128_30 kI_1 rfl (Nat.le_of_ble_eq_true rfl) rfl ?_
      refine r_goto L_128_33 ?_
      exact h
    · refine r_iconst L_128_27 kI_0 ?_
      refine r_iadd L_128_28 ?_
      refine r_istore_n (ls1 := [some (.inr (34, 0)), some (.inl (x1 + 0)), some (.inl x2)]) L_128_29 (Nat.le_of_ble_eq_true rfl) rfl ?_
      refine r_iinc (ls1 := [some (.inr (34, 0)), some (.inl (x1 + 0)), some (.inl (x2 + 1))]) L_128_30 kI_1 rfl (Nat.le_of_ble_eq_true rfl) rfl ?_
      refine r_goto L_128_33 ?_
      exact h
  · refine r_iload_n L_128_36 rfl ?_
    exact r_iret L_128_37 RT_128 h
/-- Model.leasesNow -/
theorem T_128 {m : aM} {Q : Int32 → aM → Prop} (h :
   H_128_4 0 0 m Q
  ) : Mi 128 [.inr (34, 0)] m Q := by
  refine Mi_in ML_128 (show Rg 128 0 [some (.inr (34, 0)), none, none] [] m (qI Q) from ?_)
  refine r_iconst L_128_0 kI_0 ?_
  refine r_istore_n (ls1 := [some (.inr (34, 0)), some (.inl 0), none]) L_128_1 (Nat.le_of_ble_eq_true rfl) rfl ?_
  refine r_iconst L_128_2 kI_0 ?_
  refine r_istore_n (ls1 := [some (.inr (34, 0)), some (.inl 0), some (.inl 0)]) L_128_3 (Nat.le_of_ble_eq_true rfl) rfl ?_
  exact h
def H_129_7 (x1 x2 : Int32) (m : aM) (Q : Int32 → aM → Prop) : Prop := ∀ d3 : Option aV, Rg 129 7 [some (.inr (34, 0)), some (.inl x1), some (.inl x2), d3] [] m (qI Q)
/-- Model.asks, the loop at 7 -/
theorem T_129_7 {x1 x2 : Int32} {m : aM} {Q : Int32 → aM → Prop} (h :
   if x2 < 0 then
    (a_in (104 + 10 * x1 + 3) 264 = true ∧
     a_in (104 + 10 * x1 + 4) 264 = true ∧
      a_in (104 + 10 * x1 + 5) 264 = true ∧
       a_in (104 + 10 * x1 + 6) 264 = true ∧
        (∀ m6, m6 = rEnds m x1 →
        a_in (104 + 10 * x1 + 8) 264 = true ∧
         (∀ m8, m8 = a_up m6 35 0 (104 + 10 * x1 + 8).toNatClampNeg ((m6 35 0 (104 + 10 * x1 + 8).toNatClampNeg) + 1) →
         Q 0 m8)))
   else
    Mi 123 [.inr (34, 0), .inl x1, .inl x2] m (fun v10 m9 =>
     if v10 = (-6) then
      H_129_7 x1 (x2 + (-1)) m9 Q
     else
      a_in (104 + 10 * x1 + 3) 264 = true ∧
       (∀ m13, m13 = a_up m9 35 0 (104 + 10 * x1 + 3).toNatClampNeg v10 →
       a_in (104 + 10 * x1 + 4) 264 = true ∧
        (∀ m15, m15 = a_up m13 35 0 (104 + 10 * x1 + 4).toNatClampNeg x2 →
        a_in (104 + 10 * x1 + 6) 264 = true ∧
         (∀ m17, m17 = a_up m15 35 0 (104 + 10 * x1 + 6).toNatClampNeg (-6) →
         a_in (104 + 10 * x1 + 7) 264 = true ∧
          (∀ m19, m19 = a_up m17 35 0 (104 + 10 * x1 + 7).toNatClampNeg ((m17 35 0 (104 + 10 * x1 + 7).toNatClampNeg) + 1) →
          Q 1 m19)))))
  ) : H_129_7 x1 x2 m Q := by
  intro d3
  show Rg 129 7 [some (.inr (34, 0)), some (.inl x1), some (.inl x2), d3] [] m (qI Q)
  refine r_iload_n L_129_7 rfl ?_
  refine r_if L_129_8 rfl (i_mono h (fun c1 h => ?_) (fun c1 h => ?_))
  · refine r_aload_n L_129_71 rfl ?_
    refine r_iload_n L_129_72 rfl ?_
    obtain ⟨g2, h⟩ := h
    obtain ⟨g3, h⟩ := h
    obtain ⟨g4, h⟩ := h
    obtain ⟨g5, h⟩ := h
    refine r_cvv L_129_73 rfl (V_126 g2 g3 g4 g5 ?_)
    refine r_nm fun m6 em6 => ?_
    have h := h m6 em6
    refine r_aload_n L_129_76 rfl ?_
    refine r_iload_n L_129_77 rfl ?_
    refine r_bipush L_129_78 kB_8 ?_
    refine r_aload_n L_129_80 rfl ?_
    refine r_iload_n L_129_81 rfl ?_
    refine r_bipush L_129_82 kB_8 ?_
    obtain ⟨g7, h⟩ := h
    refine r_cv L_129_84 rfl (V_106 g7 ?_)
    refine r_iconst L_129_87 kI_1 ?_
    refine r_iadd L_129_88 ?_
    refine r_cvv L_129_89 rfl (V_107 g7 ?_)
    refine r_nm fun m8 em8 => ?_
    have h := h m8 em8
    refine r_iconst L_129_92 kI_0 ?_
    exact r_iret L_129_93 RT_129 h
  · refine r_aload_n L_129_11 rfl ?_
    refine r_iload_n L_129_12 rfl ?_
    refine r_iload_n L_129_13 rfl ?_
    refine r_cv L_129_14 rfl (Mi_mono h fun v10 m9 h => ?_)
    refine r_istore_n (ls1 := [some (.inr (34, 0)), some (.inl x1), some (.inl x2), some (.inl v10)]) L_129_17 (Nat.le_of_ble_eq_true rfl) rfl ?_
    refine r_iload_n L_129_18 rfl ?_
    refine r_bipush L_129_19 kB_m6 ?_
    refine r_icmp L_129_21 rfl (i_mono h (fun c11 h => ?_) (fun c11 h => ?_))
    · refine r_iinc (ls1 := [some (.inr (34, 0)), some (.inl x1), some (.inl (x2 + (-1))), some (.inl v10)]) L_129_65 kI_m1 rfl (Nat.le_of_ble_eq_true rfl) rfl ?_
      refine r_goto L_129_68 ?_
      exact h _
    · refine r_aload_n L_129_24 rfl ?_
      refine r_iload_n L_129_25 rfl ?_
      refine r_iconst L_129_26 kI_3 ?_
      refine r_iload_n L_129_27 rfl ?_
      obtain ⟨g12, h⟩ := h
      refine r_cvv L_129_28 rfl (V_107 g12 ?_)
      refine r_nm fun m13 em13 => ?_
      have h := h m13 em13
      refine r_aload_n L_129_31 rfl ?_
      refine r_iload_n L_129_32 rfl ?_
      refine r_iconst L_129_33 kI_4 ?_
      refine r_iload_n L_129_34 rfl ?_
      obtain ⟨g14, h⟩ := h
      refine r_cvv L_129_35 rfl (V_107 g14 ?_)
      refine r_nm fun m15 em15 => ?_
      have h := h m15 em15
      refine r_aload_n L_129_38 rfl ?_
      refine r_iload_n L_129_39 rfl ?_
      refine r_bipush L_129_40 kB_6 ?_
      refine r_bipush L_129_42 kB_m6 ?_
      obtain ⟨g16, h⟩ := h
      refine r_cvv L_129_44 rfl (V_107 g16 ?_)
      refine r_nm fun m17 em17 => ?_
      have h := h m17 em17
      refine r_aload_n L_129_47 rfl ?_
      refine r_iload_n L_129_48 rfl ?_
      refine r_bipush L_129_49 kB_7 ?_
      refine r_aload_n L_129_51 rfl ?_
      refine r_iload_n L_129_52 rfl ?_
      refine r_bipush L_129_53 kB_7 ?_
      obtain ⟨g18, h⟩ := h
      refine r_cv L_129_55 rfl (V_106 g18 ?_)
      refine r_iconst L_129_58 kI_1 ?_
      refine r_iadd L_129_59 ?_
      refine r_cvv L_129_60 rfl (V_107 g18 ?_)
      refine r_nm fun m19 em19 => ?_
      have h := h m19 em19
      refine r_iconst L_129_63 kI_1 ?_
      exact r_iret L_129_64 RT_129 h
/-- Model.asks -/
theorem T_129 {x1 : Int32} {m : aM} {Q : Int32 → aM → Prop} (h :
   a_in (104 + 10 * x1 + 4) 264 = true ∧
    H_129_7 x1 (m 35 0 (104 + 10 * x1 + 4).toNatClampNeg) m Q
  ) : Mi 129 [.inr (34, 0), .inl x1] m Q := by
  refine Mi_in ML_129 (show Rg 129 0 [some (.inr (34, 0)), some (.inl x1), none, none] [] m (qI Q) from ?_)
  refine r_aload_n L_129_0 rfl ?_
  refine r_iload_n L_129_1 rfl ?_
  refine r_iconst L_129_2 kI_4 ?_
  obtain ⟨g1, h⟩ := h
  refine r_cv L_129_3 rfl (V_106 g1 ?_)
  refine r_istore_n (ls1 := [some (.inr (34, 0)), some (.inl x1), some (.inl (m 35 0 (104 + 10 * x1 + 4).toNatClampNeg)), none]) L_129_6 (Nat.le_of_ble_eq_true rfl) rfl ?_
  exact h _
def H_130_14 (x1 x2 : Int32) (m : aM) (Q : Int32 → aM → Prop) : Prop := Rg 130 14 [some (.inr (34, 0)), some (.inl x1), some (.inl x2)] [] m (qI Q)
def H_130_64 (x1 x2 : Int32) (m : aM) (Q : Int32 → aM → Prop) : Prop := Rg 130 64 [some (.inr (34, 0)), some (.inl x1), some (.inl x2)] [] m (qI Q)
def H_130_121 (x1 x2 : Int32) (m : aM) (Q : Int32 → aM → Prop) : Prop := Rg 130 121 [some (.inr (34, 0)), some (.inl x1), some (.inl x2)] [] m (qI Q)
/-- Model.passesOne, the loop at 121 -/
theorem T_130_121 {x1 x2 : Int32} {m : aM} {Q : Int32 → aM → Prop} (h :
   if x2 < (m 35 0 3) then
    (a_in (104 + 10 * x2 + 6) 264 = true ∧
     if (m 35 0 (104 + 10 * x2 + 6).toNatClampNeg) = (-6) then
      H_130_121 x1 (x2 + 1) m Q
     else
      if ((m 35 0 0) - (m 35 0 7)) < (m 35 0 (104 + 10 * x2 + 6).toNatClampNeg) then
       H_130_121 x1 (x2 + 1) m Q
      else
       a_in (104 + 10 * x2 + 3) 264 = true ∧
        a_in (104 + 10 * x2 + 4) 264 = true ∧
         a_in (104 + 10 * x2 + 5) 264 = true ∧
          (∀ m8, m8 = rEnds m x2 →
          a_in (104 + 10 * x2 + 9) 264 = true ∧
           (∀ m10, m10 = a_up m8 35 0 (104 + 10 * x2 + 9).toNatClampNeg ((m8 35 0 (104 + 10 * x2 + 9).toNatClampNeg) + 1) →
           H_130_121 x1 (x2 + 1) m10 Q)))
   else
    Q x1 m
  ) : H_130_121 x1 x2 m Q := by
  show Rg 130 121 [some (.inr (34, 0)), some (.inl x1), some (.inl x2)] [] m (qI Q)
  refine r_iload_n L_130_121 rfl ?_
  refine r_aload_n L_130_122 rfl ?_
  refine r_getr (c' := 35) (d' := 0) L_130_123 rfl rfl ?_
  refine r_iconst L_130_126 kI_3 ?_
  refine r_iald (N := 264) (j := 3) L_130_127 (by decide +kernel) rfl (by decide +kernel) (by decide +kernel) ?_
  refine r_icmpn L_130_128 cc_ge (i_mono h (fun c1 h => ?_) (fun c1 h => ?_))
  · refine r_aload_n L_130_131 rfl ?_
    refine r_iload_n L_130_132 rfl ?_
    refine r_bipush L_130_133 kB_6 ?_
    obtain ⟨g2, h⟩ := h
    refine r_cv L_130_135 rfl (V_106 g2 ?_)
    refine r_bipush L_130_138 kB_m6 ?_
    refine r_icmp L_130_140 rfl (i_mono h (fun c3 h => ?_) (fun c3 h => ?_))
    · refine r_iinc (ls1 := [some (.inr (34, 0)), some (.inl x1), some (.inl (x2 + 1))]) L_130_188 kI_1 rfl (Nat.le_of_ble_eq_true rfl) rfl ?_
      refine r_goto L_130_191 ?_
      exact h
    · refine r_aload_n L_130_143 rfl ?_
      refine r_iload_n L_130_144 rfl ?_
      refine r_bipush L_130_145 kB_6 ?_
      refine r_cv L_130_147 rfl (V_106 g2 ?_)
      refine r_aload_n L_130_150 rfl ?_
      refine r_getr (c' := 35) (d' := 0) L_130_151 rfl rfl ?_
      refine r_iconst L_130_154 kI_0 ?_
      refine r_iald (N := 264) (j := 0) L_130_155 (by decide +kernel) rfl (by decide +kernel) (by decide +kernel) ?_
      refine r_aload_n L_130_156 rfl ?_
      refine r_getr (c' := 35) (d' := 0) L_130_157 rfl rfl ?_
      refine r_bipush L_130_160 kB_7 ?_
      refine r_iald (N := 264) (j := 7) L_130_162 (by decide +kernel) rfl (by decide +kernel) (by decide +kernel) ?_
      refine r_isub L_130_163 ?_
      refine r_icmp L_130_164 rfl (i_mono h (fun c4 h => ?_) (fun c4 h => ?_))
      · refine r_iinc (ls1 := [some (.inr (34, 0)), some (.inl x1), some (.inl (x2 + 1))]) L_130_188 kI_1 rfl (Nat.le_of_ble_eq_true rfl) rfl ?_
        refine r_goto L_130_191 ?_
        exact h
      · refine r_aload_n L_130_167 rfl ?_
        refine r_iload_n L_130_168 rfl ?_
        obtain ⟨g5, h⟩ := h
        obtain ⟨g6, h⟩ := h
        obtain ⟨g7, h⟩ := h
        refine r_cvv L_130_169 rfl (V_126 g5 g6 g7 g2 ?_)
        refine r_nm fun m8 em8 => ?_
        have h := h m8 em8
        refine r_aload_n L_130_172 rfl ?_
        refine r_iload_n L_130_173 rfl ?_
        refine r_bipush L_130_174 kB_9 ?_
        refine r_aload_n L_130_176 rfl ?_
        refine r_iload_n L_130_177 rfl ?_
        refine r_bipush L_130_178 kB_9 ?_
        obtain ⟨g9, h⟩ := h
        refine r_cv L_130_180 rfl (V_106 g9 ?_)
        refine r_iconst L_130_183 kI_1 ?_
        refine r_iadd L_130_184 ?_
        refine r_cvv L_130_185 rfl (V_107 g9 ?_)
        refine r_nm fun m10 em10 => ?_
        have h := h m10 em10
        refine r_iinc (ls1 := [some (.inr (34, 0)), some (.inl x1), some (.inl (x2 + 1))]) L_130_188 kI_1 rfl (Nat.le_of_ble_eq_true rfl) rfl ?_
        refine r_goto L_130_191 ?_
        exact h
  · refine r_iload_n L_130_194 rfl ?_
    exact r_iret L_130_195 RT_130 h
/-- Model.passesOne, the loop at 64 -/
theorem T_130_64 {x1 x2 : Int32} {m : aM} {Q : Int32 → aM → Prop} (h :
   if x2 < (m 35 0 3) then
    (¬ (m 35 0 6) = 0 ∧
     if (iR ((m 35 0 0) + x2) (m 35 0 6)) = 0 then
      (a_in (104 + 10 * x2 + 6) 264 = true ∧
       if (m 35 0 (104 + 10 * x2 + 6).toNatClampNeg) = (-6) then
        H_130_64 x1 (x2 + 1) m Q
       else
        Mi 129 [.inr (34, 0), .inl x2] m (fun v7 m6 =>
         H_130_64 (x1 + v7) (x2 + 1) m6 Q))
     else
      H_130_64 x1 (x2 + 1) m Q)
   else
    H_130_121 x1 0 m Q
  ) : H_130_64 x1 x2 m Q := by
  show Rg 130 64 [some (.inr (34, 0)), some (.inl x1), some (.inl x2)] [] m (qI Q)
  refine r_iload_n L_130_64 rfl ?_
  refine r_aload_n L_130_65 rfl ?_
  refine r_getr (c' := 35) (d' := 0) L_130_66 rfl rfl ?_
  refine r_iconst L_130_69 kI_3 ?_
  refine r_iald (N := 264) (j := 3) L_130_70 (by decide +kernel) rfl (by decide +kernel) (by decide +kernel) ?_
  refine r_icmpn L_130_71 cc_ge (i_mono h (fun c1 h => ?_) (fun c1 h => ?_))
  · refine r_aload_n L_130_74 rfl ?_
    refine r_getr (c' := 35) (d' := 0) L_130_75 rfl rfl ?_
    refine r_iconst L_130_78 kI_0 ?_
    refine r_iald (N := 264) (j := 0) L_130_79 (by decide +kernel) rfl (by decide +kernel) (by decide +kernel) ?_
    refine r_iload_n L_130_80 rfl ?_
    refine r_iadd L_130_81 ?_
    refine r_aload_n L_130_82 rfl ?_
    refine r_getr (c' := 35) (d' := 0) L_130_83 rfl rfl ?_
    refine r_bipush L_130_86 kB_6 ?_
    refine r_iald (N := 264) (j := 6) L_130_88 (by decide +kernel) rfl (by decide +kernel) (by decide +kernel) ?_
    obtain ⟨g2, h⟩ := h
    refine r_irem L_130_89 g2 ?_
    refine r_ifn L_130_90 rfl (i_mono h (fun c3 h => ?_) (fun c3 h => ?_))
    · refine r_aload_n L_130_93 rfl ?_
      refine r_iload_n L_130_94 rfl ?_
      refine r_bipush L_130_95 kB_6 ?_
      obtain ⟨g4, h⟩ := h
      refine r_cv L_130_97 rfl (V_106 g4 ?_)
      refine r_bipush L_130_100 kB_m6 ?_
      refine r_icmp L_130_102 rfl (i_mono h (fun c5 h => ?_) (fun c5 h => ?_))
      · refine r_iinc (ls1 := [some (.inr (34, 0)), some (.inl x1), some (.inl (x2 + 1))]) L_130_113 kI_1 rfl (Nat.le_of_ble_eq_true rfl) rfl ?_
        refine r_goto L_130_116 ?_
        exact h
      · refine r_iload_n L_130_105 rfl ?_
        refine r_aload_n L_130_106 rfl ?_
        refine r_iload_n L_130_107 rfl ?_
        refine r_cv L_130_108 rfl (Mi_mono h fun v7 m6 h => ?_)
        refine r_iadd L_130_111 ?_
        refine r_istore_n (ls1 := [some (.inr (34, 0)), some (.inl (x1 + v7)), some (.inl x2)]) L_130_112 (Nat.le_of_ble_eq_true rfl) rfl ?_
        refine r_iinc (ls1 := [some (.inr (34, 0)), some (.inl (x1 + v7)), some (.inl (x2 + 1))]) L_130_113 kI_1 rfl (Nat.le_of_ble_eq_true rfl) rfl ?_
        refine r_goto L_130_116 ?_
        exact h
    · refine r_iinc (ls1 := [some (.inr (34, 0)), some (.inl x1), some (.inl (x2 + 1))]) L_130_113 kI_1 rfl (Nat.le_of_ble_eq_true rfl) rfl ?_
      refine r_goto L_130_116 ?_
      exact h
  · refine r_iconst L_130_119 kI_0 ?_
    refine r_istore_n (ls1 := [some (.inr (34, 0)), some (.inl x1), some (.inl 0)]) L_130_120 (Nat.le_of_ble_eq_true rfl) rfl ?_
    exact h
/-- Model.passesOne, the loop at 14 -/
theorem T_130_14 {x1 x2 : Int32} {m : aM} {Q : Int32 → aM → Prop} (h :
   if x2 < (m 35 0 3) then
    (a_in (104 + 10 * x2 + 3) 264 = true ∧
     if ¬ m 35 0 (104 + 10 * x2 + 3).toNatClampNeg = (-6) then
      (a_in (104 + 10 * x2 + 5) 264 = true ∧
       if (m 35 0 0) < (m 35 0 (104 + 10 * x2 + 5).toNatClampNeg) then
        H_130_14 x1 (x2 + 1) m Q
       else
        a_in (104 + 10 * x2 + 4) 264 = true ∧
         a_in (104 + 10 * x2 + 6) 264 = true ∧
          (∀ m8, m8 = rEnds m x2 →
          H_130_14 x1 (x2 + 1) m8 Q))
     else
      H_130_14 x1 (x2 + 1) m Q)
   else
    Mv 125 [.inr (34, 0)] m (fun m9 =>
     H_130_64 x1 0 m9 Q)
  ) : H_130_14 x1 x2 m Q := by
  show Rg 130 14 [some (.inr (34, 0)), some (.inl x1), some (.inl x2)] [] m (qI Q)
  refine r_iload_n L_130_14 rfl ?_
  refine r_aload_n L_130_15 rfl ?_
  refine r_getr (c' := 35) (d' := 0) L_130_16 rfl rfl ?_
  refine r_iconst L_130_19 kI_3 ?_
  refine r_iald (N := 264) (j := 3) L_130_20 (by decide +kernel) rfl (by decide +kernel) (by decide +kernel) ?_
  refine r_icmpn L_130_21 cc_ge (i_mono h (fun c1 h => ?_) (fun c1 h => ?_))
  · refine r_aload_n L_130_24 rfl ?_
    refine r_iload_n L_130_25 rfl ?_
    obtain ⟨g2, h⟩ := h
    refine r_cv L_130_26 rfl (V_120 g2 ?_)
    refine r_ifeqP L_130_29 (i_mono h (fun c3 h => ?_) (fun c3 h => ?_))
    · refine r_aload_n L_130_32 rfl ?_
      refine r_iload_n L_130_33 rfl ?_
      refine r_iconst L_130_34 kI_5 ?_
      obtain ⟨g4, h⟩ := h
      refine r_cv L_130_35 rfl (V_106 g4 ?_)
      refine r_aload_n L_130_38 rfl ?_
      refine r_getr (c' := 35) (d' := 0) L_130_39 rfl rfl ?_
      refine r_iconst L_130_42 kI_0 ?_
      refine r_iald (N := 264) (j := 0) L_130_43 (by decide +kernel) rfl (by decide +kernel) (by decide +kernel) ?_
      refine r_icmp L_130_44 rfl (i_mono h (fun c5 h => ?_) (fun c5 h => ?_))
      · refine r_iinc (ls1 := [some (.inr (34, 0)), some (.inl x1), some (.inl (x2 + 1))]) L_130_52 kI_1 rfl (Nat.le_of_ble_eq_true rfl) rfl ?_
        refine r_goto L_130_55 ?_
        exact h
      · refine r_aload_n L_130_47 rfl ?_
        refine r_iload_n L_130_48 rfl ?_
        obtain ⟨g6, h⟩ := h
        obtain ⟨g7, h⟩ := h
        refine r_cvv L_130_49 rfl (V_126 g2 g6 g4 g7 ?_)
        refine r_nm fun m8 em8 => ?_
        have h := h m8 em8
        refine r_iinc (ls1 := [some (.inr (34, 0)), some (.inl x1), some (.inl (x2 + 1))]) L_130_52 kI_1 rfl (Nat.le_of_ble_eq_true rfl) rfl ?_
        refine r_goto L_130_55 ?_
        exact h
    · refine r_iinc (ls1 := [some (.inr (34, 0)), some (.inl x1), some (.inl (x2 + 1))]) L_130_52 kI_1 rfl (Nat.le_of_ble_eq_true rfl) rfl ?_
      refine r_goto L_130_55 ?_
      exact h
  · refine r_aload_n L_130_58 rfl ?_
    refine r_cvv L_130_59 rfl (Mv_mono h fun m9 h => ?_)
    refine r_iconst L_130_62 kI_0 ?_
    refine r_istore_n (ls1 := [some (.inr (34, 0)), some (.inl x1), some (.inl 0)]) L_130_63 (Nat.le_of_ble_eq_true rfl) rfl ?_
    exact h
/-- Model.passesOne -/
theorem T_130 {m : aM} {Q : Int32 → aM → Prop} (h :
   (∀ m1, m1 = a_up m 35 0 0 ((m 35 0 0) + 1) →
   H_130_14 0 0 m1 Q)
  ) : Mi 130 [.inr (34, 0)] m Q := by
  refine Mi_in ML_130 (show Rg 130 0 [some (.inr (34, 0)), none, none] [] m (qI Q) from ?_)
  refine r_aload_n L_130_0 rfl ?_
  refine r_getr (c' := 35) (d' := 0) L_130_1 rfl rfl ?_
  refine r_iconst L_130_4 kI_0 ?_
  refine r_dup2 L_130_5 ?_
  refine r_iald (N := 264) (j := 0) L_130_6 (by decide +kernel) rfl (by decide +kernel) (by decide +kernel) ?_
  refine r_iconst L_130_7 kI_1 ?_
  refine r_iadd L_130_8 ?_
  refine r_iast (N := 264) (j := 0) L_130_9 (by decide +kernel) rfl (by decide +kernel) (by decide +kernel) ?_
  refine r_nm fun m1 em1 => ?_
  have h := h m1 em1
  refine r_iconst L_130_10 kI_0 ?_
  refine r_istore_n (ls1 := [some (.inr (34, 0)), some (.inl 0), none]) L_130_11 (Nat.le_of_ble_eq_true rfl) rfl ?_
  refine r_iconst L_130_12 kI_0 ?_
  refine r_istore_n (ls1 := [some (.inr (34, 0)), some (.inl 0), some (.inl 0)]) L_130_13 (Nat.le_of_ble_eq_true rfl) rfl ?_
  exact h
/-- Model.addStation -/
theorem T_131 {x1 x2 x3 x4 : Int32} {m : aM} {Q : Int32 → aM → Prop} (h :
   if (¬ x1 < 0 ∧ ¬ 99 < x1) ∧ (¬ x2 < 0 ∧ ¬ 99 < x2) then
    (if ¬ x3 < 0 ∧ ¬ 7 < x3 then
     (if ¬ x4 < 0 ∧ ¬ 4 < x4 then
      (if (m 35 0 1) = 8 then
       Q (-4) m
      else
       Mv 98 [.inr (34, 0)] m (fun m5 =>
        (a_in ((8 + (5 * (m5 35 0 1))) + 0) 264 = true ∧
         (∀ m7, m7 = a_up m5 35 0 ((8 + (5 * (m5 35 0 1))) + 0).toNatClampNeg x1 →
         (a_in ((8 + (5 * (m5 35 0 1))) + 1) 264 = true ∧
          (∀ m9, m9 = a_up m7 35 0 ((8 + (5 * (m5 35 0 1))) + 1).toNatClampNeg x2 →
          (a_in ((8 + (5 * (m5 35 0 1))) + 2) 264 = true ∧
           (∀ m11, m11 = a_up m9 35 0 ((8 + (5 * (m5 35 0 1))) + 2).toNatClampNeg x3 →
           (a_in ((8 + (5 * (m5 35 0 1))) + 3) 264 = true ∧
            (∀ m13, m13 = a_up m11 35 0 ((8 + (5 * (m5 35 0 1))) + 3).toNatClampNeg x4 →
            (a_in ((8 + (5 * (m5 35 0 1))) + 4) 264 = true ∧
             (∀ m15, m15 = a_up m13 35 0 ((8 + (5 * (m5 35 0 1))) + 4).toNatClampNeg 0 →
             (∀ m16, m16 = a_up m15 35 0 1 ((m15 35 0 1) + 1) →
             Q ((m16 35 0 1) - 1) m16)))))))))))))
     else
      Q (-2) m)
    else
     Q (-2) m)
   else
    Q (-2) m
  ) : Mi 131 [.inr (34, 0), .inl x1, .inl x2, .inl x3, .inl x4] m Q := by
  refine Mi_in ML_131 (show Rg 131 0 [some (.inr (34, 0)), some (.inl x1), some (.inl x2), some (.inl x3), some (.inl x4), none] [] m (qI Q) from ?_)
  refine r_iload_n L_131_0 rfl ?_
  refine r_iload_n L_131_1 rfl ?_
  refine r_cs L_131_2 (by decide) rfl (V_108 ?_)
  refine r_ifeqP L_131_5 (i_mono h (fun c1 h => ?_) (fun c1 h => ?_))
  · refine r_iload_n L_131_8 rfl ?_
    refine r_cs L_131_9 (by decide) rfl (V_109 ?_)
    refine r_ifeqP L_131_12 (i_mono h (fun c2 h => ?_) (fun c2 h => ?_))
    · refine r_iload L_131_15 rfl ?_
      refine r_iconst L_131_17 kI_0 ?_
      refine r_iconst L_131_18 kI_4 ?_
      refine r_cs L_131_19 (by decide) rfl (V_97 ?_)
      refine r_ifneP L_131_22 (i_mono h (fun c3 h => ?_) (fun c3 h => ?_))
      · refine r_aload_n L_131_28 rfl ?_
        refine r_getr (c' := 35) (d' := 0) L_131_29 rfl rfl ?_
        refine r_iconst L_131_32 kI_1 ?_
        refine r_iald (N := 264) (j := 1) L_131_33 (by decide +kernel) rfl (by decide +kernel) (by decide +kernel) ?_
        refine r_bipush L_131_34 kB_8 ?_
        refine r_icmpn L_131_36 rfl (i_mono h (fun c4 h => ?_) (fun c4 h => ?_))
        · refine r_bipush L_131_39 kB_m4 ?_
          exact r_iret L_131_41 RT_131 h
        · refine r_aload_n L_131_42 rfl ?_
          refine r_cvv L_131_43 rfl (Mv_mono h fun m5 h => ?_)
          refine r_bipush L_131_46 kB_8 ?_
          refine r_iconst L_131_48 kI_5 ?_
          refine r_aload_n L_131_49 rfl ?_
          refine r_getr (c' := 35) (d' := 0) L_131_50 rfl rfl ?_
          refine r_iconst L_131_53 kI_1 ?_
          refine r_iald (N := 264) (j := 1) L_131_54 (by decide +kernel) rfl (by decide +kernel) (by decide +kernel) ?_
          refine r_imul L_131_55 ?_
          refine r_iadd L_131_56 ?_
          refine r_istore (ls1 := [some (.inr (34, 0)), some (.inl x1), some (.inl x2), some (.inl x3), some (.inl x4), some (.inl (8 + (5 * (m5 35 0 1))))]) L_131_57 (Nat.le_of_ble_eq_true rfl) rfl ?_
          refine r_aload_n L_131_59 rfl ?_
          refine r_getr (c' := 35) (d' := 0) L_131_60 rfl rfl ?_
          refine r_iload L_131_63 rfl ?_
          refine r_iconst L_131_65 kI_0 ?_
          refine r_iadd L_131_66 ?_
          refine r_iload_n L_131_67 rfl ?_
          obtain ⟨g6, h⟩ := h
          refine r_iast (N := 264) (j := ((8 + (5 * (m5 35 0 1))) + 0).toNatClampNeg) L_131_68 (by decide +kernel) rfl g6 rfl ?_
          refine r_nm fun m7 em7 => ?_
          have h := h m7 em7
          refine r_aload_n L_131_69 rfl ?_
          refine r_getr (c' := 35) (d' := 0) L_131_70 rfl rfl ?_
          refine r_iload L_131_73 rfl ?_
          refine r_iconst L_131_75 kI_1 ?_
          refine r_iadd L_131_76 ?_
          refine r_iload_n L_131_77 rfl ?_
          obtain ⟨g8, h⟩ := h
          refine r_iast (N := 264) (j := ((8 + (5 * (m5 35 0 1))) + 1).toNatClampNeg) L_131_78 (by decide +kernel) rfl g8 rfl ?_
          refine r_nm fun m9 em9 => ?_
          have h := h m9 em9
          refine r_aload_n L_131_79 rfl ?_
          refine r_getr (c' := 35) (d' := 0) L_131_80 rfl rfl ?_
          refine r_iload L_131_83 rfl ?_
          refine r_iconst L_131_85 kI_2 ?_
          refine r_iadd L_131_86 ?_
          refine r_iload_n L_131_87 rfl ?_
          obtain ⟨g10, h⟩ := h
          refine r_iast (N := 264) (j := ((8 + (5 * (m5 35 0 1))) + 2).toNatClampNeg) L_131_88 (by decide +kernel) rfl g10 rfl ?_
          refine r_nm fun m11 em11 => ?_
          have h := h m11 em11
          refine r_aload_n L_131_89 rfl ?_
          refine r_getr (c' := 35) (d' := 0) L_131_90 rfl rfl ?_
          refine r_iload L_131_93 rfl ?_
          refine r_iconst L_131_95 kI_3 ?_
          refine r_iadd L_131_96 ?_
          refine r_iload L_131_97 rfl ?_
          obtain ⟨g12, h⟩ := h
          refine r_iast (N := 264) (j := ((8 + (5 * (m5 35 0 1))) + 3).toNatClampNeg) L_131_99 (by decide +kernel) rfl g12 rfl ?_
          refine r_nm fun m13 em13 => ?_
          have h := h m13 em13
          refine r_aload_n L_131_100 rfl ?_
          refine r_getr (c' := 35) (d' := 0) L_131_101 rfl rfl ?_
          refine r_iload L_131_104 rfl ?_
          refine r_iconst L_131_106 kI_4 ?_
          refine r_iadd L_131_107 ?_
          refine r_iconst L_131_108 kI_0 ?_
          obtain ⟨g14, h⟩ := h
          refine r_iast (N := 264) (j := ((8 + (5 * (m5 35 0 1))) + 4).toNatClampNeg) L_131_109 (by decide +kernel) rfl g14 rfl ?_
          refine r_nm fun m15 em15 => ?_
          have h := h m15 em15
          refine r_aload_n L_131_110 rfl ?_
          refine r_getr (c' := 35) (d' := 0) L_131_111 rfl rfl ?_
          refine r_iconst L_131_114 kI_1 ?_
          refine r_dup2 L_131_115 ?_
          refine r_iald (N := 264) (j := 1) L_131_116 (by decide +kernel) rfl (by decide +kernel) (by decide +kernel) ?_
          refine r_iconst L_131_117 kI_1 ?_
          refine r_iadd L_131_118 ?_
          refine r_iast (N := 264) (j := 1) L_131_119 (by decide +kernel) rfl (by decide +kernel) (by decide +kernel) ?_
          refine r_nm fun m16 em16 => ?_
          have h := h m16 em16
          refine r_aload_n L_131_120 rfl ?_
          refine r_getr (c' := 35) (d' := 0) L_131_121 rfl rfl ?_
          refine r_iconst L_131_124 kI_1 ?_
          refine r_iald (N := 264) (j := 1) L_131_125 (by decide +kernel) rfl (by decide +kernel) (by decide +kernel) ?_
          refine r_iconst L_131_126 kI_1 ?_
          refine r_isub L_131_127 ?_
          exact r_iret L_131_128 RT_131 h
      · refine r_bipush L_131_25 kB_m2 ?_
        exact r_iret L_131_27 RT_131 h
    · refine r_bipush L_131_25 kB_m2 ?_
      exact r_iret L_131_27 RT_131 h
  · refine r_bipush L_131_25 kB_m2 ?_
    exact r_iret L_131_27 RT_131 h
/-- Model.addEvent -/
theorem T_132 {x1 x2 x3 x4 x5 x6 : Int32} {m : aM} {Q : Int32 → aM → Prop} (h :
   if (¬ x1 < 0 ∧ ¬ 99 < x1) ∧ (¬ x2 < 0 ∧ ¬ 99 < x2) then
    (if ¬ x3 < 1 ∧ ¬ 30 < x3 then
     (if ¬ x4 < 0 ∧ ¬ 7 < x4 then
      (if ¬ x5 < (m 35 0 0) ∧ ¬ 9998 < x5 then
       (if x5 < x6 then
        (if 9999 < x6 then
         Q (-2) m
        else
         if (m 35 0 2) = 8 then
          Q (-4) m
         else
          Mv 98 [.inr (34, 0)] m (fun m8 =>
           (a_in ((48 + (7 * (m8 35 0 2))) + 0) 264 = true ∧
            (∀ m10, m10 = a_up m8 35 0 ((48 + (7 * (m8 35 0 2))) + 0).toNatClampNeg x1 →
            (a_in ((48 + (7 * (m8 35 0 2))) + 1) 264 = true ∧
             (∀ m12, m12 = a_up m10 35 0 ((48 + (7 * (m8 35 0 2))) + 1).toNatClampNeg x2 →
             (a_in ((48 + (7 * (m8 35 0 2))) + 2) 264 = true ∧
              (∀ m14, m14 = a_up m12 35 0 ((48 + (7 * (m8 35 0 2))) + 2).toNatClampNeg x3 →
              (a_in ((48 + (7 * (m8 35 0 2))) + 3) 264 = true ∧
               (∀ m16, m16 = a_up m14 35 0 ((48 + (7 * (m8 35 0 2))) + 3).toNatClampNeg x4 →
               (a_in ((48 + (7 * (m8 35 0 2))) + 4) 264 = true ∧
                (∀ m18, m18 = a_up m16 35 0 ((48 + (7 * (m8 35 0 2))) + 4).toNatClampNeg x5 →
                (a_in ((48 + (7 * (m8 35 0 2))) + 5) 264 = true ∧
                 (∀ m20, m20 = a_up m18 35 0 ((48 + (7 * (m8 35 0 2))) + 5).toNatClampNeg x6 →
                 (a_in ((48 + (7 * (m8 35 0 2))) + 6) 264 = true ∧
                  (∀ m22, m22 = a_up m20 35 0 ((48 + (7 * (m8 35 0 2))) + 6).toNatClampNeg 0 →
                  (∀ m23, m23 = a_up m22 35 0 2 ((m22 35 0 2) + 1) →
                  Mv 125 [.inr (34, 0)] m23 (fun m24 =>
                   Q ((m24 35 0 2) - 1) m24))))))))))))))))))
       else
        Q (-2) m)
      else
       Q (-2) m)
     else
      Q (-2) m)
    else
     Q (-2) m)
   else
    Q (-2) m
  ) : Mi 132 [.inr (34, 0), .inl x1, .inl x2, .inl x3, .inl x4, .inl x5, .inl x6] m Q := by
  refine Mi_in ML_132 (show Rg 132 0 [some (.inr (34, 0)), some (.inl x1), some (.inl x2), some (.inl x3), some (.inl x4), some (.inl x5), some (.inl x6), none] [] m (qI Q) from ?_)
  refine r_iload_n L_132_0 rfl ?_
  refine r_iload_n L_132_1 rfl ?_
  refine r_cs L_132_2 (by decide) rfl (V_108 ?_)
  refine r_ifeqP L_132_5 (i_mono h (fun c1 h => ?_) (fun c1 h => ?_))
  · refine r_iload_n L_132_8 rfl ?_
    refine r_iconst L_132_9 kI_1 ?_
    refine r_bipush L_132_10 kB_30 ?_
    refine r_cs L_132_12 (by decide) rfl (V_97 ?_)
    refine r_ifeqP L_132_15 (i_mono h (fun c2 h => ?_) (fun c2 h => ?_))
    · refine r_iload L_132_18 rfl ?_
      refine r_cs L_132_20 (by decide) rfl (V_109 ?_)
      refine r_ifeqP L_132_23 (i_mono h (fun c3 h => ?_) (fun c3 h => ?_))
      · refine r_iload L_132_26 rfl ?_
        refine r_aload_n L_132_28 rfl ?_
        refine r_getr (c' := 35) (d' := 0) L_132_29 rfl rfl ?_
        refine r_iconst L_132_32 kI_0 ?_
        refine r_iald (N := 264) (j := 0) L_132_33 (by decide +kernel) rfl (by decide +kernel) (by decide +kernel) ?_
        refine r_sipush L_132_34 kS_9998 ?_
        refine r_cs L_132_37 (by decide) rfl (V_97 ?_)
        refine r_ifeqP L_132_40 (i_mono h (fun c4 h => ?_) (fun c4 h => ?_))
        · refine r_iload L_132_43 rfl ?_
          refine r_iload L_132_45 rfl ?_
          refine r_icmpn L_132_47 cc_le (i_mono h (fun c5 h => ?_) (fun c5 h => ?_))
          · refine r_iload L_132_50 rfl ?_
            refine r_sipush L_132_52 kS_9999 ?_
            refine r_icmpn L_132_55 cc_le (i_mono h (fun c6 h => ?_) (fun c6 h => ?_))
            · refine r_bipush L_132_58 kB_m2 ?_
              exact r_iret L_132_60 RT_132 h
            · refine r_aload_n L_132_61 rfl ?_
              refine r_getr (c' := 35) (d' := 0) L_132_62 rfl rfl ?_
              refine r_iconst L_132_65 kI_2 ?_
              refine r_iald (N := 264) (j := 2) L_132_66 (by decide +kernel) rfl (by decide +kernel) (by decide +kernel) ?_
              refine r_bipush L_132_67 kB_8 ?_
              refine r_icmpn L_132_69 rfl (i_mono h (fun c7 h => ?_) (fun c7 h => ?_))
              · refine r_bipush L_132_72 kB_m4 ?_
                exact r_iret L_132_74 RT_132 h
              · refine r_aload_n L_132_75 rfl ?_
                refine r_cvv L_132_76 rfl (Mv_mono h fun m8 h => ?_)
                refine r_bipush L_132_79 kB_48 ?_
                refine r_bipush L_132_81 kB_7 ?_
                refine r_aload_n L_132_83 rfl ?_
                refine r_getr (c' := 35) (d' := 0) L_132_84 rfl rfl ?_
                refine r_iconst L_132_87 kI_2 ?_
                refine r_iald (N := 264) (j := 2) L_132_88 (by decide +kernel) rfl (by decide +kernel) (by decide +kernel) ?_
                refine r_imul L_132_89 ?_
                refine r_iadd L_132_90 ?_
                refine r_istore (ls1 := [some (.inr (34, 0)), some (.inl x1), some (.inl x2), some (.inl x3), some (.inl x4), some (.inl x5), some (.inl x6), some (.inl (48 + (7 * (m8 35 0 2))))]) L_132_91 (Nat.le_of_ble_eq_true rfl) rfl ?_
                refine r_aload_n L_132_93 rfl ?_
                refine r_getr (c' := 35) (d' := 0) L_132_94 rfl rfl ?_
                refine r_iload L_132_97 rfl ?_
                refine r_iconst L_132_99 kI_0 ?_
                refine r_iadd L_132_100 ?_
                refine r_iload_n L_132_101 rfl ?_
                obtain ⟨g9, h⟩ := h
                refine r_iast (N := 264) (j := ((48 + (7 * (m8 35 0 2))) + 0).toNatClampNeg) L_132_102 (by decide +kernel) rfl g9 rfl ?_
                refine r_nm fun m10 em10 => ?_
                have h := h m10 em10
                refine r_aload_n L_132_103 rfl ?_
                refine r_getr (c' := 35) (d' := 0) L_132_104 rfl rfl ?_
                refine r_iload L_132_107 rfl ?_
                refine r_iconst L_132_109 kI_1 ?_
                refine r_iadd L_132_110 ?_
                refine r_iload_n L_132_111 rfl ?_
                obtain ⟨g11, h⟩ := h
                refine r_iast (N := 264) (j := ((48 + (7 * (m8 35 0 2))) + 1).toNatClampNeg) L_132_112 (by decide +kernel) rfl g11 rfl ?_
                refine r_nm fun m12 em12 => ?_
                have h := h m12 em12
                refine r_aload_n L_132_113 rfl ?_
                refine r_getr (c' := 35) (d' := 0) L_132_114 rfl rfl ?_
                refine r_iload L_132_117 rfl ?_
                refine r_iconst L_132_119 kI_2 ?_
                refine r_iadd L_132_120 ?_
                refine r_iload_n L_132_121 rfl ?_
                obtain ⟨g13, h⟩ := h
                refine r_iast (N := 264) (j := ((48 + (7 * (m8 35 0 2))) + 2).toNatClampNeg) L_132_122 (by decide +kernel) rfl g13 rfl ?_
                refine r_nm fun m14 em14 => ?_
                have h := h m14 em14
                refine r_aload_n L_132_123 rfl ?_
                refine r_getr (c' := 35) (d' := 0) L_132_124 rfl rfl ?_
                refine r_iload L_132_127 rfl ?_
                refine r_iconst L_132_129 kI_3 ?_
                refine r_iadd L_132_130 ?_
                refine r_iload L_132_131 rfl ?_
                obtain ⟨g15, h⟩ := h
                refine r_iast (N := 264) (j := ((48 + (7 * (m8 35 0 2))) + 3).toNatClampNeg) L_132_133 (by decide +kernel) rfl g15 rfl ?_
                refine r_nm fun m16 em16 => ?_
                have h := h m16 em16
                refine r_aload_n L_132_134 rfl ?_
                refine r_getr (c' := 35) (d' := 0) L_132_135 rfl rfl ?_
                refine r_iload L_132_138 rfl ?_
                refine r_iconst L_132_140 kI_4 ?_
                refine r_iadd L_132_141 ?_
                refine r_iload L_132_142 rfl ?_
                obtain ⟨g17, h⟩ := h
                refine r_iast (N := 264) (j := ((48 + (7 * (m8 35 0 2))) + 4).toNatClampNeg) L_132_144 (by decide +kernel) rfl g17 rfl ?_
                refine r_nm fun m18 em18 => ?_
                have h := h m18 em18
                refine r_aload_n L_132_145 rfl ?_
                refine r_getr (c' := 35) (d' := 0) L_132_146 rfl rfl ?_
                refine r_iload L_132_149 rfl ?_
                refine r_iconst L_132_151 kI_5 ?_
                refine r_iadd L_132_152 ?_
                refine r_iload L_132_153 rfl ?_
                obtain ⟨g19, h⟩ := h
                refine r_iast (N := 264) (j := ((48 + (7 * (m8 35 0 2))) + 5).toNatClampNeg) L_132_155 (by decide +kernel) rfl g19 rfl ?_
                refine r_nm fun m20 em20 => ?_
                have h := h m20 em20
                refine r_aload_n L_132_156 rfl ?_
                refine r_getr (c' := 35) (d' := 0) L_132_157 rfl rfl ?_
                refine r_iload L_132_160 rfl ?_
                refine r_bipush L_132_162 kB_6 ?_
                refine r_iadd L_132_164 ?_
                refine r_iconst L_132_165 kI_0 ?_
                obtain ⟨g21, h⟩ := h
                refine r_iast (N := 264) (j := ((48 + (7 * (m8 35 0 2))) + 6).toNatClampNeg) L_132_166 (by decide +kernel) rfl g21 rfl ?_
                refine r_nm fun m22 em22 => ?_
                have h := h m22 em22
                refine r_aload_n L_132_167 rfl ?_
                refine r_getr (c' := 35) (d' := 0) L_132_168 rfl rfl ?_
                refine r_iconst L_132_171 kI_2 ?_
                refine r_dup2 L_132_172 ?_
                refine r_iald (N := 264) (j := 2) L_132_173 (by decide +kernel) rfl (by decide +kernel) (by decide +kernel) ?_
                refine r_iconst L_132_174 kI_1 ?_
                refine r_iadd L_132_175 ?_
                refine r_iast (N := 264) (j := 2) L_132_176 (by decide +kernel) rfl (by decide +kernel) (by decide +kernel) ?_
                refine r_nm fun m23 em23 => ?_
                have h := h m23 em23
                refine r_aload_n L_132_177 rfl ?_
                refine r_cvv L_132_178 rfl (Mv_mono h fun m24 h => ?_)
                refine r_aload_n L_132_181 rfl ?_
                refine r_getr (c' := 35) (d' := 0) L_132_182 rfl rfl ?_
                refine r_iconst L_132_185 kI_2 ?_
                refine r_iald (N := 264) (j := 2) L_132_186 (by decide +kernel) rfl (by decide +kernel) (by decide +kernel) ?_
                refine r_iconst L_132_187 kI_1 ?_
                refine r_isub L_132_188 ?_
                exact r_iret L_132_189 RT_132 h
          · refine r_bipush L_132_58 kB_m2 ?_
            exact r_iret L_132_60 RT_132 h
        · refine r_bipush L_132_58 kB_m2 ?_
          exact r_iret L_132_60 RT_132 h
      · refine r_bipush L_132_58 kB_m2 ?_
        exact r_iret L_132_60 RT_132 h
    · refine r_bipush L_132_58 kB_m2 ?_
      exact r_iret L_132_60 RT_132 h
  · refine r_bipush L_132_58 kB_m2 ?_
    exact r_iret L_132_60 RT_132 h
/-- Model.addDevice -/
theorem T_133 {x1 x2 x3 : Int32} {m : aM} {Q : Int32 → aM → Prop} (h :
   if (¬ x1 < 0 ∧ ¬ 99 < x1) ∧ (¬ x2 < 0 ∧ ¬ 99 < x2) then
    (if ¬ x3 < 0 ∧ ¬ 3 < x3 then
     (if (m 35 0 3) = 16 then
      Q (-4) m
     else
      Mv 98 [.inr (34, 0)] m (fun m4 =>
       a_in (104 + 10 * (m4 35 0 3) + 0) 264 = true ∧
        (∀ m6, m6 = a_up m4 35 0 (104 + 10 * (m4 35 0 3) + 0).toNatClampNeg x1 →
        a_in (104 + 10 * (m4 35 0 3) + 1) 264 = true ∧
         (∀ m8, m8 = a_up m6 35 0 (104 + 10 * (m4 35 0 3) + 1).toNatClampNeg x2 →
         a_in (104 + 10 * (m4 35 0 3) + 2) 264 = true ∧
          (∀ m10, m10 = a_up m8 35 0 (104 + 10 * (m4 35 0 3) + 2).toNatClampNeg x3 →
          a_in (104 + 10 * (m4 35 0 3) + 3) 264 = true ∧
           a_in (104 + 10 * (m4 35 0 3) + 4) 264 = true ∧
            a_in (104 + 10 * (m4 35 0 3) + 5) 264 = true ∧
             a_in (104 + 10 * (m4 35 0 3) + 6) 264 = true ∧
              (∀ m15, m15 = rEnds m10 (m4 35 0 3) →
              a_in (104 + 10 * (m4 35 0 3) + 7) 264 = true ∧
               (∀ m17, m17 = a_up m15 35 0 (104 + 10 * (m4 35 0 3) + 7).toNatClampNeg 0 →
               a_in (104 + 10 * (m4 35 0 3) + 8) 264 = true ∧
                (∀ m19, m19 = a_up m17 35 0 (104 + 10 * (m4 35 0 3) + 8).toNatClampNeg 0 →
                a_in (104 + 10 * (m4 35 0 3) + 9) 264 = true ∧
                 (∀ m21, m21 = a_up m19 35 0 (104 + 10 * (m4 35 0 3) + 9).toNatClampNeg 0 →
                 (∀ m22, m22 = a_up m21 35 0 3 ((m21 35 0 3) + 1) →
                 Q (m4 35 0 3) m22))))))))))
    else
     Q (-2) m)
   else
    Q (-2) m
  ) : Mi 133 [.inr (34, 0), .inl x1, .inl x2, .inl x3] m Q := by
  refine Mi_in ML_133 (show Rg 133 0 [some (.inr (34, 0)), some (.inl x1), some (.inl x2), some (.inl x3), none] [] m (qI Q) from ?_)
  refine r_iload_n L_133_0 rfl ?_
  refine r_iload_n L_133_1 rfl ?_
  refine r_cs L_133_2 (by decide) rfl (V_108 ?_)
  refine r_ifeqP L_133_5 (i_mono h (fun c1 h => ?_) (fun c1 h => ?_))
  · refine r_iload_n L_133_8 rfl ?_
    refine r_cs L_133_9 (by decide) rfl (V_110 ?_)
    refine r_ifneP L_133_12 (i_mono h (fun c2 h => ?_) (fun c2 h => ?_))
    · refine r_aload_n L_133_18 rfl ?_
      refine r_getr (c' := 35) (d' := 0) L_133_19 rfl rfl ?_
      refine r_iconst L_133_22 kI_3 ?_
      refine r_iald (N := 264) (j := 3) L_133_23 (by decide +kernel) rfl (by decide +kernel) (by decide +kernel) ?_
      refine r_bipush L_133_24 kB_16 ?_
      refine r_icmpn L_133_26 rfl (i_mono h (fun c3 h => ?_) (fun c3 h => ?_))
      · refine r_bipush L_133_29 kB_m4 ?_
        exact r_iret L_133_31 RT_133 h
      · refine r_aload_n L_133_32 rfl ?_
        refine r_cvv L_133_33 rfl (Mv_mono h fun m4 h => ?_)
        refine r_aload_n L_133_36 rfl ?_
        refine r_getr (c' := 35) (d' := 0) L_133_37 rfl rfl ?_
        refine r_iconst L_133_40 kI_3 ?_
        refine r_iald (N := 264) (j := 3) L_133_41 (by decide +kernel) rfl (by decide +kernel) (by decide +kernel) ?_
        refine r_istore (ls1 := [some (.inr (34, 0)), some (.inl x1), some (.inl x2), some (.inl x3), some (.inl (m4 35 0 3))]) L_133_42 (Nat.le_of_ble_eq_true rfl) rfl ?_
        refine r_aload_n L_133_44 rfl ?_
        refine r_iload L_133_45 rfl ?_
        refine r_iconst L_133_47 kI_0 ?_
        refine r_iload_n L_133_48 rfl ?_
        obtain ⟨g5, h⟩ := h
        refine r_cvv L_133_49 rfl (V_107 g5 ?_)
        refine r_nm fun m6 em6 => ?_
        have h := h m6 em6
        refine r_aload_n L_133_52 rfl ?_
        refine r_iload L_133_53 rfl ?_
        refine r_iconst L_133_55 kI_1 ?_
        refine r_iload_n L_133_56 rfl ?_
        obtain ⟨g7, h⟩ := h
        refine r_cvv L_133_57 rfl (V_107 g7 ?_)
        refine r_nm fun m8 em8 => ?_
        have h := h m8 em8
        refine r_aload_n L_133_60 rfl ?_
        refine r_iload L_133_61 rfl ?_
        refine r_iconst L_133_63 kI_2 ?_
        refine r_iload_n L_133_64 rfl ?_
        obtain ⟨g9, h⟩ := h
        refine r_cvv L_133_65 rfl (V_107 g9 ?_)
        refine r_nm fun m10 em10 => ?_
        have h := h m10 em10
        refine r_aload_n L_133_68 rfl ?_
        refine r_iload L_133_69 rfl ?_
        obtain ⟨g11, h⟩ := h
        obtain ⟨g12, h⟩ := h
        obtain ⟨g13, h⟩ := h
        obtain ⟨g14, h⟩ := h
        refine r_cvv L_133_71 rfl (V_126 g11 g12 g13 g14 ?_)
        refine r_nm fun m15 em15 => ?_
        have h := h m15 em15
        refine r_aload_n L_133_74 rfl ?_
        refine r_iload L_133_75 rfl ?_
        refine r_bipush L_133_77 kB_7 ?_
        refine r_iconst L_133_79 kI_0 ?_
        obtain ⟨g16, h⟩ := h
        refine r_cvv L_133_80 rfl (V_107 g16 ?_)
        refine r_nm fun m17 em17 => ?_
        have h := h m17 em17
        refine r_aload_n L_133_83 rfl ?_
        refine r_iload L_133_84 rfl ?_
        refine r_bipush L_133_86 kB_8 ?_
        refine r_iconst L_133_88 kI_0 ?_
        obtain ⟨g18, h⟩ := h
        refine r_cvv L_133_89 rfl (V_107 g18 ?_)
        refine r_nm fun m19 em19 => ?_
        have h := h m19 em19
        refine r_aload_n L_133_92 rfl ?_
        refine r_iload L_133_93 rfl ?_
        refine r_bipush L_133_95 kB_9 ?_
        refine r_iconst L_133_97 kI_0 ?_
        obtain ⟨g20, h⟩ := h
        refine r_cvv L_133_98 rfl (V_107 g20 ?_)
        refine r_nm fun m21 em21 => ?_
        have h := h m21 em21
        refine r_aload_n L_133_101 rfl ?_
        refine r_getr (c' := 35) (d' := 0) L_133_102 rfl rfl ?_
        refine r_iconst L_133_105 kI_3 ?_
        refine r_dup2 L_133_106 ?_
        refine r_iald (N := 264) (j := 3) L_133_107 (by decide +kernel) rfl (by decide +kernel) (by decide +kernel) ?_
        refine r_iconst L_133_108 kI_1 ?_
        refine r_iadd L_133_109 ?_
        refine r_iast (N := 264) (j := 3) L_133_110 (by decide +kernel) rfl (by decide +kernel) (by decide +kernel) ?_
        refine r_nm fun m22 em22 => ?_
        have h := h m22 em22
        refine r_iload L_133_111 rfl ?_
        exact r_iret L_133_113 RT_133 h
    · refine r_bipush L_133_15 kB_m2 ?_
      exact r_iret L_133_17 RT_133 h
  · refine r_bipush L_133_15 kB_m2 ?_
    exact r_iret L_133_17 RT_133 h
/-- Model.set -/
theorem T_134 {x1 x2 : Int32} {m : aM} {Q : Int32 → aM → Prop} (h :
   if ¬ x1 < 0 ∧ ¬ 2 < x1 then
    (if x1 = 0 then
     (if ¬ x2 < 0 ∧ ¬ 100 < x2 then
      (Mv 98 [.inr (34, 0)] m (fun m4 =>
       a_in (5 + x1) 264 = true ∧
        (∀ m6, m6 = a_up m4 35 0 (5 + x1).toNatClampNeg x2 →
        Mv 125 [.inr (34, 0)] m6 (fun m7 =>
         Q (m4 35 0 (5 + x1).toNatClampNeg) m7))))
     else
      Q (-2) m)
    else
     if x1 = 1 then
      (if ¬ x2 < 1 ∧ ¬ 12 < x2 then
       (Mv 98 [.inr (34, 0)] m (fun m10 =>
        a_in (5 + x1) 264 = true ∧
         (∀ m12, m12 = a_up m10 35 0 (5 + x1).toNatClampNeg x2 →
         Mv 125 [.inr (34, 0)] m12 (fun m13 =>
          Q (m10 35 0 (5 + x1).toNatClampNeg) m13))))
      else
       Q (-2) m)
     else
      if ¬ x2 < 0 ∧ ¬ 20 < x2 then
       (Mv 98 [.inr (34, 0)] m (fun m15 =>
        a_in (5 + x1) 264 = true ∧
         (∀ m17, m17 = a_up m15 35 0 (5 + x1).toNatClampNeg x2 →
         Mv 125 [.inr (34, 0)] m17 (fun m18 =>
          Q (m15 35 0 (5 + x1).toNatClampNeg) m18))))
      else
       Q (-2) m)
   else
    Q (-1) m
  ) : Mi 134 [.inr (34, 0), .inl x1, .inl x2] m Q := by
  refine Mi_in ML_134 (show Rg 134 0 [some (.inr (34, 0)), some (.inl x1), some (.inl x2), none] [] m (qI Q) from ?_)
  refine r_iload_n L_134_0 rfl ?_
  refine r_iconst L_134_1 kI_0 ?_
  refine r_iconst L_134_2 kI_2 ?_
  refine r_cs L_134_3 (by decide) rfl (V_97 ?_)
  refine r_ifneP L_134_6 (i_mono h (fun c1 h => ?_) (fun c1 h => ?_))
  · refine r_iload_n L_134_11 rfl ?_
    refine r_ifn L_134_12 rfl (i_mono h (fun c2 h => ?_) (fun c2 h => ?_))
    · refine r_iload_n L_134_15 rfl ?_
      refine r_iconst L_134_16 kI_0 ?_
      refine r_bipush L_134_17 kB_100 ?_
      refine r_cs L_134_19 (by decide) rfl (V_97 ?_)
      refine r_ifeqP L_134_22 (i_mono h (fun c3 h => ?_) (fun c3 h => ?_))
      · refine r_goto L_134_25 ?_
        refine r_aload_n L_134_59 rfl ?_
        refine r_cvv L_134_60 rfl (Mv_mono h fun m4 h => ?_)
        refine r_aload_n L_134_63 rfl ?_
        refine r_getr (c' := 35) (d' := 0) L_134_64 rfl rfl ?_
        refine r_iconst L_134_67 kI_5 ?_
        refine r_iload_n L_134_68 rfl ?_
        refine r_iadd L_134_69 ?_
        obtain ⟨g5, h⟩ := h
        refine r_iald (N := 264) (j := (5 + x1).toNatClampNeg) L_134_70 (by decide +kernel) rfl g5 rfl ?_
        refine r_istore_n (ls1 := [some (.inr (34, 0)), some (.inl x1), some (.inl x2), some (.inl (m4 35 0 (5 + x1).toNatClampNeg))]) L_134_71 (Nat.le_of_ble_eq_true rfl) rfl ?_
        refine r_aload_n L_134_72 rfl ?_
        refine r_getr (c' := 35) (d' := 0) L_134_73 rfl rfl ?_
        refine r_iconst L_134_76 kI_5 ?_
        refine r_iload_n L_134_77 rfl ?_
        refine r_iadd L_134_78 ?_
        refine r_iload_n L_134_79 rfl ?_
        refine r_iast (N := 264) (j := (5 + x1).toNatClampNeg) L_134_80 (by decide +kernel) rfl g5 rfl ?_
        refine r_nm fun m6 em6 => ?_
        have h := h m6 em6
        refine r_aload_n L_134_81 rfl ?_
        refine r_cvv L_134_82 rfl (Mv_mono h fun m7 h => ?_)
        refine r_iload_n L_134_85 rfl ?_
        exact r_iret L_134_86 RT_134 h
      · refine r_bipush L_134_56 kB_m2 ?_
        exact r_iret L_134_58 RT_134 h
    · refine r_iload_n L_134_28 rfl ?_
      refine r_iconst L_134_29 kI_1 ?_
      refine r_icmpn L_134_30 rfl (i_mono h (fun c8 h => ?_) (fun c8 h => ?_))
      · refine r_iload_n L_134_33 rfl ?_
        refine r_iconst L_134_34 kI_1 ?_
        refine r_bipush L_134_35 kB_12 ?_
        refine r_cs L_134_37 (by decide) rfl (V_97 ?_)
        refine r_ifeqP L_134_40 (i_mono h (fun c9 h => ?_) (fun c9 h => ?_))
        · refine r_goto L_134_43 ?_
          refine r_aload_n L_134_59 rfl ?_
          refine r_cvv L_134_60 rfl (Mv_mono h fun m10 h => ?_)
          refine r_aload_n L_134_63 rfl ?_
          refine r_getr (c' := 35) (d' := 0) L_134_64 rfl rfl ?_
          refine r_iconst L_134_67 kI_5 ?_
          refine r_iload_n L_134_68 rfl ?_
          refine r_iadd L_134_69 ?_
          obtain ⟨g11, h⟩ := h
          refine r_iald (N := 264) (j := (5 + x1).toNatClampNeg) L_134_70 (by decide +kernel) rfl g11 rfl ?_
          refine r_istore_n (ls1 := [some (.inr (34, 0)), some (.inl x1), some (.inl x2), some (.inl (m10 35 0 (5 + x1).toNatClampNeg))]) L_134_71 (Nat.le_of_ble_eq_true rfl) rfl ?_
          refine r_aload_n L_134_72 rfl ?_
          refine r_getr (c' := 35) (d' := 0) L_134_73 rfl rfl ?_
          refine r_iconst L_134_76 kI_5 ?_
          refine r_iload_n L_134_77 rfl ?_
          refine r_iadd L_134_78 ?_
          refine r_iload_n L_134_79 rfl ?_
          refine r_iast (N := 264) (j := (5 + x1).toNatClampNeg) L_134_80 (by decide +kernel) rfl g11 rfl ?_
          refine r_nm fun m12 em12 => ?_
          have h := h m12 em12
          refine r_aload_n L_134_81 rfl ?_
          refine r_cvv L_134_82 rfl (Mv_mono h fun m13 h => ?_)
          refine r_iload_n L_134_85 rfl ?_
          exact r_iret L_134_86 RT_134 h
        · refine r_bipush L_134_56 kB_m2 ?_
          exact r_iret L_134_58 RT_134 h
      · refine r_iload_n L_134_46 rfl ?_
        refine r_iconst L_134_47 kI_0 ?_
        refine r_bipush L_134_48 kB_20 ?_
        refine r_cs L_134_50 (by decide) rfl (V_97 ?_)
        refine r_ifneP L_134_53 (i_mono h (fun c14 h => ?_) (fun c14 h => ?_))
        · refine r_aload_n L_134_59 rfl ?_
          refine r_cvv L_134_60 rfl (Mv_mono h fun m15 h => ?_)
          refine r_aload_n L_134_63 rfl ?_
          refine r_getr (c' := 35) (d' := 0) L_134_64 rfl rfl ?_
          refine r_iconst L_134_67 kI_5 ?_
          refine r_iload_n L_134_68 rfl ?_
          refine r_iadd L_134_69 ?_
          obtain ⟨g16, h⟩ := h
          refine r_iald (N := 264) (j := (5 + x1).toNatClampNeg) L_134_70 (by decide +kernel) rfl g16 rfl ?_
          refine r_istore_n (ls1 := [some (.inr (34, 0)), some (.inl x1), some (.inl x2), some (.inl (m15 35 0 (5 + x1).toNatClampNeg))]) L_134_71 (Nat.le_of_ble_eq_true rfl) rfl ?_
          refine r_aload_n L_134_72 rfl ?_
          refine r_getr (c' := 35) (d' := 0) L_134_73 rfl rfl ?_
          refine r_iconst L_134_76 kI_5 ?_
          refine r_iload_n L_134_77 rfl ?_
          refine r_iadd L_134_78 ?_
          refine r_iload_n L_134_79 rfl ?_
          refine r_iast (N := 264) (j := (5 + x1).toNatClampNeg) L_134_80 (by decide +kernel) rfl g16 rfl ?_
          refine r_nm fun m17 em17 => ?_
          have h := h m17 em17
          refine r_aload_n L_134_81 rfl ?_
          refine r_cvv L_134_82 rfl (Mv_mono h fun m18 h => ?_)
          refine r_iload_n L_134_85 rfl ?_
          exact r_iret L_134_86 RT_134 h
        · refine r_bipush L_134_56 kB_m2 ?_
          exact r_iret L_134_58 RT_134 h
  · refine r_iconst L_134_9 kI_m1 ?_
    exact r_iret L_134_10 RT_134 h
/-- Model.turns -/
theorem T_135 {x1 x2 : Int32} {m : aM} {Q : Int32 → aM → Prop} (h :
   if ¬ x1 < 0 ∧ x1 < m 35 0 1 then
    (a_in (8 + 5 * x1 + 4) 264 = true ∧
     if (m 35 0 (8 + 5 * x1 + 4).toNatClampNeg) = x2 then
      Q (-3) m
     else
      Mv 98 [.inr (34, 0)] m (fun m4 =>
       (a_in ((8 + (5 * x1)) + 4) 264 = true ∧
        (∀ m6, m6 = a_up m4 35 0 ((8 + (5 * x1)) + 4).toNatClampNeg x2 →
        Mv 125 [.inr (34, 0)] m6 (fun m7 =>
         Mi 127 [.inr (34, 0)] m7 (fun v9 m8 =>
          Q v9 m8))))))
   else
    Q (-1) m
  ) : Mi 135 [.inr (34, 0), .inl x1, .inl x2] m Q := by
  refine Mi_in ML_135 (show Rg 135 0 [some (.inr (34, 0)), some (.inl x1), some (.inl x2)] [] m (qI Q) from ?_)
  refine r_aload_n L_135_0 rfl ?_
  refine r_iload_n L_135_1 rfl ?_
  refine r_cv L_135_2 rfl (V_101 ?_)
  refine r_ifneP L_135_5 (i_mono h (fun c1 h => ?_) (fun c1 h => ?_))
  · refine r_aload_n L_135_10 rfl ?_
    refine r_iload_n L_135_11 rfl ?_
    refine r_iconst L_135_12 kI_4 ?_
    obtain ⟨g2, h⟩ := h
    refine r_cv L_135_13 rfl (V_104 g2 ?_)
    refine r_iload_n L_135_16 rfl ?_
    refine r_icmpn L_135_17 rfl (i_mono h (fun c3 h => ?_) (fun c3 h => ?_))
    · refine r_bipush L_135_20 kB_m3 ?_
      exact r_iret L_135_22 RT_135 h
    · refine r_aload_n L_135_23 rfl ?_
      refine r_cvv L_135_24 rfl (Mv_mono h fun m4 h => ?_)
      refine r_aload_n L_135_27 rfl ?_
      refine r_getr (c' := 35) (d' := 0) L_135_28 rfl rfl ?_
      refine r_bipush L_135_31 kB_8 ?_
      refine r_iconst L_135_33 kI_5 ?_
      refine r_iload_n L_135_34 rfl ?_
      refine r_imul L_135_35 ?_
      refine r_iadd L_135_36 ?_
      refine r_iconst L_135_37 kI_4 ?_
      refine r_iadd L_135_38 ?_
      refine r_iload_n L_135_39 rfl ?_
      obtain ⟨g5, h⟩ := h
      refine r_iast (N := 264) (j := ((8 + (5 * x1)) + 4).toNatClampNeg) L_135_40 (by decide +kernel) rfl g5 rfl ?_
      refine r_nm fun m6 em6 => ?_
      have h := h m6 em6
      refine r_aload_n L_135_41 rfl ?_
      refine r_cvv L_135_42 rfl (Mv_mono h fun m7 h => ?_)
      refine r_aload_n L_135_45 rfl ?_
      refine r_cv L_135_46 rfl (Mi_mono h fun v9 m8 h => ?_)
      exact r_iret L_135_49 RT_135 h
  · refine r_iconst L_135_8 kI_m1 ?_
    exact r_iret L_135_9 RT_135 h
