/-! trees: what is left of a method when its rows are walked; by program (wip/p34/gen9.py) -/
/-- VacantAir.addStation -/
theorem T_60 {x1 x2 x3 x4 : Int32} {m : aM} {Q : Int32 → aM → Prop} (h :
   Mv 27 [.inr (28, 0), .inr (0, 0)] m (fun m1 =>
    Mi 31 [.inr (0, 0), .inl x1, .inl x2, .inl x3, .inl x4] m1 (fun v3 m2 =>
     Mi 91 [.inr (27, 0), .inl v3] m2 (fun v5 m4 =>
      Q v5 m4)))
  ) : Mi 60 [.inr (27, 0), .inl x1, .inl x2, .inl x3, .inl x4] m Q := by
  refine Mi_in ML_60 (show Rg 60 0 [some (.inr (27, 0)), some (.inl x1), some (.inl x2), some (.inl x3), some (.inl x4)] [] m (qI Q) from ?_)
  refine r_aload_n L_60_0 rfl ?_
  refine r_getr (c' := 28) (d' := 0) L_60_1 rfl rfl ?_
  refine r_aload_n L_60_4 rfl ?_
  refine r_getr (c' := 0) (d' := 0) L_60_5 rfl rfl ?_
  refine r_cvv L_60_8 rfl (Mv_mono h fun m1 h => ?_)
  refine r_aload_n L_60_11 rfl ?_
  refine r_aload_n L_60_12 rfl ?_
  refine r_getr (c' := 0) (d' := 0) L_60_13 rfl rfl ?_
  refine r_iload_n L_60_16 rfl ?_
  refine r_iload_n L_60_17 rfl ?_
  refine r_iload_n L_60_18 rfl ?_
  refine r_iload L_60_19 rfl ?_
  refine r_cv L_60_21 rfl (Mi_mono h fun v3 m2 h => ?_)
  refine r_cv L_60_24 rfl (Mi_mono h fun v5 m4 h => ?_)
  exact r_iret L_60_27 RT_60 h
/-- VacantAir.addEvent -/
theorem T_61 {x1 x2 x3 x4 x5 x6 : Int32} {m : aM} {Q : Int32 → aM → Prop} (h :
   Mv 27 [.inr (28, 0), .inr (0, 0)] m (fun m1 =>
    Mi 32 [.inr (0, 0), .inl x1, .inl x2, .inl x3, .inl x4, .inl x5, .inl x6] m1 (fun v3 m2 =>
     Mi 91 [.inr (27, 0), .inl v3] m2 (fun v5 m4 =>
      Q v5 m4)))
  ) : Mi 61 [.inr (27, 0), .inl x1, .inl x2, .inl x3, .inl x4, .inl x5, .inl x6] m Q := by
  refine Mi_in ML_61 (show Rg 61 0 [some (.inr (27, 0)), some (.inl x1), some (.inl x2), some (.inl x3), some (.inl x4), some (.inl x5), some (.inl x6)] [] m (qI Q) from ?_)
  refine r_aload_n L_61_0 rfl ?_
  refine r_getr (c' := 28) (d' := 0) L_61_1 rfl rfl ?_
  refine r_aload_n L_61_4 rfl ?_
  refine r_getr (c' := 0) (d' := 0) L_61_5 rfl rfl ?_
  refine r_cvv L_61_8 rfl (Mv_mono h fun m1 h => ?_)
  refine r_aload_n L_61_11 rfl ?_
  refine r_aload_n L_61_12 rfl ?_
  refine r_getr (c' := 0) (d' := 0) L_61_13 rfl rfl ?_
  refine r_iload_n L_61_16 rfl ?_
  refine r_iload_n L_61_17 rfl ?_
  refine r_iload_n L_61_18 rfl ?_
  refine r_iload L_61_19 rfl ?_
  refine r_iload L_61_21 rfl ?_
  refine r_iload L_61_23 rfl ?_
  refine r_cv L_61_25 rfl (Mi_mono h fun v3 m2 h => ?_)
  refine r_cv L_61_28 rfl (Mi_mono h fun v5 m4 h => ?_)
  exact r_iret L_61_31 RT_61 h
/-- VacantAir.addDevice -/
theorem T_62 {x1 x2 x3 : Int32} {m : aM} {Q : Int32 → aM → Prop} (h :
   Mv 27 [.inr (28, 0), .inr (0, 0)] m (fun m1 =>
    Mi 33 [.inr (0, 0), .inl x1, .inl x2, .inl x3] m1 (fun v3 m2 =>
     Mi 91 [.inr (27, 0), .inl v3] m2 (fun v5 m4 =>
      Q v5 m4)))
  ) : Mi 62 [.inr (27, 0), .inl x1, .inl x2, .inl x3] m Q := by
  refine Mi_in ML_62 (show Rg 62 0 [some (.inr (27, 0)), some (.inl x1), some (.inl x2), some (.inl x3)] [] m (qI Q) from ?_)
  refine r_aload_n L_62_0 rfl ?_
  refine r_getr (c' := 28) (d' := 0) L_62_1 rfl rfl ?_
  refine r_aload_n L_62_4 rfl ?_
  refine r_getr (c' := 0) (d' := 0) L_62_5 rfl rfl ?_
  refine r_cvv L_62_8 rfl (Mv_mono h fun m1 h => ?_)
  refine r_aload_n L_62_11 rfl ?_
  refine r_aload_n L_62_12 rfl ?_
  refine r_getr (c' := 0) (d' := 0) L_62_13 rfl rfl ?_
  refine r_iload_n L_62_16 rfl ?_
  refine r_iload_n L_62_17 rfl ?_
  refine r_iload_n L_62_18 rfl ?_
  refine r_cv L_62_19 rfl (Mi_mono h fun v3 m2 h => ?_)
  refine r_cv L_62_22 rfl (Mi_mono h fun v5 m4 h => ?_)
  exact r_iret L_62_25 RT_62 h
/-- VacantAir.set -/
theorem T_63 {x1 x2 : Int32} {m : aM} {Q : Int32 → aM → Prop} (h :
   Mv 27 [.inr (28, 0), .inr (0, 0)] m (fun m1 =>
    Mi 34 [.inr (0, 0), .inl x1, .inl x2] m1 (fun v3 m2 =>
     Mi 91 [.inr (27, 0), .inl v3] m2 (fun v5 m4 =>
      Q v5 m4)))
  ) : Mi 63 [.inr (27, 0), .inl x1, .inl x2] m Q := by
  refine Mi_in ML_63 (show Rg 63 0 [some (.inr (27, 0)), some (.inl x1), some (.inl x2)] [] m (qI Q) from ?_)
  refine r_aload_n L_63_0 rfl ?_
  refine r_getr (c' := 28) (d' := 0) L_63_1 rfl rfl ?_
  refine r_aload_n L_63_4 rfl ?_
  refine r_getr (c' := 0) (d' := 0) L_63_5 rfl rfl ?_
  refine r_cvv L_63_8 rfl (Mv_mono h fun m1 h => ?_)
  refine r_aload_n L_63_11 rfl ?_
  refine r_aload_n L_63_12 rfl ?_
  refine r_getr (c' := 0) (d' := 0) L_63_13 rfl rfl ?_
  refine r_iload_n L_63_16 rfl ?_
  refine r_iload_n L_63_17 rfl ?_
  refine r_cv L_63_18 rfl (Mi_mono h fun v3 m2 h => ?_)
  refine r_cv L_63_21 rfl (Mi_mono h fun v5 m4 h => ?_)
  exact r_iret L_63_24 RT_63 h
/-- VacantAir.wake -/
theorem T_64 {x1 : Int32} {m : aM} {Q : Int32 → aM → Prop} (h :
   Mv 27 [.inr (28, 0), .inr (0, 0)] m (fun m1 =>
    Mi 35 [.inr (0, 0), .inl x1, .inl 1] m1 (fun v3 m2 =>
     Mi 91 [.inr (27, 0), .inl v3] m2 (fun v5 m4 =>
      Q v5 m4)))
  ) : Mi 64 [.inr (27, 0), .inl x1] m Q := by
  refine Mi_in ML_64 (show Rg 64 0 [some (.inr (27, 0)), some (.inl x1)] [] m (qI Q) from ?_)
  refine r_aload_n L_64_0 rfl ?_
  refine r_getr (c' := 28) (d' := 0) L_64_1 rfl rfl ?_
  refine r_aload_n L_64_4 rfl ?_
  refine r_getr (c' := 0) (d' := 0) L_64_5 rfl rfl ?_
  refine r_cvv L_64_8 rfl (Mv_mono h fun m1 h => ?_)
  refine r_aload_n L_64_11 rfl ?_
  refine r_aload_n L_64_12 rfl ?_
  refine r_getr (c' := 0) (d' := 0) L_64_13 rfl rfl ?_
  refine r_iload_n L_64_16 rfl ?_
  refine r_iconst L_64_17 kI_1 ?_
  refine r_cv L_64_18 rfl (Mi_mono h fun v3 m2 h => ?_)
  refine r_cv L_64_21 rfl (Mi_mono h fun v5 m4 h => ?_)
  exact r_iret L_64_24 RT_64 h
/-- VacantAir.sleep -/
theorem T_65 {x1 : Int32} {m : aM} {Q : Int32 → aM → Prop} (h :
   Mv 27 [.inr (28, 0), .inr (0, 0)] m (fun m1 =>
    Mi 35 [.inr (0, 0), .inl x1, .inl 0] m1 (fun v3 m2 =>
     Mi 91 [.inr (27, 0), .inl v3] m2 (fun v5 m4 =>
      Q v5 m4)))
  ) : Mi 65 [.inr (27, 0), .inl x1] m Q := by
  refine Mi_in ML_65 (show Rg 65 0 [some (.inr (27, 0)), some (.inl x1)] [] m (qI Q) from ?_)
  refine r_aload_n L_65_0 rfl ?_
  refine r_getr (c' := 28) (d' := 0) L_65_1 rfl rfl ?_
  refine r_aload_n L_65_4 rfl ?_
  refine r_getr (c' := 0) (d' := 0) L_65_5 rfl rfl ?_
  refine r_cvv L_65_8 rfl (Mv_mono h fun m1 h => ?_)
  refine r_aload_n L_65_11 rfl ?_
  refine r_aload_n L_65_12 rfl ?_
  refine r_getr (c' := 0) (d' := 0) L_65_13 rfl rfl ?_
  refine r_iload_n L_65_16 rfl ?_
  refine r_iconst L_65_17 kI_0 ?_
  refine r_cv L_65_18 rfl (Mi_mono h fun v3 m2 h => ?_)
  refine r_cv L_65_21 rfl (Mi_mono h fun v5 m4 h => ?_)
  exact r_iret L_65_24 RT_65 h
/-- VacantAir.cancel -/
theorem T_66 {x1 : Int32} {m : aM} {Q : Int32 → aM → Prop} (h :
   Mv 27 [.inr (28, 0), .inr (0, 0)] m (fun m1 =>
    Mi 36 [.inr (0, 0), .inl x1] m1 (fun v3 m2 =>
     Mi 91 [.inr (27, 0), .inl v3] m2 (fun v5 m4 =>
      Q v5 m4)))
  ) : Mi 66 [.inr (27, 0), .inl x1] m Q := by
  refine Mi_in ML_66 (show Rg 66 0 [some (.inr (27, 0)), some (.inl x1)] [] m (qI Q) from ?_)
  refine r_aload_n L_66_0 rfl ?_
  refine r_getr (c' := 28) (d' := 0) L_66_1 rfl rfl ?_
  refine r_aload_n L_66_4 rfl ?_
  refine r_getr (c' := 0) (d' := 0) L_66_5 rfl rfl ?_
  refine r_cvv L_66_8 rfl (Mv_mono h fun m1 h => ?_)
  refine r_aload_n L_66_11 rfl ?_
  refine r_aload_n L_66_12 rfl ?_
  refine r_getr (c' := 0) (d' := 0) L_66_13 rfl rfl ?_
  refine r_iload_n L_66_16 rfl ?_
  refine r_cv L_66_17 rfl (Mi_mono h fun v3 m2 h => ?_)
  refine r_cv L_66_20 rfl (Mi_mono h fun v5 m4 h => ?_)
  exact r_iret L_66_23 RT_66 h
/-- VacantAir.lease -/
theorem T_67 {x1 x2 x3 : Int32} {m : aM} {Q : Int32 → aM → Prop} (h :
   Mv 27 [.inr (28, 0), .inr (0, 0)] m (fun m1 =>
    Mi 37 [.inr (0, 0), .inl x1, .inl x2, .inl x3] m1 (fun v3 m2 =>
     Mi 91 [.inr (27, 0), .inl v3] m2 (fun v5 m4 =>
      Q v5 m4)))
  ) : Mi 67 [.inr (27, 0), .inl x1, .inl x2, .inl x3] m Q := by
  refine Mi_in ML_67 (show Rg 67 0 [some (.inr (27, 0)), some (.inl x1), some (.inl x2), some (.inl x3)] [] m (qI Q) from ?_)
  refine r_aload_n L_67_0 rfl ?_
  refine r_getr (c' := 28) (d' := 0) L_67_1 rfl rfl ?_
  refine r_aload_n L_67_4 rfl ?_
  refine r_getr (c' := 0) (d' := 0) L_67_5 rfl rfl ?_
  refine r_cvv L_67_8 rfl (Mv_mono h fun m1 h => ?_)
  refine r_aload_n L_67_11 rfl ?_
  refine r_aload_n L_67_12 rfl ?_
  refine r_getr (c' := 0) (d' := 0) L_67_13 rfl rfl ?_
  refine r_iload_n L_67_16 rfl ?_
  refine r_iload_n L_67_17 rfl ?_
  refine r_iload_n L_67_18 rfl ?_
  refine r_cv L_67_19 rfl (Mi_mono h fun v3 m2 h => ?_)
  refine r_cv L_67_22 rfl (Mi_mono h fun v5 m4 h => ?_)
  exact r_iret L_67_25 RT_67 h
/-- VacantAir.renew -/
theorem T_68 {x1 x2 : Int32} {m : aM} {Q : Int32 → aM → Prop} (h :
   Mv 27 [.inr (28, 0), .inr (0, 0)] m (fun m1 =>
    Mi 38 [.inr (0, 0), .inl x1, .inl x2] m1 (fun v3 m2 =>
     Mi 91 [.inr (27, 0), .inl v3] m2 (fun v5 m4 =>
      Q v5 m4)))
  ) : Mi 68 [.inr (27, 0), .inl x1, .inl x2] m Q := by
  refine Mi_in ML_68 (show Rg 68 0 [some (.inr (27, 0)), some (.inl x1), some (.inl x2)] [] m (qI Q) from ?_)
  refine r_aload_n L_68_0 rfl ?_
  refine r_getr (c' := 28) (d' := 0) L_68_1 rfl rfl ?_
  refine r_aload_n L_68_4 rfl ?_
  refine r_getr (c' := 0) (d' := 0) L_68_5 rfl rfl ?_
  refine r_cvv L_68_8 rfl (Mv_mono h fun m1 h => ?_)
  refine r_aload_n L_68_11 rfl ?_
  refine r_aload_n L_68_12 rfl ?_
  refine r_getr (c' := 0) (d' := 0) L_68_13 rfl rfl ?_
  refine r_iload_n L_68_16 rfl ?_
  refine r_iload_n L_68_17 rfl ?_
  refine r_cv L_68_18 rfl (Mi_mono h fun v3 m2 h => ?_)
  refine r_cv L_68_21 rfl (Mi_mono h fun v5 m4 h => ?_)
  exact r_iret L_68_24 RT_68 h
/-- VacantAir.giveBack -/
theorem T_69 {x1 : Int32} {m : aM} {Q : Int32 → aM → Prop} (h :
   Mv 27 [.inr (28, 0), .inr (0, 0)] m (fun m1 =>
    Mi 39 [.inr (0, 0), .inl x1] m1 (fun v3 m2 =>
     Mi 91 [.inr (27, 0), .inl v3] m2 (fun v5 m4 =>
      Q v5 m4)))
  ) : Mi 69 [.inr (27, 0), .inl x1] m Q := by
  refine Mi_in ML_69 (show Rg 69 0 [some (.inr (27, 0)), some (.inl x1)] [] m (qI Q) from ?_)
  refine r_aload_n L_69_0 rfl ?_
  refine r_getr (c' := 28) (d' := 0) L_69_1 rfl rfl ?_
  refine r_aload_n L_69_4 rfl ?_
  refine r_getr (c' := 0) (d' := 0) L_69_5 rfl rfl ?_
  refine r_cvv L_69_8 rfl (Mv_mono h fun m1 h => ?_)
  refine r_aload_n L_69_11 rfl ?_
  refine r_aload_n L_69_12 rfl ?_
  refine r_getr (c' := 0) (d' := 0) L_69_13 rfl rfl ?_
  refine r_iload_n L_69_16 rfl ?_
  refine r_cv L_69_17 rfl (Mi_mono h fun v3 m2 h => ?_)
  refine r_cv L_69_20 rfl (Mi_mono h fun v5 m4 h => ?_)
  exact r_iret L_69_23 RT_69 h
/-- VacantAir.pass -/
theorem T_70 {x1 : Int32} {m : aM} {Q : Int32 → aM → Prop} (h :
   Mv 27 [.inr (28, 0), .inr (0, 0)] m (fun m1 =>
    Mi 40 [.inr (0, 0), .inl x1] m1 (fun v3 m2 =>
     Mi 91 [.inr (27, 0), .inl v3] m2 (fun v5 m4 =>
      Q v5 m4)))
  ) : Mi 70 [.inr (27, 0), .inl x1] m Q := by
  refine Mi_in ML_70 (show Rg 70 0 [some (.inr (27, 0)), some (.inl x1)] [] m (qI Q) from ?_)
  refine r_aload_n L_70_0 rfl ?_
  refine r_getr (c' := 28) (d' := 0) L_70_1 rfl rfl ?_
  refine r_aload_n L_70_4 rfl ?_
  refine r_getr (c' := 0) (d' := 0) L_70_5 rfl rfl ?_
  refine r_cvv L_70_8 rfl (Mv_mono h fun m1 h => ?_)
  refine r_aload_n L_70_11 rfl ?_
  refine r_aload_n L_70_12 rfl ?_
  refine r_getr (c' := 0) (d' := 0) L_70_13 rfl rfl ?_
  refine r_iload_n L_70_16 rfl ?_
  refine r_cv L_70_17 rfl (Mi_mono h fun v3 m2 h => ?_)
  refine r_cv L_70_20 rfl (Mi_mono h fun v5 m4 h => ?_)
  exact r_iret L_70_23 RT_70 h
/-- VacantAir.station -/
theorem T_78 {x1 x2 : Int32} {m : aM} {Q : Int32 → aM → Prop} (h :
   if ¬ x1 < 0 ∧ x1 < m 1 0 5 then
    (if x2 < 0 ∨ 6 < x2 then
     Q (-2) m
    else
     if x2 = 6 then
      (Mi 92 [.inr (27, 0), .inl x1] m (fun v5 m4 =>
       Q v5 m4))
     else
      Mi 57 [.inr (1, 0), .inl x1, .inl x2] m (fun v7 m6 =>
       Q v7 m6))
   else
    Q (-1) m
  ) : Mi 78 [.inr (27, 0), .inl x1, .inl x2] m Q := by
  refine Mi_in ML_78 (show Rg 78 0 [some (.inr (27, 0)), some (.inl x1), some (.inl x2)] [] m (qI Q) from ?_)
  refine r_aload_n L_78_0 rfl ?_
  refine r_getr (c' := 0) (d' := 0) L_78_1 rfl rfl ?_
  refine r_getr (c' := 1) (d' := 0) L_78_4 rfl rfl ?_
  refine r_iload_n L_78_7 rfl ?_
  refine r_cv L_78_8 rfl (V_56 ?_)
  refine r_ifneP L_78_11 (i_mono h (fun c1 h => ?_) (fun c1 h => ?_))
  · refine r_iload_n L_78_16 rfl ?_
    refine r_iconst L_78_17 kI_0 ?_
    refine r_bipush L_78_18 kB_6 ?_
    refine r_cs L_78_20 (by decide) rfl (V_93 ?_)
    refine r_ifeqP L_78_23 (i_mono h (fun c2 h => ?_) (fun c2 h => ?_))
    · refine r_bipush L_78_26 kB_m2 ?_
      exact r_iret L_78_28 RT_78 h
    · refine r_iload_n L_78_29 rfl ?_
      refine r_bipush L_78_30 kB_6 ?_
      refine r_icmpn L_78_32 rfl (i_mono h (fun c3 h => ?_) (fun c3 h => ?_))
      · refine r_aload_n L_78_35 rfl ?_
        refine r_iload_n L_78_36 rfl ?_
        refine r_cv L_78_37 rfl (Mi_mono h fun v5 m4 h => ?_)
        exact r_iret L_78_40 RT_78 h
      · refine r_aload_n L_78_41 rfl ?_
        refine r_getr (c' := 0) (d' := 0) L_78_42 rfl rfl ?_
        refine r_getr (c' := 1) (d' := 0) L_78_45 rfl rfl ?_
        refine r_iload_n L_78_48 rfl ?_
        refine r_iload_n L_78_49 rfl ?_
        refine r_cv L_78_50 rfl (Mi_mono h fun v7 m6 h => ?_)
        exact r_iret L_78_53 RT_78 h
  · refine r_iconst L_78_14 kI_m1 ?_
    exact r_iret L_78_15 RT_78 h
/-- VacantAir.event -/
theorem T_79 {x1 x2 : Int32} {m : aM} {Q : Int32 → aM → Prop} (h :
   if ¬ x1 < 0 ∧ x1 < m 2 0 7 then
    (if x2 < 0 ∨ 7 < x2 then
     Q (-2) m
    else
     Mi 25 [.inr (2, 0), .inl x1, .inl x2, .inl (m 0 0 4)] m (fun v4 m3 =>
      Q v4 m3))
   else
    Q (-1) m
  ) : Mi 79 [.inr (27, 0), .inl x1, .inl x2] m Q := by
  refine Mi_in ML_79 (show Rg 79 0 [some (.inr (27, 0)), some (.inl x1), some (.inl x2)] [] m (qI Q) from ?_)
  refine r_aload_n L_79_0 rfl ?_
  refine r_getr (c' := 0) (d' := 0) L_79_1 rfl rfl ?_
  refine r_getr (c' := 2) (d' := 0) L_79_4 rfl rfl ?_
  refine r_iload_n L_79_7 rfl ?_
  refine r_cv L_79_8 rfl (V_23 ?_)
  refine r_ifneP L_79_11 (i_mono h (fun c1 h => ?_) (fun c1 h => ?_))
  · refine r_iload_n L_79_16 rfl ?_
    refine r_iconst L_79_17 kI_0 ?_
    refine r_bipush L_79_18 kB_7 ?_
    refine r_cs L_79_20 (by decide) rfl (V_93 ?_)
    refine r_ifeqP L_79_23 (i_mono h (fun c2 h => ?_) (fun c2 h => ?_))
    · refine r_bipush L_79_26 kB_m2 ?_
      exact r_iret L_79_28 RT_79 h
    · refine r_aload_n L_79_29 rfl ?_
      refine r_getr (c' := 0) (d' := 0) L_79_30 rfl rfl ?_
      refine r_getr (c' := 2) (d' := 0) L_79_33 rfl rfl ?_
      refine r_iload_n L_79_36 rfl ?_
      refine r_iload_n L_79_37 rfl ?_
      refine r_aload_n L_79_38 rfl ?_
      refine r_getr (c' := 0) (d' := 0) L_79_39 rfl rfl ?_
      refine r_geti L_79_42 rfl rfl ?_
      refine r_cv L_79_45 rfl (Mi_mono h fun v4 m3 h => ?_)
      exact r_iret L_79_48 RT_79 h
  · refine r_iconst L_79_14 kI_m1 ?_
    exact r_iret L_79_15 RT_79 h
/-- VacantAir.device -/
theorem T_80 {x1 x2 : Int32} {m : aM} {Q : Int32 → aM → Prop} (h :
   if ¬ x1 < 0 ∧ x1 < m 3 0 10 then
    (if x2 < 0 ∨ 10 < x2 then
     Q (-2) m
    else
     if x2 = 10 then
      (Mi 46 [.inr (0, 0), .inl x1] m (fun v5 m4 =>
       Q v5 m4))
     else
      Mi 14 [.inr (3, 0), .inl x1, .inl x2] m (fun v7 m6 =>
       Q v7 m6))
   else
    Q (-1) m
  ) : Mi 80 [.inr (27, 0), .inl x1, .inl x2] m Q := by
  refine Mi_in ML_80 (show Rg 80 0 [some (.inr (27, 0)), some (.inl x1), some (.inl x2)] [] m (qI Q) from ?_)
  refine r_aload_n L_80_0 rfl ?_
  refine r_getr (c' := 0) (d' := 0) L_80_1 rfl rfl ?_
  refine r_getr (c' := 3) (d' := 0) L_80_4 rfl rfl ?_
  refine r_iload_n L_80_7 rfl ?_
  refine r_cv L_80_8 rfl (V_9 ?_)
  refine r_ifneP L_80_11 (i_mono h (fun c1 h => ?_) (fun c1 h => ?_))
  · refine r_iload_n L_80_16 rfl ?_
    refine r_iconst L_80_17 kI_0 ?_
    refine r_bipush L_80_18 kB_10 ?_
    refine r_cs L_80_20 (by decide) rfl (V_93 ?_)
    refine r_ifeqP L_80_23 (i_mono h (fun c2 h => ?_) (fun c2 h => ?_))
    · refine r_bipush L_80_26 kB_m2 ?_
      exact r_iret L_80_28 RT_80 h
    · refine r_iload_n L_80_29 rfl ?_
      refine r_bipush L_80_30 kB_10 ?_
      refine r_icmpn L_80_32 rfl (i_mono h (fun c3 h => ?_) (fun c3 h => ?_))
      · refine r_aload_n L_80_35 rfl ?_
        refine r_getr (c' := 0) (d' := 0) L_80_36 rfl rfl ?_
        refine r_iload_n L_80_39 rfl ?_
        refine r_cv L_80_40 rfl (Mi_mono h fun v5 m4 h => ?_)
        exact r_iret L_80_43 RT_80 h
      · refine r_aload_n L_80_44 rfl ?_
        refine r_getr (c' := 0) (d' := 0) L_80_45 rfl rfl ?_
        refine r_getr (c' := 3) (d' := 0) L_80_48 rfl rfl ?_
        refine r_iload_n L_80_51 rfl ?_
        refine r_iload_n L_80_52 rfl ?_
        refine r_cv L_80_53 rfl (Mi_mono h fun v7 m6 h => ?_)
        exact r_iret L_80_56 RT_80 h
  · refine r_iconst L_80_14 kI_m1 ?_
    exact r_iret L_80_15 RT_80 h
/-- VacantAir.leases -/
theorem T_84 {x1 : Int32} {m : aM} {Q : Int32 → aM → Prop} (h :
   if x1 < 0 ∨ 7 < x1 then
    Q (-2) m
   else
    Mi 16 [.inr (3, 0), .inl x1] m (fun v3 m2 =>
     Q v3 m2)
  ) : Mi 84 [.inr (27, 0), .inl x1] m Q := by
  refine Mi_in ML_84 (show Rg 84 0 [some (.inr (27, 0)), some (.inl x1)] [] m (qI Q) from ?_)
  refine r_iload_n L_84_0 rfl ?_
  refine r_iconst L_84_1 kI_0 ?_
  refine r_bipush L_84_2 kB_7 ?_
  refine r_cs L_84_4 (by decide) rfl (V_93 ?_)
  refine r_ifeqP L_84_7 (i_mono h (fun c1 h => ?_) (fun c1 h => ?_))
  · refine r_bipush L_84_10 kB_m2 ?_
    exact r_iret L_84_12 RT_84 h
  · refine r_aload_n L_84_13 rfl ?_
    refine r_getr (c' := 0) (d' := 0) L_84_14 rfl rfl ?_
    refine r_getr (c' := 3) (d' := 0) L_84_17 rfl rfl ?_
    refine r_iload_n L_84_20 rfl ?_
    refine r_cv L_84_21 rfl (Mi_mono h fun v3 m2 h => ?_)
    exact r_iret L_84_24 RT_84 h
/-- VacantAir.total -/
theorem T_85 {x1 : Int32} {m : aM} {Q : Int32 → aM → Prop} (h :
   if x1 < 0 ∨ 15 < x1 then
    Q (-2) m
   else
    if x1 = 11 then
     Q (m 28 0 2) m
    else
     if x1 = 12 then
      Q (m 32 0 1) m
     else
      Mi 55 [.inr (0, 0), .inl x1] m (fun v5 m4 =>
       Q v5 m4)
  ) : Mi 85 [.inr (27, 0), .inl x1] m Q := by
  refine Mi_in ML_85 (show Rg 85 0 [some (.inr (27, 0)), some (.inl x1)] [] m (qI Q) from ?_)
  refine r_iload_n L_85_0 rfl ?_
  refine r_iconst L_85_1 kI_0 ?_
  refine r_bipush L_85_2 kB_15 ?_
  refine r_cs L_85_4 (by decide) rfl (V_93 ?_)
  refine r_ifeqP L_85_7 (i_mono h (fun c1 h => ?_) (fun c1 h => ?_))
  · refine r_bipush L_85_10 kB_m2 ?_
    exact r_iret L_85_12 RT_85 h
  · refine r_iload_n L_85_13 rfl ?_
    refine r_bipush L_85_14 kB_11 ?_
    refine r_icmpn L_85_16 rfl (i_mono h (fun c2 h => ?_) (fun c2 h => ?_))
    · refine r_aload_n L_85_19 rfl ?_
      refine r_getr (c' := 28) (d' := 0) L_85_20 rfl rfl ?_
      refine r_geti L_85_23 rfl rfl ?_
      exact r_iret L_85_26 RT_85 h
    · refine r_iload_n L_85_27 rfl ?_
      refine r_bipush L_85_28 kB_12 ?_
      refine r_icmpn L_85_30 rfl (i_mono h (fun c3 h => ?_) (fun c3 h => ?_))
      · refine r_aload_n L_85_33 rfl ?_
        refine r_getr (c' := 32) (d' := 0) L_85_34 rfl rfl ?_
        refine r_geti L_85_37 rfl rfl ?_
        exact r_iret L_85_40 RT_85 h
      · refine r_aload_n L_85_41 rfl ?_
        refine r_getr (c' := 0) (d' := 0) L_85_42 rfl rfl ?_
        refine r_iload_n L_85_45 rfl ?_
        refine r_cv L_85_46 rfl (Mi_mono h fun v5 m4 h => ?_)
        exact r_iret L_85_49 RT_85 h
/-- VacantAir.recorded -/
theorem T_91 {x1 : Int32} {m : aM} {Q : Int32 → aM → Prop} (h :
   if x1 < 0 then
    Q x1 m
   else
    Mv 28 [.inr (28, 0)] m (fun m2 =>
     Q x1 m2)
  ) : Mi 91 [.inr (27, 0), .inl x1] m Q := by
  refine Mi_in ML_91 (show Rg 91 0 [some (.inr (27, 0)), some (.inl x1)] [] m (qI Q) from ?_)
  refine r_iload_n L_91_0 rfl ?_
  refine r_if L_91_1 rfl (i_mono h (fun c1 h => ?_) (fun c1 h => ?_))
  · refine r_iload_n L_91_11 rfl ?_
    exact r_iret L_91_12 RT_91 h
  · refine r_aload_n L_91_4 rfl ?_
    refine r_getr (c' := 28) (d' := 0) L_91_5 rfl rfl ?_
    refine r_cvv L_91_8 rfl (Mv_mono h fun m2 h => ?_)
    refine r_iload_n L_91_11 rfl ?_
    exact r_iret L_91_12 RT_91 h
def H_92_28 (x1 x2 x3 : Int32) (m : aM) (Q : Int32 → aM → Prop) : Prop := Rg 92 28 [some (.inr (27, 0)), some (.inl x1), some (.inl x2), some (.inl x3)] [] m (qI Q)
/-- VacantAir.barredAlone, the loop at 28 -/
theorem T_92_28 {x1 x2 x3 : Int32} {m : aM} {Q : Int32 → aM → Prop} (h :
   if x3 < (m 3 0 10) then
    (a_in x3 16 = true ∧
     if ¬ m 19 0 x3.toNatClampNeg = (-1) then
      (Mi 52 [.inr (0, 0), .inl x3] m (fun v5 m4 =>
       if v5 = 0 then
        (Mi 52 [.inr (0, 1), .inl x3] m4 (fun v8 m7 =>
         if v8 = 0 then
          H_92_28 x1 x2 (x3 + 1) m7 Q
         else
          H_92_28 x1 (x2 + 1) (x3 + 1) m7 Q))
       else
        H_92_28 x1 x2 (x3 + 1) m4 Q))
     else
      H_92_28 x1 x2 (x3 + 1) m Q)
   else
    Q x2 m
  ) : H_92_28 x1 x2 x3 m Q := by
  show Rg 92 28 [some (.inr (27, 0)), some (.inl x1), some (.inl x2), some (.inl x3)] [] m (qI Q)
  refine r_iload_n L_92_28 rfl ?_
  refine r_aload_n L_92_29 rfl ?_
  refine r_getr (c' := 0) (d' := 0) L_92_30 rfl rfl ?_
  refine r_getr (c' := 3) (d' := 0) L_92_33 rfl rfl ?_
  refine r_geti L_92_36 rfl rfl ?_
  refine r_icmpn L_92_39 cc_ge (i_mono h (fun c1 h => ?_) (fun c1 h => ?_))
  · refine r_aload_n L_92_42 rfl ?_
    refine r_getr (c' := 0) (d' := 0) L_92_43 rfl rfl ?_
    refine r_getr (c' := 3) (d' := 0) L_92_46 rfl rfl ?_
    refine r_iload_n L_92_49 rfl ?_
    obtain ⟨g2, h⟩ := h
    refine r_cv L_92_50 rfl (V_10 g2 ?_)
    refine r_ifeqP L_92_53 (i_mono h (fun c3 h => ?_) (fun c3 h => ?_))
    · refine r_aload_n L_92_56 rfl ?_
      refine r_getr (c' := 0) (d' := 0) L_92_57 rfl rfl ?_
      refine r_iload_n L_92_60 rfl ?_
      refine r_cv L_92_61 rfl (Mi_mono h fun v5 m4 h => ?_)
      refine r_ifn L_92_64 rfl (i_mono h (fun c6 h => ?_) (fun c6 h => ?_))
      · refine r_aload_n L_92_67 rfl ?_
        refine r_getr (c' := 0) (d' := 1) L_92_68 rfl rfl ?_
        refine r_iload_n L_92_71 rfl ?_
        refine r_cv L_92_72 rfl (Mi_mono h fun v8 m7 h => ?_)
        refine r_if L_92_75 rfl (i_mono h (fun c9 h => ?_) (fun c9 h => ?_))
        · refine r_iinc (ls1 := [some (.inr (27, 0)), some (.inl x1), some (.inl x2), some (.inl (x3 + 1))]) L_92_81 kI_1 rfl (Nat.le_of_ble_eq_true rfl) rfl ?_
          refine r_goto L_92_84 ?_
          exact h
        · refine r_iinc (ls1 := [some (.inr (27, 0)), some (.inl x1), some (.inl (x2 + 1)), some (.inl x3)]) L_92_78 kI_1 rfl (Nat.le_of_ble_eq_true rfl) rfl ?_
          refine r_iinc (ls1 := [some (.inr (27, 0)), some (.inl x1), some (.inl (x2 + 1)), some (.inl (x3 + 1))]) L_92_81 kI_1 rfl (Nat.le_of_ble_eq_true rfl) rfl ?_
          refine r_goto L_92_84 ?_
          exact h
      · refine r_iinc (ls1 := [some (.inr (27, 0)), some (.inl x1), some (.inl x2), some (.inl (x3 + 1))]) L_92_81 kI_1 rfl (Nat.le_of_ble_eq_true rfl) rfl ?_
        refine r_goto L_92_84 ?_
        exact h
    · refine r_iinc (ls1 := [some (.inr (27, 0)), some (.inl x1), some (.inl x2), some (.inl (x3 + 1))]) L_92_81 kI_1 rfl (Nat.le_of_ble_eq_true rfl) rfl ?_
      refine r_goto L_92_84 ?_
      exact h
  · refine r_iload_n L_92_87 rfl ?_
    exact r_iret L_92_88 RT_92 h
/-- VacantAir.barredAlone -/
theorem T_92 {x1 : Int32} {m : aM} {Q : Int32 → aM → Prop} (h :
   Mv 30 [.inr (0, 1), .inr (0, 0)] m (fun m1 =>
    (a_in x1 8 = true ∧
     (∀ m3, m3 = a_up m1 8 1 x1.toNatClampNeg 0 →
     H_92_28 x1 0 0 m3 Q)))
  ) : Mi 92 [.inr (27, 0), .inl x1] m Q := by
  refine Mi_in ML_92 (show Rg 92 0 [some (.inr (27, 0)), some (.inl x1), none, none] [] m (qI Q) from ?_)
  refine r_aload_n L_92_0 rfl ?_
  refine r_getr (c' := 0) (d' := 1) L_92_1 rfl rfl ?_
  refine r_aload_n L_92_4 rfl ?_
  refine r_getr (c' := 0) (d' := 0) L_92_5 rfl rfl ?_
  refine r_cvv L_92_8 rfl (Mv_mono h fun m1 h => ?_)
  refine r_aload_n L_92_11 rfl ?_
  refine r_getr (c' := 0) (d' := 1) L_92_12 rfl rfl ?_
  refine r_getr (c' := 1) (d' := 1) L_92_15 rfl rfl ?_
  refine r_getr (c' := 8) (d' := 1) L_92_18 rfl rfl ?_
  refine r_iload_n L_92_21 rfl ?_
  refine r_iconst L_92_22 kI_0 ?_
  obtain ⟨g2, h⟩ := h
  refine r_iast (N := 8) (j := x1.toNatClampNeg) L_92_23 (by decide +kernel) rfl g2 rfl ?_
  refine r_nm fun m3 em3 => ?_
  have h := h m3 em3
  refine r_iconst L_92_24 kI_0 ?_
  refine r_istore_n (ls1 := [some (.inr (27, 0)), some (.inl x1), some (.inl 0), none]) L_92_25 (Nat.le_of_ble_eq_true rfl) rfl ?_
  refine r_iconst L_92_26 kI_0 ?_
  refine r_istore_n (ls1 := [some (.inr (27, 0)), some (.inl x1), some (.inl 0), some (.inl 0)]) L_92_27 (Nat.le_of_ble_eq_true rfl) rfl ?_
  exact h
