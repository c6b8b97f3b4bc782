/-! trees: what is left of a method when its rows are walked; by program (wip/whole/gen9.py) -/
/-- VacantAir.addStation -/
theorem T_60 {x1 x2 x3 x4 : Int32} {m : aM} {Q : Int32 → aM → Prop} (h :
   Mv 27 [.inr (28, 0), .inr (0, 0)] m (fun m1 =>
    Mi 31 [.inr (0, 0), .inl x1, .inl x2, .inl x3, .inl x4] m1 (fun v3 m2 =>
     Mi 91 [.inr (27, 0), .inl v3] m2 (fun v5 m4 =>
      Q v5 m4)))
  ) : Mi 60 [.inr (27, 0), .inl x1, .inl x2, .inl x3, .inl x4] m Q := by
  refine Mi_in ML_60 (show Rg 60 0 [some (.inr (27, 0)), some (.inl x1), some (.inl x2), some (.inl x3), some (.inl x4)] [] m (qI Q) from ?_)
  refine r_aload_n L_60_0 rfl ?_
  refine r_getr (c' := 28) (d' := 0) L_60_1 rfl rfl ?_
  refine r_aload_n L_60_4 rfl ?_
  refine r_getr (c' := 0) (d' := 0) L_60_5 rfl rfl ?_
  refine r_cvv L_60_8 rfl (Mv_mono h fun m1 h => ?_)
  refine r_aload_n L_60_11 rfl ?_
  refine r_aload_n L_60_12 rfl ?_
  refine r_getr (c' := 0) (d' := 0) L_60_13 rfl rfl ?_
  refine r_iload_n L_60_16 rfl ?_
  refine r_iload_n L_60_17 rfl ?_
  refine r_iload_n L_60_18 rfl ?_
  refine r_iload L_60_19 rfl ?_
  refine r_cv L_60_21 rfl (Mi_mono h fun v3 m2 h => ?_)
  refine r_cv L_60_24 rfl (Mi_mono h fun v5 m4 h => ?_)
  exact r_iret L_60_27 RT_60 h
/-- VacantAir.addEvent -/
theorem T_61 {x1 x2 x3 x4 x5 x6 : Int32} {m : aM} {Q : Int32 → aM → Prop} (h :
   Mv 27 [.inr (28, 0), .inr (0, 0)] m (fun m1 =>
    Mi 32 [.inr (0, 0), .inl x1, .inl x2, .inl x3, .inl x4, .inl x5, .inl x6] m1 (fun v3 m2 =>
     Mi 91 [.inr (27, 0), .inl v3] m2 (fun v5 m4 =>
      Q v5 m4)))
  ) : Mi 61 [.inr (27, 0), .inl x1, .inl x2, .inl x3, .inl x4, .inl x5, .inl x6] m Q := by
  refine Mi_in ML_61 (show Rg 61 0 [some (.inr (27, 0)), some (.inl x1), some (.inl x2), some (.inl x3), some (.inl x4), some (.inl x5), some (.inl x6)] [] m (qI Q) from ?_)
  refine r_aload_n L_61_0 rfl ?_
  refine r_getr (c' := 28) (d' := 0) L_61_1 rfl rfl ?_
  refine r_aload_n L_61_4 rfl ?_
  refine r_getr (c' := 0) (d' := 0) L_61_5 rfl rfl ?_
  refine r_cvv L_61_8 rfl (Mv_mono h fun m1 h => ?_)
  refine r_aload_n L_61_11 rfl ?_
  refine r_aload_n L_61_12 rfl ?_
  refine r_getr (c' := 0) (d' := 0) L_61_13 rfl rfl ?_
  refine r_iload_n L_61_16 rfl ?_
  refine r_iload_n L_61_17 rfl ?_
  refine r_iload_n L_61_18 rfl ?_
  refine r_iload L_61_19 rfl ?_
  refine r_iload L_61_21 rfl ?_
  refine r_iload L_61_23 rfl ?_
  refine r_cv L_61_25 rfl (Mi_mono h fun v3 m2 h => ?_)
  refine r_cv L_61_28 rfl (Mi_mono h fun v5 m4 h => ?_)
  exact r_iret L_61_31 RT_61 h
/-- VacantAir.addDevice -/
theorem T_62 {x1 x2 x3 : Int32} {m : aM} {Q : Int32 → aM → Prop} (h :
   Mv 27 [.inr (28, 0), .inr (0, 0)] m (fun m1 =>
    Mi 33 [.inr (0, 0), .inl x1, .inl x2, .inl x3] m1 (fun v3 m2 =>
     Mi 91 [.inr (27, 0), .inl v3] m2 (fun v5 m4 =>
      Q v5 m4)))
  ) : Mi 62 [.inr (27, 0), .inl x1, .inl x2, .inl x3] m Q := by
  refine Mi_in ML_62 (show Rg 62 0 [some (.inr (27, 0)), some (.inl x1), some (.inl x2), some (.inl x3)] [] m (qI Q) from ?_)
  refine r_aload_n L_62_0 rfl ?_
  refine r_getr (c' := 28) (d' := 0) L_62_1 rfl rfl ?_
  refine r_aload_n L_62_4 rfl ?_
  refine r_getr (c' := 0) (d' := 0) L_62_5 rfl rfl ?_
  refine r_cvv L_62_8 rfl (Mv_mono h fun m1 h => ?_)
  refine r_aload_n L_62_11 rfl ?_
  refine r_aload_n L_62_12 rfl ?_
  refine r_getr (c' := 0) (d' := 0) L_62_13 rfl rfl ?_
  refine r_iload_n L_62_16 rfl ?_
  refine r_iload_n L_62_17 rfl ?_
  refine r_iload_n L_62_18 rfl ?_
  refine r_cv L_62_19 rfl (Mi_mono h fun v3 m2 h => ?_)
  refine r_cv L_62_22 rfl (Mi_mono h fun v5 m4 h => ?_)
  exact r_iret L_62_25 RT_62 h
/-- VacantAir.set -/
theorem T_63 {x1 x2 : Int32} {m : aM} {Q : Int32 → aM → Prop} (h :
   Mv 27 [.inr (28, 0), .inr (0, 0)] m (fun m1 =>
    Mi 34 [.inr (0, 0), .inl x1, .inl x2] m1 (fun v3 m2 =>
     Mi 91 [.inr (27, 0), .inl v3] m2 (fun v5 m4 =>
      Q v5 m4)))
  ) : Mi 63 [.inr (27, 0), .inl x1, .inl x2] m Q := by
  refine Mi_in ML_63 (show Rg 63 0 [some (.inr (27, 0)), some (.inl x1), some (.inl x2)] [] m (qI Q) from ?_)
  refine r_aload_n L_63_0 rfl ?_
  refine r_getr (c' := 28) (d' := 0) L_63_1 rfl rfl ?_
  refine r_aload_n L_63_4 rfl ?_
  refine r_getr (c' := 0) (d' := 0) L_63_5 rfl rfl ?_
  refine r_cvv L_63_8 rfl (Mv_mono h fun m1 h => ?_)
  refine r_aload_n L_63_11 rfl ?_
  refine r_aload_n L_63_12 rfl ?_
  refine r_getr (c' := 0) (d' := 0) L_63_13 rfl rfl ?_
  refine r_iload_n L_63_16 rfl ?_
  refine r_iload_n L_63_17 rfl ?_
  refine r_cv L_63_18 rfl (Mi_mono h fun v3 m2 h => ?_)
  refine r_cv L_63_21 rfl (Mi_mono h fun v5 m4 h => ?_)
  exact r_iret L_63_24 RT_63 h
/-- VacantAir.wake -/
theorem T_64 {x1 : Int32} {m : aM} {Q : Int32 → aM → Prop} (h :
   Mv 27 [.inr (28, 0), .inr (0, 0)] m (fun m1 =>
    Mi 35 [.inr (0, 0), .inl x1, .inl 1] m1 (fun v3 m2 =>
     Mi 91 [.inr (27, 0), .inl v3] m2 (fun v5 m4 =>
      Q v5 m4)))
  ) : Mi 64 [.inr (27, 0), .inl x1] m Q := by
  refine Mi_in ML_64 (show Rg 64 0 [some (.inr (27, 0)), some (.inl x1)] [] m (qI Q) from ?_)
  refine r_aload_n L_64_0 rfl ?_
  refine r_getr (c' := 28) (d' := 0) L_64_1 rfl rfl ?_
  refine r_aload_n L_64_4 rfl ?_
  refine r_getr (c' := 0) (d' := 0) L_64_5 rfl rfl ?_
  refine r_cvv L_64_8 rfl (Mv_mono h fun m1 h => ?_)
  refine r_aload_n L_64_11 rfl ?_
  refine r_aload_n L_64_12 rfl ?_
  refine r_getr (c' := 0) (d' := 0) L_64_13 rfl rfl ?_
  refine r_iload_n L_64_16 rfl ?_
  refine r_iconst L_64_17 kI_1 ?_
  refine r_cv L_64_18 rfl (Mi_mono h fun v3 m2 h => ?_)
  refine r_cv L_64_21 rfl (Mi_mono h fun v5 m4 h => ?_)
  exact r_iret L_64_24 RT_64 h
/-- VacantAir.sleep -/
theorem T_65 {x1 : Int32} {m : aM} {Q : Int32 → aM → Prop} (h :
   Mv 27 [.inr (28, 0), .inr (0, 0)] m (fun m1 =>
    Mi 35 [.inr (0, 0), .inl x1, .inl 0] m1 (fun v3 m2 =>
     Mi 91 [.inr (27, 0), .inl v3] m2 (fun v5 m4 =>
      Q v5 m4)))
  ) : Mi 65 [.inr (27, 0), .inl x1] m Q := by
  refine Mi_in ML_65 (show Rg 65 0 [some (.inr (27, 0)), some (.inl x1)] [] m (qI Q) from ?_)
  refine r_aload_n L_65_0 rfl ?_
  refine r_getr (c' := 28) (d' := 0) L_65_1 rfl rfl ?_
  refine r_aload_n L_65_4 rfl ?_
  refine r_getr (c' := 0) (d' := 0) L_65_5 rfl rfl ?_
  refine r_cvv L_65_8 rfl (Mv_mono h fun m1 h => ?_)
  refine r_aload_n L_65_11 rfl ?_
  refine r_aload_n L_65_12 rfl ?_
  refine r_getr (c' := 0) (d' := 0) L_65_13 rfl rfl ?_
  refine r_iload_n L_65_16 rfl ?_
  refine r_iconst L_65_17 kI_0 ?_
  refine r_cv L_65_18 rfl (Mi_mono h fun v3 m2 h => ?_)
  refine r_cv L_65_21 rfl (Mi_mono h fun v5 m4 h => ?_)
  exact r_iret L_65_24 RT_65 h
/-- VacantAir.cancel -/
theorem T_66 {x1 : Int32} {m : aM} {Q : Int32 → aM → Prop} (h :
   Mv 27 [.inr (28, 0), .inr (0, 0)] m (fun m1 =>
    Mi 36 [.inr (0, 0), .inl x1] m1 (fun v3 m2 =>
     Mi 91 [.inr (27, 0), .inl v3] m2 (fun v5 m4 =>
      Q v5 m4)))
  ) : Mi 66 [.inr (27, 0), .inl x1] m Q := by
  refine Mi_in ML_66 (show Rg 66 0 [some (.inr (27, 0)), some (.inl x1)] [] m (qI Q) from ?_)
  refine r_aload_n L_66_0 rfl ?_
  refine r_getr (c' := 28) (d' := 0) L_66_1 rfl rfl ?_
  refine r_aload_n L_66_4 rfl ?_
  refine r_getr (c' := 0) (d' := 0) L_66_5 rfl rfl ?_
  refine r_cvv L_66_8 rfl (Mv_mono h fun m1 h => ?_)
  refine r_aload_n L_66_11 rfl ?_
  refine r_aload_n L_66_12 rfl ?_
  refine r_getr (c' := 0) (d' := 0) L_66_13 rfl rfl ?_
  refine r_iload_n L_66_16 rfl ?_
  refine r_cv L_66_17 rfl (Mi_mono h fun v3 m2 h => ?_)
  refine r_cv L_66_20 rfl (Mi_mono h fun v5 m4 h => ?_)
  exact r_iret L_66_23 RT_66 h
/-- VacantAir.lease -/
theorem T_67 {x1 x2 x3 : Int32} {m : aM} {Q : Int32 → aM → Prop} (h :
   Mv 27 [.inr (28, 0), .inr (0, 0)] m (fun m1 =>
    Mi 37 [.inr (0, 0), .inl x1, .inl x2, .inl x3] m1 (fun v3 m2 =>
     Mi 91 [.inr (27, 0), .inl v3] m2 (fun v5 m4 =>
      Q v5 m4)))
  ) : Mi 67 [.inr (27, 0), .inl x1, .inl x2, .inl x3] m Q := by
  refine Mi_in ML_67 (show Rg 67 0 [some (.inr (27, 0)), some (.inl x1), some (.inl x2), some (.inl x3)] [] m (qI Q) from ?_)
  refine r_aload_n L_67_0 rfl ?_
  refine r_getr (c' := 28) (d' := 0) L_67_1 rfl rfl ?_
  refine r_aload_n L_67_4 rfl ?_
  refine r_getr (c' := 0) (d' := 0) L_67_5 rfl rfl ?_
  refine r_cvv L_67_8 rfl (Mv_mono h fun m1 h => ?_)
  refine r_aload_n L_67_11 rfl ?_
  refine r_aload_n L_67_12 rfl ?_
  refine r_getr (c' := 0) (d' := 0) L_67_13 rfl rfl ?_
  refine r_iload_n L_67_16 rfl ?_
  refine r_iload_n L_67_17 rfl ?_
  refine r_iload_n L_67_18 rfl ?_
  refine r_cv L_67_19 rfl (Mi_mono h fun v3 m2 h => ?_)
  refine r_cv L_67_22 rfl (Mi_mono h fun v5 m4 h => ?_)
  exact r_iret L_67_25 RT_67 h
/-- VacantAir.renew -/
theorem T_68 {x1 x2 : Int32} {m : aM} {Q : Int32 → aM → Prop} (h :
   Mv 27 [.inr (28, 0), .inr (0, 0)] m (fun m1 =>
    Mi 38 [.inr (0, 0), .inl x1, .inl x2] m1 (fun v3 m2 =>
     Mi 91 [.inr (27, 0), .inl v3] m2 (fun v5 m4 =>
      Q v5 m4)))
  ) : Mi 68 [.inr (27, 0), .inl x1, .inl x2] m Q := by
  refine Mi_in ML_68 (show Rg 68 0 [some (.inr (27, 0)), some (.inl x1), some (.inl x2)] [] m (qI Q) from ?_)
  refine r_aload_n L_68_0 rfl ?_
  refine r_getr (c' := 28) (d' := 0) L_68_1 rfl rfl ?_
  refine r_aload_n L_68_4 rfl ?_
  refine r_getr (c' := 0) (d' := 0) L_68_5 rfl rfl ?_
  refine r_cvv L_68_8 rfl (Mv_mono h fun m1 h => ?_)
  refine r_aload_n L_68_11 rfl ?_
  refine r_aload_n L_68_12 rfl ?_
  refine r_getr (c' := 0) (d' := 0) L_68_13 rfl rfl ?_
  refine r_iload_n L_68_16 rfl ?_
  refine r_iload_n L_68_17 rfl ?_
  refine r_cv L_68_18 rfl (Mi_mono h fun v3 m2 h => ?_)
  refine r_cv L_68_21 rfl (Mi_mono h fun v5 m4 h => ?_)
  exact r_iret L_68_24 RT_68 h
/-- VacantAir.giveBack -/
theorem T_69 {x1 : Int32} {m : aM} {Q : Int32 → aM → Prop} (h :
   Mv 27 [.inr (28, 0), .inr (0, 0)] m (fun m1 =>
    Mi 39 [.inr (0, 0), .inl x1] m1 (fun v3 m2 =>
     Mi 91 [.inr (27, 0), .inl v3] m2 (fun v5 m4 =>
      Q v5 m4)))
  ) : Mi 69 [.inr (27, 0), .inl x1] m Q := by
  refine Mi_in ML_69 (show Rg 69 0 [some (.inr (27, 0)), some (.inl x1)] [] m (qI Q) from ?_)
  refine r_aload_n L_69_0 rfl ?_
  refine r_getr (c' := 28) (d' := 0) L_69_1 rfl rfl ?_
  refine r_aload_n L_69_4 rfl ?_
  refine r_getr (c' := 0) (d' := 0) L_69_5 rfl rfl ?_
  refine r_cvv L_69_8 rfl (Mv_mono h fun m1 h => ?_)
  refine r_aload_n L_69_11 rfl ?_
  refine r_aload_n L_69_12 rfl ?_
  refine r_getr (c' := 0) (d' := 0) L_69_13 rfl rfl ?_
  refine r_iload_n L_69_16 rfl ?_
  refine r_cv L_69_17 rfl (Mi_mono h fun v3 m2 h => ?_)
  refine r_cv L_69_20 rfl (Mi_mono h fun v5 m4 h => ?_)
  exact r_iret L_69_23 RT_69 h
/-- VacantAir.pass -/
theorem T_70 {x1 : Int32} {m : aM} {Q : Int32 → aM → Prop} (h :
   Mv 27 [.inr (28, 0), .inr (0, 0)] m (fun m1 =>
    Mi 40 [.inr (0, 0), .inl x1] m1 (fun v3 m2 =>
     Mi 91 [.inr (27, 0), .inl v3] m2 (fun v5 m4 =>
      Q v5 m4)))
  ) : Mi 70 [.inr (27, 0), .inl x1] m Q := by
  refine Mi_in ML_70 (show Rg 70 0 [some (.inr (27, 0)), some (.inl x1)] [] m (qI Q) from ?_)
  refine r_aload_n L_70_0 rfl ?_
  refine r_getr (c' := 28) (d' := 0) L_70_1 rfl rfl ?_
  refine r_aload_n L_70_4 rfl ?_
  refine r_getr (c' := 0) (d' := 0) L_70_5 rfl rfl ?_
  refine r_cvv L_70_8 rfl (Mv_mono h fun m1 h => ?_)
  refine r_aload_n L_70_11 rfl ?_
  refine r_aload_n L_70_12 rfl ?_
  refine r_getr (c' := 0) (d' := 0) L_70_13 rfl rfl ?_
  refine r_iload_n L_70_16 rfl ?_
  refine r_cv L_70_17 rfl (Mi_mono h fun v3 m2 h => ?_)
  refine r_cv L_70_20 rfl (Mi_mono h fun v5 m4 h => ?_)
  exact r_iret L_70_23 RT_70 h
/-- VacantAir.append -/
theorem T_71 {x1 : Int32} {m : aM} {Q : Int32 → aM → Prop} (h :
   Mi 0 [.inr (32, 0), .inl x1] m (fun v2 m1 =>
    Q v2 m1)
  ) : Mi 71 [.inr (27, 0), .inl x1] m Q := by
  refine Mi_in ML_71 (show Rg 71 0 [some (.inr (27, 0)), some (.inl x1)] [] m (qI Q) from ?_)
  refine r_aload_n L_71_0 rfl ?_
  refine r_getr (c' := 32) (d' := 0) L_71_1 rfl rfl ?_
  refine r_iload_n L_71_4 rfl ?_
  refine r_cv L_71_5 rfl (Mi_mono h fun v2 m1 h => ?_)
  exact r_iret L_71_8 RT_71 h
/-- VacantAir.clearText -/
theorem T_72 {m : aM} {Q : Int32 → aM → Prop} (h :
   Mi 1 [.inr (32, 0)] m (fun v2 m1 =>
    Q v2 m1)
  ) : Mi 72 [.inr (27, 0)] m Q := by
  refine Mi_in ML_72 (show Rg 72 0 [some (.inr (27, 0))] [] m (qI Q) from ?_)
  refine r_aload_n L_72_0 rfl ?_
  refine r_getr (c' := 32) (d' := 0) L_72_1 rfl rfl ?_
  refine r_cv L_72_4 rfl (Mi_mono h fun v2 m1 h => ?_)
  exact r_iret L_72_7 RT_72 h
/-- VacantAir.faultPosition -/
theorem T_73 {m : aM} {Q : Int32 → aM → Prop} (h :
   Mi 2 [.inr (32, 0)] m (fun v2 m1 =>
    Q v2 m1)
  ) : Mi 73 [.inr (27, 0)] m Q := by
  refine Mi_in ML_73 (show Rg 73 0 [some (.inr (27, 0))] [] m (qI Q) from ?_)
  refine r_aload_n L_73_0 rfl ?_
  refine r_getr (c' := 32) (d' := 0) L_73_1 rfl rfl ?_
  refine r_cv L_73_4 rfl (Mi_mono h fun v2 m1 h => ?_)
  exact r_iret L_73_7 RT_73 h
def H_74_39 (x1 x2 x3 : Int32) (m : aM) (Q : Int32 → aM → Prop) : Prop := Rg 74 39 [some (.inr (27, 0)), some (.inl x1), some (.inl x2), some (.inl x3)] [] m (qI Q)
/-- VacantAir.run, the loop at 39 -/
theorem T_74_39 {x1 x2 x3 : Int32} {m : aM} {Q : Int32 → aM → Prop} (h :
   if x3 < 80 then
    (if m 32 0 3 = (-6) ∧ m 32 0 2 < m 32 0 1 then
     (if x2 < 0 then
      (Mi 91 [.inr (27, 0), .inl x1] m (fun v5 m4 =>
       Q v5 m4))
     else
      Mv 5 [.inr (32, 0)] m (fun m6 =>
       if (m6 32 0 4) = 103 then
        (Mi 39 [.inr (0, 0), .inl (m6 32 0 5)] m6 (fun v9 m8 =>
         if v9 < 0 then
          H_74_39 x1 v9 (x3 + 1) m8 Q
         else
          H_74_39 (x1 + 1) v9 (x3 + 1) m8 Q))
       else
       if (m6 32 0 4) = 108 then
        (Mi 37 [.inr (0, 0), .inl (m6 32 0 5), .inl (m6 32 0 6), .inl (m6 32 0 7)] m6 (fun v13 m12 =>
         if v13 < 0 then
          H_74_39 x1 v13 (x3 + 1) m12 Q
         else
          H_74_39 (x1 + 1) v13 (x3 + 1) m12 Q))
       else
       if (m6 32 0 4) = 119 then
        (Mi 35 [.inr (0, 0), .inl (m6 32 0 5), .inl 1] m6 (fun v17 m16 =>
         if v17 < 0 then
          H_74_39 x1 v17 (x3 + 1) m16 Q
         else
          H_74_39 (x1 + 1) v17 (x3 + 1) m16 Q))
       else
       if (m6 32 0 4) = 122 then
        (Mi 35 [.inr (0, 0), .inl (m6 32 0 5), .inl 0] m6 (fun v21 m20 =>
         if v21 < 0 then
          H_74_39 x1 v21 (x3 + 1) m20 Q
         else
          H_74_39 (x1 + 1) v21 (x3 + 1) m20 Q))
       else
        Mi 40 [.inr (0, 0), .inl (m6 32 0 5)] m6 (fun v24 m23 =>
         if v24 < 0 then
          H_74_39 x1 v24 (x3 + 1) m23 Q
         else
          H_74_39 (x1 + 1) v24 (x3 + 1) m23 Q)))
    else
     Mi 91 [.inr (27, 0), .inl x1] m (fun v27 m26 =>
      Q v27 m26))
   else
    Mi 91 [.inr (27, 0), .inl x1] m (fun v29 m28 =>
     Q v29 m28)
  ) : H_74_39 x1 x2 x3 m Q := by
  show Rg 74 39 [some (.inr (27, 0)), some (.inl x1), some (.inl x2), some (.inl x3)] [] m (qI Q)
  refine r_iload_n L_74_39 rfl ?_
  refine r_bipush L_74_40 kB_80 ?_
  refine r_icmpn L_74_42 cc_ge (i_mono h (fun c1 h => ?_) (fun c1 h => ?_))
  · refine r_aload_n L_74_45 rfl ?_
    refine r_getr (c' := 32) (d' := 0) L_74_46 rfl rfl ?_
    refine r_cv L_74_49 rfl (V_4 ?_)
    refine r_ifeqP L_74_52 (i_mono h (fun c2 h => ?_) (fun c2 h => ?_))
    · refine r_iload_n L_74_55 rfl ?_
      refine r_if L_74_56 rfl (i_mono h (fun c3 h => ?_) (fun c3 h => ?_))
      · refine r_aload_n L_74_232 rfl ?_
        refine r_iload_n L_74_233 rfl ?_
        refine r_cv L_74_234 rfl (Mi_mono h fun v5 m4 h => ?_)
        exact r_iret L_74_237 RT_74 h
      · refine r_aload_n L_74_59 rfl ?_
        refine r_getr (c' := 32) (d' := 0) L_74_60 rfl rfl ?_
        refine r_cvv L_74_63 rfl (Mv_mono h fun m6 h => ?_)
        refine r_aload_n L_74_66 rfl ?_
        refine r_getr (c' := 32) (d' := 0) L_74_67 rfl rfl ?_
        refine r_geti L_74_70 rfl rfl ?_
        refine r_lsw L_74_73 (sw_pos (by decide) (by decide)) ?_
        refine sw_l (tgt := 148) kT_103 (by decide) (i_mono h (fun c7 h => ?_) (fun c7 h => ?_))
        · refine r_aload_n L_74_148 rfl ?_
          refine r_getr (c' := 0) (d' := 0) L_74_149 rfl rfl ?_
          refine r_aload_n L_74_152 rfl ?_
          refine r_getr (c' := 32) (d' := 0) L_74_153 rfl rfl ?_
          refine r_geti L_74_156 rfl rfl ?_
          refine r_cv L_74_159 rfl (Mi_mono h fun v9 m8 h => ?_)
          refine r_istore_n (ls1 := [some (.inr (27, 0)), some (.inl x1), some (.inl v9), some (.inl x3)]) L_74_162 (Nat.le_of_ble_eq_true rfl) rfl ?_
          refine r_goto L_74_163 ?_
          refine r_iload_n L_74_219 rfl ?_
          refine r_if L_74_220 rfl (i_mono h (fun c10 h => ?_) (fun c10 h => ?_))
          · refine r_iinc (ls1 := [some (.inr (27, 0)), some (.inl x1), some (.inl v9), some (.inl (x3 + 1))]) L_74_226 kI_1 rfl (Nat.le_of_ble_eq_true rfl) rfl ?_
            refine r_goto L_74_229 ?_
            exact h
          · refine r_iinc (ls1 := [some (.inr (27, 0)), some (.inl (x1 + 1)), some (.inl v9), some (.inl x3)]) L_74_223 kI_1 rfl (Nat.le_of_ble_eq_true rfl) rfl ?_
            refine r_iinc (ls1 := [some (.inr (27, 0)), some (.inl (x1 + 1)), some (.inl v9), some (.inl (x3 + 1))]) L_74_226 kI_1 rfl (Nat.le_of_ble_eq_true rfl) rfl ?_
            refine r_goto L_74_229 ?_
            exact h
        · skip
          refine sw_l (tgt := 116) kT_108 (by decide) (i_mono h (fun c11 h => ?_) (fun c11 h => ?_))
          · refine r_aload_n L_74_116 rfl ?_
            refine r_getr (c' := 0) (d' := 0) L_74_117 rfl rfl ?_
            refine r_aload_n L_74_120 rfl ?_
            refine r_getr (c' := 32) (d' := 0) L_74_121 rfl rfl ?_
            refine r_geti L_74_124 rfl rfl ?_
            refine r_aload_n L_74_127 rfl ?_
            refine r_getr (c' := 32) (d' := 0) L_74_128 rfl rfl ?_
            refine r_geti L_74_131 rfl rfl ?_
            refine r_aload_n L_74_134 rfl ?_
            refine r_getr (c' := 32) (d' := 0) L_74_135 rfl rfl ?_
            refine r_geti L_74_138 rfl rfl ?_
            refine r_cv L_74_141 rfl (Mi_mono h fun v13 m12 h => ?_)
            refine r_istore_n (ls1 := [some (.inr (27, 0)), some (.inl x1), some (.inl v13), some (.inl x3)]) L_74_144 (Nat.le_of_ble_eq_true rfl) rfl ?_
            refine r_goto L_74_145 ?_
            refine r_iload_n L_74_219 rfl ?_
            refine r_if L_74_220 rfl (i_mono h (fun c14 h => ?_) (fun c14 h => ?_))
            · refine r_iinc (ls1 := [some (.inr (27, 0)), some (.inl x1), some (.inl v13), some (.inl (x3 + 1))]) L_74_226 kI_1 rfl (Nat.le_of_ble_eq_true rfl) rfl ?_
              refine r_goto L_74_229 ?_
              exact h
            · refine r_iinc (ls1 := [some (.inr (27, 0)), some (.inl (x1 + 1)), some (.inl v13), some (.inl x3)]) L_74_223 kI_1 rfl (Nat.le_of_ble_eq_true rfl) rfl ?_
              refine r_iinc (ls1 := [some (.inr (27, 0)), some (.inl (x1 + 1)), some (.inl v13), some (.inl (x3 + 1))]) L_74_226 kI_1 rfl (Nat.le_of_ble_eq_true rfl) rfl ?_
              refine r_goto L_74_229 ?_
              exact h
          · skip
            refine sw_l (tgt := 166) kT_119 (by decide) (i_mono h (fun c15 h => ?_) (fun c15 h => ?_))
            · refine r_aload_n L_74_166 rfl ?_
              refine r_getr (c' := 0) (d' := 0) L_74_167 rfl rfl ?_
              refine r_aload_n L_74_170 rfl ?_
              refine r_getr (c' := 32) (d' := 0) L_74_171 rfl rfl ?_
              refine r_geti L_74_174 rfl rfl ?_
              refine r_iconst L_74_177 kI_1 ?_
              refine r_cv L_74_178 rfl (Mi_mono h fun v17 m16 h => ?_)
              refine r_istore_n (ls1 := [some (.inr (27, 0)), some (.inl x1), some (.inl v17), some (.inl x3)]) L_74_181 (Nat.le_of_ble_eq_true rfl) rfl ?_
              refine r_goto L_74_182 ?_
              refine r_iload_n L_74_219 rfl ?_
              refine r_if L_74_220 rfl (i_mono h (fun c18 h => ?_) (fun c18 h => ?_))
              · refine r_iinc (ls1 := [some (.inr (27, 0)), some (.inl x1), some (.inl v17), some (.inl (x3 + 1))]) L_74_226 kI_1 rfl (Nat.le_of_ble_eq_true rfl) rfl ?_
                refine r_goto L_74_229 ?_
                exact h
              · refine r_iinc (ls1 := [some (.inr (27, 0)), some (.inl (x1 + 1)), some (.inl v17), some (.inl x3)]) L_74_223 kI_1 rfl (Nat.le_of_ble_eq_true rfl) rfl ?_
                refine r_iinc (ls1 := [some (.inr (27, 0)), some (.inl (x1 + 1)), some (.inl v17), some (.inl (x3 + 1))]) L_74_226 kI_1 rfl (Nat.le_of_ble_eq_true rfl) rfl ?_
                refine r_goto L_74_229 ?_
                exact h
            · skip
              refine sw_l (tgt := 185) kT_122 (by decide) (i_mono h (fun c19 h => ?_) (fun c19 h => ?_))
              · refine r_aload_n L_74_185 rfl ?_
                refine r_getr (c' := 0) (d' := 0) L_74_186 rfl rfl ?_
                refine r_aload_n L_74_189 rfl ?_
                refine r_getr (c' := 32) (d' := 0) L_74_190 rfl rfl ?_
                refine r_geti L_74_193 rfl rfl ?_
                refine r_iconst L_74_196 kI_0 ?_
                refine r_cv L_74_197 rfl (Mi_mono h fun v21 m20 h => ?_)
                refine r_istore_n (ls1 := [some (.inr (27, 0)), some (.inl x1), some (.inl v21), some (.inl x3)]) L_74_200 (Nat.le_of_ble_eq_true rfl) rfl ?_
                refine r_goto L_74_201 ?_
                refine r_iload_n L_74_219 rfl ?_
                refine r_if L_74_220 rfl (i_mono h (fun c22 h => ?_) (fun c22 h => ?_))
                · refine r_iinc (ls1 := [some (.inr (27, 0)), some (.inl x1), some (.inl v21), some (.inl (x3 + 1))]) L_74_226 kI_1 rfl (Nat.le_of_ble_eq_true rfl) rfl ?_
                  refine r_goto L_74_229 ?_
                  exact h
                · refine r_iinc (ls1 := [some (.inr (27, 0)), some (.inl (x1 + 1)), some (.inl v21), some (.inl x3)]) L_74_223 kI_1 rfl (Nat.le_of_ble_eq_true rfl) rfl ?_
                  refine r_iinc (ls1 := [some (.inr (27, 0)), some (.inl (x1 + 1)), some (.inl v21), some (.inl (x3 + 1))]) L_74_226 kI_1 rfl (Nat.le_of_ble_eq_true rfl) rfl ?_
                  refine r_goto L_74_229 ?_
                  exact h
              · skip
                refine sw_dl (tgt := 204) (by decide) ?_
                refine r_aload_n L_74_204 rfl ?_
                refine r_getr (c' := 0) (d' := 0) L_74_205 rfl rfl ?_
                refine r_aload_n L_74_208 rfl ?_
                refine r_getr (c' := 32) (d' := 0) L_74_209 rfl rfl ?_
                refine r_geti L_74_212 rfl rfl ?_
                refine r_cv L_74_215 rfl (Mi_mono h fun v24 m23 h => ?_)
                refine r_istore_n (ls1 := [some (.inr (27, 0)), some (.inl x1), some (.inl v24), some (.inl x3)]) L_74_218 (Nat.le_of_ble_eq_true rfl) rfl ?_
                refine r_iload_n L_74_219 rfl ?_
                refine r_if L_74_220 rfl (i_mono h (fun c25 h => ?_) (fun c25 h => ?_))
                · refine r_iinc (ls1 := [some (.inr (27, 0)), some (.inl x1), some (.inl v24), some (.inl (x3 + 1))]) L_74_226 kI_1 rfl (Nat.le_of_ble_eq_true rfl) rfl ?_
                  refine r_goto L_74_229 ?_
                  exact h
                · refine r_iinc (ls1 := [some (.inr (27, 0)), some (.inl (x1 + 1)), some (.inl v24), some (.inl x3)]) L_74_223 kI_1 rfl (Nat.le_of_ble_eq_true rfl) rfl ?_
                  refine r_iinc (ls1 := [some (.inr (27, 0)), some (.inl (x1 + 1)), some (.inl v24), some (.inl (x3 + 1))]) L_74_226 kI_1 rfl (Nat.le_of_ble_eq_true rfl) rfl ?_
                  refine r_goto L_74_229 ?_
                  exact h
    · refine r_aload_n L_74_232 rfl ?_
      refine r_iload_n L_74_233 rfl ?_
      refine r_cv L_74_234 rfl (Mi_mono h fun v27 m26 h => ?_)
      exact r_iret L_74_237 RT_74 h
  · refine r_aload_n L_74_232 rfl ?_
    refine r_iload_n L_74_233 rfl ?_
    refine r_cv L_74_234 rfl (Mi_mono h fun v29 m28 h => ?_)
    exact r_iret L_74_237 RT_74 h
/-- VacantAir.run -/
theorem T_74 {m : aM} {Q : Int32 → aM → Prop} (h :
   Mi 2 [.inr (32, 0)] m (fun v2 m1 =>
    if v2 = (-6) then
     (Mv 27 [.inr (28, 0), .inr (0, 0)] m1 (fun m4 =>
      Mv 3 [.inr (32, 0)] m4 (fun m5 =>
       H_74_39 0 0 0 m5 Q)))
    else
     Q (-3) m1)
  ) : Mi 74 [.inr (27, 0)] m Q := by
  refine Mi_in ML_74 (show Rg 74 0 [some (.inr (27, 0)), none, none, none] [] m (qI Q) from ?_)
  refine r_aload_n L_74_0 rfl ?_
  refine r_getr (c' := 32) (d' := 0) L_74_1 rfl rfl ?_
  refine r_cv L_74_4 rfl (Mi_mono h fun v2 m1 h => ?_)
  refine r_bipush L_74_7 kB_m6 ?_
  refine r_icmp L_74_9 rfl (i_mono h (fun c3 h => ?_) (fun c3 h => ?_))
  · refine r_aload_n L_74_15 rfl ?_
    refine r_getr (c' := 28) (d' := 0) L_74_16 rfl rfl ?_
    refine r_aload_n L_74_19 rfl ?_
    refine r_getr (c' := 0) (d' := 0) L_74_20 rfl rfl ?_
    refine r_cvv L_74_23 rfl (Mv_mono h fun m4 h => ?_)
    refine r_iconst L_74_26 kI_0 ?_
    refine r_istore_n (ls1 := [some (.inr (27, 0)), some (.inl 0), none, none]) L_74_27 (Nat.le_of_ble_eq_true rfl) rfl ?_
    refine r_iconst L_74_28 kI_0 ?_
    refine r_istore_n (ls1 := [some (.inr (27, 0)), some (.inl 0), some (.inl 0), none]) L_74_29 (Nat.le_of_ble_eq_true rfl) rfl ?_
    refine r_aload_n L_74_30 rfl ?_
    refine r_getr (c' := 32) (d' := 0) L_74_31 rfl rfl ?_
    refine r_cvv L_74_34 rfl (Mv_mono h fun m5 h => ?_)
    refine r_iconst L_74_37 kI_0 ?_
    refine r_istore_n (ls1 := [some (.inr (27, 0)), some (.inl 0), some (.inl 0), some (.inl 0)]) L_74_38 (Nat.le_of_ble_eq_true rfl) rfl ?_
    exact h
  · refine r_bipush L_74_12 kB_m3 ?_
    exact r_iret L_74_14 RT_74 h
/-- VacantAir.undo -/
theorem T_75 {m : aM} {Q : Int32 → aM → Prop} (h :
   if (m 28 0 2) = 0 then
    Q (-3) m
   else
    Mv 29 [.inr (28, 0), .inr (0, 0)] m (fun m2 =>
     Q (m2 28 0 2) m2)
  ) : Mi 75 [.inr (27, 0)] m Q := by
  refine Mi_in ML_75 (show Rg 75 0 [some (.inr (27, 0))] [] m (qI Q) from ?_)
  refine r_aload_n L_75_0 rfl ?_
  refine r_getr (c' := 28) (d' := 0) L_75_1 rfl rfl ?_
  refine r_geti L_75_4 rfl rfl ?_
  refine r_ifn L_75_7 rfl (i_mono h (fun c1 h => ?_) (fun c1 h => ?_))
  · refine r_bipush L_75_10 kB_m3 ?_
    exact r_iret L_75_12 RT_75 h
  · refine r_aload_n L_75_13 rfl ?_
    refine r_getr (c' := 28) (d' := 0) L_75_14 rfl rfl ?_
    refine r_aload_n L_75_17 rfl ?_
    refine r_getr (c' := 0) (d' := 0) L_75_18 rfl rfl ?_
    refine r_cvv L_75_21 rfl (Mv_mono h fun m2 h => ?_)
    refine r_aload_n L_75_24 rfl ?_
    refine r_getr (c' := 28) (d' := 0) L_75_25 rfl rfl ?_
    refine r_geti L_75_28 rfl rfl ?_
    exact r_iret L_75_31 RT_75 h
/-- VacantAir.save -/
theorem T_76 {x1 : Int32} {m : aM} {Q : Int32 → aM → Prop} (h :
   if x1 < 0 ∨ 1 < x1 then
    Q (-1) m
   else
    a_in x1 2 = true ∧
     Mv 30 [.inr (0, (a_el 30 x1.toNatClampNeg)), .inr (0, 0)] m (fun m3 =>
      (∀ m4, m4 = a_up m3 31 0 x1.toNatClampNeg 1 →
      Q (m4 0 0 4) m4))
  ) : Mi 76 [.inr (27, 0), .inl x1] m Q := by
  refine Mi_in ML_76 (show Rg 76 0 [some (.inr (27, 0)), some (.inl x1)] [] m (qI Q) from ?_)
  refine r_iload_n L_76_0 rfl ?_
  refine r_iconst L_76_1 kI_0 ?_
  refine r_iconst L_76_2 kI_1 ?_
  refine r_cs L_76_3 (by decide) rfl (V_93 ?_)
  refine r_ifeqP L_76_6 (i_mono h (fun c1 h => ?_) (fun c1 h => ?_))
  · refine r_iconst L_76_9 kI_m1 ?_
    exact r_iret L_76_10 RT_76 h
  · refine r_aload_n L_76_11 rfl ?_
    refine r_getr (c' := 30) (d' := 0) L_76_12 rfl rfl ?_
    refine r_iload_n L_76_15 rfl ?_
    obtain ⟨g2, h⟩ := h
    refine r_aald (N := 2) (j := x1.toNatClampNeg) L_76_16 (by decide +kernel) rfl g2 rfl ?_
    refine r_aload_n L_76_17 rfl ?_
    refine r_getr (c' := 0) (d' := 0) L_76_18 rfl rfl ?_
    refine r_cvv L_76_21 rfl (Mv_mono h fun m3 h => ?_)
    refine r_aload_n L_76_24 rfl ?_
    refine r_getr (c' := 31) (d' := 0) L_76_25 rfl rfl ?_
    refine r_iload_n L_76_28 rfl ?_
    refine r_iconst L_76_29 kI_1 ?_
    refine r_bast (N := 2) (j := x1.toNatClampNeg) L_76_30 (by decide +kernel) rfl g2 (Or.inr rfl) rfl ?_
    refine r_nm fun m4 em4 => ?_
    have h := h m4 em4
    refine r_aload_n L_76_31 rfl ?_
    refine r_getr (c' := 0) (d' := 0) L_76_32 rfl rfl ?_
    refine r_geti L_76_35 rfl rfl ?_
    exact r_iret L_76_38 RT_76 h
/-- VacantAir.restore -/
theorem T_77 {x1 : Int32} {m : aM} {Q : Int32 → aM → Prop} (h :
   if x1 < 0 ∨ 1 < x1 then
    Q (-1) m
   else
    a_in x1 2 = true ∧
     if (m 31 0 x1.toNatClampNeg) = 0 then
      Q (-3) m
     else
      Mv 27 [.inr (28, 0), .inr (0, 0)] m (fun m4 =>
       Mv 30 [.inr (0, 0), .inr (0, (a_el 30 x1.toNatClampNeg))] m4 (fun m5 =>
        Mi 91 [.inr (27, 0), .inl (m5 0 0 4)] m5 (fun v7 m6 =>
         Q v7 m6)))
  ) : Mi 77 [.inr (27, 0), .inl x1] m Q := by
  refine Mi_in ML_77 (show Rg 77 0 [some (.inr (27, 0)), some (.inl x1)] [] m (qI Q) from ?_)
  refine r_iload_n L_77_0 rfl ?_
  refine r_iconst L_77_1 kI_0 ?_
  refine r_iconst L_77_2 kI_1 ?_
  refine r_cs L_77_3 (by decide) rfl (V_93 ?_)
  refine r_ifeqP L_77_6 (i_mono h (fun c1 h => ?_) (fun c1 h => ?_))
  · refine r_iconst L_77_9 kI_m1 ?_
    exact r_iret L_77_10 RT_77 h
  · refine r_aload_n L_77_11 rfl ?_
    refine r_getr (c' := 31) (d' := 0) L_77_12 rfl rfl ?_
    refine r_iload_n L_77_15 rfl ?_
    obtain ⟨g2, h⟩ := h
    refine r_bald (N := 2) (j := x1.toNatClampNeg) L_77_16 (by decide +kernel) rfl g2 rfl ?_
    refine r_ifn L_77_17 rfl (i_mono h (fun c3 h => ?_) (fun c3 h => ?_))
    · refine r_bipush L_77_20 kB_m3 ?_
      exact r_iret L_77_22 RT_77 h
    · refine r_aload_n L_77_23 rfl ?_
      refine r_getr (c' := 28) (d' := 0) L_77_24 rfl rfl ?_
      refine r_aload_n L_77_27 rfl ?_
      refine r_getr (c' := 0) (d' := 0) L_77_28 rfl rfl ?_
      refine r_cvv L_77_31 rfl (Mv_mono h fun m4 h => ?_)
      refine r_aload_n L_77_34 rfl ?_
      refine r_getr (c' := 0) (d' := 0) L_77_35 rfl rfl ?_
      refine r_aload_n L_77_38 rfl ?_
      refine r_getr (c' := 30) (d' := 0) L_77_39 rfl rfl ?_
      refine r_iload_n L_77_42 rfl ?_
      refine r_aald (N := 2) (j := x1.toNatClampNeg) L_77_43 (by decide +kernel) rfl g2 rfl ?_
      refine r_cvv L_77_44 rfl (Mv_mono h fun m5 h => ?_)
      refine r_aload_n L_77_47 rfl ?_
      refine r_aload_n L_77_48 rfl ?_
      refine r_getr (c' := 0) (d' := 0) L_77_49 rfl rfl ?_
      refine r_geti L_77_52 rfl rfl ?_
      refine r_cv L_77_55 rfl (Mi_mono h fun v7 m6 h => ?_)
      exact r_iret L_77_58 RT_77 h
/-- VacantAir.station -/
theorem T_78 {x1 x2 : Int32} {m : aM} {Q : Int32 → aM → Prop} (h :
   if ¬ x1 < 0 ∧ x1 < m 1 0 5 then
    (if x2 < 0 ∨ 6 < x2 then
     Q (-2) m
    else
     if x2 = 6 then
      (Mi 92 [.inr (27, 0), .inl x1] m (fun v5 m4 =>
       Q v5 m4))
     else
      Mi 57 [.inr (1, 0), .inl x1, .inl x2] m (fun v7 m6 =>
       Q v7 m6))
   else
    Q (-1) m
  ) : Mi 78 [.inr (27, 0), .inl x1, .inl x2] m Q := by
  refine Mi_in ML_78 (show Rg 78 0 [some (.inr (27, 0)), some (.inl x1), some (.inl x2)] [] m (qI Q) from ?_)
  refine r_aload_n L_78_0 rfl ?_
  refine r_getr (c' := 0) (d' := 0) L_78_1 rfl rfl ?_
  refine r_getr (c' := 1) (d' := 0) L_78_4 rfl rfl ?_
  refine r_iload_n L_78_7 rfl ?_
  refine r_cv L_78_8 rfl (V_56 ?_)
  refine r_ifneP L_78_11 (i_mono h (fun c1 h => ?_) (fun c1 h => ?_))
  · refine r_iload_n L_78_16 rfl ?_
    refine r_iconst L_78_17 kI_0 ?_
    refine r_bipush L_78_18 kB_6 ?_
    refine r_cs L_78_20 (by decide) rfl (V_93 ?_)
    refine r_ifeqP L_78_23 (i_mono h (fun c2 h => ?_) (fun c2 h => ?_))
    · refine r_bipush L_78_26 kB_m2 ?_
      exact r_iret L_78_28 RT_78 h
    · refine r_iload_n L_78_29 rfl ?_
      refine r_bipush L_78_30 kB_6 ?_
      refine r_icmpn L_78_32 rfl (i_mono h (fun c3 h => ?_) (fun c3 h => ?_))
      · refine r_aload_n L_78_35 rfl ?_
        refine r_iload_n L_78_36 rfl ?_
        refine r_cv L_78_37 rfl (Mi_mono h fun v5 m4 h => ?_)
        exact r_iret L_78_40 RT_78 h
      · refine r_aload_n L_78_41 rfl ?_
        refine r_getr (c' := 0) (d' := 0) L_78_42 rfl rfl ?_
        refine r_getr (c' := 1) (d' := 0) L_78_45 rfl rfl ?_
        refine r_iload_n L_78_48 rfl ?_
        refine r_iload_n L_78_49 rfl ?_
        refine r_cv L_78_50 rfl (Mi_mono h fun v7 m6 h => ?_)
        exact r_iret L_78_53 RT_78 h
  · refine r_iconst L_78_14 kI_m1 ?_
    exact r_iret L_78_15 RT_78 h
/-- VacantAir.event -/
theorem T_79 {x1 x2 : Int32} {m : aM} {Q : Int32 → aM → Prop} (h :
   if ¬ x1 < 0 ∧ x1 < m 2 0 7 then
    (if x2 < 0 ∨ 7 < x2 then
     Q (-2) m
    else
     Mi 25 [.inr (2, 0), .inl x1, .inl x2, .inl (m 0 0 4)] m (fun v4 m3 =>
      Q v4 m3))
   else
    Q (-1) m
  ) : Mi 79 [.inr (27, 0), .inl x1, .inl x2] m Q := by
  refine Mi_in ML_79 (show Rg 79 0 [some (.inr (27, 0)), some (.inl x1), some (.inl x2)] [] m (qI Q) from ?_)
  refine r_aload_n L_79_0 rfl ?_
  refine r_getr (c' := 0) (d' := 0) L_79_1 rfl rfl ?_
  refine r_getr (c' := 2) (d' := 0) L_79_4 rfl rfl ?_
  refine r_iload_n L_79_7 rfl ?_
  refine r_cv L_79_8 rfl (V_23 ?_)
  refine r_ifneP L_79_11 (i_mono h (fun c1 h => ?_) (fun c1 h => ?_))
  · refine r_iload_n L_79_16 rfl ?_
    refine r_iconst L_79_17 kI_0 ?_
    refine r_bipush L_79_18 kB_7 ?_
    refine r_cs L_79_20 (by decide) rfl (V_93 ?_)
    refine r_ifeqP L_79_23 (i_mono h (fun c2 h => ?_) (fun c2 h => ?_))
    · refine r_bipush L_79_26 kB_m2 ?_
      exact r_iret L_79_28 RT_79 h
    · refine r_aload_n L_79_29 rfl ?_
      refine r_getr (c' := 0) (d' := 0) L_79_30 rfl rfl ?_
      refine r_getr (c' := 2) (d' := 0) L_79_33 rfl rfl ?_
      refine r_iload_n L_79_36 rfl ?_
      refine r_iload_n L_79_37 rfl ?_
      refine r_aload_n L_79_38 rfl ?_
      refine r_getr (c' := 0) (d' := 0) L_79_39 rfl rfl ?_
      refine r_geti L_79_42 rfl rfl ?_
      refine r_cv L_79_45 rfl (Mi_mono h fun v4 m3 h => ?_)
      exact r_iret L_79_48 RT_79 h
  · refine r_iconst L_79_14 kI_m1 ?_
    exact r_iret L_79_15 RT_79 h
/-- VacantAir.device -/
theorem T_80 {x1 x2 : Int32} {m : aM} {Q : Int32 → aM → Prop} (h :
   if ¬ x1 < 0 ∧ x1 < m 3 0 10 then
    (if x2 < 0 ∨ 10 < x2 then
     Q (-2) m
    else
     if x2 = 10 then
      (Mi 46 [.inr (0, 0), .inl x1] m (fun v5 m4 =>
       Q v5 m4))
     else
      Mi 14 [.inr (3, 0), .inl x1, .inl x2] m (fun v7 m6 =>
       Q v7 m6))
   else
    Q (-1) m
  ) : Mi 80 [.inr (27, 0), .inl x1, .inl x2] m Q := by
  refine Mi_in ML_80 (show Rg 80 0 [some (.inr (27, 0)), some (.inl x1), some (.inl x2)] [] m (qI Q) from ?_)
  refine r_aload_n L_80_0 rfl ?_
  refine r_getr (c' := 0) (d' := 0) L_80_1 rfl rfl ?_
  refine r_getr (c' := 3) (d' := 0) L_80_4 rfl rfl ?_
  refine r_iload_n L_80_7 rfl ?_
  refine r_cv L_80_8 rfl (V_9 ?_)
  refine r_ifneP L_80_11 (i_mono h (fun c1 h => ?_) (fun c1 h => ?_))
  · refine r_iload_n L_80_16 rfl ?_
    refine r_iconst L_80_17 kI_0 ?_
    refine r_bipush L_80_18 kB_10 ?_
    refine r_cs L_80_20 (by decide) rfl (V_93 ?_)
    refine r_ifeqP L_80_23 (i_mono h (fun c2 h => ?_) (fun c2 h => ?_))
    · refine r_bipush L_80_26 kB_m2 ?_
      exact r_iret L_80_28 RT_80 h
    · refine r_iload_n L_80_29 rfl ?_
      refine r_bipush L_80_30 kB_10 ?_
      refine r_icmpn L_80_32 rfl (i_mono h (fun c3 h => ?_) (fun c3 h => ?_))
      · refine r_aload_n L_80_35 rfl ?_
        refine r_getr (c' := 0) (d' := 0) L_80_36 rfl rfl ?_
        refine r_iload_n L_80_39 rfl ?_
        refine r_cv L_80_40 rfl (Mi_mono h fun v5 m4 h => ?_)
        exact r_iret L_80_43 RT_80 h
      · refine r_aload_n L_80_44 rfl ?_
        refine r_getr (c' := 0) (d' := 0) L_80_45 rfl rfl ?_
        refine r_getr (c' := 3) (d' := 0) L_80_48 rfl rfl ?_
        refine r_iload_n L_80_51 rfl ?_
        refine r_iload_n L_80_52 rfl ?_
        refine r_cv L_80_53 rfl (Mi_mono h fun v7 m6 h => ?_)
        exact r_iret L_80_56 RT_80 h
  · refine r_iconst L_80_14 kI_m1 ?_
    exact r_iret L_80_15 RT_80 h
def H_81_24 (x1 x2 x3 x4 : Int32) (m : aM) (Q : Int32 → aM → Prop) : Prop := Rg 81 24 [some (.inr (27, 0)), some (.inl x1), some (.inl x2), some (.inl x3), some (.inl x4)] [] m (qI Q)
/-- VacantAir.power, the loop at 24 -/
theorem T_81_24 {x1 x2 x3 x4 : Int32} {m : aM} {Q : Int32 → aM → Prop} (h :
   if x4 < 0 then
    Q (-6) m
   else
    Mi 53 [.inr (0, 0), .inl x1, .inl x4, .inl x2, .inl x3] m (fun v3 m2 =>
     if v3 = 0 then
      H_81_24 x1 x2 x3 (x4 + (-1)) m2 Q
     else
      Q x4 m2)
  ) : H_81_24 x1 x2 x3 x4 m Q := by
  show Rg 81 24 [some (.inr (27, 0)), some (.inl x1), some (.inl x2), some (.inl x3), some (.inl x4)] [] m (qI Q)
  refine r_iload L_81_24 rfl ?_
  refine r_if L_81_26 rfl (i_mono h (fun c1 h => ?_) (fun c1 h => ?_))
  · refine r_bipush L_81_53 kB_m6 ?_
    exact r_iret L_81_55 RT_81 h
  · refine r_aload_n L_81_29 rfl ?_
    refine r_getr (c' := 0) (d' := 0) L_81_30 rfl rfl ?_
    refine r_iload_n L_81_33 rfl ?_
    refine r_iload L_81_34 rfl ?_
    refine r_iload_n L_81_36 rfl ?_
    refine r_iload_n L_81_37 rfl ?_
    refine r_cv L_81_38 rfl (Mi_mono h fun v3 m2 h => ?_)
    refine r_if L_81_41 rfl (i_mono h (fun c4 h => ?_) (fun c4 h => ?_))
    · refine r_iinc (ls1 := [some (.inr (27, 0)), some (.inl x1), some (.inl x2), some (.inl x3), some (.inl (x4 + (-1)))]) L_81_47 kI_m1 rfl (Nat.le_of_ble_eq_true rfl) rfl ?_
      refine r_goto L_81_50 ?_
      exact h
    · refine r_iload L_81_44 rfl ?_
      exact r_iret L_81_46 RT_81 h
/-- VacantAir.power -/
theorem T_81 {x1 x2 x3 : Int32} {m : aM} {Q : Int32 → aM → Prop} (h :
   if x1 < 0 ∨ 7 < x1 then
    Q (-2) m
   else
    if (x2 < 0 ∨ 99 < x2) ∨ (x3 < 0 ∨ 99 < x3) then
     Q (-2) m
    else
     H_81_24 x1 x2 x3 3 m Q
  ) : Mi 81 [.inr (27, 0), .inl x1, .inl x2, .inl x3] m Q := by
  refine Mi_in ML_81 (show Rg 81 0 [some (.inr (27, 0)), some (.inl x1), some (.inl x2), some (.inl x3), none] [] m (qI Q) from ?_)
  refine r_iload_n L_81_0 rfl ?_
  refine r_iconst L_81_1 kI_0 ?_
  refine r_bipush L_81_2 kB_7 ?_
  refine r_cs L_81_4 (by decide) rfl (V_93 ?_)
  refine r_ifneP L_81_7 (i_mono h (fun c1 h => ?_) (fun c1 h => ?_))
  · refine r_bipush L_81_18 kB_m2 ?_
    exact r_iret L_81_20 RT_81 h
  · refine r_iload_n L_81_10 rfl ?_
    refine r_iload_n L_81_11 rfl ?_
    refine r_cs L_81_12 (by decide) rfl (V_94 ?_)
    refine r_ifeqP L_81_15 (i_mono h (fun c2 h => ?_) (fun c2 h => ?_))
    · refine r_bipush L_81_18 kB_m2 ?_
      exact r_iret L_81_20 RT_81 h
    · refine r_iconst L_81_21 kI_3 ?_
      refine r_istore (ls1 := [some (.inr (27, 0)), some (.inl x1), some (.inl x2), some (.inl x3), some (.inl 3)]) L_81_22 (Nat.le_of_ble_eq_true rfl) rfl ?_
      exact h
/-- VacantAir.offer -/
theorem T_82 {x1 x2 : Int32} {m : aM} {Q : Int32 → aM → Prop} (h :
   if ¬ x1 < 0 ∧ x1 < m 3 0 10 then
    (if x2 < 0 ∨ 3 < x2 then
     Q (-2) m
    else
     Mi 50 [.inr (0, 0), .inl x1, .inl x2] m (fun v4 m3 =>
      Q v4 m3))
   else
    Q (-1) m
  ) : Mi 82 [.inr (27, 0), .inl x1, .inl x2] m Q := by
  refine Mi_in ML_82 (show Rg 82 0 [some (.inr (27, 0)), some (.inl x1), some (.inl x2)] [] m (qI Q) from ?_)
  refine r_aload_n L_82_0 rfl ?_
  refine r_getr (c' := 0) (d' := 0) L_82_1 rfl rfl ?_
  refine r_getr (c' := 3) (d' := 0) L_82_4 rfl rfl ?_
  refine r_iload_n L_82_7 rfl ?_
  refine r_cv L_82_8 rfl (V_9 ?_)
  refine r_ifneP L_82_11 (i_mono h (fun c1 h => ?_) (fun c1 h => ?_))
  · refine r_iload_n L_82_16 rfl ?_
    refine r_iconst L_82_17 kI_0 ?_
    refine r_iconst L_82_18 kI_3 ?_
    refine r_cs L_82_19 (by decide) rfl (V_93 ?_)
    refine r_ifeqP L_82_22 (i_mono h (fun c2 h => ?_) (fun c2 h => ?_))
    · refine r_bipush L_82_25 kB_m2 ?_
      exact r_iret L_82_27 RT_82 h
    · refine r_aload_n L_82_28 rfl ?_
      refine r_getr (c' := 0) (d' := 0) L_82_29 rfl rfl ?_
      refine r_iload_n L_82_32 rfl ?_
      refine r_iload_n L_82_33 rfl ?_
      refine r_cv L_82_34 rfl (Mi_mono h fun v4 m3 h => ?_)
      exact r_iret L_82_37 RT_82 h
  · refine r_iconst L_82_14 kI_m1 ?_
    exact r_iret L_82_15 RT_82 h
/-- VacantAir.next -/
theorem T_83 {x1 : Int32} {m : aM} {Q : Int32 → aM → Prop} (h :
   if x1 < 0 then
    Q (-2) m
   else
    Mi 19 [.inr (3, 0), .inl x1] m (fun v3 m2 =>
     Q v3 m2)
  ) : Mi 83 [.inr (27, 0), .inl x1] m Q := by
  refine Mi_in ML_83 (show Rg 83 0 [some (.inr (27, 0)), some (.inl x1)] [] m (qI Q) from ?_)
  refine r_iload_n L_83_0 rfl ?_
  refine r_ifn L_83_1 cc_ge (i_mono h (fun c1 h => ?_) (fun c1 h => ?_))
  · refine r_bipush L_83_4 kB_m2 ?_
    exact r_iret L_83_6 RT_83 h
  · refine r_aload_n L_83_7 rfl ?_
    refine r_getr (c' := 0) (d' := 0) L_83_8 rfl rfl ?_
    refine r_getr (c' := 3) (d' := 0) L_83_11 rfl rfl ?_
    refine r_iload_n L_83_14 rfl ?_
    refine r_cv L_83_15 rfl (Mi_mono h fun v3 m2 h => ?_)
    exact r_iret L_83_18 RT_83 h
/-- VacantAir.leases -/
theorem T_84 {x1 : Int32} {m : aM} {Q : Int32 → aM → Prop} (h :
   if x1 < 0 ∨ 7 < x1 then
    Q (-2) m
   else
    Mi 16 [.inr (3, 0), .inl x1] m (fun v3 m2 =>
     Q v3 m2)
  ) : Mi 84 [.inr (27, 0), .inl x1] m Q := by
  refine Mi_in ML_84 (show Rg 84 0 [some (.inr (27, 0)), some (.inl x1)] [] m (qI Q) from ?_)
  refine r_iload_n L_84_0 rfl ?_
  refine r_iconst L_84_1 kI_0 ?_
  refine r_bipush L_84_2 kB_7 ?_
  refine r_cs L_84_4 (by decide) rfl (V_93 ?_)
  refine r_ifeqP L_84_7 (i_mono h (fun c1 h => ?_) (fun c1 h => ?_))
  · refine r_bipush L_84_10 kB_m2 ?_
    exact r_iret L_84_12 RT_84 h
  · refine r_aload_n L_84_13 rfl ?_
    refine r_getr (c' := 0) (d' := 0) L_84_14 rfl rfl ?_
    refine r_getr (c' := 3) (d' := 0) L_84_17 rfl rfl ?_
    refine r_iload_n L_84_20 rfl ?_
    refine r_cv L_84_21 rfl (Mi_mono h fun v3 m2 h => ?_)
    exact r_iret L_84_24 RT_84 h
/-- VacantAir.total -/
theorem T_85 {x1 : Int32} {m : aM} {Q : Int32 → aM → Prop} (h :
   if x1 < 0 ∨ 15 < x1 then
    Q (-2) m
   else
    if x1 = 11 then
     Q (m 28 0 2) m
    else
     if x1 = 12 then
      Q (m 32 0 1) m
     else
      Mi 55 [.inr (0, 0), .inl x1] m (fun v5 m4 =>
       Q v5 m4)
  ) : Mi 85 [.inr (27, 0), .inl x1] m Q := by
  refine Mi_in ML_85 (show Rg 85 0 [some (.inr (27, 0)), some (.inl x1)] [] m (qI Q) from ?_)
  refine r_iload_n L_85_0 rfl ?_
  refine r_iconst L_85_1 kI_0 ?_
  refine r_bipush L_85_2 kB_15 ?_
  refine r_cs L_85_4 (by decide) rfl (V_93 ?_)
  refine r_ifeqP L_85_7 (i_mono h (fun c1 h => ?_) (fun c1 h => ?_))
  · refine r_bipush L_85_10 kB_m2 ?_
    exact r_iret L_85_12 RT_85 h
  · refine r_iload_n L_85_13 rfl ?_
    refine r_bipush L_85_14 kB_11 ?_
    refine r_icmpn L_85_16 rfl (i_mono h (fun c2 h => ?_) (fun c2 h => ?_))
    · refine r_aload_n L_85_19 rfl ?_
      refine r_getr (c' := 28) (d' := 0) L_85_20 rfl rfl ?_
      refine r_geti L_85_23 rfl rfl ?_
      exact r_iret L_85_26 RT_85 h
    · refine r_iload_n L_85_27 rfl ?_
      refine r_bipush L_85_28 kB_12 ?_
      refine r_icmpn L_85_30 rfl (i_mono h (fun c3 h => ?_) (fun c3 h => ?_))
      · refine r_aload_n L_85_33 rfl ?_
        refine r_getr (c' := 32) (d' := 0) L_85_34 rfl rfl ?_
        refine r_geti L_85_37 rfl rfl ?_
        exact r_iret L_85_40 RT_85 h
      · refine r_aload_n L_85_41 rfl ?_
        refine r_getr (c' := 0) (d' := 0) L_85_42 rfl rfl ?_
        refine r_iload_n L_85_45 rfl ?_
        refine r_cv L_85_46 rfl (Mi_mono h fun v5 m4 h => ?_)
        exact r_iret L_85_49 RT_85 h
def H_86_27 (x1 x2 x3 x4 : Int32) (m : aM) (Q : Int32 → aM → Prop) : Prop := ∀ d5 : Option aV, Rg 86 27 [some (.inr (27, 0)), some (.inl x1), some (.inl x2), some (.inl x3), some (.inl x4), d5] [] m (qI Q)
def H_86_37 (x1 x2 x3 x4 x5 : Int32) (m : aM) (Q : Int32 → aM → Prop) : Prop := Rg 86 37 [some (.inr (27, 0)), some (.inl x1), some (.inl x2), some (.inl x3), some (.inl x4), some (.inl x5)] [] m (qI Q)
/-- VacantAir.vacant, the loop at 37 -/
theorem T_86_37 {x1 x2 x3 x4 x5 : Int32} {m : aM} {Q : Int32 → aM → Prop} (h :
   if 99 < x5 then
    H_86_27 x1 x2 x3 (x4 + 10) m Q
   else
    Mi 53 [.inr (0, 0), .inl x1, .inl x2, .inl x4, .inl x5] m (fun v3 m2 =>
     if v3 = 0 then
      H_86_37 x1 x2 x3 x4 (x5 + 10) m2 Q
     else
      H_86_37 x1 x2 (x3 + 1) x4 (x5 + 10) m2 Q)
  ) : H_86_37 x1 x2 x3 x4 x5 m Q := by
  show Rg 86 37 [some (.inr (27, 0)), some (.inl x1), some (.inl x2), some (.inl x3), some (.inl x4), some (.inl x5)] [] m (qI Q)
  refine r_iload L_86_37 rfl ?_
  refine r_bipush L_86_39 kB_99 ?_
  refine r_icmp L_86_41 rfl (i_mono h (fun c1 h => ?_) (fun c1 h => ?_))
  · refine r_iinc (ls1 := [some (.inr (27, 0)), some (.inl x1), some (.inl x2), some (.inl x3), some (.inl (x4 + 10)), some (.inl x5)]) L_86_69 kI_10 rfl (Nat.le_of_ble_eq_true rfl) rfl ?_
    refine r_goto L_86_72 ?_
    exact h _
  · refine r_aload_n L_86_44 rfl ?_
    refine r_getr (c' := 0) (d' := 0) L_86_45 rfl rfl ?_
    refine r_iload_n L_86_48 rfl ?_
    refine r_iload_n L_86_49 rfl ?_
    refine r_iload L_86_50 rfl ?_
    refine r_iload L_86_52 rfl ?_
    refine r_cv L_86_54 rfl (Mi_mono h fun v3 m2 h => ?_)
    refine r_if L_86_57 rfl (i_mono h (fun c4 h => ?_) (fun c4 h => ?_))
    · refine r_iinc (ls1 := [some (.inr (27, 0)), some (.inl x1), some (.inl x2), some (.inl x3), some (.inl x4), some (.inl (x5 + 10))]) L_86_63 kI_10 rfl (Nat.le_of_ble_eq_true rfl) rfl ?_
      refine r_goto L_86_66 ?_
      exact h
    · refine r_iinc (ls1 := [some (.inr (27, 0)), some (.inl x1), some (.inl x2), some (.inl (x3 + 1)), some (.inl x4), some (.inl x5)]) L_86_60 kI_1 rfl (Nat.le_of_ble_eq_true rfl) rfl ?_
      refine r_iinc (ls1 := [some (.inr (27, 0)), some (.inl x1), some (.inl x2), some (.inl (x3 + 1)), some (.inl x4), some (.inl (x5 + 10))]) L_86_63 kI_10 rfl (Nat.le_of_ble_eq_true rfl) rfl ?_
      refine r_goto L_86_66 ?_
      exact h
/-- VacantAir.vacant, the loop at 27 -/
theorem T_86_27 {x1 x2 x3 x4 : Int32} {m : aM} {Q : Int32 → aM → Prop} (h :
   if 99 < x4 then
    Q x3 m
   else
    H_86_37 x1 x2 x3 x4 5 m Q
  ) : H_86_27 x1 x2 x3 x4 m Q := by
  intro d5
  show Rg 86 27 [some (.inr (27, 0)), some (.inl x1), some (.inl x2), some (.inl x3), some (.inl x4), d5] [] m (qI Q)
  refine r_iload L_86_27 rfl ?_
  refine r_bipush L_86_29 kB_99 ?_
  refine r_icmp L_86_31 rfl (i_mono h (fun c1 h => ?_) (fun c1 h => ?_))
  · refine r_iload_n L_86_75 rfl ?_
    exact r_iret L_86_76 RT_86 h
  · refine r_iconst L_86_34 kI_5 ?_
    refine r_istore (ls1 := [some (.inr (27, 0)), some (.inl x1), some (.inl x2), some (.inl x3), some (.inl x4), some (.inl 5)]) L_86_35 (Nat.le_of_ble_eq_true rfl) rfl ?_
    exact h
/-- VacantAir.vacant -/
theorem T_86 {x1 x2 : Int32} {m : aM} {Q : Int32 → aM → Prop} (h :
   if x1 < 0 ∨ 7 < x1 then
    Q (-2) m
   else
    if x2 < 0 ∨ 3 < x2 then
     Q (-2) m
    else
     H_86_27 x1 x2 0 5 m Q
  ) : Mi 86 [.inr (27, 0), .inl x1, .inl x2] m Q := by
  refine Mi_in ML_86 (show Rg 86 0 [some (.inr (27, 0)), some (.inl x1), some (.inl x2), none, none, none] [] m (qI Q) from ?_)
  refine r_iload_n L_86_0 rfl ?_
  refine r_iconst L_86_1 kI_0 ?_
  refine r_bipush L_86_2 kB_7 ?_
  refine r_cs L_86_4 (by decide) rfl (V_93 ?_)
  refine r_ifneP L_86_7 (i_mono h (fun c1 h => ?_) (fun c1 h => ?_))
  · refine r_bipush L_86_19 kB_m2 ?_
    exact r_iret L_86_21 RT_86 h
  · refine r_iload_n L_86_10 rfl ?_
    refine r_iconst L_86_11 kI_0 ?_
    refine r_iconst L_86_12 kI_3 ?_
    refine r_cs L_86_13 (by decide) rfl (V_93 ?_)
    refine r_ifeqP L_86_16 (i_mono h (fun c2 h => ?_) (fun c2 h => ?_))
    · refine r_bipush L_86_19 kB_m2 ?_
      exact r_iret L_86_21 RT_86 h
    · refine r_iconst L_86_22 kI_0 ?_
      refine r_istore_n (ls1 := [some (.inr (27, 0)), some (.inl x1), some (.inl x2), some (.inl 0), none, none]) L_86_23 (Nat.le_of_ble_eq_true rfl) rfl ?_
      refine r_iconst L_86_24 kI_5 ?_
      refine r_istore (ls1 := [some (.inr (27, 0)), some (.inl x1), some (.inl x2), some (.inl 0), some (.inl 5), none]) L_86_25 (Nat.le_of_ble_eq_true rfl) rfl ?_
      exact h _
def H_87_72 (x1 x2 x3 x4 x5 x6 : Int32) (m : aM) (Q : Int32 → aM → Prop) : Prop := ∀ d7 : Option aV, Rg 87 72 [some (.inr (27, 0)), some (.inl x1), some (.inl x2), some (.inl x3), some (.inl x4), some (.inl x5), some (.inl x6), d7] [] m (qI Q)
/-- VacantAir.allowedFrom, the loop at 72 -/
theorem T_87_72 {x1 x2 x3 x4 x5 x6 : Int32} {m : aM} {Q : Int32 → aM → Prop} (h :
   if x6 < (m 2 0 7) then
    (a_in x6 8 = true ∧
     (∀ m3, m3 = a_up m 0 1 4 (m 14 0 x6.toNatClampNeg) →
     if (m3 0 0 4) < (m 14 0 x6.toNatClampNeg) then
      (if x5 = (-6) then
       (Mi 53 [.inr (0, 1), .inl x1, .inl x4, .inl x2, .inl x3] m3 (fun v7 m6 =>
        if v7 = 0 then
         H_87_72 x1 x2 x3 x4 x5 (x6 + 1) m6 Q
        else
         H_87_72 x1 x2 x3 x4 (m 14 0 x6.toNatClampNeg) (x6 + 1) m6 Q))
      else
       if (m 14 0 x6.toNatClampNeg) < x5 then
        (Mi 53 [.inr (0, 1), .inl x1, .inl x4, .inl x2, .inl x3] m3 (fun v11 m10 =>
         if v11 = 0 then
          H_87_72 x1 x2 x3 x4 x5 (x6 + 1) m10 Q
         else
          H_87_72 x1 x2 x3 x4 (m 14 0 x6.toNatClampNeg) (x6 + 1) m10 Q))
       else
        H_87_72 x1 x2 x3 x4 x5 (x6 + 1) m3 Q)
     else
      H_87_72 x1 x2 x3 x4 x5 (x6 + 1) m3 Q))
   else
    Q x5 m
  ) : H_87_72 x1 x2 x3 x4 x5 x6 m Q := by
  intro d7
  show Rg 87 72 [some (.inr (27, 0)), some (.inl x1), some (.inl x2), some (.inl x3), some (.inl x4), some (.inl x5), some (.inl x6), d7] [] m (qI Q)
  refine r_iload L_87_72 rfl ?_
  refine r_aload_n L_87_74 rfl ?_
  refine r_getr (c' := 0) (d' := 0) L_87_75 rfl rfl ?_
  refine r_getr (c' := 2) (d' := 0) L_87_78 rfl rfl ?_
  refine r_geti L_87_81 rfl rfl ?_
  refine r_icmpn L_87_84 cc_ge (i_mono h (fun c1 h => ?_) (fun c1 h => ?_))
  · refine r_aload_n L_87_87 rfl ?_
    refine r_getr (c' := 0) (d' := 0) L_87_88 rfl rfl ?_
    refine r_getr (c' := 2) (d' := 0) L_87_91 rfl rfl ?_
    refine r_getr (c' := 14) (d' := 0) L_87_94 rfl rfl ?_
    refine r_iload L_87_97 rfl ?_
    obtain ⟨g2, h⟩ := h
    refine r_iald (N := 8) (j := x6.toNatClampNeg) L_87_99 (by decide +kernel) rfl g2 rfl ?_
    refine r_istore (ls1 := [some (.inr (27, 0)), some (.inl x1), some (.inl x2), some (.inl x3), some (.inl x4), some (.inl x5), some (.inl x6), some (.inl (m 14 0 x6.toNatClampNeg))]) L_87_100 (Nat.le_of_ble_eq_true rfl) rfl ?_
    refine r_aload_n L_87_102 rfl ?_
    refine r_getr (c' := 0) (d' := 1) L_87_103 rfl rfl ?_
    refine r_iload L_87_106 rfl ?_
    refine r_put L_87_108 ⟨rfl, rfl⟩ (fun z => absurd z (by decide)) ?_
    refine r_nm fun m3 em3 => ?_
    have h := h m3 em3
    refine r_iload L_87_111 rfl ?_
    refine r_aload_n L_87_113 rfl ?_
    refine r_getr (c' := 0) (d' := 0) L_87_114 rfl rfl ?_
    refine r_geti L_87_117 rfl rfl ?_
    refine r_icmpn L_87_120 cc_le (i_mono h (fun c4 h => ?_) (fun c4 h => ?_))
    · refine r_iload L_87_123 rfl ?_
      refine r_bipush L_87_125 kB_m6 ?_
      refine r_icmp L_87_127 rfl (i_mono h (fun c5 h => ?_) (fun c5 h => ?_))
      · refine r_aload_n L_87_137 rfl ?_
        refine r_getr (c' := 0) (d' := 1) L_87_138 rfl rfl ?_
        refine r_iload_n L_87_141 rfl ?_
        refine r_iload L_87_142 rfl ?_
        refine r_iload_n L_87_144 rfl ?_
        refine r_iload_n L_87_145 rfl ?_
        refine r_cv L_87_146 rfl (Mi_mono h fun v7 m6 h => ?_)
        refine r_if L_87_149 rfl (i_mono h (fun c8 h => ?_) (fun c8 h => ?_))
        · refine r_iinc (ls1 := [some (.inr (27, 0)), some (.inl x1), some (.inl x2), some (.inl x3), some (.inl x4), some (.inl x5), some (.inl (x6 + 1)), some (.inl (m 14 0 x6.toNatClampNeg))]) L_87_156 kI_1 rfl (Nat.le_of_ble_eq_true rfl) rfl ?_
          refine r_goto L_87_159 ?_
          exact h _
        · refine r_iload L_87_152 rfl ?_
          refine r_istore (ls1 := [some (.inr (27, 0)), some (.inl x1), some (.inl x2), some (.inl x3), some (.inl x4), some (.inl (m 14 0 x6.toNatClampNeg)), some (.inl x6), some (.inl (m 14 0 x6.toNatClampNeg))]) L_87_154 (Nat.le_of_ble_eq_true rfl) rfl ?_
          refine r_iinc (ls1 := [some (.inr (27, 0)), some (.inl x1), some (.inl x2), some (.inl x3), some (.inl x4), some (.inl (m 14 0 x6.toNatClampNeg)), some (.inl (x6 + 1)), some (.inl (m 14 0 x6.toNatClampNeg))]) L_87_156 kI_1 rfl (Nat.le_of_ble_eq_true rfl) rfl ?_
          refine r_goto L_87_159 ?_
          exact h _
      · refine r_iload L_87_130 rfl ?_
        refine r_iload L_87_132 rfl ?_
        refine r_icmpn L_87_134 cc_ge (i_mono h (fun c9 h => ?_) (fun c9 h => ?_))
        · refine r_aload_n L_87_137 rfl ?_
          refine r_getr (c' := 0) (d' := 1) L_87_138 rfl rfl ?_
          refine r_iload_n L_87_141 rfl ?_
          refine r_iload L_87_142 rfl ?_
          refine r_iload_n L_87_144 rfl ?_
          refine r_iload_n L_87_145 rfl ?_
          refine r_cv L_87_146 rfl (Mi_mono h fun v11 m10 h => ?_)
          refine r_if L_87_149 rfl (i_mono h (fun c12 h => ?_) (fun c12 h => ?_))
          · refine r_iinc (ls1 := [some (.inr (27, 0)), some (.inl x1), some (.inl x2), some (.inl x3), some (.inl x4), some (.inl x5), some (.inl (x6 + 1)), some (.inl (m 14 0 x6.toNatClampNeg))]) L_87_156 kI_1 rfl (Nat.le_of_ble_eq_true rfl) rfl ?_
            refine r_goto L_87_159 ?_
            exact h _
          · refine r_iload L_87_152 rfl ?_
            refine r_istore (ls1 := [some (.inr (27, 0)), some (.inl x1), some (.inl x2), some (.inl x3), some (.inl x4), some (.inl (m 14 0 x6.toNatClampNeg)), some (.inl x6), some (.inl (m 14 0 x6.toNatClampNeg))]) L_87_154 (Nat.le_of_ble_eq_true rfl) rfl ?_
            refine r_iinc (ls1 := [some (.inr (27, 0)), some (.inl x1), some (.inl x2), some (.inl x3), some (.inl x4), some (.inl (m 14 0 x6.toNatClampNeg)), some (.inl (x6 + 1)), some (.inl (m 14 0 x6.toNatClampNeg))]) L_87_156 kI_1 rfl (Nat.le_of_ble_eq_true rfl) rfl ?_
            refine r_goto L_87_159 ?_
            exact h _
        · refine r_iinc (ls1 := [some (.inr (27, 0)), some (.inl x1), some (.inl x2), some (.inl x3), some (.inl x4), some (.inl x5), some (.inl (x6 + 1)), some (.inl (m 14 0 x6.toNatClampNeg))]) L_87_156 kI_1 rfl (Nat.le_of_ble_eq_true rfl) rfl ?_
          refine r_goto L_87_159 ?_
          exact h _
    · refine r_iinc (ls1 := [some (.inr (27, 0)), some (.inl x1), some (.inl x2), some (.inl x3), some (.inl x4), some (.inl x5), some (.inl (x6 + 1)), some (.inl (m 14 0 x6.toNatClampNeg))]) L_87_156 kI_1 rfl (Nat.le_of_ble_eq_true rfl) rfl ?_
      refine r_goto L_87_159 ?_
      exact h _
  · refine r_iload L_87_162 rfl ?_
    exact r_iret L_87_164 RT_87 h
/-- VacantAir.allowedFrom -/
theorem T_87 {x1 x2 x3 x4 : Int32} {m : aM} {Q : Int32 → aM → Prop} (h :
   if x1 < 0 ∨ 7 < x1 then
    Q (-2) m
   else
    if (x2 < 0 ∨ 99 < x2) ∨ (x3 < 0 ∨ 99 < x3) then
     Q (-2) m
    else
     if x4 < 0 ∨ 3 < x4 then
      Q (-2) m
     else
      Mi 53 [.inr (0, 0), .inl x1, .inl x4, .inl x2, .inl x3] m (fun v5 m4 =>
       if v5 = 0 then
        (Mv 30 [.inr (0, 1), .inr (0, 0)] m4 (fun m7 =>
         H_87_72 x1 x2 x3 x4 (-6) 0 m7 Q))
       else
        Q (m4 0 0 4) m4)
  ) : Mi 87 [.inr (27, 0), .inl x1, .inl x2, .inl x3, .inl x4] m Q := by
  refine Mi_in ML_87 (show Rg 87 0 [some (.inr (27, 0)), some (.inl x1), some (.inl x2), some (.inl x3), some (.inl x4), none, none, none] [] m (qI Q) from ?_)
  refine r_iload_n L_87_0 rfl ?_
  refine r_iconst L_87_1 kI_0 ?_
  refine r_bipush L_87_2 kB_7 ?_
  refine r_cs L_87_4 (by decide) rfl (V_93 ?_)
  refine r_ifneP L_87_7 (i_mono h (fun c1 h => ?_) (fun c1 h => ?_))
  · refine r_bipush L_87_28 kB_m2 ?_
    exact r_iret L_87_30 RT_87 h
  · refine r_iload_n L_87_10 rfl ?_
    refine r_iload_n L_87_11 rfl ?_
    refine r_cs L_87_12 (by decide) rfl (V_94 ?_)
    refine r_ifneP L_87_15 (i_mono h (fun c2 h => ?_) (fun c2 h => ?_))
    · refine r_bipush L_87_28 kB_m2 ?_
      exact r_iret L_87_30 RT_87 h
    · refine r_iload L_87_18 rfl ?_
      refine r_iconst L_87_20 kI_0 ?_
      refine r_iconst L_87_21 kI_3 ?_
      refine r_cs L_87_22 (by decide) rfl (V_93 ?_)
      refine r_ifeqP L_87_25 (i_mono h (fun c3 h => ?_) (fun c3 h => ?_))
      · refine r_bipush L_87_28 kB_m2 ?_
        exact r_iret L_87_30 RT_87 h
      · refine r_aload_n L_87_31 rfl ?_
        refine r_getr (c' := 0) (d' := 0) L_87_32 rfl rfl ?_
        refine r_iload_n L_87_35 rfl ?_
        refine r_iload L_87_36 rfl ?_
        refine r_iload_n L_87_38 rfl ?_
        refine r_iload_n L_87_39 rfl ?_
        refine r_cv L_87_40 rfl (Mi_mono h fun v5 m4 h => ?_)
        refine r_if L_87_43 rfl (i_mono h (fun c6 h => ?_) (fun c6 h => ?_))
        · refine r_aload_n L_87_54 rfl ?_
          refine r_getr (c' := 0) (d' := 1) L_87_55 rfl rfl ?_
          refine r_aload_n L_87_58 rfl ?_
          refine r_getr (c' := 0) (d' := 0) L_87_59 rfl rfl ?_
          refine r_cvv L_87_62 rfl (Mv_mono h fun m7 h => ?_)
          refine r_bipush L_87_65 kB_m6 ?_
          refine r_istore (ls1 := [some (.inr (27, 0)), some (.inl x1), some (.inl x2), some (.inl x3), some (.inl x4), some (.inl (-6)), none, none]) L_87_67 (Nat.le_of_ble_eq_true rfl) rfl ?_
          refine r_iconst L_87_69 kI_0 ?_
          refine r_istore (ls1 := [some (.inr (27, 0)), some (.inl x1), some (.inl x2), some (.inl x3), some (.inl x4), some (.inl (-6)), some (.inl 0), none]) L_87_70 (Nat.le_of_ble_eq_true rfl) rfl ?_
          exact h _
        · refine r_aload_n L_87_46 rfl ?_
          refine r_getr (c' := 0) (d' := 0) L_87_47 rfl rfl ?_
          refine r_geti L_87_50 rfl rfl ?_
          exact r_iret L_87_53 RT_87 h
def H_88_60 (x1 x2 x3 : Int32) (m : aM) (Q : Int32 → aM → Prop) : Prop := Rg 88 60 [some (.inr (27, 0)), some (.inl x1), some (.inl x2), some (.inl x3)] [] m (qI Q)
/-- VacantAir.wouldStrike, the loop at 60 -/
theorem T_88_60 {x1 x2 x3 : Int32} {m : aM} {Q : Int32 → aM → Prop} (h :
   if x3 < (m 3 0 10) then
    (a_in x3 16 = true ∧
     if ¬ m 22 1 x3.toNatClampNeg = (-1) then
      (if ¬ m 22 0 x3.toNatClampNeg = (-1) then
       H_88_60 x1 x2 (x3 + 1) m Q
      else
       H_88_60 x1 (x2 + 1) (x3 + 1) m Q)
     else
      H_88_60 x1 x2 (x3 + 1) m Q)
   else
    Q x2 m
  ) : H_88_60 x1 x2 x3 m Q := by
  show Rg 88 60 [some (.inr (27, 0)), some (.inl x1), some (.inl x2), some (.inl x3)] [] m (qI Q)
  refine r_iload_n L_88_60 rfl ?_
  refine r_aload_n L_88_61 rfl ?_
  refine r_getr (c' := 0) (d' := 0) L_88_62 rfl rfl ?_
  refine r_getr (c' := 3) (d' := 0) L_88_65 rfl rfl ?_
  refine r_geti L_88_68 rfl rfl ?_
  refine r_icmpn L_88_71 cc_ge (i_mono h (fun c1 h => ?_) (fun c1 h => ?_))
  · refine r_aload_n L_88_74 rfl ?_
    refine r_getr (c' := 0) (d' := 1) L_88_75 rfl rfl ?_
    refine r_getr (c' := 3) (d' := 1) L_88_78 rfl rfl ?_
    refine r_iload_n L_88_81 rfl ?_
    obtain ⟨g2, h⟩ := h
    refine r_cv L_88_82 rfl (V_11 g2 ?_)
    refine r_ifeqP L_88_85 (i_mono h (fun c3 h => ?_) (fun c3 h => ?_))
    · refine r_aload_n L_88_88 rfl ?_
      refine r_getr (c' := 0) (d' := 0) L_88_89 rfl rfl ?_
      refine r_getr (c' := 3) (d' := 0) L_88_92 rfl rfl ?_
      refine r_iload_n L_88_95 rfl ?_
      refine r_cv L_88_96 rfl (V_11 g2 ?_)
      refine r_ifneP L_88_99 (i_mono h (fun c4 h => ?_) (fun c4 h => ?_))
      · refine r_iinc (ls1 := [some (.inr (27, 0)), some (.inl x1), some (.inl x2), some (.inl (x3 + 1))]) L_88_105 kI_1 rfl (Nat.le_of_ble_eq_true rfl) rfl ?_
        refine r_goto L_88_108 ?_
        exact h
      · refine r_iinc (ls1 := [some (.inr (27, 0)), some (.inl x1), some (.inl (x2 + 1)), some (.inl x3)]) L_88_102 kI_1 rfl (Nat.le_of_ble_eq_true rfl) rfl ?_
        refine r_iinc (ls1 := [some (.inr (27, 0)), some (.inl x1), some (.inl (x2 + 1)), some (.inl (x3 + 1))]) L_88_105 kI_1 rfl (Nat.le_of_ble_eq_true rfl) rfl ?_
        refine r_goto L_88_108 ?_
        exact h
    · refine r_iinc (ls1 := [some (.inr (27, 0)), some (.inl x1), some (.inl x2), some (.inl (x3 + 1))]) L_88_105 kI_1 rfl (Nat.le_of_ble_eq_true rfl) rfl ?_
      refine r_goto L_88_108 ?_
      exact h
  · refine r_iload_n L_88_111 rfl ?_
    exact r_iret L_88_112 RT_88 h
/-- VacantAir.wouldStrike -/
theorem T_88 {x1 : Int32} {m : aM} {Q : Int32 → aM → Prop} (h :
   if ¬ x1 < 0 ∧ x1 < m 1 0 5 then
    (a_in x1 8 = true ∧
     if (m 8 0 x1.toNatClampNeg) = 1 then
      Q (-3) m
     else
      Mv 30 [.inr (0, 1), .inr (0, 0)] m (fun m4 =>
       Mi 35 [.inr (0, 1), .inl x1, .inl 1] m4 (fun v6 m5 =>
        H_88_60 x1 0 0 m5 Q)))
   else
    Q (-1) m
  ) : Mi 88 [.inr (27, 0), .inl x1] m Q := by
  refine Mi_in ML_88 (show Rg 88 0 [some (.inr (27, 0)), some (.inl x1), none, none] [] m (qI Q) from ?_)
  refine r_aload_n L_88_0 rfl ?_
  refine r_getr (c' := 0) (d' := 0) L_88_1 rfl rfl ?_
  refine r_getr (c' := 1) (d' := 0) L_88_4 rfl rfl ?_
  refine r_iload_n L_88_7 rfl ?_
  refine r_cv L_88_8 rfl (V_56 ?_)
  refine r_ifneP L_88_11 (i_mono h (fun c1 h => ?_) (fun c1 h => ?_))
  · refine r_aload_n L_88_16 rfl ?_
    refine r_getr (c' := 0) (d' := 0) L_88_17 rfl rfl ?_
    refine r_getr (c' := 1) (d' := 0) L_88_20 rfl rfl ?_
    refine r_getr (c' := 8) (d' := 0) L_88_23 rfl rfl ?_
    refine r_iload_n L_88_26 rfl ?_
    obtain ⟨g2, h⟩ := h
    refine r_iald (N := 8) (j := x1.toNatClampNeg) L_88_27 (by decide +kernel) rfl g2 rfl ?_
    refine r_iconst L_88_28 kI_1 ?_
    refine r_icmpn L_88_29 rfl (i_mono h (fun c3 h => ?_) (fun c3 h => ?_))
    · refine r_bipush L_88_32 kB_m3 ?_
      exact r_iret L_88_34 RT_88 h
    · refine r_aload_n L_88_35 rfl ?_
      refine r_getr (c' := 0) (d' := 1) L_88_36 rfl rfl ?_
      refine r_aload_n L_88_39 rfl ?_
      refine r_getr (c' := 0) (d' := 0) L_88_40 rfl rfl ?_
      refine r_cvv L_88_43 rfl (Mv_mono h fun m4 h => ?_)
      refine r_aload_n L_88_46 rfl ?_
      refine r_getr (c' := 0) (d' := 1) L_88_47 rfl rfl ?_
      refine r_iload_n L_88_50 rfl ?_
      refine r_iconst L_88_51 kI_1 ?_
      refine r_cv L_88_52 rfl (Mi_mono h fun v6 m5 h => ?_)
      refine r_pop L_88_55 ?_
      refine r_iconst L_88_56 kI_0 ?_
      refine r_istore_n (ls1 := [some (.inr (27, 0)), some (.inl x1), some (.inl 0), none]) L_88_57 (Nat.le_of_ble_eq_true rfl) rfl ?_
      refine r_iconst L_88_58 kI_0 ?_
      refine r_istore_n (ls1 := [some (.inr (27, 0)), some (.inl x1), some (.inl 0), some (.inl 0)]) L_88_59 (Nat.le_of_ble_eq_true rfl) rfl ?_
      exact h
  · refine r_iconst L_88_14 kI_m1 ?_
    exact r_iret L_88_15 RT_88 h
def H_89_42 (x1 x2 x3 : Int32) (m : aM) (Q : Int32 → aM → Prop) : Prop := Rg 89 42 [some (.inr (27, 0)), some (.inl x1), some (.inl x2), some (.inl x3)] [] m (qI Q)
/-- VacantAir.channelIn, the loop at 42 -/
theorem T_89_42 {x1 x2 x3 : Int32} {m : aM} {Q : Int32 → aM → Prop} (h :
   if x3 < x2 then
    (Mi 41 [.inr (0, 1)] m (fun v3 m2 =>
     H_89_42 x1 x2 (x3 + 1) m2 Q))
   else
    a_in x1 16 = true ∧
     if ¬ m 19 1 x1.toNatClampNeg = (-1) then
      Q (m 19 1 x1.toNatClampNeg) m
     else
      Q (-6) m
  ) : H_89_42 x1 x2 x3 m Q := by
  show Rg 89 42 [some (.inr (27, 0)), some (.inl x1), some (.inl x2), some (.inl x3)] [] m (qI Q)
  refine r_iload_n L_89_42 rfl ?_
  refine r_iload_n L_89_43 rfl ?_
  refine r_icmpn L_89_44 cc_ge (i_mono h (fun c1 h => ?_) (fun c1 h => ?_))
  · refine r_aload_n L_89_47 rfl ?_
    refine r_getr (c' := 0) (d' := 1) L_89_48 rfl rfl ?_
    refine r_cv L_89_51 rfl (Mi_mono h fun v3 m2 h => ?_)
    refine r_pop L_89_54 ?_
    refine r_iinc (ls1 := [some (.inr (27, 0)), some (.inl x1), some (.inl x2), some (.inl (x3 + 1))]) L_89_55 kI_1 rfl (Nat.le_of_ble_eq_true rfl) rfl ?_
    refine r_goto L_89_58 ?_
    exact h
  · refine r_aload_n L_89_61 rfl ?_
    refine r_getr (c' := 0) (d' := 1) L_89_62 rfl rfl ?_
    refine r_getr (c' := 3) (d' := 1) L_89_65 rfl rfl ?_
    refine r_iload_n L_89_68 rfl ?_
    obtain ⟨g4, h⟩ := h
    refine r_cv L_89_69 rfl (V_10 g4 ?_)
    refine r_ifeqP L_89_72 (i_mono h (fun c5 h => ?_) (fun c5 h => ?_))
    · refine r_aload_n L_89_75 rfl ?_
      refine r_getr (c' := 0) (d' := 1) L_89_76 rfl rfl ?_
      refine r_getr (c' := 3) (d' := 1) L_89_79 rfl rfl ?_
      refine r_getr (c' := 19) (d' := 1) L_89_82 rfl rfl ?_
      refine r_iload_n L_89_85 rfl ?_
      refine r_iald (N := 16) (j := x1.toNatClampNeg) L_89_86 (by decide +kernel) rfl g4 rfl ?_
      refine r_goto L_89_87 ?_
      exact r_iret L_89_92 RT_89 h
    · refine r_bipush L_89_90 kB_m6 ?_
      exact r_iret L_89_92 RT_89 h
/-- VacantAir.channelIn -/
theorem T_89 {x1 x2 : Int32} {m : aM} {Q : Int32 → aM → Prop} (h :
   if ¬ x1 < 0 ∧ x1 < m 3 0 10 then
    (if x2 < 0 ∨ 99 < x2 then
     Q (-2) m
    else
     Mv 30 [.inr (0, 1), .inr (0, 0)] m (fun m3 =>
      H_89_42 x1 x2 0 m3 Q))
   else
    Q (-1) m
  ) : Mi 89 [.inr (27, 0), .inl x1, .inl x2] m Q := by
  refine Mi_in ML_89 (show Rg 89 0 [some (.inr (27, 0)), some (.inl x1), some (.inl x2), none] [] m (qI Q) from ?_)
  refine r_aload_n L_89_0 rfl ?_
  refine r_getr (c' := 0) (d' := 0) L_89_1 rfl rfl ?_
  refine r_getr (c' := 3) (d' := 0) L_89_4 rfl rfl ?_
  refine r_iload_n L_89_7 rfl ?_
  refine r_cv L_89_8 rfl (V_9 ?_)
  refine r_ifneP L_89_11 (i_mono h (fun c1 h => ?_) (fun c1 h => ?_))
  · refine r_iload_n L_89_16 rfl ?_
    refine r_iconst L_89_17 kI_0 ?_
    refine r_bipush L_89_18 kB_99 ?_
    refine r_cs L_89_20 (by decide) rfl (V_93 ?_)
    refine r_ifeqP L_89_23 (i_mono h (fun c2 h => ?_) (fun c2 h => ?_))
    · refine r_bipush L_89_26 kB_m2 ?_
      exact r_iret L_89_28 RT_89 h
    · refine r_aload_n L_89_29 rfl ?_
      refine r_getr (c' := 0) (d' := 1) L_89_30 rfl rfl ?_
      refine r_aload_n L_89_33 rfl ?_
      refine r_getr (c' := 0) (d' := 0) L_89_34 rfl rfl ?_
      refine r_cvv L_89_37 rfl (Mv_mono h fun m3 h => ?_)
      refine r_iconst L_89_40 kI_0 ?_
      refine r_istore_n (ls1 := [some (.inr (27, 0)), some (.inl x1), some (.inl x2), some (.inl 0)]) L_89_41 (Nat.le_of_ble_eq_true rfl) rfl ?_
      exact h
  · refine r_iconst L_89_14 kI_m1 ?_
    exact r_iret L_89_15 RT_89 h
def H_90_13 (x1 : Int32) (m : aM) (Q : Int32 → aM → Prop) : Prop := Rg 90 13 [some (.inr (27, 0)), some (.inl x1)] [] m (qI Q)
/-- VacantAir.clearIn, the loop at 13 -/
theorem T_90_13 {x1 : Int32} {m : aM} {Q : Int32 → aM → Prop} (h :
   if 50 < x1 then
    Q (-6) m
   else
    Mi 17 [.inr (3, 1)] m (fun v3 m2 =>
     if v3 = 0 then
      Q x1 m2
     else
      Mi 41 [.inr (0, 1)] m2 (fun v6 m5 =>
       H_90_13 (x1 + 1) m5 Q))
  ) : H_90_13 x1 m Q := by
  show Rg 90 13 [some (.inr (27, 0)), some (.inl x1)] [] m (qI Q)
  refine r_iload_n L_90_13 rfl ?_
  refine r_bipush L_90_14 kB_50 ?_
  refine r_icmp L_90_16 rfl (i_mono h (fun c1 h => ?_) (fun c1 h => ?_))
  · refine r_bipush L_90_48 kB_m6 ?_
    exact r_iret L_90_50 RT_90 h
  · refine r_aload_n L_90_19 rfl ?_
    refine r_getr (c' := 0) (d' := 1) L_90_20 rfl rfl ?_
    refine r_getr (c' := 3) (d' := 1) L_90_23 rfl rfl ?_
    refine r_cv L_90_26 rfl (Mi_mono h fun v3 m2 h => ?_)
    refine r_ifn L_90_29 rfl (i_mono h (fun c4 h => ?_) (fun c4 h => ?_))
    · refine r_iload_n L_90_32 rfl ?_
      exact r_iret L_90_33 RT_90 h
    · refine r_aload_n L_90_34 rfl ?_
      refine r_getr (c' := 0) (d' := 1) L_90_35 rfl rfl ?_
      refine r_cv L_90_38 rfl (Mi_mono h fun v6 m5 h => ?_)
      refine r_pop L_90_41 ?_
      refine r_iinc (ls1 := [some (.inr (27, 0)), some (.inl (x1 + 1))]) L_90_42 kI_1 rfl (Nat.le_of_ble_eq_true rfl) rfl ?_
      refine r_goto L_90_45 ?_
      exact h
/-- VacantAir.clearIn -/
theorem T_90 {m : aM} {Q : Int32 → aM → Prop} (h :
   Mv 30 [.inr (0, 1), .inr (0, 0)] m (fun m1 =>
    H_90_13 0 m1 Q)
  ) : Mi 90 [.inr (27, 0)] m Q := by
  refine Mi_in ML_90 (show Rg 90 0 [some (.inr (27, 0)), none] [] m (qI Q) from ?_)
  refine r_aload_n L_90_0 rfl ?_
  refine r_getr (c' := 0) (d' := 1) L_90_1 rfl rfl ?_
  refine r_aload_n L_90_4 rfl ?_
  refine r_getr (c' := 0) (d' := 0) L_90_5 rfl rfl ?_
  refine r_cvv L_90_8 rfl (Mv_mono h fun m1 h => ?_)
  refine r_iconst L_90_11 kI_0 ?_
  refine r_istore_n (ls1 := [some (.inr (27, 0)), some (.inl 0)]) L_90_12 (Nat.le_of_ble_eq_true rfl) rfl ?_
  exact h
/-- VacantAir.recorded -/
theorem T_91 {x1 : Int32} {m : aM} {Q : Int32 → aM → Prop} (h :
   if x1 < 0 then
    Q x1 m
   else
    Mv 28 [.inr (28, 0)] m (fun m2 =>
     Q x1 m2)
  ) : Mi 91 [.inr (27, 0), .inl x1] m Q := by
  refine Mi_in ML_91 (show Rg 91 0 [some (.inr (27, 0)), some (.inl x1)] [] m (qI Q) from ?_)
  refine r_iload_n L_91_0 rfl ?_
  refine r_if L_91_1 rfl (i_mono h (fun c1 h => ?_) (fun c1 h => ?_))
  · refine r_iload_n L_91_11 rfl ?_
    exact r_iret L_91_12 RT_91 h
  · refine r_aload_n L_91_4 rfl ?_
    refine r_getr (c' := 28) (d' := 0) L_91_5 rfl rfl ?_
    refine r_cvv L_91_8 rfl (Mv_mono h fun m2 h => ?_)
    refine r_iload_n L_91_11 rfl ?_
    exact r_iret L_91_12 RT_91 h
def H_92_28 (x1 x2 x3 : Int32) (m : aM) (Q : Int32 → aM → Prop) : Prop := Rg 92 28 [some (.inr (27, 0)), some (.inl x1), some (.inl x2), some (.inl x3)] [] m (qI Q)
/-- VacantAir.barredAlone, the loop at 28 -/
theorem T_92_28 {x1 x2 x3 : Int32} {m : aM} {Q : Int32 → aM → Prop} (h :
   if x3 < (m 3 0 10) then
    (a_in x3 16 = true ∧
     if ¬ m 19 0 x3.toNatClampNeg = (-1) then
      (Mi 52 [.inr (0, 0), .inl x3] m (fun v5 m4 =>
       if v5 = 0 then
        (Mi 52 [.inr (0, 1), .inl x3] m4 (fun v8 m7 =>
         if v8 = 0 then
          H_92_28 x1 x2 (x3 + 1) m7 Q
         else
          H_92_28 x1 (x2 + 1) (x3 + 1) m7 Q))
       else
        H_92_28 x1 x2 (x3 + 1) m4 Q))
     else
      H_92_28 x1 x2 (x3 + 1) m Q)
   else
    Q x2 m
  ) : H_92_28 x1 x2 x3 m Q := by
  show Rg 92 28 [some (.inr (27, 0)), some (.inl x1), some (.inl x2), some (.inl x3)] [] m (qI Q)
  refine r_iload_n L_92_28 rfl ?_
  refine r_aload_n L_92_29 rfl ?_
  refine r_getr (c' := 0) (d' := 0) L_92_30 rfl rfl ?_
  refine r_getr (c' := 3) (d' := 0) L_92_33 rfl rfl ?_
  refine r_geti L_92_36 rfl rfl ?_
  refine r_icmpn L_92_39 cc_ge (i_mono h (fun c1 h => ?_) (fun c1 h => ?_))
  · refine r_aload_n L_92_42 rfl ?_
    refine r_getr (c' := 0) (d' := 0) L_92_43 rfl rfl ?_
    refine r_getr (c' := 3) (d' := 0) L_92_46 rfl rfl ?_
    refine r_iload_n L_92_49 rfl ?_
    obtain ⟨g2, h⟩ := h
    refine r_cv L_92_50 rfl (V_10 g2 ?_)
    refine r_ifeqP L_92_53 (i_mono h (fun c3 h => ?_) (fun c3 h => ?_))
    · refine r_aload_n L_92_56 rfl ?_
      refine r_getr (c' := 0) (d' := 0) L_92_57 rfl rfl ?_
      refine r_iload_n L_92_60 rfl ?_
      refine r_cv L_92_61 rfl (Mi_mono h fun v5 m4 h => ?_)
      refine r_ifn L_92_64 rfl (i_mono h (fun c6 h => ?_) (fun c6 h => ?_))
      · refine r_aload_n L_92_67 rfl ?_
        refine r_getr (c' := 0) (d' := 1) L_92_68 rfl rfl ?_
        refine r_iload_n L_92_71 rfl ?_
        refine r_cv L_92_72 rfl (Mi_mono h fun v8 m7 h => ?_)
        refine r_if L_92_75 rfl (i_mono h (fun c9 h => ?_) (fun c9 h => ?_))
        · refine r_iinc (ls1 := [some (.inr (27, 0)), some (.inl x1), some (.inl x2), some (.inl (x3 + 1))]) L_92_81 kI_1 rfl (Nat.le_of_ble_eq_true rfl) rfl ?_
          refine r_goto L_92_84 ?_
          exact h
        · refine r_iinc (ls1 := [some (.inr (27, 0)), some (.inl x1), some (.inl (x2 + 1)), some (.inl x3)]) L_92_78 kI_1 rfl (Nat.le_of_ble_eq_true rfl) rfl ?_
          refine r_iinc (ls1 := [some (.inr (27, 0)), some (.inl x1), some (.inl (x2 + 1)), some (.inl (x3 + 1))]) L_92_81 kI_1 rfl (Nat.le_of_ble_eq_true rfl) rfl ?_
          refine r_goto L_92_84 ?_
          exact h
      · refine r_iinc (ls1 := [some (.inr (27, 0)), some (.inl x1), some (.inl x2), some (.inl (x3 + 1))]) L_92_81 kI_1 rfl (Nat.le_of_ble_eq_true rfl) rfl ?_
        refine r_goto L_92_84 ?_
        exact h
    · refine r_iinc (ls1 := [some (.inr (27, 0)), some (.inl x1), some (.inl x2), some (.inl (x3 + 1))]) L_92_81 kI_1 rfl (Nat.le_of_ble_eq_true rfl) rfl ?_
      refine r_goto L_92_84 ?_
      exact h
  · refine r_iload_n L_92_87 rfl ?_
    exact r_iret L_92_88 RT_92 h
/-- VacantAir.barredAlone -/
theorem T_92 {x1 : Int32} {m : aM} {Q : Int32 → aM → Prop} (h :
   Mv 30 [.inr (0, 1), .inr (0, 0)] m (fun m1 =>
    (a_in x1 8 = true ∧
     (∀ m3, m3 = a_up m1 8 1 x1.toNatClampNeg 0 →
     H_92_28 x1 0 0 m3 Q)))
  ) : Mi 92 [.inr (27, 0), .inl x1] m Q := by
  refine Mi_in ML_92 (show Rg 92 0 [some (.inr (27, 0)), some (.inl x1), none, none] [] m (qI Q) from ?_)
  refine r_aload_n L_92_0 rfl ?_
  refine r_getr (c' := 0) (d' := 1) L_92_1 rfl rfl ?_
  refine r_aload_n L_92_4 rfl ?_
  refine r_getr (c' := 0) (d' := 0) L_92_5 rfl rfl ?_
  refine r_cvv L_92_8 rfl (Mv_mono h fun m1 h => ?_)
  refine r_aload_n L_92_11 rfl ?_
  refine r_getr (c' := 0) (d' := 1) L_92_12 rfl rfl ?_
  refine r_getr (c' := 1) (d' := 1) L_92_15 rfl rfl ?_
  refine r_getr (c' := 8) (d' := 1) L_92_18 rfl rfl ?_
  refine r_iload_n L_92_21 rfl ?_
  refine r_iconst L_92_22 kI_0 ?_
  obtain ⟨g2, h⟩ := h
  refine r_iast (N := 8) (j := x1.toNatClampNeg) L_92_23 (by decide +kernel) rfl g2 rfl ?_
  refine r_nm fun m3 em3 => ?_
  have h := h m3 em3
  refine r_iconst L_92_24 kI_0 ?_
  refine r_istore_n (ls1 := [some (.inr (27, 0)), some (.inl x1), some (.inl 0), none]) L_92_25 (Nat.le_of_ble_eq_true rfl) rfl ?_
  refine r_iconst L_92_26 kI_0 ?_
  refine r_istore_n (ls1 := [some (.inr (27, 0)), some (.inl x1), some (.inl 0), some (.inl 0)]) L_92_27 (Nat.le_of_ble_eq_true rfl) rfl ?_
  exact h
