/-! trees: what is left of a method when its rows are walked; by program (wip/whole/gen9.py) -/
/-- Model.wake -/
theorem T_136 {x1 : Int32} {m : aM} {Q : Int32 → aM → Prop} (h :
   Mi 135 [.inr (34, 0), .inl x1, .inl 1] m (fun v2 m1 =>
    Q v2 m1)
  ) : Mi 136 [.inr (34, 0), .inl x1] m Q := by
  refine Mi_in ML_136 (show Rg 136 0 [some (.inr (34, 0)), some (.inl x1)] [] m (qI Q) from ?_)
  refine r_aload_n L_136_0 rfl ?_
  refine r_iload_n L_136_1 rfl ?_
  refine r_iconst L_136_2 kI_1 ?_
  refine r_cv L_136_3 rfl (Mi_mono h fun v2 m1 h => ?_)
  exact r_iret L_136_6 RT_136 h
/-- Model.sleep -/
theorem T_137 {x1 : Int32} {m : aM} {Q : Int32 → aM → Prop} (h :
   Mi 135 [.inr (34, 0), .inl x1, .inl 0] m (fun v2 m1 =>
    Q v2 m1)
  ) : Mi 137 [.inr (34, 0), .inl x1] m Q := by
  refine Mi_in ML_137 (show Rg 137 0 [some (.inr (34, 0)), some (.inl x1)] [] m (qI Q) from ?_)
  refine r_aload_n L_137_0 rfl ?_
  refine r_iload_n L_137_1 rfl ?_
  refine r_iconst L_137_2 kI_0 ?_
  refine r_cv L_137_3 rfl (Mi_mono h fun v2 m1 h => ?_)
  exact r_iret L_137_6 RT_137 h
/-- Model.cancel -/
theorem T_138 {x1 : Int32} {m : aM} {Q : Int32 → aM → Prop} (h :
   if ¬ x1 < 0 ∧ x1 < m 35 0 2 then
    (a_in (48 + 7 * x1 + 6) 264 = true ∧
     if (m 35 0 (48 + 7 * x1 + 6).toNatClampNeg) = 1 then
      Q (-3) m
     else
      a_in (48 + 7 * x1 + 5) 264 = true ∧
       if (m 35 0 0) < (m 35 0 (48 + 7 * x1 + 5).toNatClampNeg) then
        (Mv 98 [.inr (34, 0)] m (fun m6 =>
         (a_in ((48 + (7 * x1)) + 6) 264 = true ∧
          (∀ m8, m8 = a_up m6 35 0 ((48 + (7 * x1)) + 6).toNatClampNeg 1 →
          Mv 125 [.inr (34, 0)] m8 (fun m9 =>
           Mi 127 [.inr (34, 0)] m9 (fun v11 m10 =>
            Q v11 m10))))))
       else
        Q (-3) m)
   else
    Q (-1) m
  ) : Mi 138 [.inr (34, 0), .inl x1] m Q := by
  refine Mi_in ML_138 (show Rg 138 0 [some (.inr (34, 0)), some (.inl x1)] [] m (qI Q) from ?_)
  refine r_aload_n L_138_0 rfl ?_
  refine r_iload_n L_138_1 rfl ?_
  refine r_cv L_138_2 rfl (V_102 ?_)
  refine r_ifneP L_138_5 (i_mono h (fun c1 h => ?_) (fun c1 h => ?_))
  · refine r_aload_n L_138_10 rfl ?_
    refine r_iload_n L_138_11 rfl ?_
    refine r_bipush L_138_12 kB_6 ?_
    obtain ⟨g2, h⟩ := h
    refine r_cv L_138_14 rfl (V_105 g2 ?_)
    refine r_iconst L_138_17 kI_1 ?_
    refine r_icmp L_138_18 rfl (i_mono h (fun c3 h => ?_) (fun c3 h => ?_))
    · refine r_bipush L_138_36 kB_m3 ?_
      exact r_iret L_138_38 RT_138 h
    · refine r_aload_n L_138_21 rfl ?_
      refine r_iload_n L_138_22 rfl ?_
      refine r_iconst L_138_23 kI_5 ?_
      obtain ⟨g4, h⟩ := h
      refine r_cv L_138_24 rfl (V_105 g4 ?_)
      refine r_aload_n L_138_27 rfl ?_
      refine r_getr (c' := 35) (d' := 0) L_138_28 rfl rfl ?_
      refine r_iconst L_138_31 kI_0 ?_
      refine r_iald (N := 264) (j := 0) L_138_32 (by decide +kernel) rfl (by decide +kernel) (by decide +kernel) ?_
      refine r_icmp L_138_33 rfl (i_mono h (fun c5 h => ?_) (fun c5 h => ?_))
      · refine r_aload_n L_138_39 rfl ?_
        refine r_cvv L_138_40 rfl (Mv_mono h fun m6 h => ?_)
        refine r_aload_n L_138_43 rfl ?_
        refine r_getr (c' := 35) (d' := 0) L_138_44 rfl rfl ?_
        refine r_bipush L_138_47 kB_48 ?_
        refine r_bipush L_138_49 kB_7 ?_
        refine r_iload_n L_138_51 rfl ?_
        refine r_imul L_138_52 ?_
        refine r_iadd L_138_53 ?_
        refine r_bipush L_138_54 kB_6 ?_
        refine r_iadd L_138_56 ?_
        refine r_iconst L_138_57 kI_1 ?_
        obtain ⟨g7, h⟩ := h
        refine r_iast (N := 264) (j := ((48 + (7 * x1)) + 6).toNatClampNeg) L_138_58 (by decide +kernel) rfl g7 rfl ?_
        refine r_nm fun m8 em8 => ?_
        have h := h m8 em8
        refine r_aload_n L_138_59 rfl ?_
        refine r_cvv L_138_60 rfl (Mv_mono h fun m9 h => ?_)
        refine r_aload_n L_138_63 rfl ?_
        refine r_cv L_138_64 rfl (Mi_mono h fun v11 m10 h => ?_)
        exact r_iret L_138_67 RT_138 h
      · refine r_bipush L_138_36 kB_m3 ?_
        exact r_iret L_138_38 RT_138 h
  · refine r_iconst L_138_8 kI_m1 ?_
    exact r_iret L_138_9 RT_138 h
/-- Model.refuses -/
theorem T_139 {x1 : Int32} {m : aM} {Q : Int32 → aM → Prop} (h :
   (∀ m1, m1 = a_up m 35 0 4 x1 →
   Q (-5) m1)
  ) : Mi 139 [.inr (34, 0), .inl x1] m Q := by
  refine Mi_in ML_139 (show Rg 139 0 [some (.inr (34, 0)), some (.inl x1)] [] m (qI Q) from ?_)
  refine r_aload_n L_139_0 rfl ?_
  refine r_getr (c' := 35) (d' := 0) L_139_1 rfl rfl ?_
  refine r_iconst L_139_4 kI_4 ?_
  refine r_iload_n L_139_5 rfl ?_
  refine r_iast (N := 264) (j := 4) L_139_6 (by decide +kernel) rfl (by decide +kernel) (by decide +kernel) ?_
  refine r_nm fun m1 em1 => ?_
  have h := h m1 em1
  refine r_bipush L_139_7 kB_m5 ?_
  exact r_iret L_139_9 RT_139 h
def H_140_5 (x1 x2 x3 x4 : Int32) (m : aM) (Q : Int32 → aM → Prop) : Prop := Rg 140 5 [some (.inr (34, 0)), some (.inl x1), some (.inl x2), some (.inl x3), some (.inl x4)] [] m (qI Q)
/-- Model.isAnyAllowed, the loop at 5 -/
theorem T_140_5 {x1 x2 x3 x4 : Int32} {m : aM} {Q : Int32 → aM → Prop} (h :
   if x4 < 8 then
    (if x3 = 0 then
     (Mi 119 [.inr (34, 0), .inl x1, .inl x4, .inl x2] m (fun v4 m3 =>
      if v4 = 0 then
       H_140_5 x1 x2 0 (x4 + 1) m3 Q
      else
       H_140_5 x1 x2 1 (x4 + 1) m3 Q))
    else
     H_140_5 x1 x2 1 (x4 + 1) m Q)
   else
    (x3 = 0 ∨ x3 = 1) ∧
     Q x3 m
  ) : H_140_5 x1 x2 x3 x4 m Q := by
  show Rg 140 5 [some (.inr (34, 0)), some (.inl x1), some (.inl x2), some (.inl x3), some (.inl x4)] [] m (qI Q)
  refine r_iload L_140_5 rfl ?_
  refine r_bipush L_140_7 kB_8 ?_
  refine r_icmpn L_140_9 cc_ge (i_mono h (fun c1 h => ?_) (fun c1 h => ?_))
  · refine r_iload_n L_140_12 rfl ?_
    refine r_ifn L_140_13 rfl (i_mono h (fun c2 h => ?_) (fun c2 h => ?_))
    · refine r_aload_n L_140_16 rfl ?_
      refine r_iload_n L_140_17 rfl ?_
      refine r_iload L_140_18 rfl ?_
      refine r_iload_n L_140_20 rfl ?_
      refine r_cv L_140_21 rfl (Mi_mono h fun v4 m3 h => ?_)
      refine r_if L_140_24 rfl (i_mono h (fun c5 h => ?_) (fun c5 h => ?_))
      · refine r_iconst L_140_31 kI_0 ?_
        refine r_istore_n (ls1 := [some (.inr (34, 0)), some (.inl x1), some (.inl x2), some (.inl 0), some (.inl x4)]) L_140_32 (Nat.le_of_ble_eq_true rfl) rfl ?_
        refine r_iinc (ls1 := [some (.inr (34, 0)), some (.inl x1), some (.inl x2), some (.inl 0), some (.inl (x4 + 1))]) L_140_33 kI_1 rfl (Nat.le_of_ble_eq_true rfl) rfl ?_
        refine r_goto L_140_36 ?_
        exact h
      · refine r_iconst L_140_27 kI_1 ?_
        refine r_goto L_140_28 ?_
        refine r_istore_n (ls1 := [some (.inr (34, 0)), some (.inl x1), some (.inl x2), some (.inl 1), some (.inl x4)]) L_140_32 (Nat.le_of_ble_eq_true rfl) rfl ?_
        refine r_iinc (ls1 := [some (.inr (34, 0)), some (.inl x1), some (.inl x2), some (.inl 1), some (.inl (x4 + 1))]) L_140_33 kI_1 rfl (Nat.le_of_ble_eq_true rfl) rfl ?_
        refine r_goto L_140_36 ?_
        exact h
    · refine r_iconst L_140_27 kI_1 ?_
      refine r_goto L_140_28 ?_
      refine r_istore_n (ls1 := [some (.inr (34, 0)), some (.inl x1), some (.inl x2), some (.inl 1), some (.inl x4)]) L_140_32 (Nat.le_of_ble_eq_true rfl) rfl ?_
      refine r_iinc (ls1 := [some (.inr (34, 0)), some (.inl x1), some (.inl x2), some (.inl 1), some (.inl (x4 + 1))]) L_140_33 kI_1 rfl (Nat.le_of_ble_eq_true rfl) rfl ?_
      refine r_goto L_140_36 ?_
      exact h
  · refine r_iload_n L_140_39 rfl ?_
    exact r_zret L_140_40 RT_140 h.1 h.2
/-- Model.isAnyAllowed -/
theorem T_140 {x1 x2 : Int32} {m : aM} {Q : Int32 → aM → Prop} (h :
   H_140_5 x1 x2 0 0 m Q
  ) : Mi 140 [.inr (34, 0), .inl x1, .inl x2] m Q := by
  refine Mi_in ML_140 (show Rg 140 0 [some (.inr (34, 0)), some (.inl x1), some (.inl x2), none, none] [] m (qI Q) from ?_)
  refine r_iconst L_140_0 kI_0 ?_
  refine r_istore_n (ls1 := [some (.inr (34, 0)), some (.inl x1), some (.inl x2), some (.inl 0), none]) L_140_1 (Nat.le_of_ble_eq_true rfl) rfl ?_
  refine r_iconst L_140_2 kI_0 ?_
  refine r_istore (ls1 := [some (.inr (34, 0)), some (.inl x1), some (.inl x2), some (.inl 0), some (.inl 0)]) L_140_3 (Nat.le_of_ble_eq_true rfl) rfl ?_
  exact h
/-- Model.lease -/
theorem T_141 {x1 x2 x3 : Int32} {m : aM} {Q : Int32 → aM → Prop} (h :
   if ¬ x1 < 0 ∧ x1 < m 35 0 3 then
    (if ¬ x2 < 0 ∧ ¬ 3 < x2 then
     (if ¬ x3 < 1 ∧ ¬ 99 < x3 then
      (a_in (104 + 10 * x1 + 3) 264 = true ∧
       if ¬ m 35 0 (104 + 10 * x1 + 3).toNatClampNeg = (-6) then
        (Mi 139 [.inr (34, 0), .inl 1] m (fun v7 m6 =>
         Q v7 m6))
       else
        a_in (104 + 10 * x1 + 2) 264 = true ∧
         if (m 35 0 (104 + 10 * x1 + 2).toNatClampNeg) < x2 then
          (Mi 139 [.inr (34, 0), .inl 2] m (fun v11 m10 =>
           Q v11 m10))
         else
          Mi 140 [.inr (34, 0), .inl x1, .inl x2] m (fun v13 m12 =>
           if v13 = 0 then
            (Mi 139 [.inr (34, 0), .inl 3] m12 (fun v16 m15 =>
             Q v16 m15))
           else
            Mi 123 [.inr (34, 0), .inl x1, .inl x2] m12 (fun v18 m17 =>
             if v18 = (-6) then
              (Mi 139 [.inr (34, 0), .inl 4] m17 (fun v21 m20 =>
               Q v21 m20))
             else
              Mv 98 [.inr (34, 0)] m17 (fun m22 =>
               (∀ m23, m23 = a_up m22 35 0 4 0 →
               (∀ m24, m24 = a_up m23 35 0 (104 + 10 * x1 + 3).toNatClampNeg v18 →
               a_in (104 + 10 * x1 + 4) 264 = true ∧
                (∀ m26, m26 = a_up m24 35 0 (104 + 10 * x1 + 4).toNatClampNeg x2 →
                a_in (104 + 10 * x1 + 5) 264 = true ∧
                 (∀ m28, m28 = a_up m26 35 0 (104 + 10 * x1 + 5).toNatClampNeg ((m26 35 0 0) + x3) →
                 a_in (104 + 10 * x1 + 6) 264 = true ∧
                  (∀ m30, m30 = a_up m28 35 0 (104 + 10 * x1 + 6).toNatClampNeg (-6) →
                  Q v18 m30)))))))))
     else
      Q (-2) m)
    else
     Q (-2) m)
   else
    Q (-1) m
  ) : Mi 141 [.inr (34, 0), .inl x1, .inl x2, .inl x3] m Q := by
  refine Mi_in ML_141 (show Rg 141 0 [some (.inr (34, 0)), some (.inl x1), some (.inl x2), some (.inl x3), none] [] m (qI Q) from ?_)
  refine r_aload_n L_141_0 rfl ?_
  refine r_iload_n L_141_1 rfl ?_
  refine r_cv L_141_2 rfl (V_103 ?_)
  refine r_ifneP L_141_5 (i_mono h (fun c1 h => ?_) (fun c1 h => ?_))
  · refine r_iload_n L_141_10 rfl ?_
    refine r_cs L_141_11 (by decide) rfl (V_110 ?_)
    refine r_ifeqP L_141_14 (i_mono h (fun c2 h => ?_) (fun c2 h => ?_))
    · refine r_iload_n L_141_17 rfl ?_
      refine r_iconst L_141_18 kI_1 ?_
      refine r_bipush L_141_19 kB_99 ?_
      refine r_cs L_141_21 (by decide) rfl (V_97 ?_)
      refine r_ifneP L_141_24 (i_mono h (fun c3 h => ?_) (fun c3 h => ?_))
      · refine r_aload_n L_141_30 rfl ?_
        refine r_iload_n L_141_31 rfl ?_
        obtain ⟨g4, h⟩ := h
        refine r_cv L_141_32 rfl (V_120 g4 ?_)
        refine r_ifeqP L_141_35 (i_mono h (fun c5 h => ?_) (fun c5 h => ?_))
        · refine r_aload_n L_141_38 rfl ?_
          refine r_iconst L_141_39 kI_1 ?_
          refine r_cv L_141_40 rfl (Mi_mono h fun v7 m6 h => ?_)
          exact r_iret L_141_43 RT_141 h
        · refine r_iload_n L_141_44 rfl ?_
          refine r_aload_n L_141_45 rfl ?_
          refine r_iload_n L_141_46 rfl ?_
          refine r_iconst L_141_47 kI_2 ?_
          obtain ⟨g8, h⟩ := h
          refine r_cv L_141_48 rfl (V_106 g8 ?_)
          refine r_icmpn L_141_51 cc_le (i_mono h (fun c9 h => ?_) (fun c9 h => ?_))
          · refine r_aload_n L_141_54 rfl ?_
            refine r_iconst L_141_55 kI_2 ?_
            refine r_cv L_141_56 rfl (Mi_mono h fun v11 m10 h => ?_)
            exact r_iret L_141_59 RT_141 h
          · refine r_aload_n L_141_60 rfl ?_
            refine r_iload_n L_141_61 rfl ?_
            refine r_iload_n L_141_62 rfl ?_
            refine r_cv L_141_63 rfl (Mi_mono h fun v13 m12 h => ?_)
            refine r_ifn L_141_66 rfl (i_mono h (fun c14 h => ?_) (fun c14 h => ?_))
            · refine r_aload_n L_141_69 rfl ?_
              refine r_iconst L_141_70 kI_3 ?_
              refine r_cv L_141_71 rfl (Mi_mono h fun v16 m15 h => ?_)
              exact r_iret L_141_74 RT_141 h
            · refine r_aload_n L_141_75 rfl ?_
              refine r_iload_n L_141_76 rfl ?_
              refine r_iload_n L_141_77 rfl ?_
              refine r_cv L_141_78 rfl (Mi_mono h fun v18 m17 h => ?_)
              refine r_istore (ls1 := [some (.inr (34, 0)), some (.inl x1), some (.inl x2), some (.inl x3), some (.inl v18)]) L_141_81 (Nat.le_of_ble_eq_true rfl) rfl ?_
              refine r_iload L_141_83 rfl ?_
              refine r_bipush L_141_85 kB_m6 ?_
              refine r_icmpn L_141_87 rfl (i_mono h (fun c19 h => ?_) (fun c19 h => ?_))
              · refine r_aload_n L_141_90 rfl ?_
                refine r_iconst L_141_91 kI_4 ?_
                refine r_cv L_141_92 rfl (Mi_mono h fun v21 m20 h => ?_)
                exact r_iret L_141_95 RT_141 h
              · refine r_aload_n L_141_96 rfl ?_
                refine r_cvv L_141_97 rfl (Mv_mono h fun m22 h => ?_)
                refine r_aload_n L_141_100 rfl ?_
                refine r_getr (c' := 35) (d' := 0) L_141_101 rfl rfl ?_
                refine r_iconst L_141_104 kI_4 ?_
                refine r_iconst L_141_105 kI_0 ?_
                refine r_iast (N := 264) (j := 4) L_141_106 (by decide +kernel) rfl (by decide +kernel) (by decide +kernel) ?_
                refine r_nm fun m23 em23 => ?_
                have h := h m23 em23
                refine r_aload_n L_141_107 rfl ?_
                refine r_iload_n L_141_108 rfl ?_
                refine r_iconst L_141_109 kI_3 ?_
                refine r_iload L_141_110 rfl ?_
                refine r_cvv L_141_112 rfl (V_107 g4 ?_)
                refine r_nm fun m24 em24 => ?_
                have h := h m24 em24
                refine r_aload_n L_141_115 rfl ?_
                refine r_iload_n L_141_116 rfl ?_
                refine r_iconst L_141_117 kI_4 ?_
                refine r_iload_n L_141_118 rfl ?_
                obtain ⟨g25, h⟩ := h
                refine r_cvv L_141_119 rfl (V_107 g25 ?_)
                refine r_nm fun m26 em26 => ?_
                have h := h m26 em26
                refine r_aload_n L_141_122 rfl ?_
                refine r_iload_n L_141_123 rfl ?_
                refine r_iconst L_141_124 kI_5 ?_
                refine r_aload_n L_141_125 rfl ?_
                refine r_getr (c' := 35) (d' := 0) L_141_126 rfl rfl ?_
                refine r_iconst L_141_129 kI_0 ?_
                refine r_iald (N := 264) (j := 0) L_141_130 (by decide +kernel) rfl (by decide +kernel) (by decide +kernel) ?_
                refine r_iload_n L_141_131 rfl ?_
                refine r_iadd L_141_132 ?_
                obtain ⟨g27, h⟩ := h
                refine r_cvv L_141_133 rfl (V_107 g27 ?_)
                refine r_nm fun m28 em28 => ?_
                have h := h m28 em28
                refine r_aload_n L_141_136 rfl ?_
                refine r_iload_n L_141_137 rfl ?_
                refine r_bipush L_141_138 kB_6 ?_
                refine r_bipush L_141_140 kB_m6 ?_
                obtain ⟨g29, h⟩ := h
                refine r_cvv L_141_142 rfl (V_107 g29 ?_)
                refine r_nm fun m30 em30 => ?_
                have h := h m30 em30
                refine r_iload L_141_145 rfl ?_
                exact r_iret L_141_147 RT_141 h
      · refine r_bipush L_141_27 kB_m2 ?_
        exact r_iret L_141_29 RT_141 h
    · refine r_bipush L_141_27 kB_m2 ?_
      exact r_iret L_141_29 RT_141 h
  · refine r_iconst L_141_8 kI_m1 ?_
    exact r_iret L_141_9 RT_141 h
/-- Model.renew -/
theorem T_142 {x1 x2 : Int32} {m : aM} {Q : Int32 → aM → Prop} (h :
   if ¬ x1 < 0 ∧ x1 < m 35 0 3 then
    (if ¬ x2 < 1 ∧ ¬ 99 < x2 then
     (a_in (104 + 10 * x1 + 3) 264 = true ∧
      if ¬ m 35 0 (104 + 10 * x1 + 3).toNatClampNeg = (-6) then
       (a_in (104 + 10 * x1 + 6) 264 = true ∧
        if (m 35 0 (104 + 10 * x1 + 6).toNatClampNeg) = (-6) then
         (Mv 98 [.inr (34, 0)] m (fun m7 =>
          (∀ m8, m8 = a_up m7 35 0 4 0 →
          a_in (104 + 10 * x1 + 5) 264 = true ∧
           (∀ m10, m10 = a_up m8 35 0 (104 + 10 * x1 + 5).toNatClampNeg ((m8 35 0 0) + x2) →
           Q ((m10 35 0 0) + x2) m10))))
        else
         Mi 139 [.inr (34, 0), .inl 5] m (fun v12 m11 =>
          Q v12 m11))
      else
       Q (-3) m)
    else
     Q (-2) m)
   else
    Q (-1) m
  ) : Mi 142 [.inr (34, 0), .inl x1, .inl x2] m Q := by
  refine Mi_in ML_142 (show Rg 142 0 [some (.inr (34, 0)), some (.inl x1), some (.inl x2)] [] m (qI Q) from ?_)
  refine r_aload_n L_142_0 rfl ?_
  refine r_iload_n L_142_1 rfl ?_
  refine r_cv L_142_2 rfl (V_103 ?_)
  refine r_ifneP L_142_5 (i_mono h (fun c1 h => ?_) (fun c1 h => ?_))
  · refine r_iload_n L_142_10 rfl ?_
    refine r_iconst L_142_11 kI_1 ?_
    refine r_bipush L_142_12 kB_99 ?_
    refine r_cs L_142_14 (by decide) rfl (V_97 ?_)
    refine r_ifneP L_142_17 (i_mono h (fun c2 h => ?_) (fun c2 h => ?_))
    · refine r_aload_n L_142_23 rfl ?_
      refine r_iload_n L_142_24 rfl ?_
      obtain ⟨g3, h⟩ := h
      refine r_cv L_142_25 rfl (V_120 g3 ?_)
      refine r_ifneP L_142_28 (i_mono h (fun c4 h => ?_) (fun c4 h => ?_))
      · refine r_aload_n L_142_34 rfl ?_
        refine r_iload_n L_142_35 rfl ?_
        refine r_bipush L_142_36 kB_6 ?_
        obtain ⟨g5, h⟩ := h
        refine r_cv L_142_38 rfl (V_106 g5 ?_)
        refine r_bipush L_142_41 kB_m6 ?_
        refine r_icmp L_142_43 rfl (i_mono h (fun c6 h => ?_) (fun c6 h => ?_))
        · refine r_aload_n L_142_52 rfl ?_
          refine r_cvv L_142_53 rfl (Mv_mono h fun m7 h => ?_)
          refine r_aload_n L_142_56 rfl ?_
          refine r_getr (c' := 35) (d' := 0) L_142_57 rfl rfl ?_
          refine r_iconst L_142_60 kI_4 ?_
          refine r_iconst L_142_61 kI_0 ?_
          refine r_iast (N := 264) (j := 4) L_142_62 (by decide +kernel) rfl (by decide +kernel) (by decide +kernel) ?_
          refine r_nm fun m8 em8 => ?_
          have h := h m8 em8
          refine r_aload_n L_142_63 rfl ?_
          refine r_iload_n L_142_64 rfl ?_
          refine r_iconst L_142_65 kI_5 ?_
          refine r_aload_n L_142_66 rfl ?_
          refine r_getr (c' := 35) (d' := 0) L_142_67 rfl rfl ?_
          refine r_iconst L_142_70 kI_0 ?_
          refine r_iald (N := 264) (j := 0) L_142_71 (by decide +kernel) rfl (by decide +kernel) (by decide +kernel) ?_
          refine r_iload_n L_142_72 rfl ?_
          refine r_iadd L_142_73 ?_
          obtain ⟨g9, h⟩ := h
          refine r_cvv L_142_74 rfl (V_107 g9 ?_)
          refine r_nm fun m10 em10 => ?_
          have h := h m10 em10
          refine r_aload_n L_142_77 rfl ?_
          refine r_getr (c' := 35) (d' := 0) L_142_78 rfl rfl ?_
          refine r_iconst L_142_81 kI_0 ?_
          refine r_iald (N := 264) (j := 0) L_142_82 (by decide +kernel) rfl (by decide +kernel) (by decide +kernel) ?_
          refine r_iload_n L_142_83 rfl ?_
          refine r_iadd L_142_84 ?_
          exact r_iret L_142_85 RT_142 h
        · refine r_aload_n L_142_46 rfl ?_
          refine r_iconst L_142_47 kI_5 ?_
          refine r_cv L_142_48 rfl (Mi_mono h fun v12 m11 h => ?_)
          exact r_iret L_142_51 RT_142 h
      · refine r_bipush L_142_31 kB_m3 ?_
        exact r_iret L_142_33 RT_142 h
    · refine r_bipush L_142_20 kB_m2 ?_
      exact r_iret L_142_22 RT_142 h
  · refine r_iconst L_142_8 kI_m1 ?_
    exact r_iret L_142_9 RT_142 h
/-- Model.giveBack -/
theorem T_143 {x1 : Int32} {m : aM} {Q : Int32 → aM → Prop} (h :
   if ¬ x1 < 0 ∧ x1 < m 35 0 3 then
    (a_in (104 + 10 * x1 + 3) 264 = true ∧
     if ¬ m 35 0 (104 + 10 * x1 + 3).toNatClampNeg = (-6) then
      (Mv 98 [.inr (34, 0)] m (fun m4 =>
       a_in (104 + 10 * x1 + 4) 264 = true ∧
        a_in (104 + 10 * x1 + 5) 264 = true ∧
         a_in (104 + 10 * x1 + 6) 264 = true ∧
          (∀ m8, m8 = rEnds m4 x1 →
          Mi 128 [.inr (34, 0)] m8 (fun v10 m9 =>
           Q v10 m9))))
     else
      Q (-3) m)
   else
    Q (-1) m
  ) : Mi 143 [.inr (34, 0), .inl x1] m Q := by
  refine Mi_in ML_143 (show Rg 143 0 [some (.inr (34, 0)), some (.inl x1)] [] m (qI Q) from ?_)
  refine r_aload_n L_143_0 rfl ?_
  refine r_iload_n L_143_1 rfl ?_
  refine r_cv L_143_2 rfl (V_103 ?_)
  refine r_ifneP L_143_5 (i_mono h (fun c1 h => ?_) (fun c1 h => ?_))
  · refine r_aload_n L_143_10 rfl ?_
    refine r_iload_n L_143_11 rfl ?_
    obtain ⟨g2, h⟩ := h
    refine r_cv L_143_12 rfl (V_120 g2 ?_)
    refine r_ifneP L_143_15 (i_mono h (fun c3 h => ?_) (fun c3 h => ?_))
    · refine r_aload_n L_143_21 rfl ?_
      refine r_cvv L_143_22 rfl (Mv_mono h fun m4 h => ?_)
      refine r_aload_n L_143_25 rfl ?_
      refine r_iload_n L_143_26 rfl ?_
      obtain ⟨g5, h⟩ := h
      obtain ⟨g6, h⟩ := h
      obtain ⟨g7, h⟩ := h
      refine r_cvv L_143_27 rfl (V_126 g2 g5 g6 g7 ?_)
      refine r_nm fun m8 em8 => ?_
      have h := h m8 em8
      refine r_aload_n L_143_30 rfl ?_
      refine r_cv L_143_31 rfl (Mi_mono h fun v10 m9 h => ?_)
      exact r_iret L_143_34 RT_143 h
    · refine r_bipush L_143_18 kB_m3 ?_
      exact r_iret L_143_20 RT_143 h
  · refine r_iconst L_143_8 kI_m1 ?_
    exact r_iret L_143_9 RT_143 h
def H_144_38 (x1 x2 x3 : Int32) (m : aM) (Q : Int32 → aM → Prop) : Prop := Rg 144 38 [some (.inr (34, 0)), some (.inl x1), some (.inl x2), some (.inl x3)] [] m (qI Q)
/-- Model.pass, the loop at 38 -/
theorem T_144_38 {x1 x2 x3 : Int32} {m : aM} {Q : Int32 → aM → Prop} (h :
   if x3 < x1 then
    (Mi 130 [.inr (34, 0)] m (fun v3 m2 =>
     H_144_38 x1 (x2 + v3) (x3 + 1) m2 Q))
   else
    Q x2 m
  ) : H_144_38 x1 x2 x3 m Q := by
  show Rg 144 38 [some (.inr (34, 0)), some (.inl x1), some (.inl x2), some (.inl x3)] [] m (qI Q)
  refine r_iload_n L_144_38 rfl ?_
  refine r_iload_n L_144_39 rfl ?_
  refine r_icmpn L_144_40 cc_ge (i_mono h (fun c1 h => ?_) (fun c1 h => ?_))
  · refine r_iload_n L_144_43 rfl ?_
    refine r_aload_n L_144_44 rfl ?_
    refine r_cv L_144_45 rfl (Mi_mono h fun v3 m2 h => ?_)
    refine r_iadd L_144_48 ?_
    refine r_istore_n (ls1 := [some (.inr (34, 0)), some (.inl x1), some (.inl (x2 + v3)), some (.inl x3)]) L_144_49 (Nat.le_of_ble_eq_true rfl) rfl ?_
    refine r_iinc (ls1 := [some (.inr (34, 0)), some (.inl x1), some (.inl (x2 + v3)), some (.inl (x3 + 1))]) L_144_50 kI_1 rfl (Nat.le_of_ble_eq_true rfl) rfl ?_
    refine r_goto L_144_53 ?_
    exact h
  · refine r_iload_n L_144_56 rfl ?_
    exact r_iret L_144_57 RT_144 h
/-- Model.pass -/
theorem T_144 {x1 : Int32} {m : aM} {Q : Int32 → aM → Prop} (h :
   if ¬ x1 < 1 ∧ ¬ 99 < x1 then
    (if 9999 < ((m 35 0 0) + x1) then
     Q (-3) m
    else
     Mv 98 [.inr (34, 0)] m (fun m3 =>
      H_144_38 x1 0 0 m3 Q))
   else
    Q (-2) m
  ) : Mi 144 [.inr (34, 0), .inl x1] m Q := by
  refine Mi_in ML_144 (show Rg 144 0 [some (.inr (34, 0)), some (.inl x1), none, none] [] m (qI Q) from ?_)
  refine r_iload_n L_144_0 rfl ?_
  refine r_iconst L_144_1 kI_1 ?_
  refine r_bipush L_144_2 kB_99 ?_
  refine r_cs L_144_4 (by decide) rfl (V_97 ?_)
  refine r_ifneP L_144_7 (i_mono h (fun c1 h => ?_) (fun c1 h => ?_))
  · refine r_aload_n L_144_13 rfl ?_
    refine r_getr (c' := 35) (d' := 0) L_144_14 rfl rfl ?_
    refine r_iconst L_144_17 kI_0 ?_
    refine r_iald (N := 264) (j := 0) L_144_18 (by decide +kernel) rfl (by decide +kernel) (by decide +kernel) ?_
    refine r_iload_n L_144_19 rfl ?_
    refine r_iadd L_144_20 ?_
    refine r_sipush L_144_21 kS_9999 ?_
    refine r_icmpn L_144_24 cc_le (i_mono h (fun c2 h => ?_) (fun c2 h => ?_))
    · refine r_bipush L_144_27 kB_m3 ?_
      exact r_iret L_144_29 RT_144 h
    · refine r_aload_n L_144_30 rfl ?_
      refine r_cvv L_144_31 rfl (Mv_mono h fun m3 h => ?_)
      refine r_iconst L_144_34 kI_0 ?_
      refine r_istore_n (ls1 := [some (.inr (34, 0)), some (.inl x1), some (.inl 0), none]) L_144_35 (Nat.le_of_ble_eq_true rfl) rfl ?_
      refine r_iconst L_144_36 kI_0 ?_
      refine r_istore_n (ls1 := [some (.inr (34, 0)), some (.inl x1), some (.inl 0), some (.inl 0)]) L_144_37 (Nat.le_of_ble_eq_true rfl) rfl ?_
      exact h
  · refine r_bipush L_144_10 kB_m2 ?_
    exact r_iret L_144_12 RT_144 h
/-- Model.append -/
theorem T_145 {x1 : Int32} {m : aM} {Q : Int32 → aM → Prop} (h :
   if ¬ x1 < 32 ∧ ¬ 126 < x1 then
    (if (m 34 0 8) = 80 then
     Q (-4) m
    else
     (a_in (m 34 0 8) 80 = true ∧
      (∀ m4, m4 = a_up m 40 0 (m 34 0 8).toNatClampNeg x1 →
      (∀ m5, m5 = a_up m4 34 0 8 ((m4 34 0 8) + 1) →
      Q (m5 34 0 8) m5))))
   else
    Q (-2) m
  ) : Mi 145 [.inr (34, 0), .inl x1] m Q := by
  refine Mi_in ML_145 (show Rg 145 0 [some (.inr (34, 0)), some (.inl x1)] [] m (qI Q) from ?_)
  refine r_iload_n L_145_0 rfl ?_
  refine r_bipush L_145_1 kB_32 ?_
  refine r_bipush L_145_3 kB_126 ?_
  refine r_cs L_145_5 (by decide) rfl (V_97 ?_)
  refine r_ifneP L_145_8 (i_mono h (fun c1 h => ?_) (fun c1 h => ?_))
  · refine r_aload_n L_145_14 rfl ?_
    refine r_geti L_145_15 rfl rfl ?_
    refine r_bipush L_145_18 kB_80 ?_
    refine r_icmpn L_145_20 rfl (i_mono h (fun c2 h => ?_) (fun c2 h => ?_))
    · refine r_bipush L_145_23 kB_m4 ?_
      exact r_iret L_145_25 RT_145 h
    · refine r_aload_n L_145_26 rfl ?_
      refine r_getr (c' := 40) (d' := 0) L_145_27 rfl rfl ?_
      refine r_aload_n L_145_30 rfl ?_
      refine r_geti L_145_31 rfl rfl ?_
      refine r_iload_n L_145_34 rfl ?_
      obtain ⟨g3, h⟩ := h
      refine r_iast (N := 80) (j := (m 34 0 8).toNatClampNeg) L_145_35 (by decide +kernel) rfl g3 rfl ?_
      refine r_nm fun m4 em4 => ?_
      have h := h m4 em4
      refine r_aload_n L_145_36 rfl ?_
      refine r_dup L_145_37 ?_
      refine r_geti L_145_38 rfl rfl ?_
      refine r_iconst L_145_41 kI_1 ?_
      refine r_iadd L_145_42 ?_
      refine r_put L_145_43 ⟨rfl, rfl⟩ (fun z => absurd z (by decide)) ?_
      refine r_nm fun m5 em5 => ?_
      have h := h m5 em5
      refine r_aload_n L_145_46 rfl ?_
      refine r_geti L_145_47 rfl rfl ?_
      exact r_iret L_145_50 RT_145 h
  · refine r_bipush L_145_11 kB_m2 ?_
    exact r_iret L_145_13 RT_145 h
/-- Model.clearText -/
theorem T_146 {m : aM} {Q : Int32 → aM → Prop} (h :
   (∀ m1, m1 = a_up m 34 0 8 0 →
   Q (m 34 0 8) m1)
  ) : Mi 146 [.inr (34, 0)] m Q := by
  refine Mi_in ML_146 (show Rg 146 0 [some (.inr (34, 0)), none] [] m (qI Q) from ?_)
  refine r_aload_n L_146_0 rfl ?_
  refine r_geti L_146_1 rfl rfl ?_
  refine r_istore_n (ls1 := [some (.inr (34, 0)), some (.inl (m 34 0 8))]) L_146_4 (Nat.le_of_ble_eq_true rfl) rfl ?_
  refine r_aload_n L_146_5 rfl ?_
  refine r_iconst L_146_6 kI_0 ?_
  refine r_put L_146_7 ⟨rfl, rfl⟩ (fun z => absurd z (by decide)) ?_
  refine r_nm fun m1 em1 => ?_
  have h := h m1 em1
  refine r_iload_n L_146_10 rfl ?_
  exact r_iret L_146_11 RT_146 h
/-- Model.takes -/
theorem T_148 {x1 : Int32} {m : aM} {Q : Int32 → aM → Prop} (h :
   (m 34 0 9 < m 34 0 8 → a_in (m 34 0 9) 80 = true) ∧
    if m 34 0 9 < m 34 0 8 ∧ ¬ m 40 0 (m 34 0 9).toNatClampNeg < x1 ∧ ¬ x1 < m 40 0 (m 34 0 9).toNatClampNeg then
     ((∀ m3, m3 = a_up m 34 0 9 ((m 34 0 9) + 1) →
     Q (bP (m 34 0 9 < m 34 0 8 ∧ ¬ m 40 0 (m 34 0 9).toNatClampNeg < x1 ∧ ¬ x1 < m 40 0 (m 34 0 9).toNatClampNeg)) m3))
    else
     (∀ m4, m4 = a_up m 34 0 9 ((m 34 0 9) + 0) →
     Q (bP (m 34 0 9 < m 34 0 8 ∧ ¬ m 40 0 (m 34 0 9).toNatClampNeg < x1 ∧ ¬ x1 < m 40 0 (m 34 0 9).toNatClampNeg)) m4)
  ) : Mi 148 [.inr (34, 0), .inl x1] m Q := by
  refine Mi_in ML_148 (show Rg 148 0 [some (.inr (34, 0)), some (.inl x1), none] [] m (qI Q) from ?_)
  refine r_aload_n L_148_0 rfl ?_
  refine r_iload_n L_148_1 rfl ?_
  refine r_iload_n L_148_2 rfl ?_
  obtain ⟨g1, h⟩ := h
  refine r_cv L_148_3 rfl (V_147 g1 ?_)
  refine r_istore_n (ls1 := [some (.inr (34, 0)), some (.inl x1), some (.inl (bP (m 34 0 9 < m 34 0 8 ∧ ¬ m 40 0 (m 34 0 9).toNatClampNeg < x1 ∧ ¬ x1 < m 40 0 (m 34 0 9).toNatClampNeg)))]) L_148_6 (Nat.le_of_ble_eq_true rfl) rfl ?_
  refine r_aload_n L_148_7 rfl ?_
  refine r_dup L_148_8 ?_
  refine r_geti L_148_9 rfl rfl ?_
  refine r_iload_n L_148_12 rfl ?_
  refine r_ifeqP L_148_13 (i_mono h (fun c2 h => ?_) (fun c2 h => ?_))
  · refine r_iconst L_148_16 kI_1 ?_
    refine r_goto L_148_17 ?_
    refine r_iadd L_148_21 ?_
    refine r_put L_148_22 ⟨rfl, rfl⟩ (fun z => absurd z (by decide)) ?_
    refine r_nm fun m3 em3 => ?_
    have h := h m3 em3
    refine r_iload_n L_148_25 rfl ?_
    exact r_zret L_148_26 RT_148 bP_01 h
  · refine r_iconst L_148_20 kI_0 ?_
    refine r_iadd L_148_21 ?_
    refine r_put L_148_22 ⟨rfl, rfl⟩ (fun z => absurd z (by decide)) ?_
    refine r_nm fun m4 em4 => ?_
    have h := h m4 em4
    refine r_iload_n L_148_25 rfl ?_
    exact r_zret L_148_26 RT_148 bP_01 h
/-- Model.number -/
theorem T_149 {x1 x2 : Int32} {m : aM} {Q : Int32 → aM → Prop} (h :
   (m 34 0 9 < m 34 0 8 → a_in (m 34 0 9) 80 = true) ∧
    if m 34 0 9 < m 34 0 8 ∧ ¬ m 40 0 (m 34 0 9).toNatClampNeg < 48 ∧ ¬ 57 < m 40 0 (m 34 0 9).toNatClampNeg then
     (a_in (m 34 0 9) 80 = true ∧
      (∀ m4, m4 = a_up m 34 0 9 ((m 34 0 9) + 1) →
      if 0 < ((m 40 0 (m 34 0 9).toNatClampNeg) - 48) then
       ((m4 34 0 9 < m4 34 0 8 → a_in (m4 34 0 9) 80 = true) ∧
        if m4 34 0 9 < m4 34 0 8 ∧ ¬ m4 40 0 (m4 34 0 9).toNatClampNeg < 48 ∧ ¬ 57 < m4 40 0 (m4 34 0 9).toNatClampNeg then
         (a_in (m4 34 0 9) 80 = true ∧
          (∀ m9, m9 = a_up m4 34 0 9 ((m4 34 0 9) + 1) →
          if ¬ (((10 * ((m 40 0 (m 34 0 9).toNatClampNeg) - 48)) + (m4 40 0 (m4 34 0 9).toNatClampNeg)) - 48) < x1 ∧ ¬ x2 < (((10 * ((m 40 0 (m 34 0 9).toNatClampNeg) - 48)) + (m4 40 0 (m4 34 0 9).toNatClampNeg)) - 48) then
           Q (((10 * ((m 40 0 (m 34 0 9).toNatClampNeg) - 48)) + (m4 40 0 (m4 34 0 9).toNatClampNeg)) - 48) m9
          else
           (∀ m11, m11 = a_up m9 34 0 9 (m 34 0 9) →
           Q (-6) m11)))
        else
         if ¬ ((m 40 0 (m 34 0 9).toNatClampNeg) - 48) < x1 ∧ ¬ x2 < ((m 40 0 (m 34 0 9).toNatClampNeg) - 48) then
          Q ((m 40 0 (m 34 0 9).toNatClampNeg) - 48) m4
         else
          (∀ m13, m13 = a_up m4 34 0 9 (m 34 0 9) →
          Q (-6) m13))
      else
       if ¬ ((m 40 0 (m 34 0 9).toNatClampNeg) - 48) < x1 ∧ ¬ x2 < ((m 40 0 (m 34 0 9).toNatClampNeg) - 48) then
        Q ((m 40 0 (m 34 0 9).toNatClampNeg) - 48) m4
       else
        (∀ m15, m15 = a_up m4 34 0 9 (m 34 0 9) →
        Q (-6) m15)))
    else
     Q (-6) m
  ) : Mi 149 [.inr (34, 0), .inl x1, .inl x2] m Q := by
  refine Mi_in ML_149 (show Rg 149 0 [some (.inr (34, 0)), some (.inl x1), some (.inl x2), none, none] [] m (qI Q) from ?_)
  refine r_aload_n L_149_0 rfl ?_
  refine r_bipush L_149_1 kB_48 ?_
  refine r_bipush L_149_3 kB_57 ?_
  obtain ⟨g1, h⟩ := h
  refine r_cv L_149_5 rfl (V_147 g1 ?_)
  refine r_ifneP L_149_8 (i_mono h (fun c2 h => ?_) (fun c2 h => ?_))
  · refine r_aload_n L_149_14 rfl ?_
    refine r_geti L_149_15 rfl rfl ?_
    refine r_istore_n (ls1 := [some (.inr (34, 0)), some (.inl x1), some (.inl x2), some (.inl (m 34 0 9)), none]) L_149_18 (Nat.le_of_ble_eq_true rfl) rfl ?_
    refine r_aload_n L_149_19 rfl ?_
    refine r_getr (c' := 40) (d' := 0) L_149_20 rfl rfl ?_
    refine r_aload_n L_149_23 rfl ?_
    refine r_geti L_149_24 rfl rfl ?_
    obtain ⟨g3, h⟩ := h
    refine r_iald (N := 80) (j := (m 34 0 9).toNatClampNeg) L_149_27 (by decide +kernel) rfl g3 rfl ?_
    refine r_bipush L_149_28 kB_48 ?_
    refine r_isub L_149_30 ?_
    refine r_istore (ls1 := [some (.inr (34, 0)), some (.inl x1), some (.inl x2), some (.inl (m 34 0 9)), some (.inl ((m 40 0 (m 34 0 9).toNatClampNeg) - 48))]) L_149_31 (Nat.le_of_ble_eq_true rfl) rfl ?_
    refine r_aload_n L_149_33 rfl ?_
    refine r_dup L_149_34 ?_
    refine r_geti L_149_35 rfl rfl ?_
    refine r_iconst L_149_38 kI_1 ?_
    refine r_iadd L_149_39 ?_
    refine r_put L_149_40 ⟨rfl, rfl⟩ (fun z => absurd z (by decide)) ?_
    refine r_nm fun m4 em4 => ?_
    have h := h m4 em4
    refine r_iload L_149_43 rfl ?_
    refine r_ifn L_149_45 cc_le (i_mono h (fun c5 h => ?_) (fun c5 h => ?_))
    · refine r_aload_n L_149_48 rfl ?_
      refine r_bipush L_149_49 kB_48 ?_
      refine r_bipush L_149_51 kB_57 ?_
      obtain ⟨g6, h⟩ := h
      refine r_cv L_149_53 rfl (V_147 g6 ?_)
      refine r_ifeqP L_149_56 (i_mono h (fun c7 h => ?_) (fun c7 h => ?_))
      · refine r_bipush L_149_59 kB_10 ?_
        refine r_iload L_149_61 rfl ?_
        refine r_imul L_149_63 ?_
        refine r_aload_n L_149_64 rfl ?_
        refine r_getr (c' := 40) (d' := 0) L_149_65 rfl rfl ?_
        refine r_aload_n L_149_68 rfl ?_
        refine r_geti L_149_69 rfl rfl ?_
        obtain ⟨g8, h⟩ := h
        refine r_iald (N := 80) (j := (m4 34 0 9).toNatClampNeg) L_149_72 (by decide +kernel) rfl g8 rfl ?_
        refine r_iadd L_149_73 ?_
        refine r_bipush L_149_74 kB_48 ?_
        refine r_isub L_149_76 ?_
        refine r_istore (ls1 := [some (.inr (34, 0)), some (.inl x1), some (.inl x2), some (.inl (m 34 0 9)), some (.inl (((10 * ((m 40 0 (m 34 0 9).toNatClampNeg) - 48)) + (m4 40 0 (m4 34 0 9).toNatClampNeg)) - 48))]) L_149_77 (Nat.le_of_ble_eq_true rfl) rfl ?_
        refine r_aload_n L_149_79 rfl ?_
        refine r_dup L_149_80 ?_
        refine r_geti L_149_81 rfl rfl ?_
        refine r_iconst L_149_84 kI_1 ?_
        refine r_iadd L_149_85 ?_
        refine r_put L_149_86 ⟨rfl, rfl⟩ (fun z => absurd z (by decide)) ?_
        refine r_nm fun m9 em9 => ?_
        have h := h m9 em9
        refine r_iload L_149_89 rfl ?_
        refine r_iload_n L_149_91 rfl ?_
        refine r_iload_n L_149_92 rfl ?_
        refine r_cs L_149_93 (by decide) rfl (V_97 ?_)
        refine r_ifneP L_149_96 (i_mono h (fun c10 h => ?_) (fun c10 h => ?_))
        · refine r_iload L_149_107 rfl ?_
          exact r_iret L_149_109 RT_149 h
        · refine r_aload_n L_149_99 rfl ?_
          refine r_iload_n L_149_100 rfl ?_
          refine r_put L_149_101 ⟨rfl, rfl⟩ (fun z => absurd z (by decide)) ?_
          refine r_nm fun m11 em11 => ?_
          have h := h m11 em11
          refine r_bipush L_149_104 kB_m6 ?_
          exact r_iret L_149_106 RT_149 h
      · refine r_iload L_149_89 rfl ?_
        refine r_iload_n L_149_91 rfl ?_
        refine r_iload_n L_149_92 rfl ?_
        refine r_cs L_149_93 (by decide) rfl (V_97 ?_)
        refine r_ifneP L_149_96 (i_mono h (fun c12 h => ?_) (fun c12 h => ?_))
        · refine r_iload L_149_107 rfl ?_
          exact r_iret L_149_109 RT_149 h
        · refine r_aload_n L_149_99 rfl ?_
          refine r_iload_n L_149_100 rfl ?_
          refine r_put L_149_101 ⟨rfl, rfl⟩ (fun z => absurd z (by decide)) ?_
          refine r_nm fun m13 em13 => ?_
          have h := h m13 em13
          refine r_bipush L_149_104 kB_m6 ?_
          exact r_iret L_149_106 RT_149 h
    · refine r_iload L_149_89 rfl ?_
      refine r_iload_n L_149_91 rfl ?_
      refine r_iload_n L_149_92 rfl ?_
      refine r_cs L_149_93 (by decide) rfl (V_97 ?_)
      refine r_ifneP L_149_96 (i_mono h (fun c14 h => ?_) (fun c14 h => ?_))
      · refine r_iload L_149_107 rfl ?_
        exact r_iret L_149_109 RT_149 h
      · refine r_aload_n L_149_99 rfl ?_
        refine r_iload_n L_149_100 rfl ?_
        refine r_put L_149_101 ⟨rfl, rfl⟩ (fun z => absurd z (by decide)) ?_
        refine r_nm fun m15 em15 => ?_
        have h := h m15 em15
        refine r_bipush L_149_104 kB_m6 ?_
        exact r_iret L_149_106 RT_149 h
  · refine r_bipush L_149_11 kB_m6 ?_
    exact r_iret L_149_13 RT_149 h
/-- Model.reads -/
theorem T_150 {m : aM} {Q : Int32 → aM → Prop} (h :
   if (m 34 0 9) < (m 34 0 8) then
    (a_in (m 34 0 9) 80 = true ∧
     if (m 40 0 (m 34 0 9).toNatClampNeg) = 103 then
      ((∀ m4, m4 = a_up m 34 0 9 ((m 34 0 9) + 1) →
      if (m 40 0 (m 34 0 9).toNatClampNeg) = 116 then
       (Mi 149 [.inr (34, 0), .inl 1, .inl 99] m4 (fun v7 m6 =>
        (∀ m8, m8 = a_up m6 34 0 10 v7 →
        if (m8 34 0 10) < 0 then
         Q 0 m8
        else
         Mi 148 [.inr (34, 0), .inl 59] m8 (fun v11 m10 =>
          if v11 = 0 then
           Q 0 m10
          else
           Q 1 m10))))
      else
       Mi 149 [.inr (34, 0), .inl 0, .inl 15] m4 (fun v14 m13 =>
        (∀ m15, m15 = a_up m13 34 0 10 v14 →
        if (m15 34 0 10) < 0 then
         Q 0 m15
        else
         Mi 148 [.inr (34, 0), .inl 59] m15 (fun v18 m17 =>
          if v18 = 0 then
           Q 0 m17
          else
           Q 1 m17)))))
     else
     if (m 40 0 (m 34 0 9).toNatClampNeg) = 108 then
      ((∀ m21, m21 = a_up m 34 0 9 ((m 34 0 9) + 1) →
      Mi 149 [.inr (34, 0), .inl 0, .inl 15] m21 (fun v23 m22 =>
       (∀ m24, m24 = a_up m22 34 0 10 v23 →
       if (m24 34 0 10) < 0 then
        ((∀ m26, m26 = a_up m24 34 0 11 (-6) →
        if (m26 34 0 11) < 0 then
         ((∀ m28, m28 = a_up m26 34 0 12 (-6) →
         if (m28 34 0 12) < 0 then
          Q 0 m28
         else
          Mi 148 [.inr (34, 0), .inl 59] m28 (fun v31 m30 =>
           if v31 = 0 then
            Q 0 m30
           else
            Q 1 m30)))
        else
         Mi 148 [.inr (34, 0), .inl 104] m26 (fun v34 m33 =>
          if v34 = 0 then
           ((∀ m36, m36 = a_up m33 34 0 12 (-6) →
           if (m36 34 0 12) < 0 then
            Q 0 m36
           else
            Mi 148 [.inr (34, 0), .inl 59] m36 (fun v39 m38 =>
             if v39 = 0 then
              Q 0 m38
             else
              Q 1 m38)))
          else
           Mi 149 [.inr (34, 0), .inl 1, .inl 99] m33 (fun v42 m41 =>
            (∀ m43, m43 = a_up m41 34 0 12 v42 →
            if (m43 34 0 12) < 0 then
             Q 0 m43
            else
             Mi 148 [.inr (34, 0), .inl 59] m43 (fun v46 m45 =>
              if v46 = 0 then
               Q 0 m45
              else
               Q 1 m45))))))
       else
        Mi 148 [.inr (34, 0), .inl 112] m24 (fun v49 m48 =>
         if v49 = 0 then
          ((∀ m51, m51 = a_up m48 34 0 11 (-6) →
          if (m51 34 0 11) < 0 then
           ((∀ m53, m53 = a_up m51 34 0 12 (-6) →
           if (m53 34 0 12) < 0 then
            Q 0 m53
           else
            Mi 148 [.inr (34, 0), .inl 59] m53 (fun v56 m55 =>
             if v56 = 0 then
              Q 0 m55
             else
              Q 1 m55)))
          else
           Mi 148 [.inr (34, 0), .inl 104] m51 (fun v59 m58 =>
            if v59 = 0 then
             ((∀ m61, m61 = a_up m58 34 0 12 (-6) →
             if (m61 34 0 12) < 0 then
              Q 0 m61
             else
              Mi 148 [.inr (34, 0), .inl 59] m61 (fun v64 m63 =>
               if v64 = 0 then
                Q 0 m63
               else
                Q 1 m63)))
            else
             Mi 149 [.inr (34, 0), .inl 1, .inl 99] m58 (fun v67 m66 =>
              (∀ m68, m68 = a_up m66 34 0 12 v67 →
              if (m68 34 0 12) < 0 then
               Q 0 m68
              else
               Mi 148 [.inr (34, 0), .inl 59] m68 (fun v71 m70 =>
                if v71 = 0 then
                 Q 0 m70
                else
                 Q 1 m70))))))
         else
          Mi 149 [.inr (34, 0), .inl 0, .inl 3] m48 (fun v74 m73 =>
           (∀ m75, m75 = a_up m73 34 0 11 v74 →
           if (m75 34 0 11) < 0 then
            ((∀ m77, m77 = a_up m75 34 0 12 (-6) →
            if (m77 34 0 12) < 0 then
             Q 0 m77
            else
             Mi 148 [.inr (34, 0), .inl 59] m77 (fun v80 m79 =>
              if v80 = 0 then
               Q 0 m79
              else
               Q 1 m79)))
           else
            Mi 148 [.inr (34, 0), .inl 104] m75 (fun v83 m82 =>
             if v83 = 0 then
              ((∀ m85, m85 = a_up m82 34 0 12 (-6) →
              if (m85 34 0 12) < 0 then
               Q 0 m85
              else
               Mi 148 [.inr (34, 0), .inl 59] m85 (fun v88 m87 =>
                if v88 = 0 then
                 Q 0 m87
                else
                 Q 1 m87)))
             else
              Mi 149 [.inr (34, 0), .inl 1, .inl 99] m82 (fun v91 m90 =>
               (∀ m92, m92 = a_up m90 34 0 12 v91 →
               if (m92 34 0 12) < 0 then
                Q 0 m92
               else
                Mi 148 [.inr (34, 0), .inl 59] m92 (fun v95 m94 =>
                 if v95 = 0 then
                  Q 0 m94
                 else
                  Q 1 m94)))))))))))
     else
     if (m 40 0 (m 34 0 9).toNatClampNeg) = 116 then
      ((∀ m98, m98 = a_up m 34 0 9 ((m 34 0 9) + 1) →
      Mi 149 [.inr (34, 0), .inl 1, .inl 99] m98 (fun v100 m99 =>
       (∀ m101, m101 = a_up m99 34 0 10 v100 →
       if (m101 34 0 10) < 0 then
        Q 0 m101
       else
        Mi 148 [.inr (34, 0), .inl 59] m101 (fun v104 m103 =>
         if v104 = 0 then
          Q 0 m103
         else
          Q 1 m103)))))
     else
     if (m 40 0 (m 34 0 9).toNatClampNeg) = 119 then
      ((∀ m107, m107 = a_up m 34 0 9 ((m 34 0 9) + 1) →
      Mi 149 [.inr (34, 0), .inl 0, .inl 7] m107 (fun v109 m108 =>
       (∀ m110, m110 = a_up m108 34 0 10 v109 →
       if (m110 34 0 10) < 0 then
        Q 0 m110
       else
        Mi 148 [.inr (34, 0), .inl 59] m110 (fun v113 m112 =>
         if v113 = 0 then
          Q 0 m112
         else
          Q 1 m112)))))
     else
     if (m 40 0 (m 34 0 9).toNatClampNeg) = 122 then
      ((∀ m116, m116 = a_up m 34 0 9 ((m 34 0 9) + 1) →
      Mi 149 [.inr (34, 0), .inl 0, .inl 7] m116 (fun v118 m117 =>
       (∀ m119, m119 = a_up m117 34 0 10 v118 →
       if (m119 34 0 10) < 0 then
        Q 0 m119
       else
        Mi 148 [.inr (34, 0), .inl 59] m119 (fun v122 m121 =>
         if v122 = 0 then
          Q 0 m121
         else
          Q 1 m121)))))
     else
      Q 0 m)
   else
     Q 0 m
  ) : Mi 150 [.inr (34, 0)] m Q := by
  refine Mi_in ML_150 (show Rg 150 0 [some (.inr (34, 0)), none] [] m (qI Q) from ?_)
  refine r_aload_n L_150_0 rfl ?_
  refine r_geti L_150_1 rfl rfl ?_
  refine r_aload_n L_150_4 rfl ?_
  refine r_geti L_150_5 rfl rfl ?_
  refine r_icmpn L_150_8 cc_ge (i_mono h (fun c1 h => ?_) (fun c1 h => ?_))
  · refine r_aload_n L_150_11 rfl ?_
    refine r_getr (c' := 40) (d' := 0) L_150_12 rfl rfl ?_
    refine r_aload_n L_150_15 rfl ?_
    refine r_geti L_150_16 rfl rfl ?_
    obtain ⟨g2, h⟩ := h
    refine r_iald (N := 80) (j := (m 34 0 9).toNatClampNeg) L_150_19 (by decide +kernel) rfl g2 rfl ?_
    refine r_goto L_150_20 ?_
    refine r_istore_n (ls1 := [some (.inr (34, 0)), some (.inl (m 40 0 (m 34 0 9).toNatClampNeg))]) L_150_25 (Nat.le_of_ble_eq_true rfl) rfl ?_
    refine r_iload_n L_150_26 rfl ?_
    refine r_lsw L_150_27 (sw_pos (by decide) (by decide)) ?_
    refine sw_l (tgt := 182) kT_103 (by decide) (i_mono h (fun c3 h => ?_) (fun c3 h => ?_))
    · refine r_aload_n L_150_182 rfl ?_
      refine r_dup L_150_183 ?_
      refine r_geti L_150_184 rfl rfl ?_
      refine r_iconst L_150_187 kI_1 ?_
      refine r_iadd L_150_188 ?_
      refine r_put L_150_189 ⟨rfl, rfl⟩ (fun z => absurd z (by decide)) ?_
      refine r_nm fun m4 em4 => ?_
      have h := h m4 em4
      refine r_aload_n L_150_192 rfl ?_
      refine r_aload_n L_150_193 rfl ?_
      refine r_iload_n L_150_194 rfl ?_
      refine r_bipush L_150_195 kB_116 ?_
      refine r_icmpn L_150_197 rfl (i_mono h (fun c5 h => ?_) (fun c5 h => ?_))
      · refine r_iconst L_150_200 kI_1 ?_
        refine r_goto L_150_201 ?_
        refine r_iload_n L_150_205 rfl ?_
        refine r_bipush L_150_206 kB_116 ?_
        refine r_icmpn L_150_208 rfl (i_pos c5 ?_)
        refine r_bipush L_150_211 kB_99 ?_
        refine r_goto L_150_213 ?_
        refine r_cv L_150_229 rfl (Mi_mono h fun v7 m6 h => ?_)
        refine r_put L_150_232 ⟨rfl, rfl⟩ (fun z => absurd z (by decide)) ?_
        refine r_nm fun m8 em8 => ?_
        have h := h m8 em8
        refine r_aload_n L_150_235 rfl ?_
        refine r_geti L_150_236 rfl rfl ?_
        refine r_if L_150_239 rfl (i_mono h (fun c9 h => ?_) (fun c9 h => ?_))
        · refine r_iconst L_150_255 kI_0 ?_
          exact r_zret L_150_256 RT_150 (Or.inl rfl) h
        · refine r_aload_n L_150_242 rfl ?_
          refine r_bipush L_150_243 kB_59 ?_
          refine r_cv L_150_245 rfl (Mi_mono h fun v11 m10 h => ?_)
          refine r_if L_150_248 rfl (i_mono h (fun c12 h => ?_) (fun c12 h => ?_))
          · refine r_iconst L_150_255 kI_0 ?_
            exact r_zret L_150_256 RT_150 (Or.inl rfl) h
          · refine r_iconst L_150_251 kI_1 ?_
            refine r_goto L_150_252 ?_
            exact r_zret L_150_256 RT_150 (Or.inr rfl) h
      · refine r_iconst L_150_204 kI_0 ?_
        refine r_iload_n L_150_205 rfl ?_
        refine r_bipush L_150_206 kB_116 ?_
        refine r_icmpn L_150_208 rfl (i_neg c5 ?_)
        refine r_iload_n L_150_216 rfl ?_
        refine r_bipush L_150_217 kB_103 ?_
        refine r_icmpn L_150_219 rfl (i_pos c3 ?_)
        refine r_bipush L_150_222 kB_15 ?_
        refine r_goto L_150_224 ?_
        refine r_cv L_150_229 rfl (Mi_mono h fun v14 m13 h => ?_)
        refine r_put L_150_232 ⟨rfl, rfl⟩ (fun z => absurd z (by decide)) ?_
        refine r_nm fun m15 em15 => ?_
        have h := h m15 em15
        refine r_aload_n L_150_235 rfl ?_
        refine r_geti L_150_236 rfl rfl ?_
        refine r_if L_150_239 rfl (i_mono h (fun c16 h => ?_) (fun c16 h => ?_))
        · refine r_iconst L_150_255 kI_0 ?_
          exact r_zret L_150_256 RT_150 (Or.inl rfl) h
        · refine r_aload_n L_150_242 rfl ?_
          refine r_bipush L_150_243 kB_59 ?_
          refine r_cv L_150_245 rfl (Mi_mono h fun v18 m17 h => ?_)
          refine r_if L_150_248 rfl (i_mono h (fun c19 h => ?_) (fun c19 h => ?_))
          · refine r_iconst L_150_255 kI_0 ?_
            exact r_zret L_150_256 RT_150 (Or.inl rfl) h
          · refine r_iconst L_150_251 kI_1 ?_
            refine r_goto L_150_252 ?_
            exact r_zret L_150_256 RT_150 (Or.inr rfl) h
    · skip
      refine sw_l (tgt := 76) kT_108 (by decide) (i_mono h (fun c20 h => ?_) (fun c20 h => ?_))
      · refine r_aload_n L_150_76 rfl ?_
        refine r_dup L_150_77 ?_
        refine r_geti L_150_78 rfl rfl ?_
        refine r_iconst L_150_81 kI_1 ?_
        refine r_iadd L_150_82 ?_
        refine r_put L_150_83 ⟨rfl, rfl⟩ (fun z => absurd z (by decide)) ?_
        refine r_nm fun m21 em21 => ?_
        have h := h m21 em21
        refine r_aload_n L_150_86 rfl ?_
        refine r_aload_n L_150_87 rfl ?_
        refine r_iconst L_150_88 kI_0 ?_
        refine r_bipush L_150_89 kB_15 ?_
        refine r_cv L_150_91 rfl (Mi_mono h fun v23 m22 h => ?_)
        refine r_put L_150_94 ⟨rfl, rfl⟩ (fun z => absurd z (by decide)) ?_
        refine r_nm fun m24 em24 => ?_
        have h := h m24 em24
        refine r_aload_n L_150_97 rfl ?_
        refine r_aload_n L_150_98 rfl ?_
        refine r_geti L_150_99 rfl rfl ?_
        refine r_if L_150_102 rfl (i_mono h (fun c25 h => ?_) (fun c25 h => ?_))
        · refine r_bipush L_150_123 kB_m6 ?_
          refine r_put L_150_125 ⟨rfl, rfl⟩ (fun z => absurd z (by decide)) ?_
          refine r_nm fun m26 em26 => ?_
          have h := h m26 em26
          refine r_aload_n L_150_128 rfl ?_
          refine r_aload_n L_150_129 rfl ?_
          refine r_geti L_150_130 rfl rfl ?_
          refine r_if L_150_133 rfl (i_mono h (fun c27 h => ?_) (fun c27 h => ?_))
          · refine r_bipush L_150_155 kB_m6 ?_
            refine r_put L_150_157 ⟨rfl, rfl⟩ (fun z => absurd z (by decide)) ?_
            refine r_nm fun m28 em28 => ?_
            have h := h m28 em28
            refine r_aload_n L_150_160 rfl ?_
            refine r_geti L_150_161 rfl rfl ?_
            refine r_if L_150_164 rfl (i_mono h (fun c29 h => ?_) (fun c29 h => ?_))
            · refine r_iconst L_150_180 kI_0 ?_
              exact r_zret L_150_181 RT_150 (Or.inl rfl) h
            · refine r_aload_n L_150_167 rfl ?_
              refine r_bipush L_150_168 kB_59 ?_
              refine r_cv L_150_170 rfl (Mi_mono h fun v31 m30 h => ?_)
              refine r_if L_150_173 rfl (i_mono h (fun c32 h => ?_) (fun c32 h => ?_))
              · refine r_iconst L_150_180 kI_0 ?_
                exact r_zret L_150_181 RT_150 (Or.inl rfl) h
              · refine r_iconst L_150_176 kI_1 ?_
                refine r_goto L_150_177 ?_
                exact r_zret L_150_181 RT_150 (Or.inr rfl) h
          · refine r_aload_n L_150_136 rfl ?_
            refine r_bipush L_150_137 kB_104 ?_
            refine r_cv L_150_139 rfl (Mi_mono h fun v34 m33 h => ?_)
            refine r_if L_150_142 rfl (i_mono h (fun c35 h => ?_) (fun c35 h => ?_))
            · refine r_bipush L_150_155 kB_m6 ?_
              refine r_put L_150_157 ⟨rfl, rfl⟩ (fun z => absurd z (by decide)) ?_
              refine r_nm fun m36 em36 => ?_
              have h := h m36 em36
              refine r_aload_n L_150_160 rfl ?_
              refine r_geti L_150_161 rfl rfl ?_
              refine r_if L_150_164 rfl (i_mono h (fun c37 h => ?_) (fun c37 h => ?_))
              · refine r_iconst L_150_180 kI_0 ?_
                exact r_zret L_150_181 RT_150 (Or.inl rfl) h
              · refine r_aload_n L_150_167 rfl ?_
                refine r_bipush L_150_168 kB_59 ?_
                refine r_cv L_150_170 rfl (Mi_mono h fun v39 m38 h => ?_)
                refine r_if L_150_173 rfl (i_mono h (fun c40 h => ?_) (fun c40 h => ?_))
                · refine r_iconst L_150_180 kI_0 ?_
                  exact r_zret L_150_181 RT_150 (Or.inl rfl) h
                · refine r_iconst L_150_176 kI_1 ?_
                  refine r_goto L_150_177 ?_
                  exact r_zret L_150_181 RT_150 (Or.inr rfl) h
            · refine r_aload_n L_150_145 rfl ?_
              refine r_iconst L_150_146 kI_1 ?_
              refine r_bipush L_150_147 kB_99 ?_
              refine r_cv L_150_149 rfl (Mi_mono h fun v42 m41 h => ?_)
              refine r_goto L_150_152 ?_
              refine r_put L_150_157 ⟨rfl, rfl⟩ (fun z => absurd z (by decide)) ?_
              refine r_nm fun m43 em43 => ?_
              have h := h m43 em43
              refine r_aload_n L_150_160 rfl ?_
              refine r_geti L_150_161 rfl rfl ?_
              refine r_if L_150_164 rfl (i_mono h (fun c44 h => ?_) (fun c44 h => ?_))
              · refine r_iconst L_150_180 kI_0 ?_
                exact r_zret L_150_181 RT_150 (Or.inl rfl) h
              · refine r_aload_n L_150_167 rfl ?_
                refine r_bipush L_150_168 kB_59 ?_
                refine r_cv L_150_170 rfl (Mi_mono h fun v46 m45 h => ?_)
                refine r_if L_150_173 rfl (i_mono h (fun c47 h => ?_) (fun c47 h => ?_))
                · refine r_iconst L_150_180 kI_0 ?_
                  exact r_zret L_150_181 RT_150 (Or.inl rfl) h
                · refine r_iconst L_150_176 kI_1 ?_
                  refine r_goto L_150_177 ?_
                  exact r_zret L_150_181 RT_150 (Or.inr rfl) h
        · refine r_aload_n L_150_105 rfl ?_
          refine r_bipush L_150_106 kB_112 ?_
          refine r_cv L_150_108 rfl (Mi_mono h fun v49 m48 h => ?_)
          refine r_if L_150_111 rfl (i_mono h (fun c50 h => ?_) (fun c50 h => ?_))
          · refine r_bipush L_150_123 kB_m6 ?_
            refine r_put L_150_125 ⟨rfl, rfl⟩ (fun z => absurd z (by decide)) ?_
            refine r_nm fun m51 em51 => ?_
            have h := h m51 em51
            refine r_aload_n L_150_128 rfl ?_
            refine r_aload_n L_150_129 rfl ?_
            refine r_geti L_150_130 rfl rfl ?_
            refine r_if L_150_133 rfl (i_mono h (fun c52 h => ?_) (fun c52 h => ?_))
            · refine r_bipush L_150_155 kB_m6 ?_
              refine r_put L_150_157 ⟨rfl, rfl⟩ (fun z => absurd z (by decide)) ?_
              refine r_nm fun m53 em53 => ?_
              have h := h m53 em53
              refine r_aload_n L_150_160 rfl ?_
              refine r_geti L_150_161 rfl rfl ?_
              refine r_if L_150_164 rfl (i_mono h (fun c54 h => ?_) (fun c54 h => ?_))
              · refine r_iconst L_150_180 kI_0 ?_
                exact r_zret L_150_181 RT_150 (Or.inl rfl) h
              · refine r_aload_n L_150_167 rfl ?_
                refine r_bipush L_150_168 kB_59 ?_
                refine r_cv L_150_170 rfl (Mi_mono h fun v56 m55 h => ?_)
                refine r_if L_150_173 rfl (i_mono h (fun c57 h => ?_) (fun c57 h => ?_))
                · refine r_iconst L_150_180 kI_0 ?_
                  exact r_zret L_150_181 RT_150 (Or.inl rfl) h
                · refine r_iconst L_150_176 kI_1 ?_
                  refine r_goto L_150_177 ?_
                  exact r_zret L_150_181 RT_150 (Or.inr rfl) h
            · refine r_aload_n L_150_136 rfl ?_
              refine r_bipush L_150_137 kB_104 ?_
              refine r_cv L_150_139 rfl (Mi_mono h fun v59 m58 h => ?_)
              refine r_if L_150_142 rfl (i_mono h (fun c60 h => ?_) (fun c60 h => ?_))
              · refine r_bipush L_150_155 kB_m6 ?_
                refine r_put L_150_157 ⟨rfl, rfl⟩ (fun z => absurd z (by decide)) ?_
                refine r_nm fun m61 em61 => ?_
                have h := h m61 em61
                refine r_aload_n L_150_160 rfl ?_
                refine r_geti L_150_161 rfl rfl ?_
                refine r_if L_150_164 rfl (i_mono h (fun c62 h => ?_) (fun c62 h => ?_))
                · refine r_iconst L_150_180 kI_0 ?_
                  exact r_zret L_150_181 RT_150 (Or.inl rfl) h
                · refine r_aload_n L_150_167 rfl ?_
                  refine r_bipush L_150_168 kB_59 ?_
                  refine r_cv L_150_170 rfl (Mi_mono h fun v64 m63 h => ?_)
                  refine r_if L_150_173 rfl (i_mono h (fun c65 h => ?_) (fun c65 h => ?_))
                  · refine r_iconst L_150_180 kI_0 ?_
                    exact r_zret L_150_181 RT_150 (Or.inl rfl) h
                  · refine r_iconst L_150_176 kI_1 ?_
                    refine r_goto L_150_177 ?_
                    exact r_zret L_150_181 RT_150 (Or.inr rfl) h
              · refine r_aload_n L_150_145 rfl ?_
                refine r_iconst L_150_146 kI_1 ?_
                refine r_bipush L_150_147 kB_99 ?_
                refine r_cv L_150_149 rfl (Mi_mono h fun v67 m66 h => ?_)
                refine r_goto L_150_152 ?_
                refine r_put L_150_157 ⟨rfl, rfl⟩ (fun z => absurd z (by decide)) ?_
                refine r_nm fun m68 em68 => ?_
                have h := h m68 em68
                refine r_aload_n L_150_160 rfl ?_
                refine r_geti L_150_161 rfl rfl ?_
                refine r_if L_150_164 rfl (i_mono h (fun c69 h => ?_) (fun c69 h => ?_))
                · refine r_iconst L_150_180 kI_0 ?_
                  exact r_zret L_150_181 RT_150 (Or.inl rfl) h
                · refine r_aload_n L_150_167 rfl ?_
                  refine r_bipush L_150_168 kB_59 ?_
                  refine r_cv L_150_170 rfl (Mi_mono h fun v71 m70 h => ?_)
                  refine r_if L_150_173 rfl (i_mono h (fun c72 h => ?_) (fun c72 h => ?_))
                  · refine r_iconst L_150_180 kI_0 ?_
                    exact r_zret L_150_181 RT_150 (Or.inl rfl) h
                  · refine r_iconst L_150_176 kI_1 ?_
                    refine r_goto L_150_177 ?_
                    exact r_zret L_150_181 RT_150 (Or.inr rfl) h
          · refine r_aload_n L_150_114 rfl ?_
            refine r_iconst L_150_115 kI_0 ?_
            refine r_iconst L_150_116 kI_3 ?_
            refine r_cv L_150_117 rfl (Mi_mono h fun v74 m73 h => ?_)
            refine r_goto L_150_120 ?_
            refine r_put L_150_125 ⟨rfl, rfl⟩ (fun z => absurd z (by decide)) ?_
            refine r_nm fun m75 em75 => ?_
            have h := h m75 em75
            refine r_aload_n L_150_128 rfl ?_
            refine r_aload_n L_150_129 rfl ?_
            refine r_geti L_150_130 rfl rfl ?_
            refine r_if L_150_133 rfl (i_mono h (fun c76 h => ?_) (fun c76 h => ?_))
            · refine r_bipush L_150_155 kB_m6 ?_
              refine r_put L_150_157 ⟨rfl, rfl⟩ (fun z => absurd z (by decide)) ?_
              refine r_nm fun m77 em77 => ?_
              have h := h m77 em77
              refine r_aload_n L_150_160 rfl ?_
              refine r_geti L_150_161 rfl rfl ?_
              refine r_if L_150_164 rfl (i_mono h (fun c78 h => ?_) (fun c78 h => ?_))
              · refine r_iconst L_150_180 kI_0 ?_
                exact r_zret L_150_181 RT_150 (Or.inl rfl) h
              · refine r_aload_n L_150_167 rfl ?_
                refine r_bipush L_150_168 kB_59 ?_
                refine r_cv L_150_170 rfl (Mi_mono h fun v80 m79 h => ?_)
                refine r_if L_150_173 rfl (i_mono h (fun c81 h => ?_) (fun c81 h => ?_))
                · refine r_iconst L_150_180 kI_0 ?_
                  exact r_zret L_150_181 RT_150 (Or.inl rfl) h
                · refine r_iconst L_150_176 kI_1 ?_
                  refine r_goto L_150_177 ?_
                  exact r_zret L_150_181 RT_150 (Or.inr rfl) h
            · refine r_aload_n L_150_136 rfl ?_
              refine r_bipush L_150_137 kB_104 ?_
              refine r_cv L_150_139 rfl (Mi_mono h fun v83 m82 h => ?_)
              refine r_if L_150_142 rfl (i_mono h (fun c84 h => ?_) (fun c84 h => ?_))
              · refine r_bipush L_150_155 kB_m6 ?_
                refine r_put L_150_157 ⟨rfl, rfl⟩ (fun z => absurd z (by decide)) ?_
                refine r_nm fun m85 em85 => ?_
                have h := h m85 em85
                refine r_aload_n L_150_160 rfl ?_
                refine r_geti L_150_161 rfl rfl ?_
                refine r_if L_150_164 rfl (i_mono h (fun c86 h => ?_) (fun c86 h => ?_))
                · refine r_iconst L_150_180 kI_0 ?_
                  exact r_zret L_150_181 RT_150 (Or.inl rfl) h
                · refine r_aload_n L_150_167 rfl ?_
                  refine r_bipush L_150_168 kB_59 ?_
                  refine r_cv L_150_170 rfl (Mi_mono h fun v88 m87 h => ?_)
                  refine r_if L_150_173 rfl (i_mono h (fun c89 h => ?_) (fun c89 h => ?_))
                  · refine r_iconst L_150_180 kI_0 ?_
                    exact r_zret L_150_181 RT_150 (Or.inl rfl) h
                  · refine r_iconst L_150_176 kI_1 ?_
                    refine r_goto L_150_177 ?_
                    exact r_zret L_150_181 RT_150 (Or.inr rfl) h
              · refine r_aload_n L_150_145 rfl ?_
                refine r_iconst L_150_146 kI_1 ?_
                refine r_bipush L_150_147 kB_99 ?_
                refine r_cv L_150_149 rfl (Mi_mono h fun v91 m90 h => ?_)
                refine r_goto L_150_152 ?_
                refine r_put L_150_157 ⟨rfl, rfl⟩ (fun z => absurd z (by decide)) ?_
                refine r_nm fun m92 em92 => ?_
                have h := h m92 em92
                refine r_aload_n L_150_160 rfl ?_
                refine r_geti L_150_161 rfl rfl ?_
                refine r_if L_150_164 rfl (i_mono h (fun c93 h => ?_) (fun c93 h => ?_))
                · refine r_iconst L_150_180 kI_0 ?_
                  exact r_zret L_150_181 RT_150 (Or.inl rfl) h
                · refine r_aload_n L_150_167 rfl ?_
                  refine r_bipush L_150_168 kB_59 ?_
                  refine r_cv L_150_170 rfl (Mi_mono h fun v95 m94 h => ?_)
                  refine r_if L_150_173 rfl (i_mono h (fun c96 h => ?_) (fun c96 h => ?_))
                  · refine r_iconst L_150_180 kI_0 ?_
                    exact r_zret L_150_181 RT_150 (Or.inl rfl) h
                  · refine r_iconst L_150_176 kI_1 ?_
                    refine r_goto L_150_177 ?_
                    exact r_zret L_150_181 RT_150 (Or.inr rfl) h
      · skip
        refine sw_l (tgt := 182) kT_116 (by decide) (i_mono h (fun c97 h => ?_) (fun c97 h => ?_))
        · refine r_aload_n L_150_182 rfl ?_
          refine r_dup L_150_183 ?_
          refine r_geti L_150_184 rfl rfl ?_
          refine r_iconst L_150_187 kI_1 ?_
          refine r_iadd L_150_188 ?_
          refine r_put L_150_189 ⟨rfl, rfl⟩ (fun z => absurd z (by decide)) ?_
          refine r_nm fun m98 em98 => ?_
          have h := h m98 em98
          refine r_aload_n L_150_192 rfl ?_
          refine r_aload_n L_150_193 rfl ?_
          refine r_iload_n L_150_194 rfl ?_
          refine r_bipush L_150_195 kB_116 ?_
          refine r_icmpn L_150_197 rfl (i_pos c97 ?_)
          refine r_iconst L_150_200 kI_1 ?_
          refine r_goto L_150_201 ?_
          refine r_iload_n L_150_205 rfl ?_
          refine r_bipush L_150_206 kB_116 ?_
          refine r_icmpn L_150_208 rfl (i_pos c97 ?_)
          refine r_bipush L_150_211 kB_99 ?_
          refine r_goto L_150_213 ?_
          refine r_cv L_150_229 rfl (Mi_mono h fun v100 m99 h => ?_)
          refine r_put L_150_232 ⟨rfl, rfl⟩ (fun z => absurd z (by decide)) ?_
          refine r_nm fun m101 em101 => ?_
          have h := h m101 em101
          refine r_aload_n L_150_235 rfl ?_
          refine r_geti L_150_236 rfl rfl ?_
          refine r_if L_150_239 rfl (i_mono h (fun c102 h => ?_) (fun c102 h => ?_))
          · refine r_iconst L_150_255 kI_0 ?_
            exact r_zret L_150_256 RT_150 (Or.inl rfl) h
          · refine r_aload_n L_150_242 rfl ?_
            refine r_bipush L_150_243 kB_59 ?_
            refine r_cv L_150_245 rfl (Mi_mono h fun v104 m103 h => ?_)
            refine r_if L_150_248 rfl (i_mono h (fun c105 h => ?_) (fun c105 h => ?_))
            · refine r_iconst L_150_255 kI_0 ?_
              exact r_zret L_150_256 RT_150 (Or.inl rfl) h
            · refine r_iconst L_150_251 kI_1 ?_
              refine r_goto L_150_252 ?_
              exact r_zret L_150_256 RT_150 (Or.inr rfl) h
        · skip
          refine sw_l (tgt := 182) kT_119 (by decide) (i_mono h (fun c106 h => ?_) (fun c106 h => ?_))
          · refine r_aload_n L_150_182 rfl ?_
            refine r_dup L_150_183 ?_
            refine r_geti L_150_184 rfl rfl ?_
            refine r_iconst L_150_187 kI_1 ?_
            refine r_iadd L_150_188 ?_
            refine r_put L_150_189 ⟨rfl, rfl⟩ (fun z => absurd z (by decide)) ?_
            refine r_nm fun m107 em107 => ?_
            have h := h m107 em107
            refine r_aload_n L_150_192 rfl ?_
            refine r_aload_n L_150_193 rfl ?_
            refine r_iload_n L_150_194 rfl ?_
            refine r_bipush L_150_195 kB_116 ?_
            refine r_icmpn L_150_197 rfl (i_neg c97 ?_)
            refine r_iconst L_150_204 kI_0 ?_
            refine r_iload_n L_150_205 rfl ?_
            refine r_bipush L_150_206 kB_116 ?_
            refine r_icmpn L_150_208 rfl (i_neg c97 ?_)
            refine r_iload_n L_150_216 rfl ?_
            refine r_bipush L_150_217 kB_103 ?_
            refine r_icmpn L_150_219 rfl (i_neg c3 ?_)
            refine r_bipush L_150_227 kB_7 ?_
            refine r_cv L_150_229 rfl (Mi_mono h fun v109 m108 h => ?_)
            refine r_put L_150_232 ⟨rfl, rfl⟩ (fun z => absurd z (by decide)) ?_
            refine r_nm fun m110 em110 => ?_
            have h := h m110 em110
            refine r_aload_n L_150_235 rfl ?_
            refine r_geti L_150_236 rfl rfl ?_
            refine r_if L_150_239 rfl (i_mono h (fun c111 h => ?_) (fun c111 h => ?_))
            · refine r_iconst L_150_255 kI_0 ?_
              exact r_zret L_150_256 RT_150 (Or.inl rfl) h
            · refine r_aload_n L_150_242 rfl ?_
              refine r_bipush L_150_243 kB_59 ?_
              refine r_cv L_150_245 rfl (Mi_mono h fun v113 m112 h => ?_)
              refine r_if L_150_248 rfl (i_mono h (fun c114 h => ?_) (fun c114 h => ?_))
              · refine r_iconst L_150_255 kI_0 ?_
                exact r_zret L_150_256 RT_150 (Or.inl rfl) h
              · refine r_iconst L_150_251 kI_1 ?_
                refine r_goto L_150_252 ?_
                exact r_zret L_150_256 RT_150 (Or.inr rfl) h
          · skip
            refine sw_l (tgt := 182) kT_122 (by decide) (i_mono h (fun c115 h => ?_) (fun c115 h => ?_))
            · refine r_aload_n L_150_182 rfl ?_
              refine r_dup L_150_183 ?_
              refine r_geti L_150_184 rfl rfl ?_
              refine r_iconst L_150_187 kI_1 ?_
              refine r_iadd L_150_188 ?_
              refine r_put L_150_189 ⟨rfl, rfl⟩ (fun z => absurd z (by decide)) ?_
              refine r_nm fun m116 em116 => ?_
              have h := h m116 em116
              refine r_aload_n L_150_192 rfl ?_
              refine r_aload_n L_150_193 rfl ?_
              refine r_iload_n L_150_194 rfl ?_
              refine r_bipush L_150_195 kB_116 ?_
              refine r_icmpn L_150_197 rfl (i_neg c97 ?_)
              refine r_iconst L_150_204 kI_0 ?_
              refine r_iload_n L_150_205 rfl ?_
              refine r_bipush L_150_206 kB_116 ?_
              refine r_icmpn L_150_208 rfl (i_neg c97 ?_)
              refine r_iload_n L_150_216 rfl ?_
              refine r_bipush L_150_217 kB_103 ?_
              refine r_icmpn L_150_219 rfl (i_neg c3 ?_)
              refine r_bipush L_150_227 kB_7 ?_
              refine r_cv L_150_229 rfl (Mi_mono h fun v118 m117 h => ?_)
              refine r_put L_150_232 ⟨rfl, rfl⟩ (fun z => absurd z (by decide)) ?_
              refine r_nm fun m119 em119 => ?_
              have h := h m119 em119
              refine r_aload_n L_150_235 rfl ?_
              refine r_geti L_150_236 rfl rfl ?_
              refine r_if L_150_239 rfl (i_mono h (fun c120 h => ?_) (fun c120 h => ?_))
              · refine r_iconst L_150_255 kI_0 ?_
                exact r_zret L_150_256 RT_150 (Or.inl rfl) h
              · refine r_aload_n L_150_242 rfl ?_
                refine r_bipush L_150_243 kB_59 ?_
                refine r_cv L_150_245 rfl (Mi_mono h fun v122 m121 h => ?_)
                refine r_if L_150_248 rfl (i_mono h (fun c123 h => ?_) (fun c123 h => ?_))
                · refine r_iconst L_150_255 kI_0 ?_
                  exact r_zret L_150_256 RT_150 (Or.inl rfl) h
                · refine r_iconst L_150_251 kI_1 ?_
                  refine r_goto L_150_252 ?_
                  exact r_zret L_150_256 RT_150 (Or.inr rfl) h
            · skip
              refine sw_dl (tgt := 257) (by decide) ?_
              refine r_iconst L_150_257 kI_0 ?_
              exact r_zret L_150_258 RT_150 (Or.inl rfl) h
  · refine r_bipush L_150_23 kB_m6 ?_
    refine r_istore_n (ls1 := [some (.inr (34, 0)), some (.inl (-6))]) L_150_25 (Nat.le_of_ble_eq_true rfl) rfl ?_
    refine r_iload_n L_150_26 rfl ?_
    refine r_lsw L_150_27 (sw_pos (by decide) (by decide)) ?_
    refine sw_l (tgt := 182) kT_103 (by decide) (i_neg (by decide +kernel) ?_)
    refine sw_l (tgt := 76) kT_108 (by decide) (i_neg (by decide +kernel) ?_)
    refine sw_l (tgt := 182) kT_116 (by decide) (i_neg (by decide +kernel) ?_)
    refine sw_l (tgt := 182) kT_119 (by decide) (i_neg (by decide +kernel) ?_)
    refine sw_l (tgt := 182) kT_122 (by decide) (i_neg (by decide +kernel) ?_)
    refine sw_dl (tgt := 257) (by decide) ?_
    refine r_iconst L_150_257 kI_0 ?_
    exact r_zret L_150_258 RT_150 (Or.inl rfl) h
def H_151_7 (x1 : Int32) (m : aM) (Q : Int32 → aM → Prop) : Prop := Rg 151 7 [some (.inr (34, 0)), some (.inl x1)] [] m (qI Q)
/-- Model.faultPosition, the loop at 7 -/
theorem T_151_7 {x1 : Int32} {m : aM} {Q : Int32 → aM → Prop} (h :
   if x1 = 0 then
    Q (m 34 0 9) m
   else
    if (m 34 0 9) < (m 34 0 8) then
     (Mi 150 [.inr (34, 0)] m (fun v4 m3 =>
      H_151_7 v4 m3 Q))
    else
     Q (-6) m
  ) : H_151_7 x1 m Q := by
  show Rg 151 7 [some (.inr (34, 0)), some (.inl x1)] [] m (qI Q)
  refine r_iload_n L_151_7 rfl ?_
  refine r_if L_151_8 rfl (i_mono h (fun c1 h => ?_) (fun c1 h => ?_))
  · refine r_iload_n L_151_30 rfl ?_
    refine r_if L_151_31 rfl (i_pos c1 ?_)
    refine r_aload_n L_151_39 rfl ?_
    refine r_geti L_151_40 rfl rfl ?_
    exact r_iret L_151_43 RT_151 h
  · refine r_aload_n L_151_11 rfl ?_
    refine r_geti L_151_12 rfl rfl ?_
    refine r_aload_n L_151_15 rfl ?_
    refine r_geti L_151_16 rfl rfl ?_
    refine r_icmpn L_151_19 cc_ge (i_mono h (fun c2 h => ?_) (fun c2 h => ?_))
    · refine r_aload_n L_151_22 rfl ?_
      refine r_cv L_151_23 rfl (Mi_mono h fun v4 m3 h => ?_)
      refine r_istore_n (ls1 := [some (.inr (34, 0)), some (.inl v4)]) L_151_26 (Nat.le_of_ble_eq_true rfl) rfl ?_
      refine r_goto L_151_27 ?_
      exact h
    · refine r_iload_n L_151_30 rfl ?_
      refine r_if L_151_31 rfl (i_neg c1 ?_)
      refine r_bipush L_151_34 kB_m6 ?_
      refine r_goto L_151_36 ?_
      exact r_iret L_151_43 RT_151 h
/-- Model.faultPosition -/
theorem T_151 {m : aM} {Q : Int32 → aM → Prop} (h :
   (∀ m1, m1 = a_up m 34 0 9 0 →
   H_151_7 1 m1 Q)
  ) : Mi 151 [.inr (34, 0)] m Q := by
  refine Mi_in ML_151 (show Rg 151 0 [some (.inr (34, 0)), none] [] m (qI Q) from ?_)
  refine r_aload_n L_151_0 rfl ?_
  refine r_iconst L_151_1 kI_0 ?_
  refine r_put L_151_2 ⟨rfl, rfl⟩ (fun z => absurd z (by decide)) ?_
  refine r_nm fun m1 em1 => ?_
  have h := h m1 em1
  refine r_iconst L_151_5 kI_1 ?_
  refine r_istore_n (ls1 := [some (.inr (34, 0)), some (.inl 1)]) L_151_6 (Nat.le_of_ble_eq_true rfl) rfl ?_
  exact h
/-- Model.does -/
theorem T_152 {x1 : Int32} {m : aM} {Q : Int32 → aM → Prop} (h :
   if x1 = 103 then
    (Mi 143 [.inr (34, 0), .inl (m 34 0 10)] m (fun v3 m2 =>
     Q v3 m2))
   else
   if x1 = 108 then
    (Mi 141 [.inr (34, 0), .inl (m 34 0 10), .inl (m 34 0 11), .inl (m 34 0 12)] m (fun v6 m5 =>
     Q v6 m5))
   else
   if x1 = 119 then
    (Mi 136 [.inr (34, 0), .inl (m 34 0 10)] m (fun v9 m8 =>
     Q v9 m8))
   else
   if x1 = 122 then
    (Mi 137 [.inr (34, 0), .inl (m 34 0 10)] m (fun v12 m11 =>
     Q v12 m11))
   else
    Mi 144 [.inr (34, 0), .inl (m 34 0 10)] m (fun v14 m13 =>
     Q v14 m13)
  ) : Mi 152 [.inr (34, 0), .inl x1] m Q := by
  refine Mi_in ML_152 (show Rg 152 0 [some (.inr (34, 0)), some (.inl x1)] [] m (qI Q) from ?_)
  refine r_iload_n L_152_0 rfl ?_
  refine r_lsw L_152_1 (sw_pos (by decide) (by decide)) ?_
  refine sw_l (tgt := 61) kT_103 (by decide) (i_mono h (fun c1 h => ?_) (fun c1 h => ?_))
  · refine r_aload_n L_152_61 rfl ?_
    refine r_aload_n L_152_62 rfl ?_
    refine r_geti L_152_63 rfl rfl ?_
    refine r_cv L_152_66 rfl (Mi_mono h fun v3 m2 h => ?_)
    exact r_iret L_152_69 RT_152 h
  · skip
    refine sw_l (tgt := 44) kT_108 (by decide) (i_mono h (fun c4 h => ?_) (fun c4 h => ?_))
    · refine r_aload_n L_152_44 rfl ?_
      refine r_aload_n L_152_45 rfl ?_
      refine r_geti L_152_46 rfl rfl ?_
      refine r_aload_n L_152_49 rfl ?_
      refine r_geti L_152_50 rfl rfl ?_
      refine r_aload_n L_152_53 rfl ?_
      refine r_geti L_152_54 rfl rfl ?_
      refine r_cv L_152_57 rfl (Mi_mono h fun v6 m5 h => ?_)
      exact r_iret L_152_60 RT_152 h
    · skip
      refine sw_l (tgt := 70) kT_119 (by decide) (i_mono h (fun c7 h => ?_) (fun c7 h => ?_))
      · refine r_aload_n L_152_70 rfl ?_
        refine r_aload_n L_152_71 rfl ?_
        refine r_geti L_152_72 rfl rfl ?_
        refine r_cv L_152_75 rfl (Mi_mono h fun v9 m8 h => ?_)
        exact r_iret L_152_78 RT_152 h
      · skip
        refine sw_l (tgt := 79) kT_122 (by decide) (i_mono h (fun c10 h => ?_) (fun c10 h => ?_))
        · refine r_aload_n L_152_79 rfl ?_
          refine r_aload_n L_152_80 rfl ?_
          refine r_geti L_152_81 rfl rfl ?_
          refine r_cv L_152_84 rfl (Mi_mono h fun v12 m11 h => ?_)
          exact r_iret L_152_87 RT_152 h
        · skip
          refine sw_dl (tgt := 88) (by decide) ?_
          refine r_aload_n L_152_88 rfl ?_
          refine r_aload_n L_152_89 rfl ?_
          refine r_geti L_152_90 rfl rfl ?_
          refine r_cv L_152_93 rfl (Mi_mono h fun v14 m13 h => ?_)
          exact r_iret L_152_96 RT_152 h
def H_153_30 (x1 x2 : Int32) (m : aM) (Q : Int32 → aM → Prop) : Prop := ∀ d3 : Option aV, Rg 153 30 [some (.inr (34, 0)), some (.inl x1), some (.inl x2), d3] [] m (qI Q)
/-- Model.run, the loop at 30 -/
theorem T_153_30 {x1 x2 : Int32} {m : aM} {Q : Int32 → aM → Prop} (h :
   if x2 = 0 then
    ((∀ m2, m2 = a_up m 34 0 6 0 →
    Q x1 m2))
   else
    if (m 34 0 9) < (m 34 0 8) then
     (a_in (m 34 0 9) 80 = true ∧
      Mi 150 [.inr (34, 0)] m (fun v6 m5 =>
       if v6 = 0 then
        H_153_30 (x1 + 0) 0 m5 Q
       else
        Mi 152 [.inr (34, 0), .inl (m 40 0 (m 34 0 9).toNatClampNeg)] m5 (fun v9 m8 =>
         if v9 < 0 then
          H_153_30 (x1 + 0) 0 m8 Q
         else
          H_153_30 (x1 + 1) 1 m8 Q)))
    else
     (∀ m11, m11 = a_up m 34 0 6 0 →
     Q x1 m11)
  ) : H_153_30 x1 x2 m Q := by
  intro d3
  show Rg 153 30 [some (.inr (34, 0)), some (.inl x1), some (.inl x2), d3] [] m (qI Q)
  refine r_iload_n L_153_30 rfl ?_
  refine r_if L_153_31 rfl (i_mono h (fun c1 h => ?_) (fun c1 h => ?_))
  · refine r_aload_n L_153_91 rfl ?_
    refine r_iconst L_153_92 kI_0 ?_
    refine r_put L_153_93 ⟨rfl, rfl⟩ (fun _ => Or.inl rfl) ?_
    refine r_nm fun m2 em2 => ?_
    have h := h m2 em2
    refine r_iload_n L_153_96 rfl ?_
    exact r_iret L_153_97 RT_153 h
  · refine r_aload_n L_153_34 rfl ?_
    refine r_geti L_153_35 rfl rfl ?_
    refine r_aload_n L_153_38 rfl ?_
    refine r_geti L_153_39 rfl rfl ?_
    refine r_icmpn L_153_42 cc_ge (i_mono h (fun c3 h => ?_) (fun c3 h => ?_))
    · refine r_aload_n L_153_45 rfl ?_
      refine r_getr (c' := 40) (d' := 0) L_153_46 rfl rfl ?_
      refine r_aload_n L_153_49 rfl ?_
      refine r_geti L_153_50 rfl rfl ?_
      obtain ⟨g4, h⟩ := h
      refine r_iald (N := 80) (j := (m 34 0 9).toNatClampNeg) L_153_53 (by decide +kernel) rfl g4 rfl ?_
      refine r_istore_n (ls1 := [some (.inr (34, 0)), some (.inl x1), some (.inl x2), some (.inl (m 40 0 (m 34 0 9).toNatClampNeg))]) L_153_54 (Nat.le_of_ble_eq_true rfl) rfl ?_
      refine r_aload_n L_153_55 rfl ?_
      refine r_cv L_153_56 rfl (Mi_mono h fun v6 m5 h => ?_)
      refine r_if L_153_59 rfl (i_mono h (fun c7 h => ?_) (fun c7 h => ?_))
      · refine r_iconst L_153_74 kI_0 ?_
        refine r_istore_n (ls1 := [some (.inr (34, 0)), some (.inl x1), some (.inl 0), some (.inl (m 40 0 (m 34 0 9).toNatClampNeg))]) L_153_75 (Nat.le_of_ble_eq_true rfl) rfl ?_
        refine r_iload_n L_153_76 rfl ?_
        refine r_iload_n L_153_77 rfl ?_
        refine r_if (p := ((0 : Int32) = 0)) L_153_78 rfl (i_pos (by decide +kernel) ?_)
        refine r_iconst L_153_85 kI_0 ?_
        refine r_iadd L_153_86 ?_
        refine r_istore_n (ls1 := [some (.inr (34, 0)), some (.inl (x1 + 0)), some (.inl 0), some (.inl (m 40 0 (m 34 0 9).toNatClampNeg))]) L_153_87 (Nat.le_of_ble_eq_true rfl) rfl ?_
        refine r_goto L_153_88 ?_
        exact h _
      · refine r_aload_n L_153_62 rfl ?_
        refine r_iload_n L_153_63 rfl ?_
        refine r_cv L_153_64 rfl (Mi_mono h fun v9 m8 h => ?_)
        refine r_if L_153_67 rfl (i_mono h (fun c10 h => ?_) (fun c10 h => ?_))
        · refine r_iconst L_153_74 kI_0 ?_
          refine r_istore_n (ls1 := [some (.inr (34, 0)), some (.inl x1), some (.inl 0), some (.inl (m 40 0 (m 34 0 9).toNatClampNeg))]) L_153_75 (Nat.le_of_ble_eq_true rfl) rfl ?_
          refine r_iload_n L_153_76 rfl ?_
          refine r_iload_n L_153_77 rfl ?_
          refine r_if (p := ((0 : Int32) = 0)) L_153_78 rfl (i_pos (by decide +kernel) ?_)
          refine r_iconst L_153_85 kI_0 ?_
          refine r_iadd L_153_86 ?_
          refine r_istore_n (ls1 := [some (.inr (34, 0)), some (.inl (x1 + 0)), some (.inl 0), some (.inl (m 40 0 (m 34 0 9).toNatClampNeg))]) L_153_87 (Nat.le_of_ble_eq_true rfl) rfl ?_
          refine r_goto L_153_88 ?_
          exact h _
        · refine r_iconst L_153_70 kI_1 ?_
          refine r_goto L_153_71 ?_
          refine r_istore_n (ls1 := [some (.inr (34, 0)), some (.inl x1), some (.inl 1), some (.inl (m 40 0 (m 34 0 9).toNatClampNeg))]) L_153_75 (Nat.le_of_ble_eq_true rfl) rfl ?_
          refine r_iload_n L_153_76 rfl ?_
          refine r_iload_n L_153_77 rfl ?_
          refine r_if (p := ((1 : Int32) = 0)) L_153_78 rfl (i_neg (by decide +kernel) ?_)
          refine r_iconst L_153_81 kI_1 ?_
          refine r_goto L_153_82 ?_
          refine r_iadd L_153_86 ?_
          refine r_istore_n (ls1 := [some (.inr (34, 0)), some (.inl (x1 + 1)), some (.inl 1), some (.inl (m 40 0 (m 34 0 9).toNatClampNeg))]) L_153_87 (Nat.le_of_ble_eq_true rfl) rfl ?_
          refine r_goto L_153_88 ?_
          exact h _
    · refine r_aload_n L_153_91 rfl ?_
      refine r_iconst L_153_92 kI_0 ?_
      refine r_put L_153_93 ⟨rfl, rfl⟩ (fun _ => Or.inl rfl) ?_
      refine r_nm fun m11 em11 => ?_
      have h := h m11 em11
      refine r_iload_n L_153_96 rfl ?_
      exact r_iret L_153_97 RT_153 h
/-- Model.run -/
theorem T_153 {m : aM} {Q : Int32 → aM → Prop} (h :
   Mi 151 [.inr (34, 0)] m (fun v2 m1 =>
    if v2 = (-6) then
     (Mv 98 [.inr (34, 0)] m1 (fun m4 =>
      (∀ m5, m5 = a_up m4 34 0 6 1 →
      (∀ m6, m6 = a_up m5 34 0 9 0 →
      H_153_30 0 1 m6 Q))))
    else
     Q (-3) m1)
  ) : Mi 153 [.inr (34, 0)] m Q := by
  refine Mi_in ML_153 (show Rg 153 0 [some (.inr (34, 0)), none, none, none] [] m (qI Q) from ?_)
  refine r_aload_n L_153_0 rfl ?_
  refine r_cv L_153_1 rfl (Mi_mono h fun v2 m1 h => ?_)
  refine r_bipush L_153_4 kB_m6 ?_
  refine r_icmp L_153_6 rfl (i_mono h (fun c3 h => ?_) (fun c3 h => ?_))
  · refine r_aload_n L_153_12 rfl ?_
    refine r_cvv L_153_13 rfl (Mv_mono h fun m4 h => ?_)
    refine r_aload_n L_153_16 rfl ?_
    refine r_iconst L_153_17 kI_1 ?_
    refine r_put L_153_18 ⟨rfl, rfl⟩ (fun _ => Or.inr rfl) ?_
    refine r_nm fun m5 em5 => ?_
    have h := h m5 em5
    refine r_iconst L_153_21 kI_0 ?_
    refine r_istore_n (ls1 := [some (.inr (34, 0)), some (.inl 0), none, none]) L_153_22 (Nat.le_of_ble_eq_true rfl) rfl ?_
    refine r_iconst L_153_23 kI_1 ?_
    refine r_istore_n (ls1 := [some (.inr (34, 0)), some (.inl 0), some (.inl 1), none]) L_153_24 (Nat.le_of_ble_eq_true rfl) rfl ?_
    refine r_aload_n L_153_25 rfl ?_
    refine r_iconst L_153_26 kI_0 ?_
    refine r_put L_153_27 ⟨rfl, rfl⟩ (fun z => absurd z (by decide)) ?_
    refine r_nm fun m6 em6 => ?_
    have h := h m6 em6
    exact h _
  · refine r_bipush L_153_9 kB_m3 ?_
    exact r_iret L_153_11 RT_153 h
def H_154_22 (x1 : Int32) (m : aM) (Q : Int32 → aM → Prop) : Prop := Rg 154 22 [some (.inr (34, 0)), some (.inl x1)] [] m (qI Q)
/-- Model.undo, the loop at 22 -/
theorem T_154_22 {x1 : Int32} {m : aM} {Q : Int32 → aM → Prop} (h :
   if x1 < 264 then
    (a_in ((264 * (m 34 0 5)) + x1) 1320 = true ∧
     (a_in x1 264 = true ∧
      (∀ m4, m4 = a_up m 35 0 x1.toNatClampNeg (m 36 0 ((264 * (m 34 0 5)) + x1).toNatClampNeg) →
      H_154_22 (x1 + 1) m4 Q)))
   else
    Q (m 34 0 5) m
  ) : H_154_22 x1 m Q := by
  show Rg 154 22 [some (.inr (34, 0)), some (.inl x1)] [] m (qI Q)
  refine r_iload_n L_154_22 rfl ?_
  refine r_sipush L_154_23 kS_264 ?_
  refine r_icmpn L_154_26 cc_ge (i_mono h (fun c1 h => ?_) (fun c1 h => ?_))
  · refine r_aload_n L_154_29 rfl ?_
    refine r_getr (c' := 35) (d' := 0) L_154_30 rfl rfl ?_
    refine r_iload_n L_154_33 rfl ?_
    refine r_aload_n L_154_34 rfl ?_
    refine r_getr (c' := 36) (d' := 0) L_154_35 rfl rfl ?_
    refine r_sipush L_154_38 kS_264 ?_
    refine r_aload_n L_154_41 rfl ?_
    refine r_geti L_154_42 rfl rfl ?_
    refine r_imul L_154_45 ?_
    refine r_iload_n L_154_46 rfl ?_
    refine r_iadd L_154_47 ?_
    obtain ⟨g2, h⟩ := h
    refine r_iald (N := 1320) (j := ((264 * (m 34 0 5)) + x1).toNatClampNeg) L_154_48 (by decide +kernel) rfl g2 rfl ?_
    obtain ⟨g3, h⟩ := h
    refine r_iast (N := 264) (j := x1.toNatClampNeg) L_154_49 (by decide +kernel) rfl g3 rfl ?_
    refine r_nm fun m4 em4 => ?_
    have h := h m4 em4
    refine r_iinc (ls1 := [some (.inr (34, 0)), some (.inl (x1 + 1))]) L_154_50 kI_1 rfl (Nat.le_of_ble_eq_true rfl) rfl ?_
    refine r_goto L_154_53 ?_
    exact h
  · refine r_aload_n L_154_56 rfl ?_
    refine r_geti L_154_57 rfl rfl ?_
    exact r_iret L_154_60 RT_154 h
/-- Model.undo -/
theorem T_154 {m : aM} {Q : Int32 → aM → Prop} (h :
   if (m 34 0 5) = 0 then
    Q (-3) m
   else
    (∀ m2, m2 = a_up m 34 0 5 ((m 34 0 5) - 1) →
    H_154_22 0 m2 Q)
  ) : Mi 154 [.inr (34, 0)] m Q := by
  refine Mi_in ML_154 (show Rg 154 0 [some (.inr (34, 0)), none] [] m (qI Q) from ?_)
  refine r_aload_n L_154_0 rfl ?_
  refine r_geti L_154_1 rfl rfl ?_
  refine r_ifn L_154_4 rfl (i_mono h (fun c1 h => ?_) (fun c1 h => ?_))
  · refine r_bipush L_154_7 kB_m3 ?_
    exact r_iret L_154_9 RT_154 h
  · refine r_aload_n L_154_10 rfl ?_
    refine r_dup L_154_11 ?_
    refine r_geti L_154_12 rfl rfl ?_
    refine r_iconst L_154_15 kI_1 ?_
    refine r_isub L_154_16 ?_
    refine r_put L_154_17 ⟨rfl, rfl⟩ (fun z => absurd z (by decide)) ?_
    refine r_nm fun m2 em2 => ?_
    have h := h m2 em2
    refine r_iconst L_154_20 kI_0 ?_
    refine r_istore_n (ls1 := [some (.inr (34, 0)), some (.inl 0)]) L_154_21 (Nat.le_of_ble_eq_true rfl) rfl ?_
    exact h
def H_155_13 (x1 x2 : Int32) (m : aM) (Q : Int32 → aM → Prop) : Prop := Rg 155 13 [some (.inr (34, 0)), some (.inl x1), some (.inl x2)] [] m (qI Q)
/-- Model.save, the loop at 13 -/
theorem T_155_13 {x1 x2 : Int32} {m : aM} {Q : Int32 → aM → Prop} (h :
   if x2 < 264 then
    (a_in x2 264 = true ∧
     (a_in ((264 * x1) + x2) 528 = true ∧
      (∀ m4, m4 = a_up m 37 0 ((264 * x1) + x2).toNatClampNeg (m 35 0 x2.toNatClampNeg) →
      H_155_13 x1 (x2 + 1) m4 Q)))
   else
    (a_in x1 2 = true ∧
     (∀ m6, m6 = a_up m 38 0 x1.toNatClampNeg 1 →
     Q (m6 35 0 0) m6))
  ) : H_155_13 x1 x2 m Q := by
  show Rg 155 13 [some (.inr (34, 0)), some (.inl x1), some (.inl x2)] [] m (qI Q)
  refine r_iload_n L_155_13 rfl ?_
  refine r_sipush L_155_14 kS_264 ?_
  refine r_icmpn L_155_17 cc_ge (i_mono h (fun c1 h => ?_) (fun c1 h => ?_))
  · refine r_aload_n L_155_20 rfl ?_
    refine r_getr (c' := 37) (d' := 0) L_155_21 rfl rfl ?_
    refine r_sipush L_155_24 kS_264 ?_
    refine r_iload_n L_155_27 rfl ?_
    refine r_imul L_155_28 ?_
    refine r_iload_n L_155_29 rfl ?_
    refine r_iadd L_155_30 ?_
    refine r_aload_n L_155_31 rfl ?_
    refine r_getr (c' := 35) (d' := 0) L_155_32 rfl rfl ?_
    refine r_iload_n L_155_35 rfl ?_
    obtain ⟨g2, h⟩ := h
    refine r_iald (N := 264) (j := x2.toNatClampNeg) L_155_36 (by decide +kernel) rfl g2 rfl ?_
    obtain ⟨g3, h⟩ := h
    refine r_iast (N := 528) (j := ((264 * x1) + x2).toNatClampNeg) L_155_37 (by decide +kernel) rfl g3 rfl ?_
    refine r_nm fun m4 em4 => ?_
    have h := h m4 em4
    refine r_iinc (ls1 := [some (.inr (34, 0)), some (.inl x1), some (.inl (x2 + 1))]) L_155_38 kI_1 rfl (Nat.le_of_ble_eq_true rfl) rfl ?_
    refine r_goto L_155_41 ?_
    exact h
  · refine r_aload_n L_155_44 rfl ?_
    refine r_getr (c' := 38) (d' := 0) L_155_45 rfl rfl ?_
    refine r_iload_n L_155_48 rfl ?_
    refine r_iconst L_155_49 kI_1 ?_
    obtain ⟨g5, h⟩ := h
    refine r_bast (N := 2) (j := x1.toNatClampNeg) L_155_50 (by decide +kernel) rfl g5 (Or.inr rfl) rfl ?_
    refine r_nm fun m6 em6 => ?_
    have h := h m6 em6
    refine r_aload_n L_155_51 rfl ?_
    refine r_getr (c' := 35) (d' := 0) L_155_52 rfl rfl ?_
    refine r_iconst L_155_55 kI_0 ?_
    refine r_iald (N := 264) (j := 0) L_155_56 (by decide +kernel) rfl (by decide +kernel) (by decide +kernel) ?_
    exact r_iret L_155_57 RT_155 h
/-- Model.save -/
theorem T_155 {x1 : Int32} {m : aM} {Q : Int32 → aM → Prop} (h :
   if ¬ x1 < 0 ∧ ¬ 1 < x1 then
    H_155_13 x1 0 m Q
   else
    Q (-1) m
  ) : Mi 155 [.inr (34, 0), .inl x1] m Q := by
  refine Mi_in ML_155 (show Rg 155 0 [some (.inr (34, 0)), some (.inl x1), none] [] m (qI Q) from ?_)
  refine r_iload_n L_155_0 rfl ?_
  refine r_iconst L_155_1 kI_0 ?_
  refine r_iconst L_155_2 kI_1 ?_
  refine r_cs L_155_3 (by decide) rfl (V_97 ?_)
  refine r_ifneP L_155_6 (i_mono h (fun c1 h => ?_) (fun c1 h => ?_))
  · refine r_iconst L_155_11 kI_0 ?_
    refine r_istore_n (ls1 := [some (.inr (34, 0)), some (.inl x1), some (.inl 0)]) L_155_12 (Nat.le_of_ble_eq_true rfl) rfl ?_
    exact h
  · refine r_iconst L_155_9 kI_m1 ?_
    exact r_iret L_155_10 RT_155 h
def H_156_29 (x1 x2 : Int32) (m : aM) (Q : Int32 → aM → Prop) : Prop := Rg 156 29 [some (.inr (34, 0)), some (.inl x1), some (.inl x2)] [] m (qI Q)
/-- Model.restore, the loop at 29 -/
theorem T_156_29 {x1 x2 : Int32} {m : aM} {Q : Int32 → aM → Prop} (h :
   if x2 < 264 then
    (a_in ((264 * x1) + x2) 528 = true ∧
     (a_in x2 264 = true ∧
      (∀ m4, m4 = a_up m 35 0 x2.toNatClampNeg (m 37 0 ((264 * x1) + x2).toNatClampNeg) →
      H_156_29 x1 (x2 + 1) m4 Q)))
   else
    Q (m 35 0 0) m
  ) : H_156_29 x1 x2 m Q := by
  show Rg 156 29 [some (.inr (34, 0)), some (.inl x1), some (.inl x2)] [] m (qI Q)
  refine r_iload_n L_156_29 rfl ?_
  refine r_sipush L_156_30 kS_264 ?_
  refine r_icmpn L_156_33 cc_ge (i_mono h (fun c1 h => ?_) (fun c1 h => ?_))
  · refine r_aload_n L_156_36 rfl ?_
    refine r_getr (c' := 35) (d' := 0) L_156_37 rfl rfl ?_
    refine r_iload_n L_156_40 rfl ?_
    refine r_aload_n L_156_41 rfl ?_
    refine r_getr (c' := 37) (d' := 0) L_156_42 rfl rfl ?_
    refine r_sipush L_156_45 kS_264 ?_
    refine r_iload_n L_156_48 rfl ?_
    refine r_imul L_156_49 ?_
    refine r_iload_n L_156_50 rfl ?_
    refine r_iadd L_156_51 ?_
    obtain ⟨g2, h⟩ := h
    refine r_iald (N := 528) (j := ((264 * x1) + x2).toNatClampNeg) L_156_52 (by decide +kernel) rfl g2 rfl ?_
    obtain ⟨g3, h⟩ := h
    refine r_iast (N := 264) (j := x2.toNatClampNeg) L_156_53 (by decide +kernel) rfl g3 rfl ?_
    refine r_nm fun m4 em4 => ?_
    have h := h m4 em4
    refine r_iinc (ls1 := [some (.inr (34, 0)), some (.inl x1), some (.inl (x2 + 1))]) L_156_54 kI_1 rfl (Nat.le_of_ble_eq_true rfl) rfl ?_
    refine r_goto L_156_57 ?_
    exact h
  · refine r_aload_n L_156_60 rfl ?_
    refine r_getr (c' := 35) (d' := 0) L_156_61 rfl rfl ?_
    refine r_iconst L_156_64 kI_0 ?_
    refine r_iald (N := 264) (j := 0) L_156_65 (by decide +kernel) rfl (by decide +kernel) (by decide +kernel) ?_
    exact r_iret L_156_66 RT_156 h
/-- Model.restore -/
theorem T_156 {x1 : Int32} {m : aM} {Q : Int32 → aM → Prop} (h :
   if ¬ x1 < 0 ∧ ¬ 1 < x1 then
    (a_in x1 2 = true ∧
     if (m 38 0 x1.toNatClampNeg) = 0 then
      Q (-3) m
     else
      Mv 98 [.inr (34, 0)] m (fun m4 =>
       H_156_29 x1 0 m4 Q))
   else
    Q (-1) m
  ) : Mi 156 [.inr (34, 0), .inl x1] m Q := by
  refine Mi_in ML_156 (show Rg 156 0 [some (.inr (34, 0)), some (.inl x1), none] [] m (qI Q) from ?_)
  refine r_iload_n L_156_0 rfl ?_
  refine r_iconst L_156_1 kI_0 ?_
  refine r_iconst L_156_2 kI_1 ?_
  refine r_cs L_156_3 (by decide) rfl (V_97 ?_)
  refine r_ifneP L_156_6 (i_mono h (fun c1 h => ?_) (fun c1 h => ?_))
  · refine r_aload_n L_156_11 rfl ?_
    refine r_getr (c' := 38) (d' := 0) L_156_12 rfl rfl ?_
    refine r_iload_n L_156_15 rfl ?_
    obtain ⟨g2, h⟩ := h
    refine r_bald (N := 2) (j := x1.toNatClampNeg) L_156_16 (by decide +kernel) rfl g2 rfl ?_
    refine r_ifn L_156_17 rfl (i_mono h (fun c3 h => ?_) (fun c3 h => ?_))
    · refine r_bipush L_156_20 kB_m3 ?_
      exact r_iret L_156_22 RT_156 h
    · refine r_aload_n L_156_23 rfl ?_
      refine r_cvv L_156_24 rfl (Mv_mono h fun m4 h => ?_)
      refine r_iconst L_156_27 kI_0 ?_
      refine r_istore_n (ls1 := [some (.inr (34, 0)), some (.inl x1), some (.inl 0)]) L_156_28 (Nat.le_of_ble_eq_true rfl) rfl ?_
      exact h
  · refine r_iconst L_156_9 kI_m1 ?_
    exact r_iret L_156_10 RT_156 h
def H_157_15 (x1 x2 x3 : Int32) (m : aM) (Q : Int32 → aM → Prop) : Prop := Rg 157 15 [some (.inr (34, 0)), some (.inl x1), some (.inl x2), some (.inl x3)] [] m (qI Q)
/-- Model.onAccount, the loop at 15 -/
theorem T_157_15 {x1 x2 x3 : Int32} {m : aM} {Q : Int32 → aM → Prop} (h :
   if x3 < (m 35 0 3) then
    (a_in (104 + 10 * x3 + 3) 264 = true ∧
     if ¬ m 35 0 (104 + 10 * x3 + 3).toNatClampNeg = (-6) then
      (Mi 124 [.inr (34, 0), .inl x3] m (fun v5 m4 =>
       if v5 = 0 then
        ((a_in ((8 + (5 * x1)) + 4) 264 = true ∧
         (∀ m8, m8 = a_up m4 35 0 ((8 + (5 * x1)) + 4).toNatClampNeg 0 →
         Mi 124 [.inr (34, 0), .inl x3] m8 (fun v10 m9 =>
          if v10 = 0 then
           ((∀ m12, m12 = a_up m9 35 0 ((8 + (5 * x1)) + 4).toNatClampNeg 1 →
           H_157_15 x1 (x2 + 0) (x3 + 1) m12 Q))
          else
           (∀ m13, m13 = a_up m9 35 0 ((8 + (5 * x1)) + 4).toNatClampNeg 1 →
           H_157_15 x1 (x2 + 1) (x3 + 1) m13 Q)))))
       else
        H_157_15 x1 x2 (x3 + 1) m4 Q))
     else
      H_157_15 x1 x2 (x3 + 1) m Q)
   else
    Q x2 m
  ) : H_157_15 x1 x2 x3 m Q := by
  show Rg 157 15 [some (.inr (34, 0)), some (.inl x1), some (.inl x2), some (.inl x3)] [] m (qI Q)
  refine r_iload_n L_157_15 rfl ?_
  refine r_aload_n L_157_16 rfl ?_
  refine r_getr (c' := 35) (d' := 0) L_157_17 rfl rfl ?_
  refine r_iconst L_157_20 kI_3 ?_
  refine r_iald (N := 264) (j := 3) L_157_21 (by decide +kernel) rfl (by decide +kernel) (by decide +kernel) ?_
  refine r_icmpn L_157_22 cc_ge (i_mono h (fun c1 h => ?_) (fun c1 h => ?_))
  · refine r_aload_n L_157_25 rfl ?_
    refine r_iload_n L_157_26 rfl ?_
    obtain ⟨g2, h⟩ := h
    refine r_cv L_157_27 rfl (V_120 g2 ?_)
    refine r_ifeqP L_157_30 (i_mono h (fun c3 h => ?_) (fun c3 h => ?_))
    · refine r_aload_n L_157_33 rfl ?_
      refine r_iload_n L_157_34 rfl ?_
      refine r_cv L_157_35 rfl (Mi_mono h fun v5 m4 h => ?_)
      refine r_ifn L_157_38 rfl (i_mono h (fun c6 h => ?_) (fun c6 h => ?_))
      · refine r_aload_n L_157_41 rfl ?_
        refine r_getr (c' := 35) (d' := 0) L_157_42 rfl rfl ?_
        refine r_bipush L_157_45 kB_8 ?_
        refine r_iconst L_157_47 kI_5 ?_
        refine r_iload_n L_157_48 rfl ?_
        refine r_imul L_157_49 ?_
        refine r_iadd L_157_50 ?_
        refine r_iconst L_157_51 kI_4 ?_
        refine r_iadd L_157_52 ?_
        refine r_iconst L_157_53 kI_0 ?_
        obtain ⟨g7, h⟩ := h
        refine r_iast (N := 264) (j := ((8 + (5 * x1)) + 4).toNatClampNeg) L_157_54 (by decide +kernel) rfl g7 rfl ?_
        refine r_nm fun m8 em8 => ?_
        have h := h m8 em8
        refine r_iload_n L_157_55 rfl ?_
        refine r_aload_n L_157_56 rfl ?_
        refine r_iload_n L_157_57 rfl ?_
        refine r_cv L_157_58 rfl (Mi_mono h fun v10 m9 h => ?_)
        refine r_if L_157_61 rfl (i_mono h (fun c11 h => ?_) (fun c11 h => ?_))
        · refine r_iconst L_157_68 kI_0 ?_
          refine r_iadd L_157_69 ?_
          refine r_istore_n (ls1 := [some (.inr (34, 0)), some (.inl x1), some (.inl (x2 + 0)), some (.inl x3)]) L_157_70 (Nat.le_of_ble_eq_true rfl) rfl ?_
          refine r_aload_n L_157_71 rfl ?_
          refine r_getr (c' := 35) (d' := 0) L_157_72 rfl rfl ?_
          refine r_bipush L_157_75 kB_8 ?_
          refine r_iconst L_157_77 kI_5 ?_
          refine r_iload_n L_157_78 rfl ?_
          refine r_imul L_157_79 ?_
          refine r_iadd L_157_80 ?_
          refine r_iconst L_157_81 kI_4 ?_
          refine r_iadd L_157_82 ?_
          refine r_iconst L_157_83 kI_1 ?_
          refine r_iast (N := 264) (j := ((8 + (5 * x1)) + 4).toNatClampNeg) L_157_84 (by decide +kernel) rfl g7 rfl ?_
          refine r_nm fun m12 em12 => ?_
          have h := h m12 em12
          refine r_iinc (ls1 := [some (.inr (34, 0)), some (.inl x1), some (.inl (x2 + 0)), some (.inl (x3 + 1))]) L_157_85 kI_1 rfl (Nat.le_of_ble_eq_true rfl) rfl ?_
          refine r_goto L_157_88 ?_
          exact h
        · refine r_iconst L_157_64 kI_1 ?_
          refine r_goto L_157_65 ?_
          refine r_iadd L_157_69 ?_
          refine r_istore_n (ls1 := [some (.inr (34, 0)), some (.inl x1), some (.inl (x2 + 1)), some (.inl x3)]) L_157_70 (Nat.le_of_ble_eq_true rfl) rfl ?_
          refine r_aload_n L_157_71 rfl ?_
          refine r_getr (c' := 35) (d' := 0) L_157_72 rfl rfl ?_
          refine r_bipush L_157_75 kB_8 ?_
          refine r_iconst L_157_77 kI_5 ?_
          refine r_iload_n L_157_78 rfl ?_
          refine r_imul L_157_79 ?_
          refine r_iadd L_157_80 ?_
          refine r_iconst L_157_81 kI_4 ?_
          refine r_iadd L_157_82 ?_
          refine r_iconst L_157_83 kI_1 ?_
          refine r_iast (N := 264) (j := ((8 + (5 * x1)) + 4).toNatClampNeg) L_157_84 (by decide +kernel) rfl g7 rfl ?_
          refine r_nm fun m13 em13 => ?_
          have h := h m13 em13
          refine r_iinc (ls1 := [some (.inr (34, 0)), some (.inl x1), some (.inl (x2 + 1)), some (.inl (x3 + 1))]) L_157_85 kI_1 rfl (Nat.le_of_ble_eq_true rfl) rfl ?_
          refine r_goto L_157_88 ?_
          exact h
      · refine r_iinc (ls1 := [some (.inr (34, 0)), some (.inl x1), some (.inl x2), some (.inl (x3 + 1))]) L_157_85 kI_1 rfl (Nat.le_of_ble_eq_true rfl) rfl ?_
        refine r_goto L_157_88 ?_
        exact h
    · refine r_iinc (ls1 := [some (.inr (34, 0)), some (.inl x1), some (.inl x2), some (.inl (x3 + 1))]) L_157_85 kI_1 rfl (Nat.le_of_ble_eq_true rfl) rfl ?_
      refine r_goto L_157_88 ?_
      exact h
  · refine r_iload_n L_157_91 rfl ?_
    exact r_iret L_157_92 RT_157 h
/-- Model.onAccount -/
theorem T_157 {x1 : Int32} {m : aM} {Q : Int32 → aM → Prop} (h :
   a_in (8 + 5 * x1 + 4) 264 = true ∧
    if (m 35 0 (8 + 5 * x1 + 4).toNatClampNeg) = 0 then
     Q 0 m
    else
     H_157_15 x1 0 0 m Q
  ) : Mi 157 [.inr (34, 0), .inl x1] m Q := by
  refine Mi_in ML_157 (show Rg 157 0 [some (.inr (34, 0)), some (.inl x1), none, none] [] m (qI Q) from ?_)
  refine r_iconst L_157_0 kI_0 ?_
  refine r_istore_n (ls1 := [some (.inr (34, 0)), some (.inl x1), some (.inl 0), none]) L_157_1 (Nat.le_of_ble_eq_true rfl) rfl ?_
  refine r_aload_n L_157_2 rfl ?_
  refine r_iload_n L_157_3 rfl ?_
  refine r_iconst L_157_4 kI_4 ?_
  obtain ⟨g1, h⟩ := h
  refine r_cv L_157_5 rfl (V_104 g1 ?_)
  refine r_ifn L_157_8 rfl (i_mono h (fun c2 h => ?_) (fun c2 h => ?_))
  · refine r_iconst L_157_11 kI_0 ?_
    exact r_iret L_157_12 RT_157 h
  · refine r_iconst L_157_13 kI_0 ?_
    refine r_istore_n (ls1 := [some (.inr (34, 0)), some (.inl x1), some (.inl 0), some (.inl 0)]) L_157_14 (Nat.le_of_ble_eq_true rfl) rfl ?_
    exact h
/-- Model.station -/
theorem T_158 {x1 x2 : Int32} {m : aM} {Q : Int32 → aM → Prop} (h :
   if ¬ x1 < 0 ∧ x1 < m 35 0 1 then
    (if x2 = 0 then
     (a_in (8 + 5 * x1 + x2) 264 = true ∧
      Q (m 35 0 (8 + 5 * x1 + x2).toNatClampNeg) m)
    else
    if x2 = 1 then
     (a_in (8 + 5 * x1 + x2) 264 = true ∧
      Q (m 35 0 (8 + 5 * x1 + x2).toNatClampNeg) m)
    else
    if x2 = 2 then
     (a_in (8 + 5 * x1 + x2) 264 = true ∧
      Q (m 35 0 (8 + 5 * x1 + x2).toNatClampNeg) m)
    else
    if x2 = 3 then
     (a_in (8 + 5 * x1 + x2) 264 = true ∧
      Q (m 35 0 (8 + 5 * x1 + x2).toNatClampNeg) m)
    else
    if x2 = 4 then
     (a_in (8 + 5 * x1 + 3) 264 = true ∧
      Q (radI (m 35 0 (8 + 5 * x1 + 3).toNatClampNeg)) m)
    else
    if x2 = 5 then
     (a_in (8 + 5 * x1 + 4) 264 = true ∧
      Q (m 35 0 (8 + 5 * x1 + 4).toNatClampNeg) m)
    else
    if x2 = 6 then
     (Mi 157 [.inr (34, 0), .inl x1] m (fun v16 m15 =>
      Q v16 m15))
    else
     Q (-2) m)
   else
    Q (-1) m
  ) : Mi 158 [.inr (34, 0), .inl x1, .inl x2] m Q := by
  refine Mi_in ML_158 (show Rg 158 0 [some (.inr (34, 0)), some (.inl x1), some (.inl x2)] [] m (qI Q) from ?_)
  refine r_aload_n L_158_0 rfl ?_
  refine r_iload_n L_158_1 rfl ?_
  refine r_cv L_158_2 rfl (V_101 ?_)
  refine r_ifneP L_158_5 (i_mono h (fun c1 h => ?_) (fun c1 h => ?_))
  · refine r_iload_n L_158_10 rfl ?_
    refine r_tsw2 L_158_11 (by decide) (by decide) ?_
    refine sw_t (tgt := 52) kT_0 (by decide) (i_mono h (fun c2 h => ?_) (fun c2 h => ?_))
    · refine r_aload_n L_158_52 rfl ?_
      refine r_iload_n L_158_53 rfl ?_
      refine r_iload_n L_158_54 rfl ?_
      obtain ⟨g3, h⟩ := h
      refine r_cv L_158_55 rfl (V_104 g3 ?_)
      exact r_iret L_158_58 RT_158 h
    · skip
      refine sw_t (tgt := 52) kT_1 (by decide) (i_mono h (fun c4 h => ?_) (fun c4 h => ?_))
      · refine r_aload_n L_158_52 rfl ?_
        refine r_iload_n L_158_53 rfl ?_
        refine r_iload_n L_158_54 rfl ?_
        obtain ⟨g5, h⟩ := h
        refine r_cv L_158_55 rfl (V_104 g5 ?_)
        exact r_iret L_158_58 RT_158 h
      · skip
        refine sw_t (tgt := 52) kT_2 (by decide) (i_mono h (fun c6 h => ?_) (fun c6 h => ?_))
        · refine r_aload_n L_158_52 rfl ?_
          refine r_iload_n L_158_53 rfl ?_
          refine r_iload_n L_158_54 rfl ?_
          obtain ⟨g7, h⟩ := h
          refine r_cv L_158_55 rfl (V_104 g7 ?_)
          exact r_iret L_158_58 RT_158 h
        · skip
          refine sw_t (tgt := 52) kT_3 (by decide) (i_mono h (fun c8 h => ?_) (fun c8 h => ?_))
          · refine r_aload_n L_158_52 rfl ?_
            refine r_iload_n L_158_53 rfl ?_
            refine r_iload_n L_158_54 rfl ?_
            obtain ⟨g9, h⟩ := h
            refine r_cv L_158_55 rfl (V_104 g9 ?_)
            exact r_iret L_158_58 RT_158 h
          · skip
            refine sw_t (tgt := 59) kT_4 (by decide) (i_mono h (fun c10 h => ?_) (fun c10 h => ?_))
            · refine r_aload_n L_158_59 rfl ?_
              refine r_iload_n L_158_60 rfl ?_
              refine r_iconst L_158_61 kI_3 ?_
              obtain ⟨g11, h⟩ := h
              refine r_cv L_158_62 rfl (V_104 g11 ?_)
              refine r_cs L_158_65 (by decide) rfl (V_111 ?_)
              exact r_iret L_158_68 RT_158 h
            · skip
              refine sw_t (tgt := 69) kT_5 (by decide) (i_mono h (fun c12 h => ?_) (fun c12 h => ?_))
              · refine r_aload_n L_158_69 rfl ?_
                refine r_iload_n L_158_70 rfl ?_
                refine r_iconst L_158_71 kI_4 ?_
                obtain ⟨g13, h⟩ := h
                refine r_cv L_158_72 rfl (V_104 g13 ?_)
                exact r_iret L_158_75 RT_158 h
              · skip
                refine sw_t (tgt := 76) kT_6 (by decide) (i_mono h (fun c14 h => ?_) (fun c14 h => ?_))
                · refine r_aload_n L_158_76 rfl ?_
                  refine r_iload_n L_158_77 rfl ?_
                  refine r_cv L_158_78 rfl (Mi_mono h fun v16 m15 h => ?_)
                  exact r_iret L_158_81 RT_158 h
                · skip
                  refine sw_d (tgt := 82) (by decide) ?_
                  refine r_bipush L_158_82 kB_m2 ?_
                  exact r_iret L_158_84 RT_158 h
  · refine r_iconst L_158_8 kI_m1 ?_
    exact r_iret L_158_9 RT_158 h
/-- Model.event -/
theorem T_159 {x1 x2 : Int32} {m : aM} {Q : Int32 → aM → Prop} (h :
   if ¬ x1 < 0 ∧ x1 < m 35 0 2 then
    (if ¬ x2 < 0 ∧ ¬ 7 < x2 then
     (if x2 < 7 then
      (a_in (48 + 7 * x1 + x2) 264 = true ∧
       Q (m 35 0 (48 + 7 * x1 + x2).toNatClampNeg) m)
     else
      Mi 115 [.inr (34, 0), .inl x1, .inl (m 35 0 0)] m (fun v6 m5 =>
       if v6 = 0 then
        Q 0 m5
       else
        Q 1 m5))
    else
     Q (-2) m)
   else
    Q (-1) m
  ) : Mi 159 [.inr (34, 0), .inl x1, .inl x2] m Q := by
  refine Mi_in ML_159 (show Rg 159 0 [some (.inr (34, 0)), some (.inl x1), some (.inl x2)] [] m (qI Q) from ?_)
  refine r_aload_n L_159_0 rfl ?_
  refine r_iload_n L_159_1 rfl ?_
  refine r_cv L_159_2 rfl (V_102 ?_)
  refine r_ifneP L_159_5 (i_mono h (fun c1 h => ?_) (fun c1 h => ?_))
  · refine r_iload_n L_159_10 rfl ?_
    refine r_iconst L_159_11 kI_0 ?_
    refine r_bipush L_159_12 kB_7 ?_
    refine r_cs L_159_14 (by decide) rfl (V_97 ?_)
    refine r_ifneP L_159_17 (i_mono h (fun c2 h => ?_) (fun c2 h => ?_))
    · refine r_iload_n L_159_23 rfl ?_
      refine r_bipush L_159_24 kB_7 ?_
      refine r_icmpn L_159_26 cc_ge (i_mono h (fun c3 h => ?_) (fun c3 h => ?_))
      · refine r_aload_n L_159_29 rfl ?_
        refine r_iload_n L_159_30 rfl ?_
        refine r_iload_n L_159_31 rfl ?_
        obtain ⟨g4, h⟩ := h
        refine r_cv L_159_32 rfl (V_105 g4 ?_)
        refine r_goto L_159_35 ?_
        exact r_iret L_159_57 RT_159 h
      · refine r_aload_n L_159_38 rfl ?_
        refine r_iload_n L_159_39 rfl ?_
        refine r_aload_n L_159_40 rfl ?_
        refine r_getr (c' := 35) (d' := 0) L_159_41 rfl rfl ?_
        refine r_iconst L_159_44 kI_0 ?_
        refine r_iald (N := 264) (j := 0) L_159_45 (by decide +kernel) rfl (by decide +kernel) (by decide +kernel) ?_
        refine r_cv L_159_46 rfl (Mi_mono h fun v6 m5 h => ?_)
        refine r_if L_159_49 rfl (i_mono h (fun c7 h => ?_) (fun c7 h => ?_))
        · refine r_iconst L_159_56 kI_0 ?_
          exact r_iret L_159_57 RT_159 h
        · refine r_iconst L_159_52 kI_1 ?_
          refine r_goto L_159_53 ?_
          exact r_iret L_159_57 RT_159 h
    · refine r_bipush L_159_20 kB_m2 ?_
      exact r_iret L_159_22 RT_159 h
  · refine r_iconst L_159_8 kI_m1 ?_
    exact r_iret L_159_9 RT_159 h
def H_160_9 (x1 x2 : Int32) (m : aM) (Q : Int32 → aM → Prop) : Prop := Rg 160 9 [some (.inr (34, 0)), some (.inl x1), some (.inl x2)] [] m (qI Q)
/-- Model.nextAsk, the loop at 9 -/
theorem T_160_9 {x1 x2 : Int32} {m : aM} {Q : Int32 → aM → Prop} (h :
   ¬ (m 35 0 6) = 0 ∧
    if (iR (x2 + x1) (m 35 0 6)) = 0 then
     Q x2 m
    else
     H_160_9 x1 (x2 + 1) m Q
  ) : H_160_9 x1 x2 m Q := by
  show Rg 160 9 [some (.inr (34, 0)), some (.inl x1), some (.inl x2)] [] m (qI Q)
  refine r_iload_n L_160_9 rfl ?_
  refine r_iload_n L_160_10 rfl ?_
  refine r_iadd L_160_11 ?_
  refine r_aload_n L_160_12 rfl ?_
  refine r_getr (c' := 35) (d' := 0) L_160_13 rfl rfl ?_
  refine r_bipush L_160_16 kB_6 ?_
  refine r_iald (N := 264) (j := 6) L_160_18 (by decide +kernel) rfl (by decide +kernel) (by decide +kernel) ?_
  obtain ⟨g1, h⟩ := h
  refine r_irem L_160_19 g1 ?_
  refine r_if L_160_20 rfl (i_mono h (fun c2 h => ?_) (fun c2 h => ?_))
  · refine r_iload_n L_160_29 rfl ?_
    exact r_iret L_160_30 RT_160 h
  · refine r_iinc (ls1 := [some (.inr (34, 0)), some (.inl x1), some (.inl (x2 + 1))]) L_160_23 kI_1 rfl (Nat.le_of_ble_eq_true rfl) rfl ?_
    refine r_goto L_160_26 ?_
    exact h
/-- Model.nextAsk -/
theorem T_160 {x1 : Int32} {m : aM} {Q : Int32 → aM → Prop} (h :
   H_160_9 x1 ((m 35 0 0) + 1) m Q
  ) : Mi 160 [.inr (34, 0), .inl x1] m Q := by
  refine Mi_in ML_160 (show Rg 160 0 [some (.inr (34, 0)), some (.inl x1), none] [] m (qI Q) from ?_)
  refine r_aload_n L_160_0 rfl ?_
  refine r_getr (c' := 35) (d' := 0) L_160_1 rfl rfl ?_
  refine r_iconst L_160_4 kI_0 ?_
  refine r_iald (N := 264) (j := 0) L_160_5 (by decide +kernel) rfl (by decide +kernel) (by decide +kernel) ?_
  refine r_iconst L_160_6 kI_1 ?_
  refine r_iadd L_160_7 ?_
  refine r_istore_n (ls1 := [some (.inr (34, 0)), some (.inl x1), some (.inl ((m 35 0 0) + 1))]) L_160_8 (Nat.le_of_ble_eq_true rfl) rfl ?_
  exact h
/-- Model.device -/
theorem T_161 {x1 x2 : Int32} {m : aM} {Q : Int32 → aM → Prop} (h :
   if ¬ x1 < 0 ∧ x1 < m 35 0 3 then
    (if ¬ x2 < 0 ∧ ¬ 10 < x2 then
     (if x2 = 10 then
      (Mi 160 [.inr (34, 0), .inl x1] m (fun v5 m4 =>
       Q v5 m4))
     else
      a_in (104 + 10 * x1 + x2) 264 = true ∧
       Q (m 35 0 (104 + 10 * x1 + x2).toNatClampNeg) m)
    else
     Q (-2) m)
   else
    Q (-1) m
  ) : Mi 161 [.inr (34, 0), .inl x1, .inl x2] m Q := by
  refine Mi_in ML_161 (show Rg 161 0 [some (.inr (34, 0)), some (.inl x1), some (.inl x2)] [] m (qI Q) from ?_)
  refine r_aload_n L_161_0 rfl ?_
  refine r_iload_n L_161_1 rfl ?_
  refine r_cv L_161_2 rfl (V_103 ?_)
  refine r_ifneP L_161_5 (i_mono h (fun c1 h => ?_) (fun c1 h => ?_))
  · refine r_iload_n L_161_10 rfl ?_
    refine r_iconst L_161_11 kI_0 ?_
    refine r_bipush L_161_12 kB_10 ?_
    refine r_cs L_161_14 (by decide) rfl (V_97 ?_)
    refine r_ifneP L_161_17 (i_mono h (fun c2 h => ?_) (fun c2 h => ?_))
    · refine r_iload_n L_161_23 rfl ?_
      refine r_bipush L_161_24 kB_10 ?_
      refine r_icmpn L_161_26 rfl (i_mono h (fun c3 h => ?_) (fun c3 h => ?_))
      · refine r_aload_n L_161_29 rfl ?_
        refine r_iload_n L_161_30 rfl ?_
        refine r_cv L_161_31 rfl (Mi_mono h fun v5 m4 h => ?_)
        refine r_goto L_161_34 ?_
        exact r_iret L_161_43 RT_161 h
      · refine r_aload_n L_161_37 rfl ?_
        refine r_iload_n L_161_38 rfl ?_
        refine r_iload_n L_161_39 rfl ?_
        obtain ⟨g6, h⟩ := h
        refine r_cv L_161_40 rfl (V_106 g6 ?_)
        exact r_iret L_161_43 RT_161 h
    · refine r_bipush L_161_20 kB_m2 ?_
      exact r_iret L_161_22 RT_161 h
  · refine r_iconst L_161_8 kI_m1 ?_
    exact r_iret L_161_9 RT_161 h
def H_162_25 (x1 x2 x3 x4 x5 : Int32) (m : aM) (Q : Int32 → aM → Prop) : Prop := Rg 162 25 [some (.inr (34, 0)), some (.inl x1), some (.inl x2), some (.inl x3), some (.inl x4), some (.inl x5)] [] m (qI Q)
/-- Model.power, the loop at 25 -/
theorem T_162_25 {x1 x2 x3 x4 x5 : Int32} {m : aM} {Q : Int32 → aM → Prop} (h :
   if x5 < 4 then
    (Mi 118 [.inr (34, 0), .inl x1, .inl x2, .inl x3, .inl x5] m (fun v3 m2 =>
     if v3 = 0 then
      H_162_25 x1 x2 x3 x4 (x5 + 1) m2 Q
     else
      H_162_25 x1 x2 x3 x5 (x5 + 1) m2 Q))
   else
    Q x4 m
  ) : H_162_25 x1 x2 x3 x4 x5 m Q := by
  show Rg 162 25 [some (.inr (34, 0)), some (.inl x1), some (.inl x2), some (.inl x3), some (.inl x4), some (.inl x5)] [] m (qI Q)
  refine r_iload L_162_25 rfl ?_
  refine r_iconst L_162_27 kI_4 ?_
  refine r_icmpn L_162_28 cc_ge (i_mono h (fun c1 h => ?_) (fun c1 h => ?_))
  · refine r_aload_n L_162_31 rfl ?_
    refine r_iload_n L_162_32 rfl ?_
    refine r_iload_n L_162_33 rfl ?_
    refine r_iload_n L_162_34 rfl ?_
    refine r_iload L_162_35 rfl ?_
    refine r_cv L_162_37 rfl (Mi_mono h fun v3 m2 h => ?_)
    refine r_if L_162_40 rfl (i_mono h (fun c4 h => ?_) (fun c4 h => ?_))
    · refine r_iload L_162_48 rfl ?_
      refine r_istore (ls1 := [some (.inr (34, 0)), some (.inl x1), some (.inl x2), some (.inl x3), some (.inl x4), some (.inl x5)]) L_162_50 (Nat.le_of_ble_eq_true rfl) rfl ?_
      refine r_iinc (ls1 := [some (.inr (34, 0)), some (.inl x1), some (.inl x2), some (.inl x3), some (.inl x4), some (.inl (x5 + 1))]) L_162_52 kI_1 rfl (Nat.le_of_ble_eq_true rfl) rfl ?_
      refine r_goto L_162_55 ?_
      exact h
    · refine r_iload L_162_43 rfl ?_
      refine r_goto L_162_45 ?_
      refine r_istore (ls1 := [some (.inr (34, 0)), some (.inl x1), some (.inl x2), some (.inl x3), some (.inl x5), some (.inl x5)]) L_162_50 (Nat.le_of_ble_eq_true rfl) rfl ?_
      refine r_iinc (ls1 := [some (.inr (34, 0)), some (.inl x1), some (.inl x2), some (.inl x3), some (.inl x5), some (.inl (x5 + 1))]) L_162_52 kI_1 rfl (Nat.le_of_ble_eq_true rfl) rfl ?_
      refine r_goto L_162_55 ?_
      exact h
  · refine r_iload L_162_58 rfl ?_
    exact r_iret L_162_60 RT_162 h
/-- Model.power -/
theorem T_162 {x1 x2 x3 : Int32} {m : aM} {Q : Int32 → aM → Prop} (h :
   if ¬ x1 < 0 ∧ ¬ 7 < x1 then
    (if (¬ x2 < 0 ∧ ¬ 99 < x2) ∧ (¬ x3 < 0 ∧ ¬ 99 < x3) then
     H_162_25 x1 x2 x3 (-6) 0 m Q
    else
     Q (-2) m)
   else
    Q (-2) m
  ) : Mi 162 [.inr (34, 0), .inl x1, .inl x2, .inl x3] m Q := by
  refine Mi_in ML_162 (show Rg 162 0 [some (.inr (34, 0)), some (.inl x1), some (.inl x2), some (.inl x3), none, none] [] m (qI Q) from ?_)
  refine r_iload_n L_162_0 rfl ?_
  refine r_cs L_162_1 (by decide) rfl (V_109 ?_)
  refine r_ifeqP L_162_4 (i_mono h (fun c1 h => ?_) (fun c1 h => ?_))
  · refine r_iload_n L_162_7 rfl ?_
    refine r_iload_n L_162_8 rfl ?_
    refine r_cs L_162_9 (by decide) rfl (V_108 ?_)
    refine r_ifneP L_162_12 (i_mono h (fun c2 h => ?_) (fun c2 h => ?_))
    · refine r_bipush L_162_18 kB_m6 ?_
      refine r_istore (ls1 := [some (.inr (34, 0)), some (.inl x1), some (.inl x2), some (.inl x3), some (.inl (-6)), none]) L_162_20 (Nat.le_of_ble_eq_true rfl) rfl ?_
      refine r_iconst L_162_22 kI_0 ?_
      refine r_istore (ls1 := [some (.inr (34, 0)), some (.inl x1), some (.inl x2), some (.inl x3), some (.inl (-6)), some (.inl 0)]) L_162_23 (Nat.le_of_ble_eq_true rfl) rfl ?_
      exact h
    · refine r_bipush L_162_15 kB_m2 ?_
      exact r_iret L_162_17 RT_162 h
  · refine r_bipush L_162_15 kB_m2 ?_
    exact r_iret L_162_17 RT_162 h
/-- Model.offer -/
theorem T_163 {x1 x2 : Int32} {m : aM} {Q : Int32 → aM → Prop} (h :
   if ¬ x1 < 0 ∧ x1 < m 35 0 3 then
    (if ¬ x2 < 0 ∧ ¬ 3 < x2 then
     (Mi 123 [.inr (34, 0), .inl x1, .inl x2] m (fun v4 m3 =>
      Q v4 m3))
    else
     Q (-2) m)
   else
    Q (-1) m
  ) : Mi 163 [.inr (34, 0), .inl x1, .inl x2] m Q := by
  refine Mi_in ML_163 (show Rg 163 0 [some (.inr (34, 0)), some (.inl x1), some (.inl x2)] [] m (qI Q) from ?_)
  refine r_aload_n L_163_0 rfl ?_
  refine r_iload_n L_163_1 rfl ?_
  refine r_cv L_163_2 rfl (V_103 ?_)
  refine r_ifneP L_163_5 (i_mono h (fun c1 h => ?_) (fun c1 h => ?_))
  · refine r_iload_n L_163_10 rfl ?_
    refine r_cs L_163_11 (by decide) rfl (V_110 ?_)
    refine r_ifeqP L_163_14 (i_mono h (fun c2 h => ?_) (fun c2 h => ?_))
    · refine r_aload_n L_163_17 rfl ?_
      refine r_iload_n L_163_18 rfl ?_
      refine r_iload_n L_163_19 rfl ?_
      refine r_cv L_163_20 rfl (Mi_mono h fun v4 m3 h => ?_)
      refine r_goto L_163_23 ?_
      exact r_iret L_163_28 RT_163 h
    · refine r_bipush L_163_26 kB_m2 ?_
      exact r_iret L_163_28 RT_163 h
  · refine r_iconst L_163_8 kI_m1 ?_
    exact r_iret L_163_9 RT_163 h
/-- Model.isAhead -/
theorem T_164 {x1 x2 : Int32} {m : aM} {Q : Int32 → aM → Prop} (h :
   a_in (104 + 10 * x1 + 5) 264 = true ∧
    a_in (104 + 10 * x2 + 5) 264 = true ∧
     if ((m 35 0 (104 + 10 * x1 + 5).toNatClampNeg) - (m 35 0 (104 + 10 * x2 + 5).toNatClampNeg)) = 0 then
      (a_in (104 + 10 * x1 + 6) 264 = true ∧
       if (m 35 0 (104 + 10 * x1 + 6).toNatClampNeg) = (-6) then
        (a_in (104 + 10 * x2 + 6) 264 = true ∧
         if (m 35 0 (104 + 10 * x2 + 6).toNatClampNeg) = (-6) then
          (if ((1 : Int32) - 1) = 0 then
           (a_in (104 + 10 * x2 + 4) 264 = true ∧
            a_in (104 + 10 * x1 + 4) 264 = true ∧
             if ((m 35 0 (104 + 10 * x2 + 4).toNatClampNeg) - (m 35 0 (104 + 10 * x1 + 4).toNatClampNeg)) < 0 then
              Q 1 m
             else
              if ((m 35 0 (104 + 10 * x2 + 4).toNatClampNeg) - (m 35 0 (104 + 10 * x1 + 4).toNatClampNeg)) = 0 then
               (if x1 < x2 then
                Q 1 m
               else
                Q 0 m)
              else
               Q 0 m)
          else
           if ((1 : Int32) - 1) < 0 then
            Q 1 m
           else
            Q 0 m)
         else
          if ((1 : Int32) - 0) = 0 then
           (a_in (104 + 10 * x2 + 4) 264 = true ∧
            a_in (104 + 10 * x1 + 4) 264 = true ∧
             if ((m 35 0 (104 + 10 * x2 + 4).toNatClampNeg) - (m 35 0 (104 + 10 * x1 + 4).toNatClampNeg)) < 0 then
              Q 1 m
             else
              if ((m 35 0 (104 + 10 * x2 + 4).toNatClampNeg) - (m 35 0 (104 + 10 * x1 + 4).toNatClampNeg)) = 0 then
               (if x1 < x2 then
                Q 1 m
               else
                Q 0 m)
              else
               Q 0 m)
          else
           if ((1 : Int32) - 0) < 0 then
            Q 1 m
           else
            Q 0 m)
       else
        a_in (104 + 10 * x2 + 6) 264 = true ∧
         if (m 35 0 (104 + 10 * x2 + 6).toNatClampNeg) = (-6) then
          (if ((0 : Int32) - 1) = 0 then
           (a_in (104 + 10 * x2 + 4) 264 = true ∧
            a_in (104 + 10 * x1 + 4) 264 = true ∧
             if ((m 35 0 (104 + 10 * x2 + 4).toNatClampNeg) - (m 35 0 (104 + 10 * x1 + 4).toNatClampNeg)) < 0 then
              Q 1 m
             else
              if ((m 35 0 (104 + 10 * x2 + 4).toNatClampNeg) - (m 35 0 (104 + 10 * x1 + 4).toNatClampNeg)) = 0 then
               (if x1 < x2 then
                Q 1 m
               else
                Q 0 m)
              else
               Q 0 m)
          else
           if ((0 : Int32) - 1) < 0 then
            Q 1 m
           else
            Q 0 m)
         else
          if ((0 : Int32) - 0) = 0 then
           (a_in (104 + 10 * x2 + 4) 264 = true ∧
            a_in (104 + 10 * x1 + 4) 264 = true ∧
             if ((m 35 0 (104 + 10 * x2 + 4).toNatClampNeg) - (m 35 0 (104 + 10 * x1 + 4).toNatClampNeg)) < 0 then
              Q 1 m
             else
              if ((m 35 0 (104 + 10 * x2 + 4).toNatClampNeg) - (m 35 0 (104 + 10 * x1 + 4).toNatClampNeg)) = 0 then
               (if x1 < x2 then
                Q 1 m
               else
                Q 0 m)
              else
               Q 0 m)
          else
           if ((0 : Int32) - 0) < 0 then
            Q 1 m
           else
            Q 0 m)
     else
      if ((m 35 0 (104 + 10 * x1 + 5).toNatClampNeg) - (m 35 0 (104 + 10 * x2 + 5).toNatClampNeg)) < 0 then
       Q 1 m
      else
       Q 0 m
  ) : Mi 164 [.inr (34, 0), .inl x1, .inl x2] m Q := by
  refine Mi_in ML_164 (show Rg 164 0 [some (.inr (34, 0)), some (.inl x1), some (.inl x2), none] [] m (qI Q) from ?_)
  refine r_aload_n L_164_0 rfl ?_
  refine r_iload_n L_164_1 rfl ?_
  refine r_iconst L_164_2 kI_5 ?_
  obtain ⟨g1, h⟩ := h
  refine r_cv L_164_3 rfl (V_106 g1 ?_)
  refine r_aload_n L_164_6 rfl ?_
  refine r_iload_n L_164_7 rfl ?_
  refine r_iconst L_164_8 kI_5 ?_
  obtain ⟨g2, h⟩ := h
  refine r_cv L_164_9 rfl (V_106 g2 ?_)
  refine r_isub L_164_12 ?_
  refine r_istore_n (ls1 := [some (.inr (34, 0)), some (.inl x1), some (.inl x2), some (.inl ((m 35 0 (104 + 10 * x1 + 5).toNatClampNeg) - (m 35 0 (104 + 10 * x2 + 5).toNatClampNeg)))]) L_164_13 (Nat.le_of_ble_eq_true rfl) rfl ?_
  refine r_iload_n L_164_14 rfl ?_
  refine r_ifn L_164_15 rfl (i_mono h (fun c3 h => ?_) (fun c3 h => ?_))
  · refine r_aload_n L_164_18 rfl ?_
    refine r_iload_n L_164_19 rfl ?_
    refine r_bipush L_164_20 kB_6 ?_
    obtain ⟨g4, h⟩ := h
    refine r_cv L_164_22 rfl (V_106 g4 ?_)
    refine r_bipush L_164_25 kB_m6 ?_
    refine r_icmp L_164_27 rfl (i_mono h (fun c5 h => ?_) (fun c5 h => ?_))
    · refine r_iconst L_164_34 kI_1 ?_
      refine r_aload_n L_164_35 rfl ?_
      refine r_iload_n L_164_36 rfl ?_
      refine r_bipush L_164_37 kB_6 ?_
      obtain ⟨g6, h⟩ := h
      refine r_cv L_164_39 rfl (V_106 g6 ?_)
      refine r_bipush L_164_42 kB_m6 ?_
      refine r_icmp L_164_44 rfl (i_mono h (fun c7 h => ?_) (fun c7 h => ?_))
      · refine r_iconst L_164_51 kI_1 ?_
        refine r_isub L_164_52 ?_
        refine r_istore_n (ls1 := [some (.inr (34, 0)), some (.inl x1), some (.inl x2), some (.inl ((1 : Int32) - 1))]) L_164_53 (Nat.le_of_ble_eq_true rfl) rfl ?_
        refine r_iload_n L_164_54 rfl ?_
        refine r_ifn L_164_55 rfl (i_mono h (fun c8 h => ?_) (fun c8 h => ?_))
        · refine r_aload_n L_164_58 rfl ?_
          refine r_iload_n L_164_59 rfl ?_
          refine r_iconst L_164_60 kI_4 ?_
          obtain ⟨g9, h⟩ := h
          refine r_cv L_164_61 rfl (V_106 g9 ?_)
          refine r_aload_n L_164_64 rfl ?_
          refine r_iload_n L_164_65 rfl ?_
          refine r_iconst L_164_66 kI_4 ?_
          obtain ⟨g10, h⟩ := h
          refine r_cv L_164_67 rfl (V_106 g10 ?_)
          refine r_isub L_164_70 ?_
          refine r_istore_n (ls1 := [some (.inr (34, 0)), some (.inl x1), some (.inl x2), some (.inl ((m 35 0 (104 + 10 * x2 + 4).toNatClampNeg) - (m 35 0 (104 + 10 * x1 + 4).toNatClampNeg)))]) L_164_71 (Nat.le_of_ble_eq_true rfl) rfl ?_
          refine r_iload_n L_164_72 rfl ?_
          refine r_if L_164_73 rfl (i_mono h (fun c11 h => ?_) (fun c11 h => ?_))
          · refine r_iconst L_164_85 kI_1 ?_
            refine r_goto L_164_86 ?_
            exact r_zret L_164_90 RT_164 (Or.inr rfl) h
          · refine r_iload_n L_164_76 rfl ?_
            refine r_ifn L_164_77 rfl (i_mono h (fun c12 h => ?_) (fun c12 h => ?_))
            · refine r_iload_n L_164_80 rfl ?_
              refine r_iload_n L_164_81 rfl ?_
              refine r_icmpn L_164_82 cc_ge (i_mono h (fun c13 h => ?_) (fun c13 h => ?_))
              · refine r_iconst L_164_85 kI_1 ?_
                refine r_goto L_164_86 ?_
                exact r_zret L_164_90 RT_164 (Or.inr rfl) h
              · refine r_iconst L_164_89 kI_0 ?_
                exact r_zret L_164_90 RT_164 (Or.inl rfl) h
            · refine r_iconst L_164_89 kI_0 ?_
              exact r_zret L_164_90 RT_164 (Or.inl rfl) h
        · refine r_iload_n L_164_72 rfl ?_
          refine r_if L_164_73 rfl (i_mono h (fun c14 h => ?_) (fun c14 h => ?_))
          · refine r_iconst L_164_85 kI_1 ?_
            refine r_goto L_164_86 ?_
            exact r_zret L_164_90 RT_164 (Or.inr rfl) h
          · refine r_iload_n L_164_76 rfl ?_
            refine r_ifn L_164_77 rfl (i_neg c8 ?_)
            refine r_iconst L_164_89 kI_0 ?_
            exact r_zret L_164_90 RT_164 (Or.inl rfl) h
      · refine r_iconst L_164_47 kI_0 ?_
        refine r_goto L_164_48 ?_
        refine r_isub L_164_52 ?_
        refine r_istore_n (ls1 := [some (.inr (34, 0)), some (.inl x1), some (.inl x2), some (.inl ((1 : Int32) - 0))]) L_164_53 (Nat.le_of_ble_eq_true rfl) rfl ?_
        refine r_iload_n L_164_54 rfl ?_
        refine r_ifn L_164_55 rfl (i_mono h (fun c15 h => ?_) (fun c15 h => ?_))
        · refine r_aload_n L_164_58 rfl ?_
          refine r_iload_n L_164_59 rfl ?_
          refine r_iconst L_164_60 kI_4 ?_
          obtain ⟨g16, h⟩ := h
          refine r_cv L_164_61 rfl (V_106 g16 ?_)
          refine r_aload_n L_164_64 rfl ?_
          refine r_iload_n L_164_65 rfl ?_
          refine r_iconst L_164_66 kI_4 ?_
          obtain ⟨g17, h⟩ := h
          refine r_cv L_164_67 rfl (V_106 g17 ?_)
          refine r_isub L_164_70 ?_
          refine r_istore_n (ls1 := [some (.inr (34, 0)), some (.inl x1), some (.inl x2), some (.inl ((m 35 0 (104 + 10 * x2 + 4).toNatClampNeg) - (m 35 0 (104 + 10 * x1 + 4).toNatClampNeg)))]) L_164_71 (Nat.le_of_ble_eq_true rfl) rfl ?_
          refine r_iload_n L_164_72 rfl ?_
          refine r_if L_164_73 rfl (i_mono h (fun c18 h => ?_) (fun c18 h => ?_))
          · refine r_iconst L_164_85 kI_1 ?_
            refine r_goto L_164_86 ?_
            exact r_zret L_164_90 RT_164 (Or.inr rfl) h
          · refine r_iload_n L_164_76 rfl ?_
            refine r_ifn L_164_77 rfl (i_mono h (fun c19 h => ?_) (fun c19 h => ?_))
            · refine r_iload_n L_164_80 rfl ?_
              refine r_iload_n L_164_81 rfl ?_
              refine r_icmpn L_164_82 cc_ge (i_mono h (fun c20 h => ?_) (fun c20 h => ?_))
              · refine r_iconst L_164_85 kI_1 ?_
                refine r_goto L_164_86 ?_
                exact r_zret L_164_90 RT_164 (Or.inr rfl) h
              · refine r_iconst L_164_89 kI_0 ?_
                exact r_zret L_164_90 RT_164 (Or.inl rfl) h
            · refine r_iconst L_164_89 kI_0 ?_
              exact r_zret L_164_90 RT_164 (Or.inl rfl) h
        · refine r_iload_n L_164_72 rfl ?_
          refine r_if L_164_73 rfl (i_mono h (fun c21 h => ?_) (fun c21 h => ?_))
          · refine r_iconst L_164_85 kI_1 ?_
            refine r_goto L_164_86 ?_
            exact r_zret L_164_90 RT_164 (Or.inr rfl) h
          · refine r_iload_n L_164_76 rfl ?_
            refine r_ifn L_164_77 rfl (i_neg c15 ?_)
            refine r_iconst L_164_89 kI_0 ?_
            exact r_zret L_164_90 RT_164 (Or.inl rfl) h
    · refine r_iconst L_164_30 kI_0 ?_
      refine r_goto L_164_31 ?_
      refine r_aload_n L_164_35 rfl ?_
      refine r_iload_n L_164_36 rfl ?_
      refine r_bipush L_164_37 kB_6 ?_
      obtain ⟨g22, h⟩ := h
      refine r_cv L_164_39 rfl (V_106 g22 ?_)
      refine r_bipush L_164_42 kB_m6 ?_
      refine r_icmp L_164_44 rfl (i_mono h (fun c23 h => ?_) (fun c23 h => ?_))
      · refine r_iconst L_164_51 kI_1 ?_
        refine r_isub L_164_52 ?_
        refine r_istore_n (ls1 := [some (.inr (34, 0)), some (.inl x1), some (.inl x2), some (.inl ((0 : Int32) - 1))]) L_164_53 (Nat.le_of_ble_eq_true rfl) rfl ?_
        refine r_iload_n L_164_54 rfl ?_
        refine r_ifn L_164_55 rfl (i_mono h (fun c24 h => ?_) (fun c24 h => ?_))
        · refine r_aload_n L_164_58 rfl ?_
          refine r_iload_n L_164_59 rfl ?_
          refine r_iconst L_164_60 kI_4 ?_
          obtain ⟨g25, h⟩ := h
          refine r_cv L_164_61 rfl (V_106 g25 ?_)
          refine r_aload_n L_164_64 rfl ?_
          refine r_iload_n L_164_65 rfl ?_
          refine r_iconst L_164_66 kI_4 ?_
          obtain ⟨g26, h⟩ := h
          refine r_cv L_164_67 rfl (V_106 g26 ?_)
          refine r_isub L_164_70 ?_
          refine r_istore_n (ls1 := [some (.inr (34, 0)), some (.inl x1), some (.inl x2), some (.inl ((m 35 0 (104 + 10 * x2 + 4).toNatClampNeg) - (m 35 0 (104 + 10 * x1 + 4).toNatClampNeg)))]) L_164_71 (Nat.le_of_ble_eq_true rfl) rfl ?_
          refine r_iload_n L_164_72 rfl ?_
          refine r_if L_164_73 rfl (i_mono h (fun c27 h => ?_) (fun c27 h => ?_))
          · refine r_iconst L_164_85 kI_1 ?_
            refine r_goto L_164_86 ?_
            exact r_zret L_164_90 RT_164 (Or.inr rfl) h
          · refine r_iload_n L_164_76 rfl ?_
            refine r_ifn L_164_77 rfl (i_mono h (fun c28 h => ?_) (fun c28 h => ?_))
            · refine r_iload_n L_164_80 rfl ?_
              refine r_iload_n L_164_81 rfl ?_
              refine r_icmpn L_164_82 cc_ge (i_mono h (fun c29 h => ?_) (fun c29 h => ?_))
              · refine r_iconst L_164_85 kI_1 ?_
                refine r_goto L_164_86 ?_
                exact r_zret L_164_90 RT_164 (Or.inr rfl) h
              · refine r_iconst L_164_89 kI_0 ?_
                exact r_zret L_164_90 RT_164 (Or.inl rfl) h
            · refine r_iconst L_164_89 kI_0 ?_
              exact r_zret L_164_90 RT_164 (Or.inl rfl) h
        · refine r_iload_n L_164_72 rfl ?_
          refine r_if L_164_73 rfl (i_mono h (fun c30 h => ?_) (fun c30 h => ?_))
          · refine r_iconst L_164_85 kI_1 ?_
            refine r_goto L_164_86 ?_
            exact r_zret L_164_90 RT_164 (Or.inr rfl) h
          · refine r_iload_n L_164_76 rfl ?_
            refine r_ifn L_164_77 rfl (i_neg c24 ?_)
            refine r_iconst L_164_89 kI_0 ?_
            exact r_zret L_164_90 RT_164 (Or.inl rfl) h
      · refine r_iconst L_164_47 kI_0 ?_
        refine r_goto L_164_48 ?_
        refine r_isub L_164_52 ?_
        refine r_istore_n (ls1 := [some (.inr (34, 0)), some (.inl x1), some (.inl x2), some (.inl ((0 : Int32) - 0))]) L_164_53 (Nat.le_of_ble_eq_true rfl) rfl ?_
        refine r_iload_n L_164_54 rfl ?_
        refine r_ifn L_164_55 rfl (i_mono h (fun c31 h => ?_) (fun c31 h => ?_))
        · refine r_aload_n L_164_58 rfl ?_
          refine r_iload_n L_164_59 rfl ?_
          refine r_iconst L_164_60 kI_4 ?_
          obtain ⟨g32, h⟩ := h
          refine r_cv L_164_61 rfl (V_106 g32 ?_)
          refine r_aload_n L_164_64 rfl ?_
          refine r_iload_n L_164_65 rfl ?_
          refine r_iconst L_164_66 kI_4 ?_
          obtain ⟨g33, h⟩ := h
          refine r_cv L_164_67 rfl (V_106 g33 ?_)
          refine r_isub L_164_70 ?_
          refine r_istore_n (ls1 := [some (.inr (34, 0)), some (.inl x1), some (.inl x2), some (.inl ((m 35 0 (104 + 10 * x2 + 4).toNatClampNeg) - (m 35 0 (104 + 10 * x1 + 4).toNatClampNeg)))]) L_164_71 (Nat.le_of_ble_eq_true rfl) rfl ?_
          refine r_iload_n L_164_72 rfl ?_
          refine r_if L_164_73 rfl (i_mono h (fun c34 h => ?_) (fun c34 h => ?_))
          · refine r_iconst L_164_85 kI_1 ?_
            refine r_goto L_164_86 ?_
            exact r_zret L_164_90 RT_164 (Or.inr rfl) h
          · refine r_iload_n L_164_76 rfl ?_
            refine r_ifn L_164_77 rfl (i_mono h (fun c35 h => ?_) (fun c35 h => ?_))
            · refine r_iload_n L_164_80 rfl ?_
              refine r_iload_n L_164_81 rfl ?_
              refine r_icmpn L_164_82 cc_ge (i_mono h (fun c36 h => ?_) (fun c36 h => ?_))
              · refine r_iconst L_164_85 kI_1 ?_
                refine r_goto L_164_86 ?_
                exact r_zret L_164_90 RT_164 (Or.inr rfl) h
              · refine r_iconst L_164_89 kI_0 ?_
                exact r_zret L_164_90 RT_164 (Or.inl rfl) h
            · refine r_iconst L_164_89 kI_0 ?_
              exact r_zret L_164_90 RT_164 (Or.inl rfl) h
        · refine r_iload_n L_164_72 rfl ?_
          refine r_if L_164_73 rfl (i_mono h (fun c37 h => ?_) (fun c37 h => ?_))
          · refine r_iconst L_164_85 kI_1 ?_
            refine r_goto L_164_86 ?_
            exact r_zret L_164_90 RT_164 (Or.inr rfl) h
          · refine r_iload_n L_164_76 rfl ?_
            refine r_ifn L_164_77 rfl (i_neg c31 ?_)
            refine r_iconst L_164_89 kI_0 ?_
            exact r_zret L_164_90 RT_164 (Or.inl rfl) h
  · refine r_iload_n L_164_54 rfl ?_
    refine r_ifn L_164_55 rfl (i_neg c3 ?_)
    refine r_iload_n L_164_72 rfl ?_
    refine r_if L_164_73 rfl (i_mono h (fun c38 h => ?_) (fun c38 h => ?_))
    · refine r_iconst L_164_85 kI_1 ?_
      refine r_goto L_164_86 ?_
      exact r_zret L_164_90 RT_164 (Or.inr rfl) h
    · refine r_iload_n L_164_76 rfl ?_
      refine r_ifn L_164_77 rfl (i_neg c3 ?_)
      refine r_iconst L_164_89 kI_0 ?_
      exact r_zret L_164_90 RT_164 (Or.inl rfl) h
def H_165_12 (x1 x2 x3 : Int32) (m : aM) (Q : Int32 → aM → Prop) : Prop := ∀ d4 d5 : Option aV, Rg 165 12 [some (.inr (34, 0)), some (.inl x1), some (.inl x2), some (.inl x3), d4, d5] [] m (qI Q)
def H_165_28 (x1 x2 x3 x4 x5 : Int32) (m : aM) (Q : Int32 → aM → Prop) : Prop := Rg 165 28 [some (.inr (34, 0)), some (.inl x1), some (.inl x2), some (.inl x3), some (.inl x4), some (.inl x5)] [] m (qI Q)
/-- Model.next, the loop at 28 -/
theorem T_165_28 {x1 x2 x3 x4 x5 : Int32} {m : aM} {Q : Int32 → aM → Prop} (h :
   if x5 < (m 35 0 3) then
    (a_in (104 + 10 * x3 + 3) 264 = true ∧
     if ¬ m 35 0 (104 + 10 * x3 + 3).toNatClampNeg = (-6) then
      (if x5 = x3 then
       H_165_28 x1 x2 x3 (x4 + 0) (x5 + 1) m Q
      else
       a_in (104 + 10 * x5 + 3) 264 = true ∧
        if ¬ m 35 0 (104 + 10 * x5 + 3).toNatClampNeg = (-6) then
         (Mi 164 [.inr (34, 0), .inl x5, .inl x3] m (fun v8 m7 =>
          if v8 = 0 then
           H_165_28 x1 x2 x3 (x4 + 0) (x5 + 1) m7 Q
          else
           H_165_28 x1 x2 x3 (x4 + 1) (x5 + 1) m7 Q))
        else
         H_165_28 x1 x2 x3 (x4 + 0) (x5 + 1) m Q)
     else
      H_165_12 x1 x2 (x3 + 1) m Q)
   else
    a_in (104 + 10 * x3 + 3) 264 = true ∧
     if ¬ m 35 0 (104 + 10 * x3 + 3).toNatClampNeg = (-6) then
      (if x4 = x1 then
       H_165_12 x1 x3 (x3 + 1) m Q
      else
       H_165_12 x1 x2 (x3 + 1) m Q)
     else
      H_165_12 x1 x2 (x3 + 1) m Q
  ) : H_165_28 x1 x2 x3 x4 x5 m Q := by
  show Rg 165 28 [some (.inr (34, 0)), some (.inl x1), some (.inl x2), some (.inl x3), some (.inl x4), some (.inl x5)] [] m (qI Q)
  refine r_iload L_165_28 rfl ?_
  refine r_aload_n L_165_30 rfl ?_
  refine r_getr (c' := 35) (d' := 0) L_165_31 rfl rfl ?_
  refine r_iconst L_165_34 kI_3 ?_
  refine r_iald (N := 264) (j := 3) L_165_35 (by decide +kernel) rfl (by decide +kernel) (by decide +kernel) ?_
  refine r_icmpn L_165_36 cc_ge (i_mono h (fun c1 h => ?_) (fun c1 h => ?_))
  · refine r_aload_n L_165_39 rfl ?_
    refine r_iload_n L_165_40 rfl ?_
    obtain ⟨g2, h⟩ := h
    refine r_cv L_165_41 rfl (V_120 g2 ?_)
    refine r_ifeqP L_165_44 (i_mono h (fun c3 h => ?_) (fun c3 h => ?_))
    · refine r_iload L_165_47 rfl ?_
      refine r_iload L_165_49 rfl ?_
      refine r_iload_n L_165_51 rfl ?_
      refine r_icmp L_165_52 rfl (i_mono h (fun c4 h => ?_) (fun c4 h => ?_))
      · refine r_iconst L_165_78 kI_0 ?_
        refine r_iadd L_165_79 ?_
        refine r_istore (ls1 := [some (.inr (34, 0)), some (.inl x1), some (.inl x2), some (.inl x3), some (.inl (x4 + 0)), some (.inl x5)]) L_165_80 (Nat.le_of_ble_eq_true rfl) rfl ?_
        refine r_iinc (ls1 := [some (.inr (34, 0)), some (.inl x1), some (.inl x2), some (.inl x3), some (.inl (x4 + 0)), some (.inl (x5 + 1))]) L_165_82 kI_1 rfl (Nat.le_of_ble_eq_true rfl) rfl ?_
        refine r_goto L_165_85 ?_
        exact h
      · refine r_aload_n L_165_55 rfl ?_
        refine r_iload L_165_56 rfl ?_
        obtain ⟨g5, h⟩ := h
        refine r_cv L_165_58 rfl (V_120 g5 ?_)
        refine r_ifeqP L_165_61 (i_mono h (fun c6 h => ?_) (fun c6 h => ?_))
        · refine r_aload_n L_165_64 rfl ?_
          refine r_iload L_165_65 rfl ?_
          refine r_iload_n L_165_67 rfl ?_
          refine r_cv L_165_68 rfl (Mi_mono h fun v8 m7 h => ?_)
          refine r_if L_165_71 rfl (i_mono h (fun c9 h => ?_) (fun c9 h => ?_))
          · refine r_iconst L_165_78 kI_0 ?_
            refine r_iadd L_165_79 ?_
            refine r_istore (ls1 := [some (.inr (34, 0)), some (.inl x1), some (.inl x2), some (.inl x3), some (.inl (x4 + 0)), some (.inl x5)]) L_165_80 (Nat.le_of_ble_eq_true rfl) rfl ?_
            refine r_iinc (ls1 := [some (.inr (34, 0)), some (.inl x1), some (.inl x2), some (.inl x3), some (.inl (x4 + 0)), some (.inl (x5 + 1))]) L_165_82 kI_1 rfl (Nat.le_of_ble_eq_true rfl) rfl ?_
            refine r_goto L_165_85 ?_
            exact h
          · refine r_iconst L_165_74 kI_1 ?_
            refine r_goto L_165_75 ?_
            refine r_iadd L_165_79 ?_
            refine r_istore (ls1 := [some (.inr (34, 0)), some (.inl x1), some (.inl x2), some (.inl x3), some (.inl (x4 + 1)), some (.inl x5)]) L_165_80 (Nat.le_of_ble_eq_true rfl) rfl ?_
            refine r_iinc (ls1 := [some (.inr (34, 0)), some (.inl x1), some (.inl x2), some (.inl x3), some (.inl (x4 + 1)), some (.inl (x5 + 1))]) L_165_82 kI_1 rfl (Nat.le_of_ble_eq_true rfl) rfl ?_
            refine r_goto L_165_85 ?_
            exact h
        · refine r_iconst L_165_78 kI_0 ?_
          refine r_iadd L_165_79 ?_
          refine r_istore (ls1 := [some (.inr (34, 0)), some (.inl x1), some (.inl x2), some (.inl x3), some (.inl (x4 + 0)), some (.inl x5)]) L_165_80 (Nat.le_of_ble_eq_true rfl) rfl ?_
          refine r_iinc (ls1 := [some (.inr (34, 0)), some (.inl x1), some (.inl x2), some (.inl x3), some (.inl (x4 + 0)), some (.inl (x5 + 1))]) L_165_82 kI_1 rfl (Nat.le_of_ble_eq_true rfl) rfl ?_
          refine r_goto L_165_85 ?_
          exact h
    · refine r_aload_n L_165_88 rfl ?_
      refine r_iload_n L_165_89 rfl ?_
      refine r_cv L_165_90 rfl (V_120 g2 ?_)
      refine r_ifeqP L_165_93 (i_neg c3 ?_)
      refine r_iload_n L_165_106 rfl ?_
      refine r_istore_n (ls1 := [some (.inr (34, 0)), some (.inl x1), some (.inl x2), some (.inl x3), some (.inl x4), some (.inl x5)]) L_165_107 (Nat.le_of_ble_eq_true rfl) rfl ?_
      refine r_iinc (ls1 := [some (.inr (34, 0)), some (.inl x1), some (.inl x2), some (.inl (x3 + 1)), some (.inl x4), some (.inl x5)]) L_165_108 kI_1 rfl (Nat.le_of_ble_eq_true rfl) rfl ?_
      refine r_goto L_165_111 ?_
      exact h _ _
  · refine r_aload_n L_165_88 rfl ?_
    refine r_iload_n L_165_89 rfl ?_
    obtain ⟨g10, h⟩ := h
    refine r_cv L_165_90 rfl (V_120 g10 ?_)
    refine r_ifeqP L_165_93 (i_mono h (fun c11 h => ?_) (fun c11 h => ?_))
    · refine r_iload L_165_96 rfl ?_
      refine r_iload_n L_165_98 rfl ?_
      refine r_icmpn L_165_99 rfl (i_mono h (fun c12 h => ?_) (fun c12 h => ?_))
      · refine r_iload_n L_165_102 rfl ?_
        refine r_goto L_165_103 ?_
        refine r_istore_n (ls1 := [some (.inr (34, 0)), some (.inl x1), some (.inl x3), some (.inl x3), some (.inl x4), some (.inl x5)]) L_165_107 (Nat.le_of_ble_eq_true rfl) rfl ?_
        refine r_iinc (ls1 := [some (.inr (34, 0)), some (.inl x1), some (.inl x3), some (.inl (x3 + 1)), some (.inl x4), some (.inl x5)]) L_165_108 kI_1 rfl (Nat.le_of_ble_eq_true rfl) rfl ?_
        refine r_goto L_165_111 ?_
        exact h _ _
      · refine r_iload_n L_165_106 rfl ?_
        refine r_istore_n (ls1 := [some (.inr (34, 0)), some (.inl x1), some (.inl x2), some (.inl x3), some (.inl x4), some (.inl x5)]) L_165_107 (Nat.le_of_ble_eq_true rfl) rfl ?_
        refine r_iinc (ls1 := [some (.inr (34, 0)), some (.inl x1), some (.inl x2), some (.inl (x3 + 1)), some (.inl x4), some (.inl x5)]) L_165_108 kI_1 rfl (Nat.le_of_ble_eq_true rfl) rfl ?_
        refine r_goto L_165_111 ?_
        exact h _ _
    · refine r_iload_n L_165_106 rfl ?_
      refine r_istore_n (ls1 := [some (.inr (34, 0)), some (.inl x1), some (.inl x2), some (.inl x3), some (.inl x4), some (.inl x5)]) L_165_107 (Nat.le_of_ble_eq_true rfl) rfl ?_
      refine r_iinc (ls1 := [some (.inr (34, 0)), some (.inl x1), some (.inl x2), some (.inl (x3 + 1)), some (.inl x4), some (.inl x5)]) L_165_108 kI_1 rfl (Nat.le_of_ble_eq_true rfl) rfl ?_
      refine r_goto L_165_111 ?_
      exact h _ _
/-- Model.next, the loop at 12 -/
theorem T_165_12 {x1 x2 x3 : Int32} {m : aM} {Q : Int32 → aM → Prop} (h :
   if x3 < (m 35 0 3) then
    H_165_28 x1 x2 x3 0 0 m Q
   else
    Q x2 m
  ) : H_165_12 x1 x2 x3 m Q := by
  intro d4 d5
  show Rg 165 12 [some (.inr (34, 0)), some (.inl x1), some (.inl x2), some (.inl x3), d4, d5] [] m (qI Q)
  refine r_iload_n L_165_12 rfl ?_
  refine r_aload_n L_165_13 rfl ?_
  refine r_getr (c' := 35) (d' := 0) L_165_14 rfl rfl ?_
  refine r_iconst L_165_17 kI_3 ?_
  refine r_iald (N := 264) (j := 3) L_165_18 (by decide +kernel) rfl (by decide +kernel) (by decide +kernel) ?_
  refine r_icmpn L_165_19 cc_ge (i_mono h (fun c1 h => ?_) (fun c1 h => ?_))
  · refine r_iconst L_165_22 kI_0 ?_
    refine r_istore (ls1 := [some (.inr (34, 0)), some (.inl x1), some (.inl x2), some (.inl x3), some (.inl 0), d5]) L_165_23 (Nat.le_of_ble_eq_true rfl) rfl ?_
    refine r_iconst L_165_25 kI_0 ?_
    refine r_istore (ls1 := [some (.inr (34, 0)), some (.inl x1), some (.inl x2), some (.inl x3), some (.inl 0), some (.inl 0)]) L_165_26 (Nat.le_of_ble_eq_true rfl) rfl ?_
    exact h
  · refine r_iload_n L_165_114 rfl ?_
    exact r_iret L_165_115 RT_165 h
/-- Model.next -/
theorem T_165 {x1 : Int32} {m : aM} {Q : Int32 → aM → Prop} (h :
   if x1 < 0 then
    Q (-2) m
   else
    H_165_12 x1 (-6) 0 m Q
  ) : Mi 165 [.inr (34, 0), .inl x1] m Q := by
  refine Mi_in ML_165 (show Rg 165 0 [some (.inr (34, 0)), some (.inl x1), none, none, none, none] [] m (qI Q) from ?_)
  refine r_iload_n L_165_0 rfl ?_
  refine r_ifn L_165_1 cc_ge (i_mono h (fun c1 h => ?_) (fun c1 h => ?_))
  · refine r_bipush L_165_4 kB_m2 ?_
    exact r_iret L_165_6 RT_165 h
  · refine r_bipush L_165_7 kB_m6 ?_
    refine r_istore_n (ls1 := [some (.inr (34, 0)), some (.inl x1), some (.inl (-6)), none, none, none]) L_165_9 (Nat.le_of_ble_eq_true rfl) rfl ?_
    refine r_iconst L_165_10 kI_0 ?_
    refine r_istore_n (ls1 := [some (.inr (34, 0)), some (.inl x1), some (.inl (-6)), some (.inl 0), none, none]) L_165_11 (Nat.le_of_ble_eq_true rfl) rfl ?_
    exact h _ _
/-- Model.leases -/
theorem T_166 {x1 : Int32} {m : aM} {Q : Int32 → aM → Prop} (h :
   if ¬ x1 < 0 ∧ ¬ 7 < x1 then
    (Mi 122 [.inr (34, 0), .inl (-6), .inl x1] m (fun v3 m2 =>
     Q v3 m2))
   else
    Q (-2) m
  ) : Mi 166 [.inr (34, 0), .inl x1] m Q := by
  refine Mi_in ML_166 (show Rg 166 0 [some (.inr (34, 0)), some (.inl x1)] [] m (qI Q) from ?_)
  refine r_iload_n L_166_0 rfl ?_
  refine r_cs L_166_1 (by decide) rfl (V_109 ?_)
  refine r_ifeqP L_166_4 (i_mono h (fun c1 h => ?_) (fun c1 h => ?_))
  · refine r_aload_n L_166_7 rfl ?_
    refine r_bipush L_166_8 kB_m6 ?_
    refine r_iload_n L_166_10 rfl ?_
    refine r_cv L_166_11 rfl (Mi_mono h fun v3 m2 h => ?_)
    refine r_goto L_166_14 ?_
    exact r_iret L_166_19 RT_166 h
  · refine r_bipush L_166_17 kB_m2 ?_
    exact r_iret L_166_19 RT_166 h
def H_167_4 (x1 x2 x3 : Int32) (m : aM) (Q : Int32 → aM → Prop) : Prop := Rg 167 4 [some (.inr (34, 0)), some (.inl x1), some (.inl x2), some (.inl x3)] [] m (qI Q)
/-- Model.sumOf, the loop at 4 -/
theorem T_167_4 {x1 x2 x3 : Int32} {m : aM} {Q : Int32 → aM → Prop} (h :
   if x3 < (m 35 0 3) then
    (a_in (104 + 10 * x3 + x1) 264 = true ∧
     H_167_4 x1 (x2 + (m 35 0 (104 + 10 * x3 + x1).toNatClampNeg)) (x3 + 1) m Q)
   else
    Q x2 m
  ) : H_167_4 x1 x2 x3 m Q := by
  show Rg 167 4 [some (.inr (34, 0)), some (.inl x1), some (.inl x2), some (.inl x3)] [] m (qI Q)
  refine r_iload_n L_167_4 rfl ?_
  refine r_aload_n L_167_5 rfl ?_
  refine r_getr (c' := 35) (d' := 0) L_167_6 rfl rfl ?_
  refine r_iconst L_167_9 kI_3 ?_
  refine r_iald (N := 264) (j := 3) L_167_10 (by decide +kernel) rfl (by decide +kernel) (by decide +kernel) ?_
  refine r_icmpn L_167_11 cc_ge (i_mono h (fun c1 h => ?_) (fun c1 h => ?_))
  · refine r_iload_n L_167_14 rfl ?_
    refine r_aload_n L_167_15 rfl ?_
    refine r_iload_n L_167_16 rfl ?_
    refine r_iload_n L_167_17 rfl ?_
    obtain ⟨g2, h⟩ := h
    refine r_cv L_167_18 rfl (V_106 g2 ?_)
    refine r_iadd L_167_21 ?_
    refine r_istore_n (ls1 := [some (.inr (34, 0)), some (.inl x1), some (.inl (x2 + (m 35 0 (104 + 10 * x3 + x1).toNatClampNeg))), some (.inl x3)]) L_167_22 (Nat.le_of_ble_eq_true rfl) rfl ?_
    refine r_iinc (ls1 := [some (.inr (34, 0)), some (.inl x1), some (.inl (x2 + (m 35 0 (104 + 10 * x3 + x1).toNatClampNeg))), some (.inl (x3 + 1))]) L_167_23 kI_1 rfl (Nat.le_of_ble_eq_true rfl) rfl ?_
    refine r_goto L_167_26 ?_
    exact h
  · refine r_iload_n L_167_29 rfl ?_
    exact r_iret L_167_30 RT_167 h
/-- Model.sumOf -/
theorem T_167 {x1 : Int32} {m : aM} {Q : Int32 → aM → Prop} (h :
   H_167_4 x1 0 0 m Q
  ) : Mi 167 [.inr (34, 0), .inl x1] m Q := by
  refine Mi_in ML_167 (show Rg 167 0 [some (.inr (34, 0)), some (.inl x1), none, none] [] m (qI Q) from ?_)
  refine r_iconst L_167_0 kI_0 ?_
  refine r_istore_n (ls1 := [some (.inr (34, 0)), some (.inl x1), some (.inl 0), none]) L_167_1 (Nat.le_of_ble_eq_true rfl) rfl ?_
  refine r_iconst L_167_2 kI_0 ?_
  refine r_istore_n (ls1 := [some (.inr (34, 0)), some (.inl x1), some (.inl 0), some (.inl 0)]) L_167_3 (Nat.le_of_ble_eq_true rfl) rfl ?_
  exact h
def H_168_4 (x1 x2 : Int32) (m : aM) (Q : Int32 → aM → Prop) : Prop := Rg 168 4 [some (.inr (34, 0)), some (.inl x1), some (.inl x2)] [] m (qI Q)
/-- Model.awake, the loop at 4 -/
theorem T_168_4 {x1 x2 : Int32} {m : aM} {Q : Int32 → aM → Prop} (h :
   if x2 < (m 35 0 1) then
    (a_in (8 + 5 * x2 + 4) 264 = true ∧
     H_168_4 (x1 + (m 35 0 (8 + 5 * x2 + 4).toNatClampNeg)) (x2 + 1) m Q)
   else
    Q x1 m
  ) : H_168_4 x1 x2 m Q := by
  show Rg 168 4 [some (.inr (34, 0)), some (.inl x1), some (.inl x2)] [] m (qI Q)
  refine r_iload_n L_168_4 rfl ?_
  refine r_aload_n L_168_5 rfl ?_
  refine r_getr (c' := 35) (d' := 0) L_168_6 rfl rfl ?_
  refine r_iconst L_168_9 kI_1 ?_
  refine r_iald (N := 264) (j := 1) L_168_10 (by decide +kernel) rfl (by decide +kernel) (by decide +kernel) ?_
  refine r_icmpn L_168_11 cc_ge (i_mono h (fun c1 h => ?_) (fun c1 h => ?_))
  · refine r_iload_n L_168_14 rfl ?_
    refine r_aload_n L_168_15 rfl ?_
    refine r_iload_n L_168_16 rfl ?_
    refine r_iconst L_168_17 kI_4 ?_
    obtain ⟨g2, h⟩ := h
    refine r_cv L_168_18 rfl (V_104 g2 ?_)
    refine r_iadd L_168_21 ?_
    refine r_istore_n (ls1 := [some (.inr (34, 0)), some (.inl (x1 + (m 35 0 (8 + 5 * x2 + 4).toNatClampNeg))), some (.inl x2)]) L_168_22 (Nat.le_of_ble_eq_true rfl) rfl ?_
    refine r_iinc (ls1 := [some (.inr (34, 0)), some (.inl (x1 + (m 35 0 (8 + 5 * x2 + 4).toNatClampNeg))), some (.inl (x2 + 1))]) L_168_23 kI_1 rfl (Nat.le_of_ble_eq_true rfl) rfl ?_
    refine r_goto L_168_26 ?_
    exact h
  · refine r_iload_n L_168_29 rfl ?_
    exact r_iret L_168_30 RT_168 h
/-- Model.awake -/
theorem T_168 {m : aM} {Q : Int32 → aM → Prop} (h :
   H_168_4 0 0 m Q
  ) : Mi 168 [.inr (34, 0)] m Q := by
  refine Mi_in ML_168 (show Rg 168 0 [some (.inr (34, 0)), none, none] [] m (qI Q) from ?_)
  refine r_iconst L_168_0 kI_0 ?_
  refine r_istore_n (ls1 := [some (.inr (34, 0)), some (.inl 0), none]) L_168_1 (Nat.le_of_ble_eq_true rfl) rfl ?_
  refine r_iconst L_168_2 kI_0 ?_
  refine r_istore_n (ls1 := [some (.inr (34, 0)), some (.inl 0), some (.inl 0)]) L_168_3 (Nat.le_of_ble_eq_true rfl) rfl ?_
  exact h
/-- Model.total -/
theorem T_169 {x1 : Int32} {m : aM} {Q : Int32 → aM → Prop} (h :
   if x1 = 0 then
    (a_in x1 264 = true ∧
     Q (m 35 0 x1.toNatClampNeg) m)
   else
   if x1 = 1 then
    (a_in x1 264 = true ∧
     Q (m 35 0 x1.toNatClampNeg) m)
   else
   if x1 = 2 then
    (a_in x1 264 = true ∧
     Q (m 35 0 x1.toNatClampNeg) m)
   else
   if x1 = 3 then
    (a_in x1 264 = true ∧
     Q (m 35 0 x1.toNatClampNeg) m)
   else
   if x1 = 4 then
    (Mi 168 [.inr (34, 0)] m (fun v11 m10 =>
     Q v11 m10))
   else
   if x1 = 5 then
    (Mi 128 [.inr (34, 0)] m (fun v14 m13 =>
     Q v14 m13))
   else
   if x1 = 6 then
    (Mi 127 [.inr (34, 0)] m (fun v17 m16 =>
     Q v17 m16))
   else
   if x1 = 7 then
    (Mi 167 [.inr (34, 0), .inl x1] m (fun v20 m19 =>
     Q v20 m19))
   else
   if x1 = 8 then
    (Mi 167 [.inr (34, 0), .inl x1] m (fun v23 m22 =>
     Q v23 m22))
   else
   if x1 = 9 then
    (Mi 167 [.inr (34, 0), .inl x1] m (fun v26 m25 =>
     Q v26 m25))
   else
   if x1 = 10 then
    Q (m 35 0 4) m
   else
   if x1 = 11 then
    Q (m 34 0 5) m
   else
   if x1 = 12 then
    Q (m 34 0 8) m
   else
   if x1 = 13 then
    (a_in ((5 + x1) - 13) 264 = true ∧
     Q (m 35 0 ((5 + x1) - 13).toNatClampNeg) m)
   else
   if x1 = 14 then
    (a_in ((5 + x1) - 13) 264 = true ∧
     Q (m 35 0 ((5 + x1) - 13).toNatClampNeg) m)
   else
   if x1 = 15 then
    (a_in ((5 + x1) - 13) 264 = true ∧
     Q (m 35 0 ((5 + x1) - 13).toNatClampNeg) m)
   else
    Q (-2) m
  ) : Mi 169 [.inr (34, 0), .inl x1] m Q := by
  refine Mi_in ML_169 (show Rg 169 0 [some (.inr (34, 0)), some (.inl x1)] [] m (qI Q) from ?_)
  refine r_iload_n L_169_0 rfl ?_
  refine r_tsw2 L_169_1 (by decide) (by decide) ?_
  refine sw_t (tgt := 80) kT_0 (by decide) (i_mono h (fun c1 h => ?_) (fun c1 h => ?_))
  · refine r_aload_n L_169_80 rfl ?_
    refine r_getr (c' := 35) (d' := 0) L_169_81 rfl rfl ?_
    refine r_iload_n L_169_84 rfl ?_
    obtain ⟨g2, h⟩ := h
    refine r_iald (N := 264) (j := x1.toNatClampNeg) L_169_85 (by decide +kernel) rfl g2 rfl ?_
    exact r_iret L_169_86 RT_169 h
  · skip
    refine sw_t (tgt := 80) kT_1 (by decide) (i_mono h (fun c3 h => ?_) (fun c3 h => ?_))
    · refine r_aload_n L_169_80 rfl ?_
      refine r_getr (c' := 35) (d' := 0) L_169_81 rfl rfl ?_
      refine r_iload_n L_169_84 rfl ?_
      obtain ⟨g4, h⟩ := h
      refine r_iald (N := 264) (j := x1.toNatClampNeg) L_169_85 (by decide +kernel) rfl g4 rfl ?_
      exact r_iret L_169_86 RT_169 h
    · skip
      refine sw_t (tgt := 80) kT_2 (by decide) (i_mono h (fun c5 h => ?_) (fun c5 h => ?_))
      · refine r_aload_n L_169_80 rfl ?_
        refine r_getr (c' := 35) (d' := 0) L_169_81 rfl rfl ?_
        refine r_iload_n L_169_84 rfl ?_
        obtain ⟨g6, h⟩ := h
        refine r_iald (N := 264) (j := x1.toNatClampNeg) L_169_85 (by decide +kernel) rfl g6 rfl ?_
        exact r_iret L_169_86 RT_169 h
      · skip
        refine sw_t (tgt := 80) kT_3 (by decide) (i_mono h (fun c7 h => ?_) (fun c7 h => ?_))
        · refine r_aload_n L_169_80 rfl ?_
          refine r_getr (c' := 35) (d' := 0) L_169_81 rfl rfl ?_
          refine r_iload_n L_169_84 rfl ?_
          obtain ⟨g8, h⟩ := h
          refine r_iald (N := 264) (j := x1.toNatClampNeg) L_169_85 (by decide +kernel) rfl g8 rfl ?_
          exact r_iret L_169_86 RT_169 h
        · skip
          refine sw_t (tgt := 87) kT_4 (by decide) (i_mono h (fun c9 h => ?_) (fun c9 h => ?_))
          · refine r_aload_n L_169_87 rfl ?_
            refine r_cv L_169_88 rfl (Mi_mono h fun v11 m10 h => ?_)
            exact r_iret L_169_91 RT_169 h
          · skip
            refine sw_t (tgt := 92) kT_5 (by decide) (i_mono h (fun c12 h => ?_) (fun c12 h => ?_))
            · refine r_aload_n L_169_92 rfl ?_
              refine r_cv L_169_93 rfl (Mi_mono h fun v14 m13 h => ?_)
              exact r_iret L_169_96 RT_169 h
            · skip
              refine sw_t (tgt := 97) kT_6 (by decide) (i_mono h (fun c15 h => ?_) (fun c15 h => ?_))
              · refine r_aload_n L_169_97 rfl ?_
                refine r_cv L_169_98 rfl (Mi_mono h fun v17 m16 h => ?_)
                exact r_iret L_169_101 RT_169 h
              · skip
                refine sw_t (tgt := 102) kT_7 (by decide) (i_mono h (fun c18 h => ?_) (fun c18 h => ?_))
                · refine r_aload_n L_169_102 rfl ?_
                  refine r_iload_n L_169_103 rfl ?_
                  refine r_cv L_169_104 rfl (Mi_mono h fun v20 m19 h => ?_)
                  exact r_iret L_169_107 RT_169 h
                · skip
                  refine sw_t (tgt := 102) kT_8 (by decide) (i_mono h (fun c21 h => ?_) (fun c21 h => ?_))
                  · refine r_aload_n L_169_102 rfl ?_
                    refine r_iload_n L_169_103 rfl ?_
                    refine r_cv L_169_104 rfl (Mi_mono h fun v23 m22 h => ?_)
                    exact r_iret L_169_107 RT_169 h
                  · skip
                    refine sw_t (tgt := 102) kT_9 (by decide) (i_mono h (fun c24 h => ?_) (fun c24 h => ?_))
                    · refine r_aload_n L_169_102 rfl ?_
                      refine r_iload_n L_169_103 rfl ?_
                      refine r_cv L_169_104 rfl (Mi_mono h fun v26 m25 h => ?_)
                      exact r_iret L_169_107 RT_169 h
                    · skip
                      refine sw_t (tgt := 108) kT_10 (by decide) (i_mono h (fun c27 h => ?_) (fun c27 h => ?_))
                      · refine r_aload_n L_169_108 rfl ?_
                        refine r_getr (c' := 35) (d' := 0) L_169_109 rfl rfl ?_
                        refine r_iconst L_169_112 kI_4 ?_
                        refine r_iald (N := 264) (j := 4) L_169_113 (by decide +kernel) rfl (by decide +kernel) (by decide +kernel) ?_
                        exact r_iret L_169_114 RT_169 h
                      · skip
                        refine sw_t (tgt := 115) kT_11 (by decide) (i_mono h (fun c28 h => ?_) (fun c28 h => ?_))
                        · refine r_aload_n L_169_115 rfl ?_
                          refine r_geti L_169_116 rfl rfl ?_
                          exact r_iret L_169_119 RT_169 h
                        · skip
                          refine sw_t (tgt := 120) kT_12 (by decide) (i_mono h (fun c29 h => ?_) (fun c29 h => ?_))
                          · refine r_aload_n L_169_120 rfl ?_
                            refine r_geti L_169_121 rfl rfl ?_
                            exact r_iret L_169_124 RT_169 h
                          · skip
                            refine sw_t (tgt := 125) kT_13 (by decide) (i_mono h (fun c30 h => ?_) (fun c30 h => ?_))
                            · refine r_aload_n L_169_125 rfl ?_
                              refine r_getr (c' := 35) (d' := 0) L_169_126 rfl rfl ?_
                              refine r_iconst L_169_129 kI_5 ?_
                              refine r_iload_n L_169_130 rfl ?_
                              refine r_iadd L_169_131 ?_
                              refine r_bipush L_169_132 kB_13 ?_
                              refine r_isub L_169_134 ?_
                              obtain ⟨g31, h⟩ := h
                              refine r_iald (N := 264) (j := ((5 + x1) - 13).toNatClampNeg) L_169_135 (by decide +kernel) rfl g31 rfl ?_
                              exact r_iret L_169_136 RT_169 h
                            · skip
                              refine sw_t (tgt := 125) kT_14 (by decide) (i_mono h (fun c32 h => ?_) (fun c32 h => ?_))
                              · refine r_aload_n L_169_125 rfl ?_
                                refine r_getr (c' := 35) (d' := 0) L_169_126 rfl rfl ?_
                                refine r_iconst L_169_129 kI_5 ?_
                                refine r_iload_n L_169_130 rfl ?_
                                refine r_iadd L_169_131 ?_
                                refine r_bipush L_169_132 kB_13 ?_
                                refine r_isub L_169_134 ?_
                                obtain ⟨g33, h⟩ := h
                                refine r_iald (N := 264) (j := ((5 + x1) - 13).toNatClampNeg) L_169_135 (by decide +kernel) rfl g33 rfl ?_
                                exact r_iret L_169_136 RT_169 h
                              · skip
                                refine sw_t (tgt := 125) kT_15 (by decide) (i_mono h (fun c34 h => ?_) (fun c34 h => ?_))
                                · refine r_aload_n L_169_125 rfl ?_
                                  refine r_getr (c' := 35) (d' := 0) L_169_126 rfl rfl ?_
                                  refine r_iconst L_169_129 kI_5 ?_
                                  refine r_iload_n L_169_130 rfl ?_
                                  refine r_iadd L_169_131 ?_
                                  refine r_bipush L_169_132 kB_13 ?_
                                  refine r_isub L_169_134 ?_
                                  obtain ⟨g35, h⟩ := h
                                  refine r_iald (N := 264) (j := ((5 + x1) - 13).toNatClampNeg) L_169_135 (by decide +kernel) rfl g35 rfl ?_
                                  exact r_iret L_169_136 RT_169 h
                                · skip
                                  refine sw_d (tgt := 137) (by decide) ?_
                                  refine r_bipush L_169_137 kB_m2 ?_
                                  exact r_iret L_169_139 RT_169 h
def H_170_22 (x1 x2 x3 x4 : Int32) (m : aM) (Q : Int32 → aM → Prop) : Prop := Rg 170 22 [some (.inr (34, 0)), some (.inl x1), some (.inl x2), some (.inl x3), some (.inl x4)] [] m (qI Q)
/-- Model.vacant, the loop at 22 -/
theorem T_170_22 {x1 x2 x3 x4 : Int32} {m : aM} {Q : Int32 → aM → Prop} (h :
   if x4 < 100 then
    (Mi 118 [.inr (34, 0), .inl x1, .inl ((10 * (x4 / 10)) + 5), .inl ((10 * (iR x4 10)) + 5), .inl x2] m (fun v3 m2 =>
     if v3 = 0 then
      H_170_22 x1 x2 (x3 + 0) (x4 + 1) m2 Q
     else
      H_170_22 x1 x2 (x3 + 1) (x4 + 1) m2 Q))
   else
    Q x3 m
  ) : H_170_22 x1 x2 x3 x4 m Q := by
  show Rg 170 22 [some (.inr (34, 0)), some (.inl x1), some (.inl x2), some (.inl x3), some (.inl x4)] [] m (qI Q)
  refine r_iload L_170_22 rfl ?_
  refine r_bipush L_170_24 kB_100 ?_
  refine r_icmpn L_170_26 cc_ge (i_mono h (fun c1 h => ?_) (fun c1 h => ?_))
  · refine r_iload_n L_170_29 rfl ?_
    refine r_aload_n L_170_30 rfl ?_
    refine r_iload_n L_170_31 rfl ?_
    refine r_bipush L_170_32 kB_10 ?_
    refine r_iload L_170_34 rfl ?_
    refine r_bipush L_170_36 kB_10 ?_
    refine r_idiv L_170_38 (by decide +kernel) ?_
    refine r_imul L_170_39 ?_
    refine r_iconst L_170_40 kI_5 ?_
    refine r_iadd L_170_41 ?_
    refine r_bipush L_170_42 kB_10 ?_
    refine r_iload L_170_44 rfl ?_
    refine r_bipush L_170_46 kB_10 ?_
    refine r_irem L_170_48 (by decide +kernel) ?_
    refine r_imul L_170_49 ?_
    refine r_iconst L_170_50 kI_5 ?_
    refine r_iadd L_170_51 ?_
    refine r_iload_n L_170_52 rfl ?_
    refine r_cv L_170_53 rfl (Mi_mono h fun v3 m2 h => ?_)
    refine r_if L_170_56 rfl (i_mono h (fun c4 h => ?_) (fun c4 h => ?_))
    · refine r_iconst L_170_63 kI_0 ?_
      refine r_iadd L_170_64 ?_
      refine r_istore_n (ls1 := [some (.inr (34, 0)), some (.inl x1), some (.inl x2), some (.inl (x3 + 0)), some (.inl x4)]) L_170_65 (Nat.le_of_ble_eq_true rfl) rfl ?_
      refine r_iinc (ls1 := [some (.inr (34, 0)), some (.inl x1), some (.inl x2), some (.inl (x3 + 0)), some (.inl (x4 + 1))]) L_170_66 kI_1 rfl (Nat.le_of_ble_eq_true rfl) rfl ?_
      refine r_goto L_170_69 ?_
      exact h
    · refine r_iconst L_170_59 kI_1 ?_
      refine r_goto L_170_60 ?_
      refine r_iadd L_170_64 ?_
      refine r_istore_n (ls1 := [some (.inr (34, 0)), some (.inl x1), some (.inl x2), some (.inl (x3 + 1)), some (.inl x4)]) L_170_65 (Nat.le_of_ble_eq_true rfl) rfl ?_
      refine r_iinc (ls1 := [some (.inr (34, 0)), some (.inl x1), some (.inl x2), some (.inl (x3 + 1)), some (.inl (x4 + 1))]) L_170_66 kI_1 rfl (Nat.le_of_ble_eq_true rfl) rfl ?_
      refine r_goto L_170_69 ?_
      exact h
  · refine r_iload_n L_170_72 rfl ?_
    exact r_iret L_170_73 RT_170 h
/-- Model.vacant -/
theorem T_170 {x1 x2 : Int32} {m : aM} {Q : Int32 → aM → Prop} (h :
   if ¬ x1 < 0 ∧ ¬ 7 < x1 then
    (if ¬ x2 < 0 ∧ ¬ 3 < x2 then
     H_170_22 x1 x2 0 0 m Q
    else
     Q (-2) m)
   else
    Q (-2) m
  ) : Mi 170 [.inr (34, 0), .inl x1, .inl x2] m Q := by
  refine Mi_in ML_170 (show Rg 170 0 [some (.inr (34, 0)), some (.inl x1), some (.inl x2), none, none] [] m (qI Q) from ?_)
  refine r_iload_n L_170_0 rfl ?_
  refine r_cs L_170_1 (by decide) rfl (V_109 ?_)
  refine r_ifeqP L_170_4 (i_mono h (fun c1 h => ?_) (fun c1 h => ?_))
  · refine r_iload_n L_170_7 rfl ?_
    refine r_cs L_170_8 (by decide) rfl (V_110 ?_)
    refine r_ifneP L_170_11 (i_mono h (fun c2 h => ?_) (fun c2 h => ?_))
    · refine r_iconst L_170_17 kI_0 ?_
      refine r_istore_n (ls1 := [some (.inr (34, 0)), some (.inl x1), some (.inl x2), some (.inl 0), none]) L_170_18 (Nat.le_of_ble_eq_true rfl) rfl ?_
      refine r_iconst L_170_19 kI_0 ?_
      refine r_istore (ls1 := [some (.inr (34, 0)), some (.inl x1), some (.inl x2), some (.inl 0), some (.inl 0)]) L_170_20 (Nat.le_of_ble_eq_true rfl) rfl ?_
      exact h
    · refine r_bipush L_170_14 kB_m2 ?_
      exact r_iret L_170_16 RT_170 h
  · refine r_bipush L_170_14 kB_m2 ?_
    exact r_iret L_170_16 RT_170 h
def H_171_45 (x1 x2 x3 x4 x5 x6 : Int32) (m : aM) (Q : Int32 → aM → Prop) : Prop := Rg 171 45 [some (.inr (34, 0)), some (.inl x1), some (.inl x2), some (.inl x3), some (.inl x4), some (.inl x5), some (.inl x6)] [] m (qI Q)
/-- Model.allowedFrom, the loop at 45 -/
theorem T_171_45 {x1 x2 x3 x4 x5 x6 : Int32} {m : aM} {Q : Int32 → aM → Prop} (h :
   if x6 = 0 then
    (if 9999 < x5 then
     Q (-6) m
    else
     Mi 117 [.inr (34, 0), .inl x1, .inl x2, .inl x3, .inl x4, .inl x5] m (fun v4 m3 =>
      if v4 = 0 then
       Q x5 m3
      else
       H_171_45 x1 x2 x3 x4 (x5 + 1) x6 m3 Q))
   else
    Q (-6) m
  ) : H_171_45 x1 x2 x3 x4 x5 x6 m Q := by
  show Rg 171 45 [some (.inr (34, 0)), some (.inl x1), some (.inl x2), some (.inl x3), some (.inl x4), some (.inl x5), some (.inl x6)] [] m (qI Q)
  refine r_iload L_171_45 rfl ?_
  refine r_ifn L_171_47 rfl (i_mono h (fun c1 h => ?_) (fun c1 h => ?_))
  · refine r_iload L_171_50 rfl ?_
    refine r_sipush L_171_52 kS_9999 ?_
    refine r_icmp L_171_55 rfl (i_mono h (fun c2 h => ?_) (fun c2 h => ?_))
    · refine r_iload L_171_78 rfl ?_
      refine r_ifn L_171_80 rfl (i_pos c1 ?_)
      refine r_iload L_171_83 rfl ?_
      refine r_sipush L_171_85 kS_9999 ?_
      refine r_icmpn L_171_88 cc_le (i_pos c2 ?_)
      refine r_bipush L_171_91 kB_m6 ?_
      refine r_goto L_171_93 ?_
      exact r_iret L_171_98 RT_171 h
    · refine r_aload_n L_171_58 rfl ?_
      refine r_iload_n L_171_59 rfl ?_
      refine r_iload_n L_171_60 rfl ?_
      refine r_iload_n L_171_61 rfl ?_
      refine r_iload L_171_62 rfl ?_
      refine r_iload L_171_64 rfl ?_
      refine r_cv L_171_66 rfl (Mi_mono h fun v4 m3 h => ?_)
      refine r_if L_171_69 rfl (i_mono h (fun c5 h => ?_) (fun c5 h => ?_))
      · refine r_iload L_171_78 rfl ?_
        refine r_ifn L_171_80 rfl (i_pos c1 ?_)
        refine r_iload L_171_83 rfl ?_
        refine r_sipush L_171_85 kS_9999 ?_
        refine r_icmpn L_171_88 cc_le (i_neg c2 ?_)
        refine r_iload L_171_96 rfl ?_
        exact r_iret L_171_98 RT_171 h
      · refine r_iinc (ls1 := [some (.inr (34, 0)), some (.inl x1), some (.inl x2), some (.inl x3), some (.inl x4), some (.inl (x5 + 1)), some (.inl x6)]) L_171_72 kI_1 rfl (Nat.le_of_ble_eq_true rfl) rfl ?_
        refine r_goto L_171_75 ?_
        exact h
  · refine r_iload L_171_78 rfl ?_
    refine r_ifn L_171_80 rfl (i_neg c1 ?_)
    refine r_bipush L_171_91 kB_m6 ?_
    refine r_goto L_171_93 ?_
    exact r_iret L_171_98 RT_171 h
/-- Model.allowedFrom -/
theorem T_171 {x1 x2 x3 x4 : Int32} {m : aM} {Q : Int32 → aM → Prop} (h :
   if ¬ x1 < 0 ∧ ¬ 7 < x1 then
    (if (¬ x2 < 0 ∧ ¬ 99 < x2) ∧ (¬ x3 < 0 ∧ ¬ 99 < x3) then
     (if ¬ x4 < 0 ∧ ¬ 3 < x4 then
      (Mi 116 [.inr (34, 0), .inl x1, .inl x2, .inl x3, .inl x4] m (fun v5 m4 =>
       H_171_45 x1 x2 x3 x4 (m 35 0 0) v5 m4 Q))
     else
      Q (-2) m)
    else
     Q (-2) m)
   else
    Q (-2) m
  ) : Mi 171 [.inr (34, 0), .inl x1, .inl x2, .inl x3, .inl x4] m Q := by
  refine Mi_in ML_171 (show Rg 171 0 [some (.inr (34, 0)), some (.inl x1), some (.inl x2), some (.inl x3), some (.inl x4), none, none] [] m (qI Q) from ?_)
  refine r_iload_n L_171_0 rfl ?_
  refine r_cs L_171_1 (by decide) rfl (V_109 ?_)
  refine r_ifeqP L_171_4 (i_mono h (fun c1 h => ?_) (fun c1 h => ?_))
  · refine r_iload_n L_171_7 rfl ?_
    refine r_iload_n L_171_8 rfl ?_
    refine r_cs L_171_9 (by decide) rfl (V_108 ?_)
    refine r_ifeqP L_171_12 (i_mono h (fun c2 h => ?_) (fun c2 h => ?_))
    · refine r_iload L_171_15 rfl ?_
      refine r_cs L_171_17 (by decide) rfl (V_110 ?_)
      refine r_ifneP L_171_20 (i_mono h (fun c3 h => ?_) (fun c3 h => ?_))
      · refine r_aload_n L_171_26 rfl ?_
        refine r_getr (c' := 35) (d' := 0) L_171_27 rfl rfl ?_
        refine r_iconst L_171_30 kI_0 ?_
        refine r_iald (N := 264) (j := 0) L_171_31 (by decide +kernel) rfl (by decide +kernel) (by decide +kernel) ?_
        refine r_istore (ls1 := [some (.inr (34, 0)), some (.inl x1), some (.inl x2), some (.inl x3), some (.inl x4), some (.inl (m 35 0 0)), none]) L_171_32 (Nat.le_of_ble_eq_true rfl) rfl ?_
        refine r_aload_n L_171_34 rfl ?_
        refine r_iload_n L_171_35 rfl ?_
        refine r_iload_n L_171_36 rfl ?_
        refine r_iload_n L_171_37 rfl ?_
        refine r_iload L_171_38 rfl ?_
        refine r_cv L_171_40 rfl (Mi_mono h fun v5 m4 h => ?_)
        refine r_istore (ls1 := [some (.inr (34, 0)), some (.inl x1), some (.inl x2), some (.inl x3), some (.inl x4), some (.inl (m 35 0 0)), some (.inl v5)]) L_171_43 (Nat.le_of_ble_eq_true rfl) rfl ?_
        exact h
      · refine r_bipush L_171_23 kB_m2 ?_
        exact r_iret L_171_25 RT_171 h
    · refine r_bipush L_171_23 kB_m2 ?_
      exact r_iret L_171_25 RT_171 h
  · refine r_bipush L_171_23 kB_m2 ?_
    exact r_iret L_171_25 RT_171 h
def H_172_41 (x1 x2 x3 : Int32) (m : aM) (Q : Int32 → aM → Prop) : Prop := Rg 172 41 [some (.inr (34, 0)), some (.inl x1), some (.inl x2), some (.inl x3)] [] m (qI Q)
/-- Model.wouldStrike, the loop at 41 -/
theorem T_172_41 {x1 x2 x3 : Int32} {m : aM} {Q : Int32 → aM → Prop} (h :
   if x3 < (m 35 0 3) then
    (a_in (104 + 10 * x3 + 3) 264 = true ∧
     if ¬ m 35 0 (104 + 10 * x3 + 3).toNatClampNeg = (-6) then
      (a_in (104 + 10 * x3 + 6) 264 = true ∧
       if (m 35 0 (104 + 10 * x3 + 6).toNatClampNeg) = (-6) then
        (Mi 124 [.inr (34, 0), .inl x3] m (fun v7 m6 =>
         if v7 = 0 then
          H_172_41 x1 (x2 + 1) (x3 + 1) m6 Q
         else
          H_172_41 x1 (x2 + 0) (x3 + 1) m6 Q))
       else
        H_172_41 x1 (x2 + 0) (x3 + 1) m Q)
     else
      H_172_41 x1 (x2 + 0) (x3 + 1) m Q)
   else
    (a_in ((8 + (5 * x1)) + 4) 264 = true ∧
     (∀ m10, m10 = a_up m 35 0 ((8 + (5 * x1)) + 4).toNatClampNeg 0 →
     Q x2 m10))
  ) : H_172_41 x1 x2 x3 m Q := by
  show Rg 172 41 [some (.inr (34, 0)), some (.inl x1), some (.inl x2), some (.inl x3)] [] m (qI Q)
  refine r_iload_n L_172_41 rfl ?_
  refine r_aload_n L_172_42 rfl ?_
  refine r_getr (c' := 35) (d' := 0) L_172_43 rfl rfl ?_
  refine r_iconst L_172_46 kI_3 ?_
  refine r_iald (N := 264) (j := 3) L_172_47 (by decide +kernel) rfl (by decide +kernel) (by decide +kernel) ?_
  refine r_icmpn L_172_48 cc_ge (i_mono h (fun c1 h => ?_) (fun c1 h => ?_))
  · refine r_iload_n L_172_51 rfl ?_
    refine r_aload_n L_172_52 rfl ?_
    refine r_iload_n L_172_53 rfl ?_
    obtain ⟨g2, h⟩ := h
    refine r_cv L_172_54 rfl (V_120 g2 ?_)
    refine r_ifeqP L_172_57 (i_mono h (fun c3 h => ?_) (fun c3 h => ?_))
    · refine r_aload_n L_172_60 rfl ?_
      refine r_iload_n L_172_61 rfl ?_
      refine r_bipush L_172_62 kB_6 ?_
      obtain ⟨g4, h⟩ := h
      refine r_cv L_172_64 rfl (V_106 g4 ?_)
      refine r_bipush L_172_67 kB_m6 ?_
      refine r_icmpn L_172_69 rfl (i_mono h (fun c5 h => ?_) (fun c5 h => ?_))
      · refine r_aload_n L_172_72 rfl ?_
        refine r_iload_n L_172_73 rfl ?_
        refine r_cv L_172_74 rfl (Mi_mono h fun v7 m6 h => ?_)
        refine r_ifn L_172_77 rfl (i_mono h (fun c8 h => ?_) (fun c8 h => ?_))
        · refine r_iconst L_172_80 kI_1 ?_
          refine r_goto L_172_81 ?_
          refine r_iadd L_172_85 ?_
          refine r_istore_n (ls1 := [some (.inr (34, 0)), some (.inl x1), some (.inl (x2 + 1)), some (.inl x3)]) L_172_86 (Nat.le_of_ble_eq_true rfl) rfl ?_
          refine r_iinc (ls1 := [some (.inr (34, 0)), some (.inl x1), some (.inl (x2 + 1)), some (.inl (x3 + 1))]) L_172_87 kI_1 rfl (Nat.le_of_ble_eq_true rfl) rfl ?_
          refine r_goto L_172_90 ?_
          exact h
        · refine r_iconst L_172_84 kI_0 ?_
          refine r_iadd L_172_85 ?_
          refine r_istore_n (ls1 := [some (.inr (34, 0)), some (.inl x1), some (.inl (x2 + 0)), some (.inl x3)]) L_172_86 (Nat.le_of_ble_eq_true rfl) rfl ?_
          refine r_iinc (ls1 := [some (.inr (34, 0)), some (.inl x1), some (.inl (x2 + 0)), some (.inl (x3 + 1))]) L_172_87 kI_1 rfl (Nat.le_of_ble_eq_true rfl) rfl ?_
          refine r_goto L_172_90 ?_
          exact h
      · refine r_iconst L_172_84 kI_0 ?_
        refine r_iadd L_172_85 ?_
        refine r_istore_n (ls1 := [some (.inr (34, 0)), some (.inl x1), some (.inl (x2 + 0)), some (.inl x3)]) L_172_86 (Nat.le_of_ble_eq_true rfl) rfl ?_
        refine r_iinc (ls1 := [some (.inr (34, 0)), some (.inl x1), some (.inl (x2 + 0)), some (.inl (x3 + 1))]) L_172_87 kI_1 rfl (Nat.le_of_ble_eq_true rfl) rfl ?_
        refine r_goto L_172_90 ?_
        exact h
    · refine r_iconst L_172_84 kI_0 ?_
      refine r_iadd L_172_85 ?_
      refine r_istore_n (ls1 := [some (.inr (34, 0)), some (.inl x1), some (.inl (x2 + 0)), some (.inl x3)]) L_172_86 (Nat.le_of_ble_eq_true rfl) rfl ?_
      refine r_iinc (ls1 := [some (.inr (34, 0)), some (.inl x1), some (.inl (x2 + 0)), some (.inl (x3 + 1))]) L_172_87 kI_1 rfl (Nat.le_of_ble_eq_true rfl) rfl ?_
      refine r_goto L_172_90 ?_
      exact h
  · refine r_aload_n L_172_93 rfl ?_
    refine r_getr (c' := 35) (d' := 0) L_172_94 rfl rfl ?_
    refine r_bipush L_172_97 kB_8 ?_
    refine r_iconst L_172_99 kI_5 ?_
    refine r_iload_n L_172_100 rfl ?_
    refine r_imul L_172_101 ?_
    refine r_iadd L_172_102 ?_
    refine r_iconst L_172_103 kI_4 ?_
    refine r_iadd L_172_104 ?_
    refine r_iconst L_172_105 kI_0 ?_
    obtain ⟨g9, h⟩ := h
    refine r_iast (N := 264) (j := ((8 + (5 * x1)) + 4).toNatClampNeg) L_172_106 (by decide +kernel) rfl g9 rfl ?_
    refine r_nm fun m10 em10 => ?_
    have h := h m10 em10
    refine r_iload_n L_172_107 rfl ?_
    exact r_iret L_172_108 RT_172 h
/-- Model.wouldStrike -/
theorem T_172 {x1 : Int32} {m : aM} {Q : Int32 → aM → Prop} (h :
   if ¬ x1 < 0 ∧ x1 < m 35 0 1 then
    (a_in (8 + 5 * x1 + 4) 264 = true ∧
     if (m 35 0 (8 + 5 * x1 + 4).toNatClampNeg) = 1 then
      Q (-3) m
     else
      (a_in ((8 + (5 * x1)) + 4) 264 = true ∧
       (∀ m5, m5 = a_up m 35 0 ((8 + (5 * x1)) + 4).toNatClampNeg 1 →
       H_172_41 x1 0 0 m5 Q)))
   else
    Q (-1) m
  ) : Mi 172 [.inr (34, 0), .inl x1] m Q := by
  refine Mi_in ML_172 (show Rg 172 0 [some (.inr (34, 0)), some (.inl x1), none, none] [] m (qI Q) from ?_)
  refine r_aload_n L_172_0 rfl ?_
  refine r_iload_n L_172_1 rfl ?_
  refine r_cv L_172_2 rfl (V_101 ?_)
  refine r_ifneP L_172_5 (i_mono h (fun c1 h => ?_) (fun c1 h => ?_))
  · refine r_aload_n L_172_10 rfl ?_
    refine r_iload_n L_172_11 rfl ?_
    refine r_iconst L_172_12 kI_4 ?_
    obtain ⟨g2, h⟩ := h
    refine r_cv L_172_13 rfl (V_104 g2 ?_)
    refine r_iconst L_172_16 kI_1 ?_
    refine r_icmpn L_172_17 rfl (i_mono h (fun c3 h => ?_) (fun c3 h => ?_))
    · refine r_bipush L_172_20 kB_m3 ?_
      exact r_iret L_172_22 RT_172 h
    · refine r_iconst L_172_23 kI_0 ?_
      refine r_istore_n (ls1 := [some (.inr (34, 0)), some (.inl x1), some (.inl 0), none]) L_172_24 (Nat.le_of_ble_eq_true rfl) rfl ?_
      refine r_aload_n L_172_25 rfl ?_
      refine r_getr (c' := 35) (d' := 0) L_172_26 rfl rfl ?_
      refine r_bipush L_172_29 kB_8 ?_
      refine r_iconst L_172_31 kI_5 ?_
      refine r_iload_n L_172_32 rfl ?_
      refine r_imul L_172_33 ?_
      refine r_iadd L_172_34 ?_
      refine r_iconst L_172_35 kI_4 ?_
      refine r_iadd L_172_36 ?_
      refine r_iconst L_172_37 kI_1 ?_
      obtain ⟨g4, h⟩ := h
      refine r_iast (N := 264) (j := ((8 + (5 * x1)) + 4).toNatClampNeg) L_172_38 (by decide +kernel) rfl g4 rfl ?_
      refine r_nm fun m5 em5 => ?_
      have h := h m5 em5
      refine r_iconst L_172_39 kI_0 ?_
      refine r_istore_n (ls1 := [some (.inr (34, 0)), some (.inl x1), some (.inl 0), some (.inl 0)]) L_172_40 (Nat.le_of_ble_eq_true rfl) rfl ?_
      exact h
  · refine r_iconst L_172_8 kI_m1 ?_
    exact r_iret L_172_9 RT_172 h
def H_173_32 (x1 x2 x3 x4 : Int32) (m : aM) (Q : Int32 → aM → Prop) : Prop := Rg 173 32 [some (.inr (34, 0)), some (.inl x1), some (.inl x2), some (.inl x3), some (.inl x4)] [] m (qI Q)
/-- Model.channelIn, the loop at 32 -/
theorem T_173_32 {x1 x2 x3 x4 : Int32} {m : aM} {Q : Int32 → aM → Prop} (h :
   if x4 < x2 then
    (Mi 130 [.inr (34, 0)] m (fun v3 m2 =>
     H_173_32 x1 x2 (x3 + v3) (x4 + 1) m2 Q))
   else
    if x3 < 0 then
     (Mv 100 [.inr (34, 0)] m (fun m5 =>
      Q (-6) m5))
    else
     a_in (104 + 10 * x1 + 3) 264 = true ∧
      Mv 100 [.inr (34, 0)] m (fun m7 =>
       Q (m 35 0 (104 + 10 * x1 + 3).toNatClampNeg) m7)
  ) : H_173_32 x1 x2 x3 x4 m Q := by
  show Rg 173 32 [some (.inr (34, 0)), some (.inl x1), some (.inl x2), some (.inl x3), some (.inl x4)] [] m (qI Q)
  refine r_iload L_173_32 rfl ?_
  refine r_iload_n L_173_34 rfl ?_
  refine r_icmpn L_173_35 cc_ge (i_mono h (fun c1 h => ?_) (fun c1 h => ?_))
  · refine r_iload_n L_173_38 rfl ?_
    refine r_aload_n L_173_39 rfl ?_
    refine r_cv L_173_40 rfl (Mi_mono h fun v3 m2 h => ?_)
    refine r_iadd L_173_43 ?_
    refine r_istore_n (ls1 := [some (.inr (34, 0)), some (.inl x1), some (.inl x2), some (.inl (x3 + v3)), some (.inl x4)]) L_173_44 (Nat.le_of_ble_eq_true rfl) rfl ?_
    refine r_iinc (ls1 := [some (.inr (34, 0)), some (.inl x1), some (.inl x2), some (.inl (x3 + v3)), some (.inl (x4 + 1))]) L_173_45 kI_1 rfl (Nat.le_of_ble_eq_true rfl) rfl ?_
    refine r_goto L_173_48 ?_
    exact h
  · refine r_iload_n L_173_51 rfl ?_
    refine r_ifn L_173_52 cc_ge (i_mono h (fun c4 h => ?_) (fun c4 h => ?_))
    · refine r_bipush L_173_55 kB_m6 ?_
      refine r_goto L_173_57 ?_
      refine r_istore (ls1 := [some (.inr (34, 0)), some (.inl x1), some (.inl x2), some (.inl x3), some (.inl (-6))]) L_173_66 (Nat.le_of_ble_eq_true rfl) rfl ?_
      refine r_aload_n L_173_68 rfl ?_
      refine r_cvv L_173_69 rfl (Mv_mono h fun m5 h => ?_)
      refine r_iload L_173_72 rfl ?_
      exact r_iret L_173_74 RT_173 h
    · refine r_aload_n L_173_60 rfl ?_
      refine r_iload_n L_173_61 rfl ?_
      refine r_iconst L_173_62 kI_3 ?_
      obtain ⟨g6, h⟩ := h
      refine r_cv L_173_63 rfl (V_106 g6 ?_)
      refine r_istore (ls1 := [some (.inr (34, 0)), some (.inl x1), some (.inl x2), some (.inl x3), some (.inl (m 35 0 (104 + 10 * x1 + 3).toNatClampNeg))]) L_173_66 (Nat.le_of_ble_eq_true rfl) rfl ?_
      refine r_aload_n L_173_68 rfl ?_
      refine r_cvv L_173_69 rfl (Mv_mono h fun m7 h => ?_)
      refine r_iload L_173_72 rfl ?_
      exact r_iret L_173_74 RT_173 h
/-- Model.channelIn -/
theorem T_173 {x1 x2 : Int32} {m : aM} {Q : Int32 → aM → Prop} (h :
   if ¬ x1 < 0 ∧ x1 < m 35 0 3 then
    (if ¬ x2 < 0 ∧ ¬ 99 < x2 then
     (Mv 99 [.inr (34, 0)] m (fun m3 =>
      H_173_32 x1 x2 0 0 m3 Q))
    else
     Q (-2) m)
   else
    Q (-1) m
  ) : Mi 173 [.inr (34, 0), .inl x1, .inl x2] m Q := by
  refine Mi_in ML_173 (show Rg 173 0 [some (.inr (34, 0)), some (.inl x1), some (.inl x2), none, none] [] m (qI Q) from ?_)
  refine r_aload_n L_173_0 rfl ?_
  refine r_iload_n L_173_1 rfl ?_
  refine r_cv L_173_2 rfl (V_103 ?_)
  refine r_ifneP L_173_5 (i_mono h (fun c1 h => ?_) (fun c1 h => ?_))
  · refine r_iload_n L_173_10 rfl ?_
    refine r_iconst L_173_11 kI_0 ?_
    refine r_bipush L_173_12 kB_99 ?_
    refine r_cs L_173_14 (by decide) rfl (V_97 ?_)
    refine r_ifneP L_173_17 (i_mono h (fun c2 h => ?_) (fun c2 h => ?_))
    · refine r_aload_n L_173_23 rfl ?_
      refine r_cvv L_173_24 rfl (Mv_mono h fun m3 h => ?_)
      refine r_iconst L_173_27 kI_0 ?_
      refine r_istore_n (ls1 := [some (.inr (34, 0)), some (.inl x1), some (.inl x2), some (.inl 0), none]) L_173_28 (Nat.le_of_ble_eq_true rfl) rfl ?_
      refine r_iconst L_173_29 kI_0 ?_
      refine r_istore (ls1 := [some (.inr (34, 0)), some (.inl x1), some (.inl x2), some (.inl 0), some (.inl 0)]) L_173_30 (Nat.le_of_ble_eq_true rfl) rfl ?_
      exact h
    · refine r_bipush L_173_20 kB_m2 ?_
      exact r_iret L_173_22 RT_173 h
  · refine r_iconst L_173_8 kI_m1 ?_
    exact r_iret L_173_9 RT_173 h
def H_174_8 (x1 x2 : Int32) (m : aM) (Q : Int32 → aM → Prop) : Prop := Rg 174 8 [some (.inr (34, 0)), some (.inl x1), some (.inl x2)] [] m (qI Q)
/-- Model.clearIn, the loop at 8 -/
theorem T_174_8 {x1 x2 : Int32} {m : aM} {Q : Int32 → aM → Prop} (h :
   if 50 < x1 then
    (Mv 100 [.inr (34, 0)] m (fun m2 =>
     Q (-6) m2))
   else
    Mi 127 [.inr (34, 0)] m (fun v4 m3 =>
     if 0 < v4 then
      (Mi 130 [.inr (34, 0)] m3 (fun v7 m6 =>
       H_174_8 (x1 + 1) (x2 + v7) m6 Q))
     else
      Mv 100 [.inr (34, 0)] m3 (fun m8 =>
       if x2 < 0 then
        Q (-6) m8
       else
        Q x1 m8))
  ) : H_174_8 x1 x2 m Q := by
  show Rg 174 8 [some (.inr (34, 0)), some (.inl x1), some (.inl x2)] [] m (qI Q)
  refine r_iload_n L_174_8 rfl ?_
  refine r_bipush L_174_9 kB_50 ?_
  refine r_icmp L_174_11 rfl (i_mono h (fun c1 h => ?_) (fun c1 h => ?_))
  · refine r_aload_n L_174_34 rfl ?_
    refine r_cvv L_174_35 rfl (Mv_mono h fun m2 h => ?_)
    refine r_iload_n L_174_38 rfl ?_
    refine r_bipush L_174_39 kB_50 ?_
    refine r_icmp L_174_41 rfl (i_pos c1 ?_)
    refine r_bipush L_174_48 kB_m6 ?_
    refine r_goto L_174_50 ?_
    exact r_iret L_174_54 RT_174 h
  · refine r_aload_n L_174_14 rfl ?_
    refine r_cv L_174_15 rfl (Mi_mono h fun v4 m3 h => ?_)
    refine r_ifn L_174_18 cc_le (i_mono h (fun c5 h => ?_) (fun c5 h => ?_))
    · refine r_iload_n L_174_21 rfl ?_
      refine r_aload_n L_174_22 rfl ?_
      refine r_cv L_174_23 rfl (Mi_mono h fun v7 m6 h => ?_)
      refine r_iadd L_174_26 ?_
      refine r_istore_n (ls1 := [some (.inr (34, 0)), some (.inl x1), some (.inl (x2 + v7))]) L_174_27 (Nat.le_of_ble_eq_true rfl) rfl ?_
      refine r_iinc (ls1 := [some (.inr (34, 0)), some (.inl (x1 + 1)), some (.inl (x2 + v7))]) L_174_28 kI_1 rfl (Nat.le_of_ble_eq_true rfl) rfl ?_
      refine r_goto L_174_31 ?_
      exact h
    · refine r_aload_n L_174_34 rfl ?_
      refine r_cvv L_174_35 rfl (Mv_mono h fun m8 h => ?_)
      refine r_iload_n L_174_38 rfl ?_
      refine r_bipush L_174_39 kB_50 ?_
      refine r_icmp L_174_41 rfl (i_neg c1 ?_)
      refine r_iload_n L_174_44 rfl ?_
      refine r_ifn L_174_45 cc_ge (i_mono h (fun c9 h => ?_) (fun c9 h => ?_))
      · refine r_bipush L_174_48 kB_m6 ?_
        refine r_goto L_174_50 ?_
        exact r_iret L_174_54 RT_174 h
      · refine r_iload_n L_174_53 rfl ?_
        exact r_iret L_174_54 RT_174 h
/-- Model.clearIn -/
theorem T_174 {m : aM} {Q : Int32 → aM → Prop} (h :
   Mv 99 [.inr (34, 0)] m (fun m1 =>
    H_174_8 0 0 m1 Q)
  ) : Mi 174 [.inr (34, 0)] m Q := by
  refine Mi_in ML_174 (show Rg 174 0 [some (.inr (34, 0)), none, none] [] m (qI Q) from ?_)
  refine r_aload_n L_174_0 rfl ?_
  refine r_cvv L_174_1 rfl (Mv_mono h fun m1 h => ?_)
  refine r_iconst L_174_4 kI_0 ?_
  refine r_istore_n (ls1 := [some (.inr (34, 0)), some (.inl 0), none]) L_174_5 (Nat.le_of_ble_eq_true rfl) rfl ?_
  refine r_iconst L_174_6 kI_0 ?_
  refine r_istore_n (ls1 := [some (.inr (34, 0)), some (.inl 0), some (.inl 0)]) L_174_7 (Nat.le_of_ble_eq_true rfl) rfl ?_
  exact h
