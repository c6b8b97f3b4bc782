/-! trees: what is left of a method when its rows are walked; by program (wip/p34/gen9.py) -/
/-- Devices.tell -/
theorem T_14 {b : Nat} {x1 x2 : Int32} {m : aM} {Q : Int32 → aM → Prop} (h :
   if x2 = 0 then
    (a_in x1 16 = true ∧
     Q (m 16 b x1.toNatClampNeg) m)
   else
   if x2 = 1 then
    (a_in x1 16 = true ∧
     Q (m 17 b x1.toNatClampNeg) m)
   else
   if x2 = 2 then
    (a_in x1 16 = true ∧
     Q (m 18 b x1.toNatClampNeg) m)
   else
   if x2 = 3 then
    (a_in x1 16 = true ∧
     if ¬ m 19 b x1.toNatClampNeg = (-1) then
      Q (m 19 b x1.toNatClampNeg) m
     else
      Q (-6) m)
   else
   if x2 = 4 then
    (a_in x1 16 = true ∧
     if ¬ m 19 b x1.toNatClampNeg = (-1) then
      Q (m 20 b x1.toNatClampNeg) m
     else
      Q (-6) m)
   else
   if x2 = 5 then
    (a_in x1 16 = true ∧
     if ¬ m 19 b x1.toNatClampNeg = (-1) then
      Q (m 21 b x1.toNatClampNeg) m
     else
      Q (-6) m)
   else
   if x2 = 6 then
    (a_in x1 16 = true ∧
     if ¬ m 22 b x1.toNatClampNeg = (-1) then
      Q (m 22 b x1.toNatClampNeg) m
     else
      Q (-6) m)
   else
   if x2 = 7 then
    (a_in x1 16 = true ∧
     Q (m 23 b x1.toNatClampNeg) m)
   else
   if x2 = 8 then
    (a_in x1 16 = true ∧
     Q (m 24 b x1.toNatClampNeg) m)
   else
    a_in x1 16 = true ∧
     Q (m 25 b x1.toNatClampNeg) m
  ) : Mi 14 [.inr (3, b), .inl x1, .inl x2] m Q := by
  refine Mi_in ML_14 (show Rg 14 0 [some (.inr (3, b)), some (.inl x1), some (.inl x2)] [] m (qI Q) from ?_)
  refine r_iload_n L_14_0 rfl ?_
  refine r_tsw2 L_14_1 (by decide) (by decide) ?_
  refine sw_t (tgt := 52) kT_0 (by decide) (i_mono h (fun c1 h => ?_) (fun c1 h => ?_))
  · refine r_aload_n L_14_52 rfl ?_
    refine r_getr (c' := 16) (d' := b) L_14_53 rfl rfl ?_
    refine r_iload_n L_14_56 rfl ?_
    obtain ⟨g2, h⟩ := h
    refine r_iald (N := 16) (j := x1.toNatClampNeg) L_14_57 (by decide +kernel) rfl g2 rfl ?_
    exact r_iret L_14_58 RT_14 h
  · skip
    refine sw_t (tgt := 59) kT_1 (by decide) (i_mono h (fun c3 h => ?_) (fun c3 h => ?_))
    · refine r_aload_n L_14_59 rfl ?_
      refine r_getr (c' := 17) (d' := b) L_14_60 rfl rfl ?_
      refine r_iload_n L_14_63 rfl ?_
      obtain ⟨g4, h⟩ := h
      refine r_iald (N := 16) (j := x1.toNatClampNeg) L_14_64 (by decide +kernel) rfl g4 rfl ?_
      exact r_iret L_14_65 RT_14 h
    · skip
      refine sw_t (tgt := 66) kT_2 (by decide) (i_mono h (fun c5 h => ?_) (fun c5 h => ?_))
      · refine r_aload_n L_14_66 rfl ?_
        refine r_getr (c' := 18) (d' := b) L_14_67 rfl rfl ?_
        refine r_iload_n L_14_70 rfl ?_
        obtain ⟨g6, h⟩ := h
        refine r_iald (N := 16) (j := x1.toNatClampNeg) L_14_71 (by decide +kernel) rfl g6 rfl ?_
        exact r_iret L_14_72 RT_14 h
      · skip
        refine sw_t (tgt := 73) kT_3 (by decide) (i_mono h (fun c7 h => ?_) (fun c7 h => ?_))
        · refine r_aload_n L_14_73 rfl ?_
          refine r_iload_n L_14_74 rfl ?_
          obtain ⟨g8, h⟩ := h
          refine r_cv L_14_75 rfl (V_10 g8 ?_)
          refine r_ifeqP L_14_78 (i_mono h (fun c9 h => ?_) (fun c9 h => ?_))
          · refine r_aload_n L_14_81 rfl ?_
            refine r_getr (c' := 19) (d' := b) L_14_82 rfl rfl ?_
            refine r_iload_n L_14_85 rfl ?_
            refine r_iald (N := 16) (j := x1.toNatClampNeg) L_14_86 (by decide +kernel) rfl g8 rfl ?_
            refine r_goto L_14_87 ?_
            exact r_iret L_14_92 RT_14 h
          · refine r_bipush L_14_90 kB_m6 ?_
            exact r_iret L_14_92 RT_14 h
        · skip
          refine sw_t (tgt := 93) kT_4 (by decide) (i_mono h (fun c10 h => ?_) (fun c10 h => ?_))
          · refine r_aload_n L_14_93 rfl ?_
            refine r_iload_n L_14_94 rfl ?_
            obtain ⟨g11, h⟩ := h
            refine r_cv L_14_95 rfl (V_10 g11 ?_)
            refine r_ifeqP L_14_98 (i_mono h (fun c12 h => ?_) (fun c12 h => ?_))
            · refine r_aload_n L_14_101 rfl ?_
              refine r_getr (c' := 20) (d' := b) L_14_102 rfl rfl ?_
              refine r_iload_n L_14_105 rfl ?_
              refine r_iald (N := 16) (j := x1.toNatClampNeg) L_14_106 (by decide +kernel) rfl g11 rfl ?_
              refine r_goto L_14_107 ?_
              exact r_iret L_14_112 RT_14 h
            · refine r_bipush L_14_110 kB_m6 ?_
              exact r_iret L_14_112 RT_14 h
          · skip
            refine sw_t (tgt := 113) kT_5 (by decide) (i_mono h (fun c13 h => ?_) (fun c13 h => ?_))
            · refine r_aload_n L_14_113 rfl ?_
              refine r_iload_n L_14_114 rfl ?_
              obtain ⟨g14, h⟩ := h
              refine r_cv L_14_115 rfl (V_10 g14 ?_)
              refine r_ifeqP L_14_118 (i_mono h (fun c15 h => ?_) (fun c15 h => ?_))
              · refine r_aload_n L_14_121 rfl ?_
                refine r_getr (c' := 21) (d' := b) L_14_122 rfl rfl ?_
                refine r_iload_n L_14_125 rfl ?_
                refine r_iald (N := 16) (j := x1.toNatClampNeg) L_14_126 (by decide +kernel) rfl g14 rfl ?_
                refine r_goto L_14_127 ?_
                exact r_iret L_14_132 RT_14 h
              · refine r_bipush L_14_130 kB_m6 ?_
                exact r_iret L_14_132 RT_14 h
            · skip
              refine sw_t (tgt := 133) kT_6 (by decide) (i_mono h (fun c16 h => ?_) (fun c16 h => ?_))
              · refine r_aload_n L_14_133 rfl ?_
                refine r_iload_n L_14_134 rfl ?_
                obtain ⟨g17, h⟩ := h
                refine r_cv L_14_135 rfl (V_11 g17 ?_)
                refine r_ifeqP L_14_138 (i_mono h (fun c18 h => ?_) (fun c18 h => ?_))
                · refine r_aload_n L_14_141 rfl ?_
                  refine r_getr (c' := 22) (d' := b) L_14_142 rfl rfl ?_
                  refine r_iload_n L_14_145 rfl ?_
                  refine r_iald (N := 16) (j := x1.toNatClampNeg) L_14_146 (by decide +kernel) rfl g17 rfl ?_
                  refine r_goto L_14_147 ?_
                  exact r_iret L_14_152 RT_14 h
                · refine r_bipush L_14_150 kB_m6 ?_
                  exact r_iret L_14_152 RT_14 h
              · skip
                refine sw_t (tgt := 153) kT_7 (by decide) (i_mono h (fun c19 h => ?_) (fun c19 h => ?_))
                · refine r_aload_n L_14_153 rfl ?_
                  refine r_getr (c' := 23) (d' := b) L_14_154 rfl rfl ?_
                  refine r_iload_n L_14_157 rfl ?_
                  obtain ⟨g20, h⟩ := h
                  refine r_iald (N := 16) (j := x1.toNatClampNeg) L_14_158 (by decide +kernel) rfl g20 rfl ?_
                  exact r_iret L_14_159 RT_14 h
                · skip
                  refine sw_t (tgt := 160) kT_8 (by decide) (i_mono h (fun c21 h => ?_) (fun c21 h => ?_))
                  · refine r_aload_n L_14_160 rfl ?_
                    refine r_getr (c' := 24) (d' := b) L_14_161 rfl rfl ?_
                    refine r_iload_n L_14_164 rfl ?_
                    obtain ⟨g22, h⟩ := h
                    refine r_iald (N := 16) (j := x1.toNatClampNeg) L_14_165 (by decide +kernel) rfl g22 rfl ?_
                    exact r_iret L_14_166 RT_14 h
                  · skip
                    refine sw_d (tgt := 167) (by decide) ?_
                    refine r_aload_n L_14_167 rfl ?_
                    refine r_getr (c' := 25) (d' := b) L_14_168 rfl rfl ?_
                    refine r_iload_n L_14_171 rfl ?_
                    obtain ⟨g23, h⟩ := h
                    refine r_iald (N := 16) (j := x1.toNatClampNeg) L_14_172 (by decide +kernel) rfl g23 rfl ?_
                    exact r_iret L_14_173 RT_14 h
def H_15_4 (b : Nat) (x1 x2 : Int32) (m : aM) (Q : Int32 → aM → Prop) : Prop := Rg 15 4 [some (.inr (3, b)), some (.inl x1), some (.inl x2)] [] m (qI Q)
/-- Devices.countLeases, the loop at 4 -/
theorem T_15_4 {b : Nat} {x1 x2 : Int32} {m : aM} {Q : Int32 → aM → Prop} (h :
   if x2 < (m 3 b 10) then
    (a_in x2 16 = true ∧
     if ¬ m 19 b x2.toNatClampNeg = (-1) then
      H_15_4 b (x1 + 1) (x2 + 1) m Q
     else
      H_15_4 b x1 (x2 + 1) m Q)
   else
    Q x1 m
  ) : H_15_4 b x1 x2 m Q := by
  show Rg 15 4 [some (.inr (3, b)), some (.inl x1), some (.inl x2)] [] m (qI Q)
  refine r_iload_n L_15_4 rfl ?_
  refine r_aload_n L_15_5 rfl ?_
  refine r_geti L_15_6 rfl rfl ?_
  refine r_icmpn L_15_9 cc_ge (i_mono h (fun c1 h => ?_) (fun c1 h => ?_))
  · refine r_aload_n L_15_12 rfl ?_
    refine r_iload_n L_15_13 rfl ?_
    obtain ⟨g2, h⟩ := h
    refine r_cv L_15_14 rfl (V_10 g2 ?_)
    refine r_ifeqP L_15_17 (i_mono h (fun c3 h => ?_) (fun c3 h => ?_))
    · refine r_iinc (ls1 := [some (.inr (3, b)), some (.inl (x1 + 1)), some (.inl x2)]) L_15_20 kI_1 rfl (Nat.le_of_ble_eq_true rfl) rfl ?_
      refine r_iinc (ls1 := [some (.inr (3, b)), some (.inl (x1 + 1)), some (.inl (x2 + 1))]) L_15_23 kI_1 rfl (Nat.le_of_ble_eq_true rfl) rfl ?_
      refine r_goto L_15_26 ?_
      exact h
    · refine r_iinc (ls1 := [some (.inr (3, b)), some (.inl x1), some (.inl (x2 + 1))]) L_15_23 kI_1 rfl (Nat.le_of_ble_eq_true rfl) rfl ?_
      refine r_goto L_15_26 ?_
      exact h
  · refine r_iload_n L_15_29 rfl ?_
    exact r_iret L_15_30 RT_15 h
/-- Devices.countLeases -/
theorem T_15 {b : Nat} {m : aM} {Q : Int32 → aM → Prop} (h :
   H_15_4 b 0 0 m Q
  ) : Mi 15 [.inr (3, b)] m Q := by
  refine Mi_in ML_15 (show Rg 15 0 [some (.inr (3, b)), none, none] [] m (qI Q) from ?_)
  refine r_iconst L_15_0 kI_0 ?_
  refine r_istore_n (ls1 := [some (.inr (3, b)), some (.inl 0), none]) L_15_1 (Nat.le_of_ble_eq_true rfl) rfl ?_
  refine r_iconst L_15_2 kI_0 ?_
  refine r_istore_n (ls1 := [some (.inr (3, b)), some (.inl 0), some (.inl 0)]) L_15_3 (Nat.le_of_ble_eq_true rfl) rfl ?_
  exact h
def H_16_4 (b : Nat) (x1 x2 x3 : Int32) (m : aM) (Q : Int32 → aM → Prop) : Prop := Rg 16 4 [some (.inr (3, b)), some (.inl x1), some (.inl x2), some (.inl x3)] [] m (qI Q)
/-- Devices.countOn, the loop at 4 -/
theorem T_16_4 {b : Nat} {x1 x2 x3 : Int32} {m : aM} {Q : Int32 → aM → Prop} (h :
   if x3 < (m 3 b 10) then
    (a_in x3 16 = true ∧
     if (m 19 b x3.toNatClampNeg) = x1 then
      H_16_4 b x1 (x2 + 1) (x3 + 1) m Q
     else
      H_16_4 b x1 x2 (x3 + 1) m Q)
   else
    Q x2 m
  ) : H_16_4 b x1 x2 x3 m Q := by
  show Rg 16 4 [some (.inr (3, b)), some (.inl x1), some (.inl x2), some (.inl x3)] [] m (qI Q)
  refine r_iload_n L_16_4 rfl ?_
  refine r_aload_n L_16_5 rfl ?_
  refine r_geti L_16_6 rfl rfl ?_
  refine r_icmpn L_16_9 cc_ge (i_mono h (fun c1 h => ?_) (fun c1 h => ?_))
  · refine r_aload_n L_16_12 rfl ?_
    refine r_getr (c' := 19) (d' := b) L_16_13 rfl rfl ?_
    refine r_iload_n L_16_16 rfl ?_
    obtain ⟨g2, h⟩ := h
    refine r_iald (N := 16) (j := x3.toNatClampNeg) L_16_17 (by decide +kernel) rfl g2 rfl ?_
    refine r_iload_n L_16_18 rfl ?_
    refine r_icmpn L_16_19 rfl (i_mono h (fun c3 h => ?_) (fun c3 h => ?_))
    · refine r_iinc (ls1 := [some (.inr (3, b)), some (.inl x1), some (.inl (x2 + 1)), some (.inl x3)]) L_16_22 kI_1 rfl (Nat.le_of_ble_eq_true rfl) rfl ?_
      refine r_iinc (ls1 := [some (.inr (3, b)), some (.inl x1), some (.inl (x2 + 1)), some (.inl (x3 + 1))]) L_16_25 kI_1 rfl (Nat.le_of_ble_eq_true rfl) rfl ?_
      refine r_goto L_16_28 ?_
      exact h
    · refine r_iinc (ls1 := [some (.inr (3, b)), some (.inl x1), some (.inl x2), some (.inl (x3 + 1))]) L_16_25 kI_1 rfl (Nat.le_of_ble_eq_true rfl) rfl ?_
      refine r_goto L_16_28 ?_
      exact h
  · refine r_iload_n L_16_31 rfl ?_
    exact r_iret L_16_32 RT_16 h
/-- Devices.countOn -/
theorem T_16 {b : Nat} {x1 : Int32} {m : aM} {Q : Int32 → aM → Prop} (h :
   H_16_4 b x1 0 0 m Q
  ) : Mi 16 [.inr (3, b), .inl x1] m Q := by
  refine Mi_in ML_16 (show Rg 16 0 [some (.inr (3, b)), some (.inl x1), none, none] [] m (qI Q) from ?_)
  refine r_iconst L_16_0 kI_0 ?_
  refine r_istore_n (ls1 := [some (.inr (3, b)), some (.inl x1), some (.inl 0), none]) L_16_1 (Nat.le_of_ble_eq_true rfl) rfl ?_
  refine r_iconst L_16_2 kI_0 ?_
  refine r_istore_n (ls1 := [some (.inr (3, b)), some (.inl x1), some (.inl 0), some (.inl 0)]) L_16_3 (Nat.le_of_ble_eq_true rfl) rfl ?_
  exact h
def H_17_4 (b : Nat) (x1 x2 : Int32) (m : aM) (Q : Int32 → aM → Prop) : Prop := Rg 17 4 [some (.inr (3, b)), some (.inl x1), some (.inl x2)] [] m (qI Q)
/-- Devices.countNotices, the loop at 4 -/
theorem T_17_4 {b : Nat} {x1 x2 : Int32} {m : aM} {Q : Int32 → aM → Prop} (h :
   if x2 < (m 3 b 10) then
    (a_in x2 16 = true ∧
     if ¬ m 22 b x2.toNatClampNeg = (-1) then
      H_17_4 b (x1 + 1) (x2 + 1) m Q
     else
      H_17_4 b x1 (x2 + 1) m Q)
   else
    Q x1 m
  ) : H_17_4 b x1 x2 m Q := by
  show Rg 17 4 [some (.inr (3, b)), some (.inl x1), some (.inl x2)] [] m (qI Q)
  refine r_iload_n L_17_4 rfl ?_
  refine r_aload_n L_17_5 rfl ?_
  refine r_geti L_17_6 rfl rfl ?_
  refine r_icmpn L_17_9 cc_ge (i_mono h (fun c1 h => ?_) (fun c1 h => ?_))
  · refine r_aload_n L_17_12 rfl ?_
    refine r_iload_n L_17_13 rfl ?_
    obtain ⟨g2, h⟩ := h
    refine r_cv L_17_14 rfl (V_11 g2 ?_)
    refine r_ifeqP L_17_17 (i_mono h (fun c3 h => ?_) (fun c3 h => ?_))
    · refine r_iinc (ls1 := [some (.inr (3, b)), some (.inl (x1 + 1)), some (.inl x2)]) L_17_20 kI_1 rfl (Nat.le_of_ble_eq_true rfl) rfl ?_
      refine r_iinc (ls1 := [some (.inr (3, b)), some (.inl (x1 + 1)), some (.inl (x2 + 1))]) L_17_23 kI_1 rfl (Nat.le_of_ble_eq_true rfl) rfl ?_
      refine r_goto L_17_26 ?_
      exact h
    · refine r_iinc (ls1 := [some (.inr (3, b)), some (.inl x1), some (.inl (x2 + 1))]) L_17_23 kI_1 rfl (Nat.le_of_ble_eq_true rfl) rfl ?_
      refine r_goto L_17_26 ?_
      exact h
  · refine r_iload_n L_17_29 rfl ?_
    exact r_iret L_17_30 RT_17 h
/-- Devices.countNotices -/
theorem T_17 {b : Nat} {m : aM} {Q : Int32 → aM → Prop} (h :
   H_17_4 b 0 0 m Q
  ) : Mi 17 [.inr (3, b)] m Q := by
  refine Mi_in ML_17 (show Rg 17 0 [some (.inr (3, b)), none, none] [] m (qI Q) from ?_)
  refine r_iconst L_17_0 kI_0 ?_
  refine r_istore_n (ls1 := [some (.inr (3, b)), some (.inl 0), none]) L_17_1 (Nat.le_of_ble_eq_true rfl) rfl ?_
  refine r_iconst L_17_2 kI_0 ?_
  refine r_istore_n (ls1 := [some (.inr (3, b)), some (.inl 0), some (.inl 0)]) L_17_3 (Nat.le_of_ble_eq_true rfl) rfl ?_
  exact h
/-- Devices.copyFrom -/
theorem T_22 {b b1 : Nat} {m : aM} {Q : aM → Prop} (h :
   Mv 96 [.inr (16, b1), .inr (16, b)] m (fun m1 =>
    Mv 96 [.inr (17, b1), .inr (17, b)] m1 (fun m2 =>
     Mv 96 [.inr (18, b1), .inr (18, b)] m2 (fun m3 =>
      Mv 96 [.inr (19, b1), .inr (19, b)] m3 (fun m4 =>
       Mv 96 [.inr (20, b1), .inr (20, b)] m4 (fun m5 =>
        Mv 96 [.inr (21, b1), .inr (21, b)] m5 (fun m6 =>
         Mv 96 [.inr (22, b1), .inr (22, b)] m6 (fun m7 =>
          Mv 96 [.inr (23, b1), .inr (23, b)] m7 (fun m8 =>
           Mv 96 [.inr (24, b1), .inr (24, b)] m8 (fun m9 =>
            Mv 96 [.inr (25, b1), .inr (25, b)] m9 (fun m10 =>
             (∀ m11, m11 = a_up m10 3 b 10 (m10 3 b1 10) →
             Q m11)))))))))))
  ) : Mv 22 [.inr (3, b), .inr (3, b1)] m Q := by
  refine Mv_in ML_22 (show Rg 22 0 [some (.inr (3, b)), some (.inr (3, b1))] [] m (qV Q) from ?_)
  refine r_aload_n L_22_0 rfl ?_
  refine r_getr (c' := 16) (d' := b1) L_22_1 rfl rfl ?_
  refine r_aload_n L_22_4 rfl ?_
  refine r_getr (c' := 16) (d' := b) L_22_5 rfl rfl ?_
  refine r_csv L_22_8 (by decide) rfl (Mv_mono h fun m1 h => ?_)
  refine r_aload_n L_22_11 rfl ?_
  refine r_getr (c' := 17) (d' := b1) L_22_12 rfl rfl ?_
  refine r_aload_n L_22_15 rfl ?_
  refine r_getr (c' := 17) (d' := b) L_22_16 rfl rfl ?_
  refine r_csv L_22_19 (by decide) rfl (Mv_mono h fun m2 h => ?_)
  refine r_aload_n L_22_22 rfl ?_
  refine r_getr (c' := 18) (d' := b1) L_22_23 rfl rfl ?_
  refine r_aload_n L_22_26 rfl ?_
  refine r_getr (c' := 18) (d' := b) L_22_27 rfl rfl ?_
  refine r_csv L_22_30 (by decide) rfl (Mv_mono h fun m3 h => ?_)
  refine r_aload_n L_22_33 rfl ?_
  refine r_getr (c' := 19) (d' := b1) L_22_34 rfl rfl ?_
  refine r_aload_n L_22_37 rfl ?_
  refine r_getr (c' := 19) (d' := b) L_22_38 rfl rfl ?_
  refine r_csv L_22_41 (by decide) rfl (Mv_mono h fun m4 h => ?_)
  refine r_aload_n L_22_44 rfl ?_
  refine r_getr (c' := 20) (d' := b1) L_22_45 rfl rfl ?_
  refine r_aload_n L_22_48 rfl ?_
  refine r_getr (c' := 20) (d' := b) L_22_49 rfl rfl ?_
  refine r_csv L_22_52 (by decide) rfl (Mv_mono h fun m5 h => ?_)
  refine r_aload_n L_22_55 rfl ?_
  refine r_getr (c' := 21) (d' := b1) L_22_56 rfl rfl ?_
  refine r_aload_n L_22_59 rfl ?_
  refine r_getr (c' := 21) (d' := b) L_22_60 rfl rfl ?_
  refine r_csv L_22_63 (by decide) rfl (Mv_mono h fun m6 h => ?_)
  refine r_aload_n L_22_66 rfl ?_
  refine r_getr (c' := 22) (d' := b1) L_22_67 rfl rfl ?_
  refine r_aload_n L_22_70 rfl ?_
  refine r_getr (c' := 22) (d' := b) L_22_71 rfl rfl ?_
  refine r_csv L_22_74 (by decide) rfl (Mv_mono h fun m7 h => ?_)
  refine r_aload_n L_22_77 rfl ?_
  refine r_getr (c' := 23) (d' := b1) L_22_78 rfl rfl ?_
  refine r_aload_n L_22_81 rfl ?_
  refine r_getr (c' := 23) (d' := b) L_22_82 rfl rfl ?_
  refine r_csv L_22_85 (by decide) rfl (Mv_mono h fun m8 h => ?_)
  refine r_aload_n L_22_88 rfl ?_
  refine r_getr (c' := 24) (d' := b1) L_22_89 rfl rfl ?_
  refine r_aload_n L_22_92 rfl ?_
  refine r_getr (c' := 24) (d' := b) L_22_93 rfl rfl ?_
  refine r_csv L_22_96 (by decide) rfl (Mv_mono h fun m9 h => ?_)
  refine r_aload_n L_22_99 rfl ?_
  refine r_getr (c' := 25) (d' := b1) L_22_100 rfl rfl ?_
  refine r_aload_n L_22_103 rfl ?_
  refine r_getr (c' := 25) (d' := b) L_22_104 rfl rfl ?_
  refine r_csv L_22_107 (by decide) rfl (Mv_mono h fun m10 h => ?_)
  refine r_aload_n L_22_110 rfl ?_
  refine r_aload_n L_22_111 rfl ?_
  refine r_geti L_22_112 rfl rfl ?_
  refine r_put L_22_115 ⟨rfl, rfl⟩ (fun z => absurd z (by decide)) ?_
  refine r_nm fun m11 em11 => ?_
  have h := h m11 em11
  exact r_vret L_22_118 RT_22 h
/-- Events.tell -/
theorem T_25 {b : Nat} {x1 x2 x3 : Int32} {m : aM} {Q : Int32 → aM → Prop} (h :
   if x2 = 0 then
    (a_in x1 8 = true ∧
     Q (m 9 b x1.toNatClampNeg) m)
   else
   if x2 = 1 then
    (a_in x1 8 = true ∧
     Q (m 10 b x1.toNatClampNeg) m)
   else
   if x2 = 2 then
    (a_in x1 8 = true ∧
     Q (m 11 b x1.toNatClampNeg) m)
   else
   if x2 = 3 then
    (a_in x1 8 = true ∧
     Q (m 12 b x1.toNatClampNeg) m)
   else
   if x2 = 4 then
    (a_in x1 8 = true ∧
     Q (m 13 b x1.toNatClampNeg) m)
   else
   if x2 = 5 then
    (a_in x1 8 = true ∧
     Q (m 14 b x1.toNatClampNeg) m)
   else
   if x2 = 6 then
    (a_in x1 8 = true ∧
     Q (m 15 b x1.toNatClampNeg) m)
   else
    a_in x1 8 = true ∧
     if m 15 b x1.toNatClampNeg = 0 ∧ ¬ x3 < m 13 b x1.toNatClampNeg ∧ x3 < m 14 b x1.toNatClampNeg then
      Q 1 m
     else
      Q 0 m
  ) : Mi 25 [.inr (2, b), .inl x1, .inl x2, .inl x3] m Q := by
  refine Mi_in ML_25 (show Rg 25 0 [some (.inr (2, b)), some (.inl x1), some (.inl x2), some (.inl x3)] [] m (qI Q) from ?_)
  refine r_iload_n L_25_0 rfl ?_
  refine r_tsw2 L_25_1 (by decide) (by decide) ?_
  refine sw_t (tgt := 44) kT_0 (by decide) (i_mono h (fun c1 h => ?_) (fun c1 h => ?_))
  · refine r_aload_n L_25_44 rfl ?_
    refine r_getr (c' := 9) (d' := b) L_25_45 rfl rfl ?_
    refine r_iload_n L_25_48 rfl ?_
    obtain ⟨g2, h⟩ := h
    refine r_iald (N := 8) (j := x1.toNatClampNeg) L_25_49 (by decide +kernel) rfl g2 rfl ?_
    exact r_iret L_25_50 RT_25 h
  · skip
    refine sw_t (tgt := 51) kT_1 (by decide) (i_mono h (fun c3 h => ?_) (fun c3 h => ?_))
    · refine r_aload_n L_25_51 rfl ?_
      refine r_getr (c' := 10) (d' := b) L_25_52 rfl rfl ?_
      refine r_iload_n L_25_55 rfl ?_
      obtain ⟨g4, h⟩ := h
      refine r_iald (N := 8) (j := x1.toNatClampNeg) L_25_56 (by decide +kernel) rfl g4 rfl ?_
      exact r_iret L_25_57 RT_25 h
    · skip
      refine sw_t (tgt := 58) kT_2 (by decide) (i_mono h (fun c5 h => ?_) (fun c5 h => ?_))
      · refine r_aload_n L_25_58 rfl ?_
        refine r_getr (c' := 11) (d' := b) L_25_59 rfl rfl ?_
        refine r_iload_n L_25_62 rfl ?_
        obtain ⟨g6, h⟩ := h
        refine r_iald (N := 8) (j := x1.toNatClampNeg) L_25_63 (by decide +kernel) rfl g6 rfl ?_
        exact r_iret L_25_64 RT_25 h
      · skip
        refine sw_t (tgt := 65) kT_3 (by decide) (i_mono h (fun c7 h => ?_) (fun c7 h => ?_))
        · refine r_aload_n L_25_65 rfl ?_
          refine r_getr (c' := 12) (d' := b) L_25_66 rfl rfl ?_
          refine r_iload_n L_25_69 rfl ?_
          obtain ⟨g8, h⟩ := h
          refine r_iald (N := 8) (j := x1.toNatClampNeg) L_25_70 (by decide +kernel) rfl g8 rfl ?_
          exact r_iret L_25_71 RT_25 h
        · skip
          refine sw_t (tgt := 72) kT_4 (by decide) (i_mono h (fun c9 h => ?_) (fun c9 h => ?_))
          · refine r_aload_n L_25_72 rfl ?_
            refine r_getr (c' := 13) (d' := b) L_25_73 rfl rfl ?_
            refine r_iload_n L_25_76 rfl ?_
            obtain ⟨g10, h⟩ := h
            refine r_iald (N := 8) (j := x1.toNatClampNeg) L_25_77 (by decide +kernel) rfl g10 rfl ?_
            exact r_iret L_25_78 RT_25 h
          · skip
            refine sw_t (tgt := 79) kT_5 (by decide) (i_mono h (fun c11 h => ?_) (fun c11 h => ?_))
            · refine r_aload_n L_25_79 rfl ?_
              refine r_getr (c' := 14) (d' := b) L_25_80 rfl rfl ?_
              refine r_iload_n L_25_83 rfl ?_
              obtain ⟨g12, h⟩ := h
              refine r_iald (N := 8) (j := x1.toNatClampNeg) L_25_84 (by decide +kernel) rfl g12 rfl ?_
              exact r_iret L_25_85 RT_25 h
            · skip
              refine sw_t (tgt := 86) kT_6 (by decide) (i_mono h (fun c13 h => ?_) (fun c13 h => ?_))
              · refine r_aload_n L_25_86 rfl ?_
                refine r_getr (c' := 15) (d' := b) L_25_87 rfl rfl ?_
                refine r_iload_n L_25_90 rfl ?_
                obtain ⟨g14, h⟩ := h
                refine r_iald (N := 8) (j := x1.toNatClampNeg) L_25_91 (by decide +kernel) rfl g14 rfl ?_
                exact r_iret L_25_92 RT_25 h
              · skip
                refine sw_d (tgt := 93) (by decide) ?_
                refine r_aload_n L_25_93 rfl ?_
                refine r_iload_n L_25_94 rfl ?_
                refine r_iload_n L_25_95 rfl ?_
                obtain ⟨g15, h⟩ := h
                refine r_cv L_25_96 rfl (V_24 g15 ?_)
                refine r_ifeqP L_25_99 (i_mono h (fun c16 h => ?_) (fun c16 h => ?_))
                · refine r_iconst L_25_102 kI_1 ?_
                  refine r_goto L_25_103 ?_
                  exact r_iret L_25_107 RT_25 h
                · refine r_iconst L_25_106 kI_0 ?_
                  exact r_iret L_25_107 RT_25 h
/-- Events.copyFrom -/
theorem T_26 {b b1 : Nat} {m : aM} {Q : aM → Prop} (h :
   Mv 96 [.inr (9, b1), .inr (9, b)] m (fun m1 =>
    Mv 96 [.inr (10, b1), .inr (10, b)] m1 (fun m2 =>
     Mv 96 [.inr (11, b1), .inr (11, b)] m2 (fun m3 =>
      Mv 96 [.inr (12, b1), .inr (12, b)] m3 (fun m4 =>
       Mv 96 [.inr (13, b1), .inr (13, b)] m4 (fun m5 =>
        Mv 96 [.inr (14, b1), .inr (14, b)] m5 (fun m6 =>
         Mv 96 [.inr (15, b1), .inr (15, b)] m6 (fun m7 =>
          (∀ m8, m8 = a_up m7 2 b 7 (m7 2 b1 7) →
          Q m8))))))))
  ) : Mv 26 [.inr (2, b), .inr (2, b1)] m Q := by
  refine Mv_in ML_26 (show Rg 26 0 [some (.inr (2, b)), some (.inr (2, b1))] [] m (qV Q) from ?_)
  refine r_aload_n L_26_0 rfl ?_
  refine r_getr (c' := 9) (d' := b1) L_26_1 rfl rfl ?_
  refine r_aload_n L_26_4 rfl ?_
  refine r_getr (c' := 9) (d' := b) L_26_5 rfl rfl ?_
  refine r_csv L_26_8 (by decide) rfl (Mv_mono h fun m1 h => ?_)
  refine r_aload_n L_26_11 rfl ?_
  refine r_getr (c' := 10) (d' := b1) L_26_12 rfl rfl ?_
  refine r_aload_n L_26_15 rfl ?_
  refine r_getr (c' := 10) (d' := b) L_26_16 rfl rfl ?_
  refine r_csv L_26_19 (by decide) rfl (Mv_mono h fun m2 h => ?_)
  refine r_aload_n L_26_22 rfl ?_
  refine r_getr (c' := 11) (d' := b1) L_26_23 rfl rfl ?_
  refine r_aload_n L_26_26 rfl ?_
  refine r_getr (c' := 11) (d' := b) L_26_27 rfl rfl ?_
  refine r_csv L_26_30 (by decide) rfl (Mv_mono h fun m3 h => ?_)
  refine r_aload_n L_26_33 rfl ?_
  refine r_getr (c' := 12) (d' := b1) L_26_34 rfl rfl ?_
  refine r_aload_n L_26_37 rfl ?_
  refine r_getr (c' := 12) (d' := b) L_26_38 rfl rfl ?_
  refine r_csv L_26_41 (by decide) rfl (Mv_mono h fun m4 h => ?_)
  refine r_aload_n L_26_44 rfl ?_
  refine r_getr (c' := 13) (d' := b1) L_26_45 rfl rfl ?_
  refine r_aload_n L_26_48 rfl ?_
  refine r_getr (c' := 13) (d' := b) L_26_49 rfl rfl ?_
  refine r_csv L_26_52 (by decide) rfl (Mv_mono h fun m5 h => ?_)
  refine r_aload_n L_26_55 rfl ?_
  refine r_getr (c' := 14) (d' := b1) L_26_56 rfl rfl ?_
  refine r_aload_n L_26_59 rfl ?_
  refine r_getr (c' := 14) (d' := b) L_26_60 rfl rfl ?_
  refine r_csv L_26_63 (by decide) rfl (Mv_mono h fun m6 h => ?_)
  refine r_aload_n L_26_66 rfl ?_
  refine r_getr (c' := 15) (d' := b1) L_26_67 rfl rfl ?_
  refine r_aload_n L_26_70 rfl ?_
  refine r_getr (c' := 15) (d' := b) L_26_71 rfl rfl ?_
  refine r_csv L_26_74 (by decide) rfl (Mv_mono h fun m7 h => ?_)
  refine r_aload_n L_26_77 rfl ?_
  refine r_aload_n L_26_78 rfl ?_
  refine r_geti L_26_79 rfl rfl ?_
  refine r_put L_26_82 ⟨rfl, rfl⟩ (fun z => absurd z (by decide)) ?_
  refine r_nm fun m8 em8 => ?_
  have h := h m8 em8
  exact r_vret L_26_85 RT_26 h
/-- History.note -/
theorem T_27 {b1 : Nat} {m : aM} {Q : aM → Prop} (h :
   a_in (iR ((m 28 0 1) + (m 28 0 2)) 6) 6 = true ∧
    Mv 30 [.inr (0, (a_el 29 (iR ((m 28 0 1) + (m 28 0 2)) 6).toNatClampNeg)), .inr (0, b1)] m (fun m2 =>
     Q m2)
  ) : Mv 27 [.inr (28, 0), .inr (0, b1)] m Q := by
  refine Mv_in ML_27 (show Rg 27 0 [some (.inr (28, 0)), some (.inr (0, b1))] [] m (qV Q) from ?_)
  refine r_aload_n L_27_0 rfl ?_
  refine r_getr (c' := 29) (d' := 0) L_27_1 rfl rfl ?_
  refine r_aload_n L_27_4 rfl ?_
  refine r_geti L_27_5 rfl rfl ?_
  refine r_aload_n L_27_8 rfl ?_
  refine r_geti L_27_9 rfl rfl ?_
  refine r_iadd L_27_12 ?_
  refine r_bipush L_27_13 kB_6 ?_
  refine r_irem L_27_15 (by decide +kernel) ?_
  obtain ⟨g1, h⟩ := h
  refine r_aald (N := 6) (j := (iR ((m 28 0 1) + (m 28 0 2)) 6).toNatClampNeg) L_27_16 (by decide +kernel) rfl g1 rfl ?_
  refine r_aload_n L_27_17 rfl ?_
  refine r_cvv L_27_18 rfl (Mv_mono h fun m2 h => ?_)
  exact r_vret L_27_21 RT_27 h
/-- History.keepNoted -/
theorem T_28 {m : aM} {Q : aM → Prop} (h :
   if (m 28 0 2) < 5 then
    ((∀ m2, m2 = a_up m 28 0 2 ((m 28 0 2) + 1) →
    Q m2))
   else
    (∀ m3, m3 = a_up m 28 0 1 (iR ((m 28 0 1) + 1) 6) →
    Q m3)
  ) : Mv 28 [.inr (28, 0)] m Q := by
  refine Mv_in ML_28 (show Rg 28 0 [some (.inr (28, 0))] [] m (qV Q) from ?_)
  refine r_aload_n L_28_0 rfl ?_
  refine r_geti L_28_1 rfl rfl ?_
  refine r_iconst L_28_4 kI_5 ?_
  refine r_icmpn L_28_5 cc_ge (i_mono h (fun c1 h => ?_) (fun c1 h => ?_))
  · refine r_aload_n L_28_8 rfl ?_
    refine r_dup L_28_9 ?_
    refine r_geti L_28_10 rfl rfl ?_
    refine r_iconst L_28_13 kI_1 ?_
    refine r_iadd L_28_14 ?_
    refine r_put L_28_15 ⟨rfl, rfl⟩ (fun z => absurd z (by decide)) ?_
    refine r_nm fun m2 em2 => ?_
    have h := h m2 em2
    refine r_goto L_28_18 ?_
    exact r_vret L_28_34 RT_28 h
  · refine r_aload_n L_28_21 rfl ?_
    refine r_aload_n L_28_22 rfl ?_
    refine r_geti L_28_23 rfl rfl ?_
    refine r_iconst L_28_26 kI_1 ?_
    refine r_iadd L_28_27 ?_
    refine r_bipush L_28_28 kB_6 ?_
    refine r_irem L_28_30 (by decide +kernel) ?_
    refine r_put L_28_31 ⟨rfl, rfl⟩ (fun z => absurd z (by decide)) ?_
    refine r_nm fun m3 em3 => ?_
    have h := h m3 em3
    exact r_vret L_28_34 RT_28 h
/-- State.copyFrom -/
theorem T_30 {b b1 : Nat} {m : aM} {Q : aM → Prop} (h :
   Mv 59 [.inr (1, b), .inr (1, b1)] m (fun m1 =>
    Mv 26 [.inr (2, b), .inr (2, b1)] m1 (fun m2 =>
     Mv 22 [.inr (3, b), .inr (3, b1)] m2 (fun m3 =>
      Mv 96 [.inr (26, b1), .inr (26, b)] m3 (fun m4 =>
       (∀ m5, m5 = a_up m4 0 b 4 (m4 0 b1 4) →
       (∀ m6, m6 = a_up m5 0 b 5 (m5 0 b1 5) →
       Q m6))))))
  ) : Mv 30 [.inr (0, b), .inr (0, b1)] m Q := by
  refine Mv_in ML_30 (show Rg 30 0 [some (.inr (0, b)), some (.inr (0, b1))] [] m (qV Q) from ?_)
  refine r_aload_n L_30_0 rfl ?_
  refine r_getr (c' := 1) (d' := b) L_30_1 rfl rfl ?_
  refine r_aload_n L_30_4 rfl ?_
  refine r_getr (c' := 1) (d' := b1) L_30_5 rfl rfl ?_
  refine r_cvv L_30_8 rfl (Mv_mono h fun m1 h => ?_)
  refine r_aload_n L_30_11 rfl ?_
  refine r_getr (c' := 2) (d' := b) L_30_12 rfl rfl ?_
  refine r_aload_n L_30_15 rfl ?_
  refine r_getr (c' := 2) (d' := b1) L_30_16 rfl rfl ?_
  refine r_cvv L_30_19 rfl (Mv_mono h fun m2 h => ?_)
  refine r_aload_n L_30_22 rfl ?_
  refine r_getr (c' := 3) (d' := b) L_30_23 rfl rfl ?_
  refine r_aload_n L_30_26 rfl ?_
  refine r_getr (c' := 3) (d' := b1) L_30_27 rfl rfl ?_
  refine r_cvv L_30_30 rfl (Mv_mono h fun m3 h => ?_)
  refine r_aload_n L_30_33 rfl ?_
  refine r_getr (c' := 26) (d' := b1) L_30_34 rfl rfl ?_
  refine r_aload_n L_30_37 rfl ?_
  refine r_getr (c' := 26) (d' := b) L_30_38 rfl rfl ?_
  refine r_csv L_30_41 (by decide) rfl (Mv_mono h fun m4 h => ?_)
  refine r_aload_n L_30_44 rfl ?_
  refine r_aload_n L_30_45 rfl ?_
  refine r_geti L_30_46 rfl rfl ?_
  refine r_put L_30_49 ⟨rfl, rfl⟩ (fun z => absurd z (by decide)) ?_
  refine r_nm fun m5 em5 => ?_
  have h := h m5 em5
  refine r_aload_n L_30_52 rfl ?_
  refine r_aload_n L_30_53 rfl ?_
  refine r_geti L_30_54 rfl rfl ?_
  refine r_put L_30_57 ⟨rfl, rfl⟩ (fun z => absurd z (by decide)) ?_
  refine r_nm fun m6 em6 => ?_
  have h := h m6 em6
  exact r_vret L_30_60 RT_30 h
/-- State.putStation -/
theorem T_31 {b : Nat} {x1 x2 x3 x4 : Int32} {m : aM} {Q : Int32 → aM → Prop} (h :
   if (x1 < 0 ∨ 99 < x1) ∨ (x2 < 0 ∨ 99 < x2) then
    Q (-2) m
   else
    if x3 < 0 ∨ 7 < x3 then
     Q (-2) m
    else
     if x4 < 0 ∨ 4 < x4 then
      Q (-2) m
     else
      if (m 1 b 5) < 8 then
       ((a_in (m 1 b 5) 8 = true ∧
        (∀ m6, m6 = a_up m 4 b (m 1 b 5).toNatClampNeg x1 →
        (∀ m7, m7 = a_up m6 5 b (m 1 b 5).toNatClampNeg x2 →
        (∀ m8, m8 = a_up m7 6 b (m 1 b 5).toNatClampNeg x3 →
        (∀ m9, m9 = a_up m8 7 b (m 1 b 5).toNatClampNeg x4 →
        (∀ m10, m10 = a_up m9 8 b (m 1 b 5).toNatClampNeg 0 →
        (∀ m11, m11 = a_up m10 1 b 5 ((m10 1 b 5) + 1) →
        Q (m 1 b 5) m11))))))))
      else
       Q (-4) m
  ) : Mi 31 [.inr (0, b), .inl x1, .inl x2, .inl x3, .inl x4] m Q := by
  refine Mi_in ML_31 (show Rg 31 0 [some (.inr (0, b)), some (.inl x1), some (.inl x2), some (.inl x3), some (.inl x4), none] [] m (qI Q) from ?_)
  refine r_iload_n L_31_0 rfl ?_
  refine r_iload_n L_31_1 rfl ?_
  refine r_cs L_31_2 (by decide) rfl (V_94 ?_)
  refine r_ifneP L_31_5 (i_mono h (fun c1 h => ?_) (fun c1 h => ?_))
  · refine r_bipush L_31_28 kB_m2 ?_
    exact r_iret L_31_30 RT_31 h
  · refine r_iload_n L_31_8 rfl ?_
    refine r_iconst L_31_9 kI_0 ?_
    refine r_bipush L_31_10 kB_7 ?_
    refine r_cs L_31_12 (by decide) rfl (V_93 ?_)
    refine r_ifneP L_31_15 (i_mono h (fun c2 h => ?_) (fun c2 h => ?_))
    · refine r_bipush L_31_28 kB_m2 ?_
      exact r_iret L_31_30 RT_31 h
    · refine r_iload L_31_18 rfl ?_
      refine r_iconst L_31_20 kI_0 ?_
      refine r_iconst L_31_21 kI_4 ?_
      refine r_cs L_31_22 (by decide) rfl (V_93 ?_)
      refine r_ifeqP L_31_25 (i_mono h (fun c3 h => ?_) (fun c3 h => ?_))
      · refine r_bipush L_31_28 kB_m2 ?_
        exact r_iret L_31_30 RT_31 h
      · refine r_aload_n L_31_31 rfl ?_
        refine r_getr (c' := 1) (d' := b) L_31_32 rfl rfl ?_
        refine r_geti L_31_35 rfl rfl ?_
        refine r_bipush L_31_38 kB_8 ?_
        refine r_icmp L_31_40 rfl (i_mono h (fun c4 h => ?_) (fun c4 h => ?_))
        · refine r_aload_n L_31_46 rfl ?_
          refine r_getr (c' := 1) (d' := b) L_31_47 rfl rfl ?_
          refine r_geti L_31_50 rfl rfl ?_
          refine r_istore (ls1 := [some (.inr (0, b)), some (.inl x1), some (.inl x2), some (.inl x3), some (.inl x4), some (.inl (m 1 b 5))]) L_31_53 (Nat.le_of_ble_eq_true rfl) rfl ?_
          refine r_aload_n L_31_55 rfl ?_
          refine r_getr (c' := 1) (d' := b) L_31_56 rfl rfl ?_
          refine r_getr (c' := 4) (d' := b) L_31_59 rfl rfl ?_
          refine r_iload L_31_62 rfl ?_
          refine r_iload_n L_31_64 rfl ?_
          obtain ⟨g5, h⟩ := h
          refine r_iast (N := 8) (j := (m 1 b 5).toNatClampNeg) L_31_65 (by decide +kernel) rfl g5 rfl ?_
          refine r_nm fun m6 em6 => ?_
          have h := h m6 em6
          refine r_aload_n L_31_66 rfl ?_
          refine r_getr (c' := 1) (d' := b) L_31_67 rfl rfl ?_
          refine r_getr (c' := 5) (d' := b) L_31_70 rfl rfl ?_
          refine r_iload L_31_73 rfl ?_
          refine r_iload_n L_31_75 rfl ?_
          refine r_iast (N := 8) (j := (m 1 b 5).toNatClampNeg) L_31_76 (by decide +kernel) rfl g5 rfl ?_
          refine r_nm fun m7 em7 => ?_
          have h := h m7 em7
          refine r_aload_n L_31_77 rfl ?_
          refine r_getr (c' := 1) (d' := b) L_31_78 rfl rfl ?_
          refine r_getr (c' := 6) (d' := b) L_31_81 rfl rfl ?_
          refine r_iload L_31_84 rfl ?_
          refine r_iload_n L_31_86 rfl ?_
          refine r_iast (N := 8) (j := (m 1 b 5).toNatClampNeg) L_31_87 (by decide +kernel) rfl g5 rfl ?_
          refine r_nm fun m8 em8 => ?_
          have h := h m8 em8
          refine r_aload_n L_31_88 rfl ?_
          refine r_getr (c' := 1) (d' := b) L_31_89 rfl rfl ?_
          refine r_getr (c' := 7) (d' := b) L_31_92 rfl rfl ?_
          refine r_iload L_31_95 rfl ?_
          refine r_iload L_31_97 rfl ?_
          refine r_iast (N := 8) (j := (m 1 b 5).toNatClampNeg) L_31_99 (by decide +kernel) rfl g5 rfl ?_
          refine r_nm fun m9 em9 => ?_
          have h := h m9 em9
          refine r_aload_n L_31_100 rfl ?_
          refine r_getr (c' := 1) (d' := b) L_31_101 rfl rfl ?_
          refine r_getr (c' := 8) (d' := b) L_31_104 rfl rfl ?_
          refine r_iload L_31_107 rfl ?_
          refine r_iconst L_31_109 kI_0 ?_
          refine r_iast (N := 8) (j := (m 1 b 5).toNatClampNeg) L_31_110 (by decide +kernel) rfl g5 rfl ?_
          refine r_nm fun m10 em10 => ?_
          have h := h m10 em10
          refine r_aload_n L_31_111 rfl ?_
          refine r_getr (c' := 1) (d' := b) L_31_112 rfl rfl ?_
          refine r_dup L_31_115 ?_
          refine r_geti L_31_116 rfl rfl ?_
          refine r_iconst L_31_119 kI_1 ?_
          refine r_iadd L_31_120 ?_
          refine r_put L_31_121 ⟨rfl, rfl⟩ (fun z => absurd z (by decide)) ?_
          refine r_nm fun m11 em11 => ?_
          have h := h m11 em11
          refine r_iload L_31_124 rfl ?_
          exact r_iret L_31_126 RT_31 h
        · refine r_bipush L_31_43 kB_m4 ?_
          exact r_iret L_31_45 RT_31 h
/-- State.putEvent -/
theorem T_32 {b : Nat} {x1 x2 x3 x4 x5 x6 : Int32} {m : aM} {Q : Int32 → aM → Prop} (h :
   if (x1 < 0 ∨ 99 < x1) ∨ (x2 < 0 ∨ 99 < x2) then
    Q (-2) m
   else
    if x3 < 1 ∨ 30 < x3 then
     Q (-2) m
    else
     if x4 < 0 ∨ 7 < x4 then
      Q (-2) m
     else
      if x5 < (m 0 b 4) ∨ 9998 < x5 then
       Q (-2) m
      else
       if x6 < (x5 + 1) ∨ 9999 < x6 then
        Q (-2) m
       else
        if (m 2 b 7) < 8 then
         ((a_in (m 2 b 7) 8 = true ∧
          (∀ m8, m8 = a_up m 9 b (m 2 b 7).toNatClampNeg x1 →
          (∀ m9, m9 = a_up m8 10 b (m 2 b 7).toNatClampNeg x2 →
          (∀ m10, m10 = a_up m9 11 b (m 2 b 7).toNatClampNeg x3 →
          (∀ m11, m11 = a_up m10 12 b (m 2 b 7).toNatClampNeg x4 →
          (∀ m12, m12 = a_up m11 13 b (m 2 b 7).toNatClampNeg x5 →
          (∀ m13, m13 = a_up m12 14 b (m 2 b 7).toNatClampNeg x6 →
          (∀ m14, m14 = a_up m13 15 b (m 2 b 7).toNatClampNeg 0 →
          (∀ m15, m15 = a_up m14 2 b 7 ((m14 2 b 7) + 1) →
          Mv 43 [.inr (0, b)] m15 (fun m16 =>
           Q (m 2 b 7) m16)))))))))))
        else
         Q (-4) m
  ) : Mi 32 [.inr (0, b), .inl x1, .inl x2, .inl x3, .inl x4, .inl x5, .inl x6] m Q := by
  refine Mi_in ML_32 (show Rg 32 0 [some (.inr (0, b)), some (.inl x1), some (.inl x2), some (.inl x3), some (.inl x4), some (.inl x5), some (.inl x6), none] [] m (qI Q) from ?_)
  refine r_iload_n L_32_0 rfl ?_
  refine r_iload_n L_32_1 rfl ?_
  refine r_cs L_32_2 (by decide) rfl (V_94 ?_)
  refine r_ifneP L_32_5 (i_mono h (fun c1 h => ?_) (fun c1 h => ?_))
  · refine r_bipush L_32_59 kB_m2 ?_
    exact r_iret L_32_61 RT_32 h
  · refine r_iload_n L_32_8 rfl ?_
    refine r_iconst L_32_9 kI_1 ?_
    refine r_bipush L_32_10 kB_30 ?_
    refine r_cs L_32_12 (by decide) rfl (V_93 ?_)
    refine r_ifneP L_32_15 (i_mono h (fun c2 h => ?_) (fun c2 h => ?_))
    · refine r_bipush L_32_59 kB_m2 ?_
      exact r_iret L_32_61 RT_32 h
    · refine r_iload L_32_18 rfl ?_
      refine r_iconst L_32_20 kI_0 ?_
      refine r_bipush L_32_21 kB_7 ?_
      refine r_cs L_32_23 (by decide) rfl (V_93 ?_)
      refine r_ifneP L_32_26 (i_mono h (fun c3 h => ?_) (fun c3 h => ?_))
      · refine r_bipush L_32_59 kB_m2 ?_
        exact r_iret L_32_61 RT_32 h
      · refine r_iload L_32_29 rfl ?_
        refine r_aload_n L_32_31 rfl ?_
        refine r_geti L_32_32 rfl rfl ?_
        refine r_sipush L_32_35 kS_9998 ?_
        refine r_cs L_32_38 (by decide) rfl (V_93 ?_)
        refine r_ifneP L_32_41 (i_mono h (fun c4 h => ?_) (fun c4 h => ?_))
        · refine r_bipush L_32_59 kB_m2 ?_
          exact r_iret L_32_61 RT_32 h
        · refine r_iload L_32_44 rfl ?_
          refine r_iload L_32_46 rfl ?_
          refine r_iconst L_32_48 kI_1 ?_
          refine r_iadd L_32_49 ?_
          refine r_sipush L_32_50 kS_9999 ?_
          refine r_cs L_32_53 (by decide) rfl (V_93 ?_)
          refine r_ifeqP L_32_56 (i_mono h (fun c5 h => ?_) (fun c5 h => ?_))
          · refine r_bipush L_32_59 kB_m2 ?_
            exact r_iret L_32_61 RT_32 h
          · refine r_aload_n L_32_62 rfl ?_
            refine r_getr (c' := 2) (d' := b) L_32_63 rfl rfl ?_
            refine r_geti L_32_66 rfl rfl ?_
            refine r_bipush L_32_69 kB_8 ?_
            refine r_icmp L_32_71 rfl (i_mono h (fun c6 h => ?_) (fun c6 h => ?_))
            · refine r_aload_n L_32_77 rfl ?_
              refine r_getr (c' := 2) (d' := b) L_32_78 rfl rfl ?_
              refine r_geti L_32_81 rfl rfl ?_
              refine r_istore (ls1 := [some (.inr (0, b)), some (.inl x1), some (.inl x2), some (.inl x3), some (.inl x4), some (.inl x5), some (.inl x6), some (.inl (m 2 b 7))]) L_32_84 (Nat.le_of_ble_eq_true rfl) rfl ?_
              refine r_aload_n L_32_86 rfl ?_
              refine r_getr (c' := 2) (d' := b) L_32_87 rfl rfl ?_
              refine r_getr (c' := 9) (d' := b) L_32_90 rfl rfl ?_
              refine r_iload L_32_93 rfl ?_
              refine r_iload_n L_32_95 rfl ?_
              obtain ⟨g7, h⟩ := h
              refine r_iast (N := 8) (j := (m 2 b 7).toNatClampNeg) L_32_96 (by decide +kernel) rfl g7 rfl ?_
              refine r_nm fun m8 em8 => ?_
              have h := h m8 em8
              refine r_aload_n L_32_97 rfl ?_
              refine r_getr (c' := 2) (d' := b) L_32_98 rfl rfl ?_
              refine r_getr (c' := 10) (d' := b) L_32_101 rfl rfl ?_
              refine r_iload L_32_104 rfl ?_
              refine r_iload_n L_32_106 rfl ?_
              refine r_iast (N := 8) (j := (m 2 b 7).toNatClampNeg) L_32_107 (by decide +kernel) rfl g7 rfl ?_
              refine r_nm fun m9 em9 => ?_
              have h := h m9 em9
              refine r_aload_n L_32_108 rfl ?_
              refine r_getr (c' := 2) (d' := b) L_32_109 rfl rfl ?_
              refine r_getr (c' := 11) (d' := b) L_32_112 rfl rfl ?_
              refine r_iload L_32_115 rfl ?_
              refine r_iload_n L_32_117 rfl ?_
              refine r_iast (N := 8) (j := (m 2 b 7).toNatClampNeg) L_32_118 (by decide +kernel) rfl g7 rfl ?_
              refine r_nm fun m10 em10 => ?_
              have h := h m10 em10
              refine r_aload_n L_32_119 rfl ?_
              refine r_getr (c' := 2) (d' := b) L_32_120 rfl rfl ?_
              refine r_getr (c' := 12) (d' := b) L_32_123 rfl rfl ?_
              refine r_iload L_32_126 rfl ?_
              refine r_iload L_32_128 rfl ?_
              refine r_iast (N := 8) (j := (m 2 b 7).toNatClampNeg) L_32_130 (by decide +kernel) rfl g7 rfl ?_
              refine r_nm fun m11 em11 => ?_
              have h := h m11 em11
              refine r_aload_n L_32_131 rfl ?_
              refine r_getr (c' := 2) (d' := b) L_32_132 rfl rfl ?_
              refine r_getr (c' := 13) (d' := b) L_32_135 rfl rfl ?_
              refine r_iload L_32_138 rfl ?_
              refine r_iload L_32_140 rfl ?_
              refine r_iast (N := 8) (j := (m 2 b 7).toNatClampNeg) L_32_142 (by decide +kernel) rfl g7 rfl ?_
              refine r_nm fun m12 em12 => ?_
              have h := h m12 em12
              refine r_aload_n L_32_143 rfl ?_
              refine r_getr (c' := 2) (d' := b) L_32_144 rfl rfl ?_
              refine r_getr (c' := 14) (d' := b) L_32_147 rfl rfl ?_
              refine r_iload L_32_150 rfl ?_
              refine r_iload L_32_152 rfl ?_
              refine r_iast (N := 8) (j := (m 2 b 7).toNatClampNeg) L_32_154 (by decide +kernel) rfl g7 rfl ?_
              refine r_nm fun m13 em13 => ?_
              have h := h m13 em13
              refine r_aload_n L_32_155 rfl ?_
              refine r_getr (c' := 2) (d' := b) L_32_156 rfl rfl ?_
              refine r_getr (c' := 15) (d' := b) L_32_159 rfl rfl ?_
              refine r_iload L_32_162 rfl ?_
              refine r_iconst L_32_164 kI_0 ?_
              refine r_iast (N := 8) (j := (m 2 b 7).toNatClampNeg) L_32_165 (by decide +kernel) rfl g7 rfl ?_
              refine r_nm fun m14 em14 => ?_
              have h := h m14 em14
              refine r_aload_n L_32_166 rfl ?_
              refine r_getr (c' := 2) (d' := b) L_32_167 rfl rfl ?_
              refine r_dup L_32_170 ?_
              refine r_geti L_32_171 rfl rfl ?_
              refine r_iconst L_32_174 kI_1 ?_
              refine r_iadd L_32_175 ?_
              refine r_put L_32_176 ⟨rfl, rfl⟩ (fun z => absurd z (by decide)) ?_
              refine r_nm fun m15 em15 => ?_
              have h := h m15 em15
              refine r_aload_n L_32_179 rfl ?_
              refine r_cvv L_32_180 rfl (Mv_mono h fun m16 h => ?_)
              refine r_iload L_32_183 rfl ?_
              exact r_iret L_32_185 RT_32 h
            · refine r_bipush L_32_74 kB_m4 ?_
              exact r_iret L_32_76 RT_32 h
/-- State.putDevice -/
theorem T_33 {b : Nat} {x1 x2 x3 : Int32} {m : aM} {Q : Int32 → aM → Prop} (h :
   if (x1 < 0 ∨ 99 < x1) ∨ (x2 < 0 ∨ 99 < x2) then
    Q (-2) m
   else
    if x3 < 0 ∨ 3 < x3 then
     Q (-2) m
    else
     if (m 3 b 10) < 16 then
      ((a_in (m 3 b 10) 16 = true ∧
       (∀ m5, m5 = a_up m 16 b (m 3 b 10).toNatClampNeg x1 →
       (∀ m6, m6 = a_up m5 17 b (m 3 b 10).toNatClampNeg x2 →
       (∀ m7, m7 = a_up m6 18 b (m 3 b 10).toNatClampNeg x3 →
       (∀ m8, m8 = a_up m7 23 b (m 3 b 10).toNatClampNeg 0 →
       (∀ m9, m9 = a_up m8 24 b (m 3 b 10).toNatClampNeg 0 →
       (∀ m10, m10 = a_up m9 25 b (m 3 b 10).toNatClampNeg 0 →
       (∀ m11, m11 = cRem m10 b (m 3 b 10).toNatClampNeg →
       (∀ m12, m12 = a_up m11 3 b 10 ((m11 3 b 10) + 1) →
       Q (m 3 b 10) m12))))))))))
     else
      Q (-4) m
  ) : Mi 33 [.inr (0, b), .inl x1, .inl x2, .inl x3] m Q := by
  refine Mi_in ML_33 (show Rg 33 0 [some (.inr (0, b)), some (.inl x1), some (.inl x2), some (.inl x3), none] [] m (qI Q) from ?_)
  refine r_iload_n L_33_0 rfl ?_
  refine r_iload_n L_33_1 rfl ?_
  refine r_cs L_33_2 (by decide) rfl (V_94 ?_)
  refine r_ifneP L_33_5 (i_mono h (fun c1 h => ?_) (fun c1 h => ?_))
  · refine r_bipush L_33_17 kB_m2 ?_
    exact r_iret L_33_19 RT_33 h
  · refine r_iload_n L_33_8 rfl ?_
    refine r_iconst L_33_9 kI_0 ?_
    refine r_iconst L_33_10 kI_3 ?_
    refine r_cs L_33_11 (by decide) rfl (V_93 ?_)
    refine r_ifeqP L_33_14 (i_mono h (fun c2 h => ?_) (fun c2 h => ?_))
    · refine r_bipush L_33_17 kB_m2 ?_
      exact r_iret L_33_19 RT_33 h
    · refine r_aload_n L_33_20 rfl ?_
      refine r_getr (c' := 3) (d' := b) L_33_21 rfl rfl ?_
      refine r_geti L_33_24 rfl rfl ?_
      refine r_bipush L_33_27 kB_16 ?_
      refine r_icmp L_33_29 rfl (i_mono h (fun c3 h => ?_) (fun c3 h => ?_))
      · refine r_aload_n L_33_35 rfl ?_
        refine r_getr (c' := 3) (d' := b) L_33_36 rfl rfl ?_
        refine r_geti L_33_39 rfl rfl ?_
        refine r_istore (ls1 := [some (.inr (0, b)), some (.inl x1), some (.inl x2), some (.inl x3), some (.inl (m 3 b 10))]) L_33_42 (Nat.le_of_ble_eq_true rfl) rfl ?_
        refine r_aload_n L_33_44 rfl ?_
        refine r_getr (c' := 3) (d' := b) L_33_45 rfl rfl ?_
        refine r_getr (c' := 16) (d' := b) L_33_48 rfl rfl ?_
        refine r_iload L_33_51 rfl ?_
        refine r_iload_n L_33_53 rfl ?_
        obtain ⟨g4, h⟩ := h
        refine r_iast (N := 16) (j := (m 3 b 10).toNatClampNeg) L_33_54 (by decide +kernel) rfl g4 rfl ?_
        refine r_nm fun m5 em5 => ?_
        have h := h m5 em5
        refine r_aload_n L_33_55 rfl ?_
        refine r_getr (c' := 3) (d' := b) L_33_56 rfl rfl ?_
        refine r_getr (c' := 17) (d' := b) L_33_59 rfl rfl ?_
        refine r_iload L_33_62 rfl ?_
        refine r_iload_n L_33_64 rfl ?_
        refine r_iast (N := 16) (j := (m 3 b 10).toNatClampNeg) L_33_65 (by decide +kernel) rfl g4 rfl ?_
        refine r_nm fun m6 em6 => ?_
        have h := h m6 em6
        refine r_aload_n L_33_66 rfl ?_
        refine r_getr (c' := 3) (d' := b) L_33_67 rfl rfl ?_
        refine r_getr (c' := 18) (d' := b) L_33_70 rfl rfl ?_
        refine r_iload L_33_73 rfl ?_
        refine r_iload_n L_33_75 rfl ?_
        refine r_iast (N := 16) (j := (m 3 b 10).toNatClampNeg) L_33_76 (by decide +kernel) rfl g4 rfl ?_
        refine r_nm fun m7 em7 => ?_
        have h := h m7 em7
        refine r_aload_n L_33_77 rfl ?_
        refine r_getr (c' := 3) (d' := b) L_33_78 rfl rfl ?_
        refine r_getr (c' := 23) (d' := b) L_33_81 rfl rfl ?_
        refine r_iload L_33_84 rfl ?_
        refine r_iconst L_33_86 kI_0 ?_
        refine r_iast (N := 16) (j := (m 3 b 10).toNatClampNeg) L_33_87 (by decide +kernel) rfl g4 rfl ?_
        refine r_nm fun m8 em8 => ?_
        have h := h m8 em8
        refine r_aload_n L_33_88 rfl ?_
        refine r_getr (c' := 3) (d' := b) L_33_89 rfl rfl ?_
        refine r_getr (c' := 24) (d' := b) L_33_92 rfl rfl ?_
        refine r_iload L_33_95 rfl ?_
        refine r_iconst L_33_97 kI_0 ?_
        refine r_iast (N := 16) (j := (m 3 b 10).toNatClampNeg) L_33_98 (by decide +kernel) rfl g4 rfl ?_
        refine r_nm fun m9 em9 => ?_
        have h := h m9 em9
        refine r_aload_n L_33_99 rfl ?_
        refine r_getr (c' := 3) (d' := b) L_33_100 rfl rfl ?_
        refine r_getr (c' := 25) (d' := b) L_33_103 rfl rfl ?_
        refine r_iload L_33_106 rfl ?_
        refine r_iconst L_33_108 kI_0 ?_
        refine r_iast (N := 16) (j := (m 3 b 10).toNatClampNeg) L_33_109 (by decide +kernel) rfl g4 rfl ?_
        refine r_nm fun m10 em10 => ?_
        have h := h m10 em10
        refine r_aload_n L_33_110 rfl ?_
        refine r_getr (c' := 3) (d' := b) L_33_111 rfl rfl ?_
        refine r_iload L_33_114 rfl ?_
        refine r_cvv L_33_116 rfl (V_13 g4 ?_)
        refine r_nm fun m11 em11 => ?_
        have h := h m11 em11
        refine r_aload_n L_33_119 rfl ?_
        refine r_getr (c' := 3) (d' := b) L_33_120 rfl rfl ?_
        refine r_dup L_33_123 ?_
        refine r_geti L_33_124 rfl rfl ?_
        refine r_iconst L_33_127 kI_1 ?_
        refine r_iadd L_33_128 ?_
        refine r_put L_33_129 ⟨rfl, rfl⟩ (fun z => absurd z (by decide)) ?_
        refine r_nm fun m12 em12 => ?_
        have h := h m12 em12
        refine r_iload L_33_132 rfl ?_
        exact r_iret L_33_134 RT_33 h
      · refine r_bipush L_33_32 kB_m4 ?_
        exact r_iret L_33_34 RT_33 h
/-- State.change -/
theorem T_34 {b : Nat} {x1 x2 : Int32} {m : aM} {Q : Int32 → aM → Prop} (h :
   if x1 < 0 ∨ 2 < x1 then
    Q (-1) m
   else
    a_in x1 3 = true ∧
     if x2 < (m 44 0 x1.toNatClampNeg) ∨ (m 45 0 x1.toNatClampNeg) < x2 then
      Q (-2) m
     else
      (∀ m4, m4 = a_up m 26 b x1.toNatClampNeg x2 →
      Mv 43 [.inr (0, b)] m4 (fun m5 =>
       Q (m 26 b x1.toNatClampNeg) m5))
  ) : Mi 34 [.inr (0, b), .inl x1, .inl x2] m Q := by
  refine Mi_in ML_34 (show Rg 34 0 [some (.inr (0, b)), some (.inl x1), some (.inl x2), none] [] m (qI Q) from ?_)
  refine r_iload_n L_34_0 rfl ?_
  refine r_iconst L_34_1 kI_0 ?_
  refine r_iconst L_34_2 kI_2 ?_
  refine r_cs L_34_3 (by decide) rfl (V_93 ?_)
  refine r_ifeqP L_34_6 (i_mono h (fun c1 h => ?_) (fun c1 h => ?_))
  · refine r_iconst L_34_9 kI_m1 ?_
    exact r_iret L_34_10 RT_34 h
  · refine r_iload_n L_34_11 rfl ?_
    refine r_gets L_34_12 ?_
    refine r_iload_n L_34_15 rfl ?_
    obtain ⟨g2, h⟩ := h
    refine r_iald (N := 3) (j := x1.toNatClampNeg) L_34_16 (by decide +kernel) rfl g2 rfl ?_
    refine r_gets L_34_17 ?_
    refine r_iload_n L_34_20 rfl ?_
    refine r_iald (N := 3) (j := x1.toNatClampNeg) L_34_21 (by decide +kernel) rfl g2 rfl ?_
    refine r_cs L_34_22 (by decide) rfl (V_93 ?_)
    refine r_ifeqP L_34_25 (i_mono h (fun c3 h => ?_) (fun c3 h => ?_))
    · refine r_bipush L_34_28 kB_m2 ?_
      exact r_iret L_34_30 RT_34 h
    · refine r_aload_n L_34_31 rfl ?_
      refine r_getr (c' := 26) (d' := b) L_34_32 rfl rfl ?_
      refine r_iload_n L_34_35 rfl ?_
      refine r_iald (N := 3) (j := x1.toNatClampNeg) L_34_36 (by decide +kernel) rfl g2 rfl ?_
      refine r_istore_n (ls1 := [some (.inr (0, b)), some (.inl x1), some (.inl x2), some (.inl (m 26 b x1.toNatClampNeg))]) L_34_37 (Nat.le_of_ble_eq_true rfl) rfl ?_
      refine r_aload_n L_34_38 rfl ?_
      refine r_getr (c' := 26) (d' := b) L_34_39 rfl rfl ?_
      refine r_iload_n L_34_42 rfl ?_
      refine r_iload_n L_34_43 rfl ?_
      refine r_iast (N := 3) (j := x1.toNatClampNeg) L_34_44 (by decide +kernel) rfl g2 rfl ?_
      refine r_nm fun m4 em4 => ?_
      have h := h m4 em4
      refine r_aload_n L_34_45 rfl ?_
      refine r_cvv L_34_46 rfl (Mv_mono h fun m5 h => ?_)
      refine r_iload_n L_34_49 rfl ?_
      exact r_iret L_34_50 RT_34 h
/-- State.turnStation -/
theorem T_35 {b : Nat} {x1 x2 : Int32} {m : aM} {Q : Int32 → aM → Prop} (h :
   if ¬ x1 < 0 ∧ x1 < m 1 b 5 then
    (a_in x1 8 = true ∧
     if (m 8 b x1.toNatClampNeg) = x2 then
      Q (-3) m
     else
      (∀ m4, m4 = a_up m 8 b x1.toNatClampNeg x2 →
      Mv 43 [.inr (0, b)] m4 (fun m5 =>
       Mi 17 [.inr (3, b)] m5 (fun v7 m6 =>
        Q v7 m6))))
   else
    Q (-1) m
  ) : Mi 35 [.inr (0, b), .inl x1, .inl x2] m Q := by
  refine Mi_in ML_35 (show Rg 35 0 [some (.inr (0, b)), some (.inl x1), some (.inl x2)] [] m (qI Q) from ?_)
  refine r_aload_n L_35_0 rfl ?_
  refine r_getr (c' := 1) (d' := b) L_35_1 rfl rfl ?_
  refine r_iload_n L_35_4 rfl ?_
  refine r_cv L_35_5 rfl (V_56 ?_)
  refine r_ifneP L_35_8 (i_mono h (fun c1 h => ?_) (fun c1 h => ?_))
  · refine r_aload_n L_35_13 rfl ?_
    refine r_getr (c' := 1) (d' := b) L_35_14 rfl rfl ?_
    refine r_getr (c' := 8) (d' := b) L_35_17 rfl rfl ?_
    refine r_iload_n L_35_20 rfl ?_
    obtain ⟨g2, h⟩ := h
    refine r_iald (N := 8) (j := x1.toNatClampNeg) L_35_21 (by decide +kernel) rfl g2 rfl ?_
    refine r_iload_n L_35_22 rfl ?_
    refine r_icmpn L_35_23 rfl (i_mono h (fun c3 h => ?_) (fun c3 h => ?_))
    · refine r_bipush L_35_26 kB_m3 ?_
      exact r_iret L_35_28 RT_35 h
    · refine r_aload_n L_35_29 rfl ?_
      refine r_getr (c' := 1) (d' := b) L_35_30 rfl rfl ?_
      refine r_getr (c' := 8) (d' := b) L_35_33 rfl rfl ?_
      refine r_iload_n L_35_36 rfl ?_
      refine r_iload_n L_35_37 rfl ?_
      refine r_iast (N := 8) (j := x1.toNatClampNeg) L_35_38 (by decide +kernel) rfl g2 rfl ?_
      refine r_nm fun m4 em4 => ?_
      have h := h m4 em4
      refine r_aload_n L_35_39 rfl ?_
      refine r_cvv L_35_40 rfl (Mv_mono h fun m5 h => ?_)
      refine r_aload_n L_35_43 rfl ?_
      refine r_getr (c' := 3) (d' := b) L_35_44 rfl rfl ?_
      refine r_cv L_35_47 rfl (Mi_mono h fun v7 m6 h => ?_)
      exact r_iret L_35_50 RT_35 h
  · refine r_iconst L_35_11 kI_m1 ?_
    exact r_iret L_35_12 RT_35 h
/-- State.callOff -/
theorem T_36 {b : Nat} {x1 : Int32} {m : aM} {Q : Int32 → aM → Prop} (h :
   if ¬ x1 < 0 ∧ x1 < m 2 b 7 then
    (a_in x1 8 = true ∧
     if (m 15 b x1.toNatClampNeg) = 1 then
      Q (-3) m
     else
      if (m 0 b 4) < (m 14 b x1.toNatClampNeg) then
       ((∀ m5, m5 = a_up m 15 b x1.toNatClampNeg 1 →
       Mv 43 [.inr (0, b)] m5 (fun m6 =>
        Mi 17 [.inr (3, b)] m6 (fun v8 m7 =>
         Q v8 m7))))
      else
       Q (-3) m)
   else
    Q (-1) m
  ) : Mi 36 [.inr (0, b), .inl x1] m Q := by
  refine Mi_in ML_36 (show Rg 36 0 [some (.inr (0, b)), some (.inl x1)] [] m (qI Q) from ?_)
  refine r_aload_n L_36_0 rfl ?_
  refine r_getr (c' := 2) (d' := b) L_36_1 rfl rfl ?_
  refine r_iload_n L_36_4 rfl ?_
  refine r_cv L_36_5 rfl (V_23 ?_)
  refine r_ifneP L_36_8 (i_mono h (fun c1 h => ?_) (fun c1 h => ?_))
  · refine r_aload_n L_36_13 rfl ?_
    refine r_getr (c' := 2) (d' := b) L_36_14 rfl rfl ?_
    refine r_getr (c' := 15) (d' := b) L_36_17 rfl rfl ?_
    refine r_iload_n L_36_20 rfl ?_
    obtain ⟨g2, h⟩ := h
    refine r_iald (N := 8) (j := x1.toNatClampNeg) L_36_21 (by decide +kernel) rfl g2 rfl ?_
    refine r_iconst L_36_22 kI_1 ?_
    refine r_icmp L_36_23 rfl (i_mono h (fun c3 h => ?_) (fun c3 h => ?_))
    · refine r_bipush L_36_42 kB_m3 ?_
      exact r_iret L_36_44 RT_36 h
    · refine r_aload_n L_36_26 rfl ?_
      refine r_getr (c' := 2) (d' := b) L_36_27 rfl rfl ?_
      refine r_getr (c' := 14) (d' := b) L_36_30 rfl rfl ?_
      refine r_iload_n L_36_33 rfl ?_
      refine r_iald (N := 8) (j := x1.toNatClampNeg) L_36_34 (by decide +kernel) rfl g2 rfl ?_
      refine r_aload_n L_36_35 rfl ?_
      refine r_geti L_36_36 rfl rfl ?_
      refine r_icmp L_36_39 rfl (i_mono h (fun c4 h => ?_) (fun c4 h => ?_))
      · refine r_aload_n L_36_45 rfl ?_
        refine r_getr (c' := 2) (d' := b) L_36_46 rfl rfl ?_
        refine r_getr (c' := 15) (d' := b) L_36_49 rfl rfl ?_
        refine r_iload_n L_36_52 rfl ?_
        refine r_iconst L_36_53 kI_1 ?_
        refine r_iast (N := 8) (j := x1.toNatClampNeg) L_36_54 (by decide +kernel) rfl g2 rfl ?_
        refine r_nm fun m5 em5 => ?_
        have h := h m5 em5
        refine r_aload_n L_36_55 rfl ?_
        refine r_cvv L_36_56 rfl (Mv_mono h fun m6 h => ?_)
        refine r_aload_n L_36_59 rfl ?_
        refine r_getr (c' := 3) (d' := b) L_36_60 rfl rfl ?_
        refine r_cv L_36_63 rfl (Mi_mono h fun v8 m7 h => ?_)
        exact r_iret L_36_66 RT_36 h
      · refine r_bipush L_36_42 kB_m3 ?_
        exact r_iret L_36_44 RT_36 h
  · refine r_iconst L_36_11 kI_m1 ?_
    exact r_iret L_36_12 RT_36 h
/-- State.makeLease -/
theorem T_37 {b : Nat} {x1 x2 x3 : Int32} {m : aM} {Q : Int32 → aM → Prop} (h :
   if ¬ x1 < 0 ∧ x1 < m 3 b 10 then
    (if x2 < 0 ∨ 3 < x2 then
     Q (-2) m
    else
     if x3 < 1 ∨ 99 < x3 then
      Q (-2) m
     else
      Mi 48 [.inr (0, b), .inl x1, .inl x2] m (fun v5 m4 =>
       (∀ m6, m6 = a_up m4 0 b 5 v5 →
       if (m6 0 b 5) = 0 then
        (Mi 50 [.inr (0, b), .inl x1, .inl x2] m6 (fun v9 m8 =>
         a_in x1 16 = true ∧
          (∀ m11, m11 = cPutOn m8 b x1.toNatClampNeg v9 x2 →
          (∀ m12, m12 = a_up m11 21 b x1.toNatClampNeg ((m11 0 b 4) + x3) →
          Q (m12 19 b x1.toNatClampNeg) m12))))
       else
        Q (-5) m6)))
   else
    Q (-1) m
  ) : Mi 37 [.inr (0, b), .inl x1, .inl x2, .inl x3] m Q := by
  refine Mi_in ML_37 (show Rg 37 0 [some (.inr (0, b)), some (.inl x1), some (.inl x2), some (.inl x3)] [] m (qI Q) from ?_)
  refine r_aload_n L_37_0 rfl ?_
  refine r_getr (c' := 3) (d' := b) L_37_1 rfl rfl ?_
  refine r_iload_n L_37_4 rfl ?_
  refine r_cv L_37_5 rfl (V_9 ?_)
  refine r_ifneP L_37_8 (i_mono h (fun c1 h => ?_) (fun c1 h => ?_))
  · refine r_iload_n L_37_13 rfl ?_
    refine r_iconst L_37_14 kI_0 ?_
    refine r_iconst L_37_15 kI_3 ?_
    refine r_cs L_37_16 (by decide) rfl (V_93 ?_)
    refine r_ifneP L_37_19 (i_mono h (fun c2 h => ?_) (fun c2 h => ?_))
    · refine r_bipush L_37_32 kB_m2 ?_
      exact r_iret L_37_34 RT_37 h
    · refine r_iload_n L_37_22 rfl ?_
      refine r_iconst L_37_23 kI_1 ?_
      refine r_bipush L_37_24 kB_99 ?_
      refine r_cs L_37_26 (by decide) rfl (V_93 ?_)
      refine r_ifeqP L_37_29 (i_mono h (fun c3 h => ?_) (fun c3 h => ?_))
      · refine r_bipush L_37_32 kB_m2 ?_
        exact r_iret L_37_34 RT_37 h
      · refine r_aload_n L_37_35 rfl ?_
        refine r_aload_n L_37_36 rfl ?_
        refine r_iload_n L_37_37 rfl ?_
        refine r_iload_n L_37_38 rfl ?_
        refine r_cv L_37_39 rfl (Mi_mono h fun v5 m4 h => ?_)
        refine r_put L_37_42 ⟨rfl, rfl⟩ (fun z => absurd z (by decide)) ?_
        refine r_nm fun m6 em6 => ?_
        have h := h m6 em6
        refine r_aload_n L_37_45 rfl ?_
        refine r_geti L_37_46 rfl rfl ?_
        refine r_if L_37_49 rfl (i_mono h (fun c7 h => ?_) (fun c7 h => ?_))
        · refine r_aload_n L_37_55 rfl ?_
          refine r_getr (c' := 3) (d' := b) L_37_56 rfl rfl ?_
          refine r_iload_n L_37_59 rfl ?_
          refine r_aload_n L_37_60 rfl ?_
          refine r_iload_n L_37_61 rfl ?_
          refine r_iload_n L_37_62 rfl ?_
          refine r_cv L_37_63 rfl (Mi_mono h fun v9 m8 h => ?_)
          refine r_iload_n L_37_66 rfl ?_
          obtain ⟨g10, h⟩ := h
          refine r_cvv L_37_67 rfl (V_12 g10 ?_)
          refine r_nm fun m11 em11 => ?_
          have h := h m11 em11
          refine r_aload_n L_37_70 rfl ?_
          refine r_getr (c' := 3) (d' := b) L_37_71 rfl rfl ?_
          refine r_getr (c' := 21) (d' := b) L_37_74 rfl rfl ?_
          refine r_iload_n L_37_77 rfl ?_
          refine r_aload_n L_37_78 rfl ?_
          refine r_geti L_37_79 rfl rfl ?_
          refine r_iload_n L_37_82 rfl ?_
          refine r_iadd L_37_83 ?_
          refine r_iast (N := 16) (j := x1.toNatClampNeg) L_37_84 (by decide +kernel) rfl g10 rfl ?_
          refine r_nm fun m12 em12 => ?_
          have h := h m12 em12
          refine r_aload_n L_37_85 rfl ?_
          refine r_getr (c' := 3) (d' := b) L_37_86 rfl rfl ?_
          refine r_getr (c' := 19) (d' := b) L_37_89 rfl rfl ?_
          refine r_iload_n L_37_92 rfl ?_
          refine r_iald (N := 16) (j := x1.toNatClampNeg) L_37_93 (by decide +kernel) rfl g10 rfl ?_
          exact r_iret L_37_94 RT_37 h
        · refine r_bipush L_37_52 kB_m5 ?_
          exact r_iret L_37_54 RT_37 h
  · refine r_iconst L_37_11 kI_m1 ?_
    exact r_iret L_37_12 RT_37 h
/-- State.prolongLease -/
theorem T_38 {b : Nat} {x1 x2 : Int32} {m : aM} {Q : Int32 → aM → Prop} (h :
   if ¬ x1 < 0 ∧ x1 < m 3 b 10 then
    (if x2 < 1 ∨ 99 < x2 then
     Q (-2) m
    else
     a_in x1 16 = true ∧
      if ¬ m 19 b x1.toNatClampNeg = (-1) then
       (if ¬ m 22 b x1.toNatClampNeg = (-1) then
        ((∀ m6, m6 = a_up m 0 b 5 5 →
        Q (-5) m6))
       else
        (∀ m7, m7 = a_up m 0 b 5 0 →
        (∀ m8, m8 = a_up m7 21 b x1.toNatClampNeg ((m7 0 b 4) + x2) →
        Q (m8 21 b x1.toNatClampNeg) m8)))
      else
       Q (-3) m)
   else
    Q (-1) m
  ) : Mi 38 [.inr (0, b), .inl x1, .inl x2] m Q := by
  refine Mi_in ML_38 (show Rg 38 0 [some (.inr (0, b)), some (.inl x1), some (.inl x2)] [] m (qI Q) from ?_)
  refine r_aload_n L_38_0 rfl ?_
  refine r_getr (c' := 3) (d' := b) L_38_1 rfl rfl ?_
  refine r_iload_n L_38_4 rfl ?_
  refine r_cv L_38_5 rfl (V_9 ?_)
  refine r_ifneP L_38_8 (i_mono h (fun c1 h => ?_) (fun c1 h => ?_))
  · refine r_iload_n L_38_13 rfl ?_
    refine r_iconst L_38_14 kI_1 ?_
    refine r_bipush L_38_15 kB_99 ?_
    refine r_cs L_38_17 (by decide) rfl (V_93 ?_)
    refine r_ifeqP L_38_20 (i_mono h (fun c2 h => ?_) (fun c2 h => ?_))
    · refine r_bipush L_38_23 kB_m2 ?_
      exact r_iret L_38_25 RT_38 h
    · refine r_aload_n L_38_26 rfl ?_
      refine r_getr (c' := 3) (d' := b) L_38_27 rfl rfl ?_
      refine r_iload_n L_38_30 rfl ?_
      obtain ⟨g3, h⟩ := h
      refine r_cv L_38_31 rfl (V_10 g3 ?_)
      refine r_ifneP L_38_34 (i_mono h (fun c4 h => ?_) (fun c4 h => ?_))
      · refine r_aload_n L_38_40 rfl ?_
        refine r_getr (c' := 3) (d' := b) L_38_41 rfl rfl ?_
        refine r_iload_n L_38_44 rfl ?_
        refine r_cv L_38_45 rfl (V_11 g3 ?_)
        refine r_ifeqP L_38_48 (i_mono h (fun c5 h => ?_) (fun c5 h => ?_))
        · refine r_aload_n L_38_51 rfl ?_
          refine r_iconst L_38_52 kI_5 ?_
          refine r_put L_38_53 ⟨rfl, rfl⟩ (fun z => absurd z (by decide)) ?_
          refine r_nm fun m6 em6 => ?_
          have h := h m6 em6
          refine r_bipush L_38_56 kB_m5 ?_
          exact r_iret L_38_58 RT_38 h
        · refine r_aload_n L_38_59 rfl ?_
          refine r_iconst L_38_60 kI_0 ?_
          refine r_put L_38_61 ⟨rfl, rfl⟩ (fun z => absurd z (by decide)) ?_
          refine r_nm fun m7 em7 => ?_
          have h := h m7 em7
          refine r_aload_n L_38_64 rfl ?_
          refine r_getr (c' := 3) (d' := b) L_38_65 rfl rfl ?_
          refine r_getr (c' := 21) (d' := b) L_38_68 rfl rfl ?_
          refine r_iload_n L_38_71 rfl ?_
          refine r_aload_n L_38_72 rfl ?_
          refine r_geti L_38_73 rfl rfl ?_
          refine r_iload_n L_38_76 rfl ?_
          refine r_iadd L_38_77 ?_
          refine r_iast (N := 16) (j := x1.toNatClampNeg) L_38_78 (by decide +kernel) rfl g3 rfl ?_
          refine r_nm fun m8 em8 => ?_
          have h := h m8 em8
          refine r_aload_n L_38_79 rfl ?_
          refine r_getr (c' := 3) (d' := b) L_38_80 rfl rfl ?_
          refine r_getr (c' := 21) (d' := b) L_38_83 rfl rfl ?_
          refine r_iload_n L_38_86 rfl ?_
          refine r_iald (N := 16) (j := x1.toNatClampNeg) L_38_87 (by decide +kernel) rfl g3 rfl ?_
          exact r_iret L_38_88 RT_38 h
      · refine r_bipush L_38_37 kB_m3 ?_
        exact r_iret L_38_39 RT_38 h
  · refine r_iconst L_38_11 kI_m1 ?_
    exact r_iret L_38_12 RT_38 h
/-- State.dropLease -/
theorem T_39 {b : Nat} {x1 : Int32} {m : aM} {Q : Int32 → aM → Prop} (h :
   if ¬ x1 < 0 ∧ x1 < m 3 b 10 then
    (a_in x1 16 = true ∧
     if ¬ m 19 b x1.toNatClampNeg = (-1) then
      ((∀ m4, m4 = cRem m b x1.toNatClampNeg →
      Mi 15 [.inr (3, b)] m4 (fun v6 m5 =>
       Q v6 m5)))
     else
      Q (-3) m)
   else
    Q (-1) m
  ) : Mi 39 [.inr (0, b), .inl x1] m Q := by
  refine Mi_in ML_39 (show Rg 39 0 [some (.inr (0, b)), some (.inl x1)] [] m (qI Q) from ?_)
  refine r_aload_n L_39_0 rfl ?_
  refine r_getr (c' := 3) (d' := b) L_39_1 rfl rfl ?_
  refine r_iload_n L_39_4 rfl ?_
  refine r_cv L_39_5 rfl (V_9 ?_)
  refine r_ifneP L_39_8 (i_mono h (fun c1 h => ?_) (fun c1 h => ?_))
  · refine r_aload_n L_39_13 rfl ?_
    refine r_getr (c' := 3) (d' := b) L_39_14 rfl rfl ?_
    refine r_iload_n L_39_17 rfl ?_
    obtain ⟨g2, h⟩ := h
    refine r_cv L_39_18 rfl (V_10 g2 ?_)
    refine r_ifneP L_39_21 (i_mono h (fun c3 h => ?_) (fun c3 h => ?_))
    · refine r_aload_n L_39_27 rfl ?_
      refine r_getr (c' := 3) (d' := b) L_39_28 rfl rfl ?_
      refine r_iload_n L_39_31 rfl ?_
      refine r_cvv L_39_32 rfl (V_13 g2 ?_)
      refine r_nm fun m4 em4 => ?_
      have h := h m4 em4
      refine r_aload_n L_39_35 rfl ?_
      refine r_getr (c' := 3) (d' := b) L_39_36 rfl rfl ?_
      refine r_cv L_39_39 rfl (Mi_mono h fun v6 m5 h => ?_)
      exact r_iret L_39_42 RT_39 h
    · refine r_bipush L_39_24 kB_m3 ?_
      exact r_iret L_39_26 RT_39 h
  · refine r_iconst L_39_11 kI_m1 ?_
    exact r_iret L_39_12 RT_39 h
def H_40_32 (b : Nat) (x1 x2 x3 : Int32) (m : aM) (Q : Int32 → aM → Prop) : Prop := Rg 40 32 [some (.inr (0, b)), some (.inl x1), some (.inl x2), some (.inl x3)] [] m (qI Q)
/-- State.passHours, the loop at 32 -/
theorem T_40_32 {b : Nat} {x1 x2 x3 : Int32} {m : aM} {Q : Int32 → aM → Prop} (h :
   if x3 < x1 then
    (Mi 41 [.inr (0, b)] m (fun v3 m2 =>
     H_40_32 b x1 (x2 + v3) (x3 + 1) m2 Q))
   else
    Q x2 m
  ) : H_40_32 b x1 x2 x3 m Q := by
  show Rg 40 32 [some (.inr (0, b)), some (.inl x1), some (.inl x2), some (.inl x3)] [] m (qI Q)
  refine r_iload_n L_40_32 rfl ?_
  refine r_iload_n L_40_33 rfl ?_
  refine r_icmpn L_40_34 cc_ge (i_mono h (fun c1 h => ?_) (fun c1 h => ?_))
  · refine r_iload_n L_40_37 rfl ?_
    refine r_aload_n L_40_38 rfl ?_
    refine r_cv L_40_39 rfl (Mi_mono h fun v3 m2 h => ?_)
    refine r_iadd L_40_42 ?_
    refine r_istore_n (ls1 := [some (.inr (0, b)), some (.inl x1), some (.inl (x2 + v3)), some (.inl x3)]) L_40_43 (Nat.le_of_ble_eq_true rfl) rfl ?_
    refine r_iinc (ls1 := [some (.inr (0, b)), some (.inl x1), some (.inl (x2 + v3)), some (.inl (x3 + 1))]) L_40_44 kI_1 rfl (Nat.le_of_ble_eq_true rfl) rfl ?_
    refine r_goto L_40_47 ?_
    exact h
  · refine r_iload_n L_40_50 rfl ?_
    exact r_iret L_40_51 RT_40 h
/-- State.passHours -/
theorem T_40 {b : Nat} {x1 : Int32} {m : aM} {Q : Int32 → aM → Prop} (h :
   if x1 < 1 ∨ 99 < x1 then
    Q (-2) m
   else
    if 9999 < ((m 0 b 4) + x1) then
     Q (-3) m
    else
     H_40_32 b x1 0 0 m Q
  ) : Mi 40 [.inr (0, b), .inl x1] m Q := by
  refine Mi_in ML_40 (show Rg 40 0 [some (.inr (0, b)), some (.inl x1), none, none] [] m (qI Q) from ?_)
  refine r_iload_n L_40_0 rfl ?_
  refine r_iconst L_40_1 kI_1 ?_
  refine r_bipush L_40_2 kB_99 ?_
  refine r_cs L_40_4 (by decide) rfl (V_93 ?_)
  refine r_ifeqP L_40_7 (i_mono h (fun c1 h => ?_) (fun c1 h => ?_))
  · refine r_bipush L_40_10 kB_m2 ?_
    exact r_iret L_40_12 RT_40 h
  · refine r_aload_n L_40_13 rfl ?_
    refine r_geti L_40_14 rfl rfl ?_
    refine r_iload_n L_40_17 rfl ?_
    refine r_iadd L_40_18 ?_
    refine r_sipush L_40_19 kS_9999 ?_
    refine r_icmpn L_40_22 cc_le (i_mono h (fun c2 h => ?_) (fun c2 h => ?_))
    · refine r_bipush L_40_25 kB_m3 ?_
      exact r_iret L_40_27 RT_40 h
    · refine r_iconst L_40_28 kI_0 ?_
      refine r_istore_n (ls1 := [some (.inr (0, b)), some (.inl x1), some (.inl 0), none]) L_40_29 (Nat.le_of_ble_eq_true rfl) rfl ?_
      refine r_iconst L_40_30 kI_0 ?_
      refine r_istore_n (ls1 := [some (.inr (0, b)), some (.inl x1), some (.inl 0), some (.inl 0)]) L_40_31 (Nat.le_of_ble_eq_true rfl) rfl ?_
      exact h
def H_41_22 (b : Nat) (x1 x2 : Int32) (m : aM) (Q : Int32 → aM → Prop) : Prop := Rg 41 22 [some (.inr (0, b)), some (.inl x1), some (.inl x2)] [] m (qI Q)
/-- State.passOneHour, the loop at 22 -/
theorem T_41_22 {b : Nat} {x1 x2 : Int32} {m : aM} {Q : Int32 → aM → Prop} (h :
   if x2 < (m 3 b 10) then
    (a_in x2 16 = true ∧
     if ¬ m 22 b x2.toNatClampNeg = (-1) then
      ((¬ m 26 b 1 = 0) ∧
       if iR (m 0 b 4 + x2) (m 26 b 1) = 0 then
        (Mi 47 [.inr (0, b), .inl x2] m (fun v7 m6 =>
         H_41_22 b (x1 + v7) (x2 + 1) m6 Q))
       else
        H_41_22 b x1 (x2 + 1) m Q)
     else
      H_41_22 b x1 (x2 + 1) m Q)
   else
    Mv 44 [.inr (0, b)] m (fun m8 =>
     Q x1 m8)
  ) : H_41_22 b x1 x2 m Q := by
  show Rg 41 22 [some (.inr (0, b)), some (.inl x1), some (.inl x2)] [] m (qI Q)
  refine r_iload_n L_41_22 rfl ?_
  refine r_aload_n L_41_23 rfl ?_
  refine r_getr (c' := 3) (d' := b) L_41_24 rfl rfl ?_
  refine r_geti L_41_27 rfl rfl ?_
  refine r_icmpn L_41_30 cc_ge (i_mono h (fun c1 h => ?_) (fun c1 h => ?_))
  · refine r_aload_n L_41_33 rfl ?_
    refine r_getr (c' := 3) (d' := b) L_41_34 rfl rfl ?_
    refine r_iload_n L_41_37 rfl ?_
    obtain ⟨g2, h⟩ := h
    refine r_cv L_41_38 rfl (V_11 g2 ?_)
    refine r_ifeqP L_41_41 (i_mono h (fun c3 h => ?_) (fun c3 h => ?_))
    · refine r_aload_n L_41_44 rfl ?_
      refine r_iload_n L_41_45 rfl ?_
      obtain ⟨g4, h⟩ := h
      refine r_cv L_41_46 rfl (V_45 g4 ?_)
      refine r_ifeqP L_41_49 (i_mono h (fun c5 h => ?_) (fun c5 h => ?_))
      · refine r_iload_n L_41_52 rfl ?_
        refine r_aload_n L_41_53 rfl ?_
        refine r_iload_n L_41_54 rfl ?_
        refine r_cv L_41_55 rfl (Mi_mono h fun v7 m6 h => ?_)
        refine r_iadd L_41_58 ?_
        refine r_istore_n (ls1 := [some (.inr (0, b)), some (.inl (x1 + v7)), some (.inl x2)]) L_41_59 (Nat.le_of_ble_eq_true rfl) rfl ?_
        refine r_iinc (ls1 := [some (.inr (0, b)), some (.inl (x1 + v7)), some (.inl (x2 + 1))]) L_41_60 kI_1 rfl (Nat.le_of_ble_eq_true rfl) rfl ?_
        refine r_goto L_41_63 ?_
        exact h
      · refine r_iinc (ls1 := [some (.inr (0, b)), some (.inl x1), some (.inl (x2 + 1))]) L_41_60 kI_1 rfl (Nat.le_of_ble_eq_true rfl) rfl ?_
        refine r_goto L_41_63 ?_
        exact h
    · refine r_iinc (ls1 := [some (.inr (0, b)), some (.inl x1), some (.inl (x2 + 1))]) L_41_60 kI_1 rfl (Nat.le_of_ble_eq_true rfl) rfl ?_
      refine r_goto L_41_63 ?_
      exact h
  · refine r_aload_n L_41_66 rfl ?_
    refine r_cvv L_41_67 rfl (Mv_mono h fun m8 h => ?_)
    refine r_iload_n L_41_70 rfl ?_
    exact r_iret L_41_71 RT_41 h
/-- State.passOneHour -/
theorem T_41 {b : Nat} {m : aM} {Q : Int32 → aM → Prop} (h :
   (∀ m1, m1 = a_up m 0 b 4 ((m 0 b 4) + 1) →
   Mv 42 [.inr (0, b)] m1 (fun m2 =>
    Mv 43 [.inr (0, b)] m2 (fun m3 =>
     H_41_22 b 0 0 m3 Q)))
  ) : Mi 41 [.inr (0, b)] m Q := by
  refine Mi_in ML_41 (show Rg 41 0 [some (.inr (0, b)), none, none] [] m (qI Q) from ?_)
  refine r_aload_n L_41_0 rfl ?_
  refine r_dup L_41_1 ?_
  refine r_geti L_41_2 rfl rfl ?_
  refine r_iconst L_41_5 kI_1 ?_
  refine r_iadd L_41_6 ?_
  refine r_put L_41_7 ⟨rfl, rfl⟩ (fun z => absurd z (by decide)) ?_
  refine r_nm fun m1 em1 => ?_
  have h := h m1 em1
  refine r_aload_n L_41_10 rfl ?_
  refine r_cvv L_41_11 rfl (Mv_mono h fun m2 h => ?_)
  refine r_aload_n L_41_14 rfl ?_
  refine r_cvv L_41_15 rfl (Mv_mono h fun m3 h => ?_)
  refine r_iconst L_41_18 kI_0 ?_
  refine r_istore_n (ls1 := [some (.inr (0, b)), some (.inl 0), none]) L_41_19 (Nat.le_of_ble_eq_true rfl) rfl ?_
  refine r_iconst L_41_20 kI_0 ?_
  refine r_istore_n (ls1 := [some (.inr (0, b)), some (.inl 0), some (.inl 0)]) L_41_21 (Nat.le_of_ble_eq_true rfl) rfl ?_
  exact h
def H_42_2 (b : Nat) (x1 : Int32) (m : aM) (Q : aM → Prop) : Prop := Rg 42 2 [some (.inr (0, b)), some (.inl x1)] [] m (qV Q)
/-- State.endLeases, the loop at 2 -/
theorem T_42_2 {b : Nat} {x1 : Int32} {m : aM} {Q : aM → Prop} (h :
   if x1 < (m 3 b 10) then
    (a_in x1 16 = true ∧
     if ¬ m 19 b x1.toNatClampNeg = (-1) then
      (if (m 0 b 4) < (m 21 b x1.toNatClampNeg) then
       H_42_2 b (x1 + 1) m Q
      else
       (∀ m5, m5 = cRem m b x1.toNatClampNeg →
       H_42_2 b (x1 + 1) m5 Q))
     else
      H_42_2 b (x1 + 1) m Q)
   else
    Q m
  ) : H_42_2 b x1 m Q := by
  show Rg 42 2 [some (.inr (0, b)), some (.inl x1)] [] m (qV Q)
  refine r_iload_n L_42_2 rfl ?_
  refine r_aload_n L_42_3 rfl ?_
  refine r_getr (c' := 3) (d' := b) L_42_4 rfl rfl ?_
  refine r_geti L_42_7 rfl rfl ?_
  refine r_icmpn L_42_10 cc_ge (i_mono h (fun c1 h => ?_) (fun c1 h => ?_))
  · refine r_aload_n L_42_13 rfl ?_
    refine r_getr (c' := 3) (d' := b) L_42_14 rfl rfl ?_
    refine r_iload_n L_42_17 rfl ?_
    obtain ⟨g2, h⟩ := h
    refine r_cv L_42_18 rfl (V_10 g2 ?_)
    refine r_ifeqP L_42_21 (i_mono h (fun c3 h => ?_) (fun c3 h => ?_))
    · refine r_aload_n L_42_24 rfl ?_
      refine r_getr (c' := 3) (d' := b) L_42_25 rfl rfl ?_
      refine r_getr (c' := 21) (d' := b) L_42_28 rfl rfl ?_
      refine r_iload_n L_42_31 rfl ?_
      refine r_iald (N := 16) (j := x1.toNatClampNeg) L_42_32 (by decide +kernel) rfl g2 rfl ?_
      refine r_aload_n L_42_33 rfl ?_
      refine r_geti L_42_34 rfl rfl ?_
      refine r_icmp L_42_37 rfl (i_mono h (fun c4 h => ?_) (fun c4 h => ?_))
      · refine r_iinc (ls1 := [some (.inr (0, b)), some (.inl (x1 + 1))]) L_42_48 kI_1 rfl (Nat.le_of_ble_eq_true rfl) rfl ?_
        refine r_goto L_42_51 ?_
        exact h
      · refine r_aload_n L_42_40 rfl ?_
        refine r_getr (c' := 3) (d' := b) L_42_41 rfl rfl ?_
        refine r_iload_n L_42_44 rfl ?_
        refine r_cvv L_42_45 rfl (V_13 g2 ?_)
        refine r_nm fun m5 em5 => ?_
        have h := h m5 em5
        refine r_iinc (ls1 := [some (.inr (0, b)), some (.inl (x1 + 1))]) L_42_48 kI_1 rfl (Nat.le_of_ble_eq_true rfl) rfl ?_
        refine r_goto L_42_51 ?_
        exact h
    · refine r_iinc (ls1 := [some (.inr (0, b)), some (.inl (x1 + 1))]) L_42_48 kI_1 rfl (Nat.le_of_ble_eq_true rfl) rfl ?_
      refine r_goto L_42_51 ?_
      exact h
  · exact r_vret L_42_54 RT_42 h
/-- State.endLeases -/
theorem T_42 {b : Nat} {m : aM} {Q : aM → Prop} (h :
   H_42_2 b 0 m Q
  ) : Mv 42 [.inr (0, b)] m Q := by
  refine Mv_in ML_42 (show Rg 42 0 [some (.inr (0, b)), none] [] m (qV Q) from ?_)
  refine r_iconst L_42_0 kI_0 ?_
  refine r_istore_n (ls1 := [some (.inr (0, b)), some (.inl 0)]) L_42_1 (Nat.le_of_ble_eq_true rfl) rfl ?_
  exact h
def H_43_2 (b : Nat) (x1 : Int32) (m : aM) (Q : aM → Prop) : Prop := Rg 43 2 [some (.inr (0, b)), some (.inl x1)] [] m (qV Q)
/-- State.review, the loop at 2 -/
theorem T_43_2 {b : Nat} {x1 : Int32} {m : aM} {Q : aM → Prop} (h :
   if x1 < (m 3 b 10) then
    (a_in x1 16 = true ∧
     if ¬ m 19 b x1.toNatClampNeg = (-1) then
      (Mi 52 [.inr (0, b), .inl x1] m (fun v5 m4 =>
       if v5 = 0 then
        (if ¬ m4 22 b x1.toNatClampNeg = (-1) then
         H_43_2 b (x1 + 1) m4 Q
        else
         (∀ m8, m8 = a_up m4 22 b x1.toNatClampNeg (m4 0 b 4) →
         H_43_2 b (x1 + 1) m8 Q))
       else
        (∀ m9, m9 = a_up m4 22 b x1.toNatClampNeg (-1) →
        H_43_2 b (x1 + 1) m9 Q)))
     else
      H_43_2 b (x1 + 1) m Q)
   else
    Q m
  ) : H_43_2 b x1 m Q := by
  show Rg 43 2 [some (.inr (0, b)), some (.inl x1)] [] m (qV Q)
  refine r_iload_n L_43_2 rfl ?_
  refine r_aload_n L_43_3 rfl ?_
  refine r_getr (c' := 3) (d' := b) L_43_4 rfl rfl ?_
  refine r_geti L_43_7 rfl rfl ?_
  refine r_icmpn L_43_10 cc_ge (i_mono h (fun c1 h => ?_) (fun c1 h => ?_))
  · refine r_aload_n L_43_13 rfl ?_
    refine r_getr (c' := 3) (d' := b) L_43_14 rfl rfl ?_
    refine r_iload_n L_43_17 rfl ?_
    obtain ⟨g2, h⟩ := h
    refine r_cv L_43_18 rfl (V_10 g2 ?_)
    refine r_ifeqP L_43_21 (i_mono h (fun c3 h => ?_) (fun c3 h => ?_))
    · refine r_aload_n L_43_24 rfl ?_
      refine r_iload_n L_43_25 rfl ?_
      refine r_cv L_43_26 rfl (Mi_mono h fun v5 m4 h => ?_)
      refine r_if L_43_29 rfl (i_mono h (fun c6 h => ?_) (fun c6 h => ?_))
      · refine r_aload_n L_43_45 rfl ?_
        refine r_getr (c' := 3) (d' := b) L_43_46 rfl rfl ?_
        refine r_iload_n L_43_49 rfl ?_
        refine r_cv L_43_50 rfl (V_11 g2 ?_)
        refine r_ifneP L_43_53 (i_mono h (fun c7 h => ?_) (fun c7 h => ?_))
        · refine r_iinc (ls1 := [some (.inr (0, b)), some (.inl (x1 + 1))]) L_43_69 kI_1 rfl (Nat.le_of_ble_eq_true rfl) rfl ?_
          refine r_goto L_43_72 ?_
          exact h
        · refine r_aload_n L_43_56 rfl ?_
          refine r_getr (c' := 3) (d' := b) L_43_57 rfl rfl ?_
          refine r_getr (c' := 22) (d' := b) L_43_60 rfl rfl ?_
          refine r_iload_n L_43_63 rfl ?_
          refine r_aload_n L_43_64 rfl ?_
          refine r_geti L_43_65 rfl rfl ?_
          refine r_iast (N := 16) (j := x1.toNatClampNeg) L_43_68 (by decide +kernel) rfl g2 rfl ?_
          refine r_nm fun m8 em8 => ?_
          have h := h m8 em8
          refine r_iinc (ls1 := [some (.inr (0, b)), some (.inl (x1 + 1))]) L_43_69 kI_1 rfl (Nat.le_of_ble_eq_true rfl) rfl ?_
          refine r_goto L_43_72 ?_
          exact h
      · refine r_aload_n L_43_32 rfl ?_
        refine r_getr (c' := 3) (d' := b) L_43_33 rfl rfl ?_
        refine r_getr (c' := 22) (d' := b) L_43_36 rfl rfl ?_
        refine r_iload_n L_43_39 rfl ?_
        refine r_iconst L_43_40 kI_m1 ?_
        refine r_iast (N := 16) (j := x1.toNatClampNeg) L_43_41 (by decide +kernel) rfl g2 rfl ?_
        refine r_nm fun m9 em9 => ?_
        have h := h m9 em9
        refine r_goto L_43_42 ?_
        refine r_iinc (ls1 := [some (.inr (0, b)), some (.inl (x1 + 1))]) L_43_69 kI_1 rfl (Nat.le_of_ble_eq_true rfl) rfl ?_
        refine r_goto L_43_72 ?_
        exact h
    · refine r_iinc (ls1 := [some (.inr (0, b)), some (.inl (x1 + 1))]) L_43_69 kI_1 rfl (Nat.le_of_ble_eq_true rfl) rfl ?_
      refine r_goto L_43_72 ?_
      exact h
  · exact r_vret L_43_75 RT_43 h
/-- State.review -/
theorem T_43 {b : Nat} {m : aM} {Q : aM → Prop} (h :
   H_43_2 b 0 m Q
  ) : Mv 43 [.inr (0, b)] m Q := by
  refine Mv_in ML_43 (show Rg 43 0 [some (.inr (0, b)), none] [] m (qV Q) from ?_)
  refine r_iconst L_43_0 kI_0 ?_
  refine r_istore_n (ls1 := [some (.inr (0, b)), some (.inl 0)]) L_43_1 (Nat.le_of_ble_eq_true rfl) rfl ?_
  exact h
def H_44_2 (b : Nat) (x1 : Int32) (m : aM) (Q : aM → Prop) : Prop := Rg 44 2 [some (.inr (0, b)), some (.inl x1)] [] m (qV Q)
/-- State.cutLeases, the loop at 2 -/
theorem T_44_2 {b : Nat} {x1 : Int32} {m : aM} {Q : aM → Prop} (h :
   if x1 < (m 3 b 10) then
    (a_in x1 16 = true ∧
     if ¬ m 22 b x1.toNatClampNeg = (-1) then
      (if ((m 0 b 4) - (m 26 b 2)) < (m 22 b x1.toNatClampNeg) then
       H_44_2 b (x1 + 1) m Q
      else
       (∀ m5, m5 = cRem m b x1.toNatClampNeg →
       (∀ m6, m6 = a_up m5 25 b x1.toNatClampNeg ((m5 25 b x1.toNatClampNeg) + 1) →
       H_44_2 b (x1 + 1) m6 Q)))
     else
      H_44_2 b (x1 + 1) m Q)
   else
    Q m
  ) : H_44_2 b x1 m Q := by
  show Rg 44 2 [some (.inr (0, b)), some (.inl x1)] [] m (qV Q)
  refine r_iload_n L_44_2 rfl ?_
  refine r_aload_n L_44_3 rfl ?_
  refine r_getr (c' := 3) (d' := b) L_44_4 rfl rfl ?_
  refine r_geti L_44_7 rfl rfl ?_
  refine r_icmpn L_44_10 cc_ge (i_mono h (fun c1 h => ?_) (fun c1 h => ?_))
  · refine r_aload_n L_44_13 rfl ?_
    refine r_getr (c' := 3) (d' := b) L_44_14 rfl rfl ?_
    refine r_iload_n L_44_17 rfl ?_
    obtain ⟨g2, h⟩ := h
    refine r_cv L_44_18 rfl (V_11 g2 ?_)
    refine r_ifeqP L_44_21 (i_mono h (fun c3 h => ?_) (fun c3 h => ?_))
    · refine r_aload_n L_44_24 rfl ?_
      refine r_getr (c' := 3) (d' := b) L_44_25 rfl rfl ?_
      refine r_getr (c' := 22) (d' := b) L_44_28 rfl rfl ?_
      refine r_iload_n L_44_31 rfl ?_
      refine r_iald (N := 16) (j := x1.toNatClampNeg) L_44_32 (by decide +kernel) rfl g2 rfl ?_
      refine r_aload_n L_44_33 rfl ?_
      refine r_geti L_44_34 rfl rfl ?_
      refine r_aload_n L_44_37 rfl ?_
      refine r_getr (c' := 26) (d' := b) L_44_38 rfl rfl ?_
      refine r_iconst L_44_41 kI_2 ?_
      refine r_iald (N := 3) (j := 2) L_44_42 (by decide +kernel) rfl (by decide +kernel) (by decide +kernel) ?_
      refine r_isub L_44_43 ?_
      refine r_icmp L_44_44 rfl (i_mono h (fun c4 h => ?_) (fun c4 h => ?_))
      · refine r_iinc (ls1 := [some (.inr (0, b)), some (.inl (x1 + 1))]) L_44_68 kI_1 rfl (Nat.le_of_ble_eq_true rfl) rfl ?_
        refine r_goto L_44_71 ?_
        exact h
      · refine r_aload_n L_44_47 rfl ?_
        refine r_getr (c' := 3) (d' := b) L_44_48 rfl rfl ?_
        refine r_iload_n L_44_51 rfl ?_
        refine r_cvv L_44_52 rfl (V_13 g2 ?_)
        refine r_nm fun m5 em5 => ?_
        have h := h m5 em5
        refine r_aload_n L_44_55 rfl ?_
        refine r_getr (c' := 3) (d' := b) L_44_56 rfl rfl ?_
        refine r_getr (c' := 25) (d' := b) L_44_59 rfl rfl ?_
        refine r_iload_n L_44_62 rfl ?_
        refine r_dup2 L_44_63 ?_
        refine r_iald (N := 16) (j := x1.toNatClampNeg) L_44_64 (by decide +kernel) rfl g2 rfl ?_
        refine r_iconst L_44_65 kI_1 ?_
        refine r_iadd L_44_66 ?_
        refine r_iast (N := 16) (j := x1.toNatClampNeg) L_44_67 (by decide +kernel) rfl g2 rfl ?_
        refine r_nm fun m6 em6 => ?_
        have h := h m6 em6
        refine r_iinc (ls1 := [some (.inr (0, b)), some (.inl (x1 + 1))]) L_44_68 kI_1 rfl (Nat.le_of_ble_eq_true rfl) rfl ?_
        refine r_goto L_44_71 ?_
        exact h
    · refine r_iinc (ls1 := [some (.inr (0, b)), some (.inl (x1 + 1))]) L_44_68 kI_1 rfl (Nat.le_of_ble_eq_true rfl) rfl ?_
      refine r_goto L_44_71 ?_
      exact h
  · exact r_vret L_44_74 RT_44 h
/-- State.cutLeases -/
theorem T_44 {b : Nat} {m : aM} {Q : aM → Prop} (h :
   H_44_2 b 0 m Q
  ) : Mv 44 [.inr (0, b)] m Q := by
  refine Mv_in ML_44 (show Rg 44 0 [some (.inr (0, b)), none] [] m (qV Q) from ?_)
  refine r_iconst L_44_0 kI_0 ?_
  refine r_istore_n (ls1 := [some (.inr (0, b)), some (.inl 0)]) L_44_1 (Nat.le_of_ble_eq_true rfl) rfl ?_
  exact h
/-- State.nextAsking -/
theorem T_46 {b : Nat} {x1 : Int32} {m : aM} {Q : Int32 → aM → Prop} (h :
   ¬ (m 26 b 1) = 0 ∧
    Q (((m 0 b 4) + (m 26 b 1)) - (iR ((m 0 b 4) + x1) (m 26 b 1))) m
  ) : Mi 46 [.inr (0, b), .inl x1] m Q := by
  refine Mi_in ML_46 (show Rg 46 0 [some (.inr (0, b)), some (.inl x1)] [] m (qI Q) from ?_)
  refine r_aload_n L_46_0 rfl ?_
  refine r_geti L_46_1 rfl rfl ?_
  refine r_aload_n L_46_4 rfl ?_
  refine r_getr (c' := 26) (d' := b) L_46_5 rfl rfl ?_
  refine r_iconst L_46_8 kI_1 ?_
  refine r_iald (N := 3) (j := 1) L_46_9 (by decide +kernel) rfl (by decide +kernel) (by decide +kernel) ?_
  refine r_iadd L_46_10 ?_
  refine r_aload_n L_46_11 rfl ?_
  refine r_geti L_46_12 rfl rfl ?_
  refine r_iload_n L_46_15 rfl ?_
  refine r_iadd L_46_16 ?_
  refine r_aload_n L_46_17 rfl ?_
  refine r_getr (c' := 26) (d' := b) L_46_18 rfl rfl ?_
  refine r_iconst L_46_21 kI_1 ?_
  refine r_iald (N := 3) (j := 1) L_46_22 (by decide +kernel) rfl (by decide +kernel) (by decide +kernel) ?_
  obtain ⟨g1, h⟩ := h
  refine r_irem L_46_23 g1 ?_
  refine r_isub L_46_24 ?_
  exact r_iret L_46_25 RT_46 h
def H_47_10 (b : Nat) (x1 x2 : Int32) (m : aM) (Q : Int32 → aM → Prop) : Prop := ∀ d3 : Option aV, Rg 47 10 [some (.inr (0, b)), some (.inl x1), some (.inl x2), d3] [] m (qI Q)
/-- State.hopOrStrike, the loop at 10 -/
theorem T_47_10 {b : Nat} {x1 x2 : Int32} {m : aM} {Q : Int32 → aM → Prop} (h :
   if x2 < 0 then
    (a_in x1 16 = true ∧
     (∀ m3, m3 = cRem m b x1.toNatClampNeg →
     (∀ m4, m4 = a_up m3 24 b x1.toNatClampNeg ((m3 24 b x1.toNatClampNeg) + 1) →
     Q 0 m4)))
   else
    Mi 50 [.inr (0, b), .inl x1, .inl x2] m (fun v6 m5 =>
     if v6 = (-6) then
      H_47_10 b x1 (x2 + (-1)) m5 Q
     else
      a_in x1 16 = true ∧
       (∀ m9, m9 = cPutOn m5 b x1.toNatClampNeg v6 x2 →
       (∀ m10, m10 = a_up m9 23 b x1.toNatClampNeg ((m9 23 b x1.toNatClampNeg) + 1) →
       Q 1 m10)))
  ) : H_47_10 b x1 x2 m Q := by
  intro d3
  show Rg 47 10 [some (.inr (0, b)), some (.inl x1), some (.inl x2), d3] [] m (qI Q)
  refine r_iload_n L_47_10 rfl ?_
  refine r_if L_47_11 rfl (i_mono h (fun c1 h => ?_) (fun c1 h => ?_))
  · refine r_aload_n L_47_58 rfl ?_
    refine r_getr (c' := 3) (d' := b) L_47_59 rfl rfl ?_
    refine r_iload_n L_47_62 rfl ?_
    obtain ⟨g2, h⟩ := h
    refine r_cvv L_47_63 rfl (V_13 g2 ?_)
    refine r_nm fun m3 em3 => ?_
    have h := h m3 em3
    refine r_aload_n L_47_66 rfl ?_
    refine r_getr (c' := 3) (d' := b) L_47_67 rfl rfl ?_
    refine r_getr (c' := 24) (d' := b) L_47_70 rfl rfl ?_
    refine r_iload_n L_47_73 rfl ?_
    refine r_dup2 L_47_74 ?_
    refine r_iald (N := 16) (j := x1.toNatClampNeg) L_47_75 (by decide +kernel) rfl g2 rfl ?_
    refine r_iconst L_47_76 kI_1 ?_
    refine r_iadd L_47_77 ?_
    refine r_iast (N := 16) (j := x1.toNatClampNeg) L_47_78 (by decide +kernel) rfl g2 rfl ?_
    refine r_nm fun m4 em4 => ?_
    have h := h m4 em4
    refine r_iconst L_47_79 kI_0 ?_
    exact r_iret L_47_80 RT_47 h
  · refine r_aload_n L_47_14 rfl ?_
    refine r_iload_n L_47_15 rfl ?_
    refine r_iload_n L_47_16 rfl ?_
    refine r_cv L_47_17 rfl (Mi_mono h fun v6 m5 h => ?_)
    refine r_istore_n (ls1 := [some (.inr (0, b)), some (.inl x1), some (.inl x2), some (.inl v6)]) L_47_20 (Nat.le_of_ble_eq_true rfl) rfl ?_
    refine r_iload_n L_47_21 rfl ?_
    refine r_bipush L_47_22 kB_m6 ?_
    refine r_icmp L_47_24 rfl (i_mono h (fun c7 h => ?_) (fun c7 h => ?_))
    · refine r_iinc (ls1 := [some (.inr (0, b)), some (.inl x1), some (.inl (x2 + (-1))), some (.inl v6)]) L_47_52 kI_m1 rfl (Nat.le_of_ble_eq_true rfl) rfl ?_
      refine r_goto L_47_55 ?_
      exact h _
    · refine r_aload_n L_47_27 rfl ?_
      refine r_getr (c' := 3) (d' := b) L_47_28 rfl rfl ?_
      refine r_iload_n L_47_31 rfl ?_
      refine r_iload_n L_47_32 rfl ?_
      refine r_iload_n L_47_33 rfl ?_
      obtain ⟨g8, h⟩ := h
      refine r_cvv L_47_34 rfl (V_12 g8 ?_)
      refine r_nm fun m9 em9 => ?_
      have h := h m9 em9
      refine r_aload_n L_47_37 rfl ?_
      refine r_getr (c' := 3) (d' := b) L_47_38 rfl rfl ?_
      refine r_getr (c' := 23) (d' := b) L_47_41 rfl rfl ?_
      refine r_iload_n L_47_44 rfl ?_
      refine r_dup2 L_47_45 ?_
      refine r_iald (N := 16) (j := x1.toNatClampNeg) L_47_46 (by decide +kernel) rfl g8 rfl ?_
      refine r_iconst L_47_47 kI_1 ?_
      refine r_iadd L_47_48 ?_
      refine r_iast (N := 16) (j := x1.toNatClampNeg) L_47_49 (by decide +kernel) rfl g8 rfl ?_
      refine r_nm fun m10 em10 => ?_
      have h := h m10 em10
      refine r_iconst L_47_50 kI_1 ?_
      exact r_iret L_47_51 RT_47 h
/-- State.hopOrStrike -/
theorem T_47 {b : Nat} {x1 : Int32} {m : aM} {Q : Int32 → aM → Prop} (h :
   a_in x1 16 = true ∧
    H_47_10 b x1 (m 20 b x1.toNatClampNeg) m Q
  ) : Mi 47 [.inr (0, b), .inl x1] m Q := by
  refine Mi_in ML_47 (show Rg 47 0 [some (.inr (0, b)), some (.inl x1), none, none] [] m (qI Q) from ?_)
  refine r_aload_n L_47_0 rfl ?_
  refine r_getr (c' := 3) (d' := b) L_47_1 rfl rfl ?_
  refine r_getr (c' := 20) (d' := b) L_47_4 rfl rfl ?_
  refine r_iload_n L_47_7 rfl ?_
  obtain ⟨g1, h⟩ := h
  refine r_iald (N := 16) (j := x1.toNatClampNeg) L_47_8 (by decide +kernel) rfl g1 rfl ?_
  refine r_istore_n (ls1 := [some (.inr (0, b)), some (.inl x1), some (.inl (m 20 b x1.toNatClampNeg)), none]) L_47_9 (Nat.le_of_ble_eq_true rfl) rfl ?_
  exact h _
/-- State.refusal -/
theorem T_48 {b : Nat} {x1 x2 : Int32} {m : aM} {Q : Int32 → aM → Prop} (h :
   a_in x1 16 = true ∧
    if ¬ m 19 b x1.toNatClampNeg = (-1) then
     Q 1 m
    else
     if (m 18 b x1.toNatClampNeg) < x2 then
      Q 2 m
     else
      Mi 49 [.inr (0, b), .inl x1, .inl x2] m (fun v5 m4 =>
       if v5 = 0 then
        Q 3 m4
       else
        Mi 50 [.inr (0, b), .inl x1, .inl x2] m4 (fun v8 m7 =>
         if v8 = (-6) then
          Q 4 m7
         else
          Q 0 m7))
  ) : Mi 48 [.inr (0, b), .inl x1, .inl x2] m Q := by
  refine Mi_in ML_48 (show Rg 48 0 [some (.inr (0, b)), some (.inl x1), some (.inl x2)] [] m (qI Q) from ?_)
  refine r_aload_n L_48_0 rfl ?_
  refine r_getr (c' := 3) (d' := b) L_48_1 rfl rfl ?_
  refine r_iload_n L_48_4 rfl ?_
  obtain ⟨g1, h⟩ := h
  refine r_cv L_48_5 rfl (V_10 g1 ?_)
  refine r_ifeqP L_48_8 (i_mono h (fun c2 h => ?_) (fun c2 h => ?_))
  · refine r_iconst L_48_11 kI_1 ?_
    exact r_iret L_48_12 RT_48 h
  · refine r_iload_n L_48_13 rfl ?_
    refine r_aload_n L_48_14 rfl ?_
    refine r_getr (c' := 3) (d' := b) L_48_15 rfl rfl ?_
    refine r_getr (c' := 18) (d' := b) L_48_18 rfl rfl ?_
    refine r_iload_n L_48_21 rfl ?_
    refine r_iald (N := 16) (j := x1.toNatClampNeg) L_48_22 (by decide +kernel) rfl g1 rfl ?_
    refine r_icmpn L_48_23 cc_le (i_mono h (fun c3 h => ?_) (fun c3 h => ?_))
    · refine r_iconst L_48_26 kI_2 ?_
      exact r_iret L_48_27 RT_48 h
    · refine r_aload_n L_48_28 rfl ?_
      refine r_iload_n L_48_29 rfl ?_
      refine r_iload_n L_48_30 rfl ?_
      refine r_cv L_48_31 rfl (Mi_mono h fun v5 m4 h => ?_)
      refine r_ifn L_48_34 rfl (i_mono h (fun c6 h => ?_) (fun c6 h => ?_))
      · refine r_iconst L_48_37 kI_3 ?_
        exact r_iret L_48_38 RT_48 h
      · refine r_aload_n L_48_39 rfl ?_
        refine r_iload_n L_48_40 rfl ?_
        refine r_iload_n L_48_41 rfl ?_
        refine r_cv L_48_42 rfl (Mi_mono h fun v8 m7 h => ?_)
        refine r_bipush L_48_45 kB_m6 ?_
        refine r_icmpn L_48_47 rfl (i_mono h (fun c9 h => ?_) (fun c9 h => ?_))
        · refine r_iconst L_48_50 kI_4 ?_
          refine r_goto L_48_51 ?_
          exact r_iret L_48_55 RT_48 h
        · refine r_iconst L_48_54 kI_0 ?_
          exact r_iret L_48_55 RT_48 h
def H_49_2 (b : Nat) (x1 x2 x3 : Int32) (m : aM) (Q : Int32 → aM → Prop) : Prop := Rg 49 2 [some (.inr (0, b)), some (.inl x1), some (.inl x2), some (.inl x3)] [] m (qI Q)
/-- State.isAllowedOnAny, the loop at 2 -/
theorem T_49_2 {b : Nat} {x1 x2 x3 : Int32} {m : aM} {Q : Int32 → aM → Prop} (h :
   if x3 < 8 then
    (a_in x1 16 = true ∧
     Mi 53 [.inr (0, b), .inl x3, .inl x2, .inl (m 16 b x1.toNatClampNeg), .inl (m 17 b x1.toNatClampNeg)] m (fun v4 m3 =>
      if v4 = 0 then
       H_49_2 b x1 x2 (x3 + 1) m3 Q
      else
       Q 1 m3))
   else
    Q 0 m
  ) : H_49_2 b x1 x2 x3 m Q := by
  show Rg 49 2 [some (.inr (0, b)), some (.inl x1), some (.inl x2), some (.inl x3)] [] m (qI Q)
  refine r_iload_n L_49_2 rfl ?_
  refine r_bipush L_49_3 kB_8 ?_
  refine r_icmpn L_49_5 cc_ge (i_mono h (fun c1 h => ?_) (fun c1 h => ?_))
  · refine r_aload_n L_49_8 rfl ?_
    refine r_iload_n L_49_9 rfl ?_
    refine r_iload_n L_49_10 rfl ?_
    refine r_aload_n L_49_11 rfl ?_
    refine r_getr (c' := 3) (d' := b) L_49_12 rfl rfl ?_
    refine r_getr (c' := 16) (d' := b) L_49_15 rfl rfl ?_
    refine r_iload_n L_49_18 rfl ?_
    obtain ⟨g2, h⟩ := h
    refine r_iald (N := 16) (j := x1.toNatClampNeg) L_49_19 (by decide +kernel) rfl g2 rfl ?_
    refine r_aload_n L_49_20 rfl ?_
    refine r_getr (c' := 3) (d' := b) L_49_21 rfl rfl ?_
    refine r_getr (c' := 17) (d' := b) L_49_24 rfl rfl ?_
    refine r_iload_n L_49_27 rfl ?_
    refine r_iald (N := 16) (j := x1.toNatClampNeg) L_49_28 (by decide +kernel) rfl g2 rfl ?_
    refine r_cv L_49_29 rfl (Mi_mono h fun v4 m3 h => ?_)
    refine r_if L_49_32 rfl (i_mono h (fun c5 h => ?_) (fun c5 h => ?_))
    · refine r_iinc (ls1 := [some (.inr (0, b)), some (.inl x1), some (.inl x2), some (.inl (x3 + 1))]) L_49_37 kI_1 rfl (Nat.le_of_ble_eq_true rfl) rfl ?_
      refine r_goto L_49_40 ?_
      exact h
    · refine r_iconst L_49_35 kI_1 ?_
      exact r_zret L_49_36 RT_49 (Or.inr rfl) h
  · refine r_iconst L_49_43 kI_0 ?_
    exact r_zret L_49_44 RT_49 (Or.inl rfl) h
/-- State.isAllowedOnAny -/
theorem T_49 {b : Nat} {x1 x2 : Int32} {m : aM} {Q : Int32 → aM → Prop} (h :
   H_49_2 b x1 x2 0 m Q
  ) : Mi 49 [.inr (0, b), .inl x1, .inl x2] m Q := by
  refine Mi_in ML_49 (show Rg 49 0 [some (.inr (0, b)), some (.inl x1), some (.inl x2), none] [] m (qI Q) from ?_)
  refine r_iconst L_49_0 kI_0 ?_
  refine r_istore_n (ls1 := [some (.inr (0, b)), some (.inl x1), some (.inl x2), some (.inl 0)]) L_49_1 (Nat.le_of_ble_eq_true rfl) rfl ?_
  exact h
def H_50_10 (b : Nat) (x1 x2 x3 x4 x5 : Int32) (m : aM) (Q : Int32 → aM → Prop) : Prop := ∀ d6 : Option aV, Rg 50 10 [some (.inr (0, b)), some (.inl x1), some (.inl x2), some (.inl x3), some (.inl x4), some (.inl x5), d6] [] m (qI Q)
/-- State.findOffer, the loop at 10 -/
theorem T_50_10 {b : Nat} {x1 x2 x3 x4 x5 : Int32} {m : aM} {Q : Int32 → aM → Prop} (h :
   if x5 < 8 then
    (a_in x1 16 = true ∧
     Mi 53 [.inr (0, b), .inl x5, .inl x2, .inl (m 16 b x1.toNatClampNeg), .inl (m 17 b x1.toNatClampNeg)] m (fun v4 m3 =>
      if v4 = 0 then
       H_50_10 b x1 x2 x3 x4 (x5 + 1) m3 Q
      else
       Mi 51 [.inr (0, b), .inl x5, .inl x1, .inl x2] m3 (fun v7 m6 =>
        if v7 = 0 then
         H_50_10 b x1 x2 x3 x4 (x5 + 1) m6 Q
        else
         Mi 16 [.inr (3, b), .inl x5] m6 (fun v10 m9 =>
          if (m9 19 b x1.toNatClampNeg) = x5 then
           (if (v10 + (-1)) < x4 then
            H_50_10 b x1 x2 x5 (v10 + (-1)) (x5 + 1) m9 Q
           else
            H_50_10 b x1 x2 x3 x4 (x5 + 1) m9 Q)
          else
           if v10 < x4 then
            H_50_10 b x1 x2 x5 v10 (x5 + 1) m9 Q
           else
            H_50_10 b x1 x2 x3 x4 (x5 + 1) m9 Q))))
   else
    Q x3 m
  ) : H_50_10 b x1 x2 x3 x4 x5 m Q := by
  intro d6
  show Rg 50 10 [some (.inr (0, b)), some (.inl x1), some (.inl x2), some (.inl x3), some (.inl x4), some (.inl x5), d6] [] m (qI Q)
  refine r_iload L_50_10 rfl ?_
  refine r_bipush L_50_12 kB_8 ?_
  refine r_icmpn L_50_14 cc_ge (i_mono h (fun c1 h => ?_) (fun c1 h => ?_))
  · refine r_aload_n L_50_17 rfl ?_
    refine r_iload L_50_18 rfl ?_
    refine r_iload_n L_50_20 rfl ?_
    refine r_aload_n L_50_21 rfl ?_
    refine r_getr (c' := 3) (d' := b) L_50_22 rfl rfl ?_
    refine r_getr (c' := 16) (d' := b) L_50_25 rfl rfl ?_
    refine r_iload_n L_50_28 rfl ?_
    obtain ⟨g2, h⟩ := h
    refine r_iald (N := 16) (j := x1.toNatClampNeg) L_50_29 (by decide +kernel) rfl g2 rfl ?_
    refine r_aload_n L_50_30 rfl ?_
    refine r_getr (c' := 3) (d' := b) L_50_31 rfl rfl ?_
    refine r_getr (c' := 17) (d' := b) L_50_34 rfl rfl ?_
    refine r_iload_n L_50_37 rfl ?_
    refine r_iald (N := 16) (j := x1.toNatClampNeg) L_50_38 (by decide +kernel) rfl g2 rfl ?_
    refine r_cv L_50_39 rfl (Mi_mono h fun v4 m3 h => ?_)
    refine r_if L_50_42 rfl (i_mono h (fun c5 h => ?_) (fun c5 h => ?_))
    · refine r_iinc (ls1 := [some (.inr (0, b)), some (.inl x1), some (.inl x2), some (.inl x3), some (.inl x4), some (.inl (x5 + 1)), d6]) L_50_98 kI_1 rfl (Nat.le_of_ble_eq_true rfl) rfl ?_
      refine r_goto L_50_101 ?_
      exact h _
    · refine r_aload_n L_50_45 rfl ?_
      refine r_iload L_50_46 rfl ?_
      refine r_iload_n L_50_48 rfl ?_
      refine r_iload_n L_50_49 rfl ?_
      refine r_cv L_50_50 rfl (Mi_mono h fun v7 m6 h => ?_)
      refine r_if L_50_53 rfl (i_mono h (fun c8 h => ?_) (fun c8 h => ?_))
      · refine r_iinc (ls1 := [some (.inr (0, b)), some (.inl x1), some (.inl x2), some (.inl x3), some (.inl x4), some (.inl (x5 + 1)), d6]) L_50_98 kI_1 rfl (Nat.le_of_ble_eq_true rfl) rfl ?_
        refine r_goto L_50_101 ?_
        exact h _
      · refine r_aload_n L_50_56 rfl ?_
        refine r_getr (c' := 3) (d' := b) L_50_57 rfl rfl ?_
        refine r_iload L_50_60 rfl ?_
        refine r_cv L_50_62 rfl (Mi_mono h fun v10 m9 h => ?_)
        refine r_istore (ls1 := [some (.inr (0, b)), some (.inl x1), some (.inl x2), some (.inl x3), some (.inl x4), some (.inl x5), some (.inl v10)]) L_50_65 (Nat.le_of_ble_eq_true rfl) rfl ?_
        refine r_aload_n L_50_67 rfl ?_
        refine r_getr (c' := 3) (d' := b) L_50_68 rfl rfl ?_
        refine r_getr (c' := 19) (d' := b) L_50_71 rfl rfl ?_
        refine r_iload_n L_50_74 rfl ?_
        refine r_iald (N := 16) (j := x1.toNatClampNeg) L_50_75 (by decide +kernel) rfl g2 rfl ?_
        refine r_iload L_50_76 rfl ?_
        refine r_icmpn L_50_78 rfl (i_mono h (fun c11 h => ?_) (fun c11 h => ?_))
        · refine r_iinc (ls1 := [some (.inr (0, b)), some (.inl x1), some (.inl x2), some (.inl x3), some (.inl x4), some (.inl x5), some (.inl (v10 + (-1)))]) L_50_81 kI_m1 rfl (Nat.le_of_ble_eq_true rfl) rfl ?_
          refine r_iload L_50_84 rfl ?_
          refine r_iload L_50_86 rfl ?_
          refine r_icmpn L_50_88 cc_ge (i_mono h (fun c12 h => ?_) (fun c12 h => ?_))
          · refine r_iload L_50_91 rfl ?_
            refine r_istore (ls1 := [some (.inr (0, b)), some (.inl x1), some (.inl x2), some (.inl x3), some (.inl (v10 + (-1))), some (.inl x5), some (.inl (v10 + (-1)))]) L_50_93 (Nat.le_of_ble_eq_true rfl) rfl ?_
            refine r_iload L_50_95 rfl ?_
            refine r_istore_n (ls1 := [some (.inr (0, b)), some (.inl x1), some (.inl x2), some (.inl x5), some (.inl (v10 + (-1))), some (.inl x5), some (.inl (v10 + (-1)))]) L_50_97 (Nat.le_of_ble_eq_true rfl) rfl ?_
            refine r_iinc (ls1 := [some (.inr (0, b)), some (.inl x1), some (.inl x2), some (.inl x5), some (.inl (v10 + (-1))), some (.inl (x5 + 1)), some (.inl (v10 + (-1)))]) L_50_98 kI_1 rfl (Nat.le_of_ble_eq_true rfl) rfl ?_
            refine r_goto L_50_101 ?_
            exact h _
          · refine r_iinc (ls1 := [some (.inr (0, b)), some (.inl x1), some (.inl x2), some (.inl x3), some (.inl x4), some (.inl (x5 + 1)), some (.inl (v10 + (-1)))]) L_50_98 kI_1 rfl (Nat.le_of_ble_eq_true rfl) rfl ?_
            refine r_goto L_50_101 ?_
            exact h _
        · refine r_iload L_50_84 rfl ?_
          refine r_iload L_50_86 rfl ?_
          refine r_icmpn L_50_88 cc_ge (i_mono h (fun c13 h => ?_) (fun c13 h => ?_))
          · refine r_iload L_50_91 rfl ?_
            refine r_istore (ls1 := [some (.inr (0, b)), some (.inl x1), some (.inl x2), some (.inl x3), some (.inl v10), some (.inl x5), some (.inl v10)]) L_50_93 (Nat.le_of_ble_eq_true rfl) rfl ?_
            refine r_iload L_50_95 rfl ?_
            refine r_istore_n (ls1 := [some (.inr (0, b)), some (.inl x1), some (.inl x2), some (.inl x5), some (.inl v10), some (.inl x5), some (.inl v10)]) L_50_97 (Nat.le_of_ble_eq_true rfl) rfl ?_
            refine r_iinc (ls1 := [some (.inr (0, b)), some (.inl x1), some (.inl x2), some (.inl x5), some (.inl v10), some (.inl (x5 + 1)), some (.inl v10)]) L_50_98 kI_1 rfl (Nat.le_of_ble_eq_true rfl) rfl ?_
            refine r_goto L_50_101 ?_
            exact h _
          · refine r_iinc (ls1 := [some (.inr (0, b)), some (.inl x1), some (.inl x2), some (.inl x3), some (.inl x4), some (.inl (x5 + 1)), some (.inl v10)]) L_50_98 kI_1 rfl (Nat.le_of_ble_eq_true rfl) rfl ?_
            refine r_goto L_50_101 ?_
            exact h _
  · refine r_iload_n L_50_104 rfl ?_
    exact r_iret L_50_105 RT_50 h
/-- State.findOffer -/
theorem T_50 {b : Nat} {x1 x2 : Int32} {m : aM} {Q : Int32 → aM → Prop} (h :
   H_50_10 b x1 x2 (-6) 16 0 m Q
  ) : Mi 50 [.inr (0, b), .inl x1, .inl x2] m Q := by
  refine Mi_in ML_50 (show Rg 50 0 [some (.inr (0, b)), some (.inl x1), some (.inl x2), none, none, none, none] [] m (qI Q) from ?_)
  refine r_bipush L_50_0 kB_m6 ?_
  refine r_istore_n (ls1 := [some (.inr (0, b)), some (.inl x1), some (.inl x2), some (.inl (-6)), none, none, none]) L_50_2 (Nat.le_of_ble_eq_true rfl) rfl ?_
  refine r_bipush L_50_3 kB_16 ?_
  refine r_istore (ls1 := [some (.inr (0, b)), some (.inl x1), some (.inl x2), some (.inl (-6)), some (.inl 16), none, none]) L_50_5 (Nat.le_of_ble_eq_true rfl) rfl ?_
  refine r_iconst L_50_7 kI_0 ?_
  refine r_istore (ls1 := [some (.inr (0, b)), some (.inl x1), some (.inl x2), some (.inl (-6)), some (.inl 16), some (.inl 0), none]) L_50_8 (Nat.le_of_ble_eq_true rfl) rfl ?_
  exact h _
def H_51_3 (b : Nat) (x1 x2 x3 x4 : Int32) (m : aM) (Q : Int32 → aM → Prop) : Prop := Rg 51 3 [some (.inr (0, b)), some (.inl x1), some (.inl x2), some (.inl x3), some (.inl x4)] [] m (qI Q)
/-- State.isFree, the loop at 3 -/
theorem T_51_3 {b : Nat} {x1 x2 x3 x4 : Int32} {m : aM} {Q : Int32 → aM → Prop} (h :
   if x4 < (m 3 b 10) then
    (if x4 = x2 then
     H_51_3 b x1 x2 x3 (x4 + 1) m Q
    else
     a_in x4 16 = true ∧
      if (m 19 b x4.toNatClampNeg) = x1 then
       (a_in x2 16 = true ∧
        a_in (m 20 b x4.toNatClampNeg) 4 = true ∧
         a_in x3 4 = true ∧
          if ¬ ((m 42 0 (m 20 b x4.toNatClampNeg).toNatClampNeg) + (m 42 0 x3.toNatClampNeg)) * ((m 42 0 (m 20 b x4.toNatClampNeg).toNatClampNeg) + (m 42 0 x3.toNatClampNeg)) < ((m 16 b x4.toNatClampNeg) - (m 16 b x2.toNatClampNeg)) * ((m 16 b x4.toNatClampNeg) - (m 16 b x2.toNatClampNeg)) + ((m 17 b x4.toNatClampNeg) - (m 17 b x2.toNatClampNeg)) * ((m 17 b x4.toNatClampNeg) - (m 17 b x2.toNatClampNeg)) then
           Q 0 m
          else
           H_51_3 b x1 x2 x3 (x4 + 1) m Q)
      else
       H_51_3 b x1 x2 x3 (x4 + 1) m Q)
   else
    Q 1 m
  ) : H_51_3 b x1 x2 x3 x4 m Q := by
  show Rg 51 3 [some (.inr (0, b)), some (.inl x1), some (.inl x2), some (.inl x3), some (.inl x4)] [] m (qI Q)
  refine r_iload L_51_3 rfl ?_
  refine r_aload_n L_51_5 rfl ?_
  refine r_getr (c' := 3) (d' := b) L_51_6 rfl rfl ?_
  refine r_geti L_51_9 rfl rfl ?_
  refine r_icmpn L_51_12 cc_ge (i_mono h (fun c1 h => ?_) (fun c1 h => ?_))
  · refine r_iload L_51_15 rfl ?_
    refine r_iload_n L_51_17 rfl ?_
    refine r_icmp L_51_18 rfl (i_mono h (fun c2 h => ?_) (fun c2 h => ?_))
    · refine r_iinc (ls1 := [some (.inr (0, b)), some (.inl x1), some (.inl x2), some (.inl x3), some (.inl (x4 + 1))]) L_51_103 kI_1 rfl (Nat.le_of_ble_eq_true rfl) rfl ?_
      refine r_goto L_51_106 ?_
      exact h
    · refine r_aload_n L_51_21 rfl ?_
      refine r_getr (c' := 3) (d' := b) L_51_22 rfl rfl ?_
      refine r_getr (c' := 19) (d' := b) L_51_25 rfl rfl ?_
      refine r_iload L_51_28 rfl ?_
      obtain ⟨g3, h⟩ := h
      refine r_iald (N := 16) (j := x4.toNatClampNeg) L_51_30 (by decide +kernel) rfl g3 rfl ?_
      refine r_iload_n L_51_31 rfl ?_
      refine r_icmpn L_51_32 rfl (i_mono h (fun c4 h => ?_) (fun c4 h => ?_))
      · refine r_aload_n L_51_35 rfl ?_
        refine r_getr (c' := 3) (d' := b) L_51_36 rfl rfl ?_
        refine r_getr (c' := 16) (d' := b) L_51_39 rfl rfl ?_
        refine r_iload L_51_42 rfl ?_
        refine r_iald (N := 16) (j := x4.toNatClampNeg) L_51_44 (by decide +kernel) rfl g3 rfl ?_
        refine r_aload_n L_51_45 rfl ?_
        refine r_getr (c' := 3) (d' := b) L_51_46 rfl rfl ?_
        refine r_getr (c' := 16) (d' := b) L_51_49 rfl rfl ?_
        refine r_iload_n L_51_52 rfl ?_
        obtain ⟨g5, h⟩ := h
        refine r_iald (N := 16) (j := x2.toNatClampNeg) L_51_53 (by decide +kernel) rfl g5 rfl ?_
        refine r_isub L_51_54 ?_
        refine r_aload_n L_51_55 rfl ?_
        refine r_getr (c' := 3) (d' := b) L_51_56 rfl rfl ?_
        refine r_getr (c' := 17) (d' := b) L_51_59 rfl rfl ?_
        refine r_iload L_51_62 rfl ?_
        refine r_iald (N := 16) (j := x4.toNatClampNeg) L_51_64 (by decide +kernel) rfl g3 rfl ?_
        refine r_aload_n L_51_65 rfl ?_
        refine r_getr (c' := 3) (d' := b) L_51_66 rfl rfl ?_
        refine r_getr (c' := 17) (d' := b) L_51_69 rfl rfl ?_
        refine r_iload_n L_51_72 rfl ?_
        refine r_iald (N := 16) (j := x2.toNatClampNeg) L_51_73 (by decide +kernel) rfl g5 rfl ?_
        refine r_isub L_51_74 ?_
        refine r_gets L_51_75 ?_
        refine r_aload_n L_51_78 rfl ?_
        refine r_getr (c' := 3) (d' := b) L_51_79 rfl rfl ?_
        refine r_getr (c' := 20) (d' := b) L_51_82 rfl rfl ?_
        refine r_iload L_51_85 rfl ?_
        refine r_iald (N := 16) (j := x4.toNatClampNeg) L_51_87 (by decide +kernel) rfl g3 rfl ?_
        obtain ⟨g6, h⟩ := h
        refine r_iald (N := 4) (j := (m 20 b x4.toNatClampNeg).toNatClampNeg) L_51_88 (by decide +kernel) rfl g6 rfl ?_
        refine r_gets L_51_89 ?_
        refine r_iload_n L_51_92 rfl ?_
        obtain ⟨g7, h⟩ := h
        refine r_iald (N := 4) (j := x3.toNatClampNeg) L_51_93 (by decide +kernel) rfl g7 rfl ?_
        refine r_iadd L_51_94 ?_
        refine r_cs L_51_95 (by decide) rfl (V_95 ?_)
        refine r_ifeqP L_51_98 (i_mono h (fun c8 h => ?_) (fun c8 h => ?_))
        · refine r_iconst L_51_101 kI_0 ?_
          exact r_zret L_51_102 RT_51 (Or.inl rfl) h
        · refine r_iinc (ls1 := [some (.inr (0, b)), some (.inl x1), some (.inl x2), some (.inl x3), some (.inl (x4 + 1))]) L_51_103 kI_1 rfl (Nat.le_of_ble_eq_true rfl) rfl ?_
          refine r_goto L_51_106 ?_
          exact h
      · refine r_iinc (ls1 := [some (.inr (0, b)), some (.inl x1), some (.inl x2), some (.inl x3), some (.inl (x4 + 1))]) L_51_103 kI_1 rfl (Nat.le_of_ble_eq_true rfl) rfl ?_
        refine r_goto L_51_106 ?_
        exact h
  · refine r_iconst L_51_109 kI_1 ?_
    exact r_zret L_51_110 RT_51 (Or.inr rfl) h
/-- State.isFree -/
theorem T_51 {b : Nat} {x1 x2 x3 : Int32} {m : aM} {Q : Int32 → aM → Prop} (h :
   H_51_3 b x1 x2 x3 0 m Q
  ) : Mi 51 [.inr (0, b), .inl x1, .inl x2, .inl x3] m Q := by
  refine Mi_in ML_51 (show Rg 51 0 [some (.inr (0, b)), some (.inl x1), some (.inl x2), some (.inl x3), none] [] m (qI Q) from ?_)
  refine r_iconst L_51_0 kI_0 ?_
  refine r_istore (ls1 := [some (.inr (0, b)), some (.inl x1), some (.inl x2), some (.inl x3), some (.inl 0)]) L_51_1 (Nat.le_of_ble_eq_true rfl) rfl ?_
  exact h
/-- State.leaseIsAllowed -/
theorem T_52 {b : Nat} {x1 : Int32} {m : aM} {Q : Int32 → aM → Prop} (h :
   a_in x1 16 = true ∧
    Mi 53 [.inr (0, b), .inl (m 19 b x1.toNatClampNeg), .inl (m 20 b x1.toNatClampNeg), .inl (m 16 b x1.toNatClampNeg), .inl (m 17 b x1.toNatClampNeg)] m (fun v3 m2 =>
     (v3 = 0 ∨ v3 = 1) ∧
      Q v3 m2)
  ) : Mi 52 [.inr (0, b), .inl x1] m Q := by
  refine Mi_in ML_52 (show Rg 52 0 [some (.inr (0, b)), some (.inl x1)] [] m (qI Q) from ?_)
  refine r_aload_n L_52_0 rfl ?_
  refine r_aload_n L_52_1 rfl ?_
  refine r_getr (c' := 3) (d' := b) L_52_2 rfl rfl ?_
  refine r_getr (c' := 19) (d' := b) L_52_5 rfl rfl ?_
  refine r_iload_n L_52_8 rfl ?_
  obtain ⟨g1, h⟩ := h
  refine r_iald (N := 16) (j := x1.toNatClampNeg) L_52_9 (by decide +kernel) rfl g1 rfl ?_
  refine r_aload_n L_52_10 rfl ?_
  refine r_getr (c' := 3) (d' := b) L_52_11 rfl rfl ?_
  refine r_getr (c' := 20) (d' := b) L_52_14 rfl rfl ?_
  refine r_iload_n L_52_17 rfl ?_
  refine r_iald (N := 16) (j := x1.toNatClampNeg) L_52_18 (by decide +kernel) rfl g1 rfl ?_
  refine r_aload_n L_52_19 rfl ?_
  refine r_getr (c' := 3) (d' := b) L_52_20 rfl rfl ?_
  refine r_getr (c' := 16) (d' := b) L_52_23 rfl rfl ?_
  refine r_iload_n L_52_26 rfl ?_
  refine r_iald (N := 16) (j := x1.toNatClampNeg) L_52_27 (by decide +kernel) rfl g1 rfl ?_
  refine r_aload_n L_52_28 rfl ?_
  refine r_getr (c' := 3) (d' := b) L_52_29 rfl rfl ?_
  refine r_getr (c' := 17) (d' := b) L_52_32 rfl rfl ?_
  refine r_iload_n L_52_35 rfl ?_
  refine r_iald (N := 16) (j := x1.toNatClampNeg) L_52_36 (by decide +kernel) rfl g1 rfl ?_
  refine r_cv L_52_37 rfl (Mi_mono h fun v3 m2 h => ?_)
  exact r_zret L_52_40 RT_52 h.1 h.2
def H_53_3 (b : Nat) (x1 x2 x3 x4 x5 : Int32) (m : aM) (Q : Int32 → aM → Prop) : Prop := ∀ d6 : Option aV, Rg 53 3 [some (.inr (0, b)), some (.inl x1), some (.inl x2), some (.inl x3), some (.inl x4), some (.inl x5), d6] [] m (qI Q)
def H_53_80 (b : Nat) (x1 x2 x3 x4 x5 : Int32) (m : aM) (Q : Int32 → aM → Prop) : Prop := ∀ d6 : Option aV, Rg 53 80 [some (.inr (0, b)), some (.inl x1), some (.inl x2), some (.inl x3), some (.inl x4), some (.inl x5), d6] [] m (qI Q)
/-- State.isAllowed, the loop at 80 -/
theorem T_53_80 {b : Nat} {x1 x2 x3 x4 x5 : Int32} {m : aM} {Q : Int32 → aM → Prop} (h :
   if x5 < (m 2 b 7) then
    (a_in x5 8 = true ∧
     if (m 12 b x5.toNatClampNeg) = x1 then
      (if m 15 b x5.toNatClampNeg = 0 ∧ ¬ (m 0 b 4) < m 13 b x5.toNatClampNeg ∧ (m 0 b 4) < m 14 b x5.toNatClampNeg then
       (a_in x2 4 = true ∧
        if ¬ ((m 11 b x5.toNatClampNeg) + (m 42 0 x2.toNatClampNeg)) * ((m 11 b x5.toNatClampNeg) + (m 42 0 x2.toNatClampNeg)) < ((m 9 b x5.toNatClampNeg) - x3) * ((m 9 b x5.toNatClampNeg) - x3) + ((m 10 b x5.toNatClampNeg) - x4) * ((m 10 b x5.toNatClampNeg) - x4) then
         Q 0 m
        else
         H_53_80 b x1 x2 x3 x4 (x5 + 1) m Q)
      else
       H_53_80 b x1 x2 x3 x4 (x5 + 1) m Q)
     else
      H_53_80 b x1 x2 x3 x4 (x5 + 1) m Q)
   else
    Q 1 m
  ) : H_53_80 b x1 x2 x3 x4 x5 m Q := by
  intro d6
  show Rg 53 80 [some (.inr (0, b)), some (.inl x1), some (.inl x2), some (.inl x3), some (.inl x4), some (.inl x5), d6] [] m (qI Q)
  refine r_iload L_53_80 rfl ?_
  refine r_aload_n L_53_82 rfl ?_
  refine r_getr (c' := 2) (d' := b) L_53_83 rfl rfl ?_
  refine r_geti L_53_86 rfl rfl ?_
  refine r_icmpn L_53_89 cc_ge (i_mono h (fun c1 h => ?_) (fun c1 h => ?_))
  · refine r_aload_n L_53_92 rfl ?_
    refine r_getr (c' := 2) (d' := b) L_53_93 rfl rfl ?_
    refine r_getr (c' := 12) (d' := b) L_53_96 rfl rfl ?_
    refine r_iload L_53_99 rfl ?_
    obtain ⟨g2, h⟩ := h
    refine r_iald (N := 8) (j := x5.toNatClampNeg) L_53_101 (by decide +kernel) rfl g2 rfl ?_
    refine r_iload_n L_53_102 rfl ?_
    refine r_icmpn L_53_103 rfl (i_mono h (fun c3 h => ?_) (fun c3 h => ?_))
    · refine r_aload_n L_53_106 rfl ?_
      refine r_getr (c' := 2) (d' := b) L_53_107 rfl rfl ?_
      refine r_iload L_53_110 rfl ?_
      refine r_aload_n L_53_112 rfl ?_
      refine r_geti L_53_113 rfl rfl ?_
      refine r_cv L_53_116 rfl (V_24 g2 ?_)
      refine r_ifeqP L_53_119 (i_mono h (fun c4 h => ?_) (fun c4 h => ?_))
      · refine r_aload_n L_53_122 rfl ?_
        refine r_getr (c' := 2) (d' := b) L_53_123 rfl rfl ?_
        refine r_getr (c' := 9) (d' := b) L_53_126 rfl rfl ?_
        refine r_iload L_53_129 rfl ?_
        refine r_iald (N := 8) (j := x5.toNatClampNeg) L_53_131 (by decide +kernel) rfl g2 rfl ?_
        refine r_iload_n L_53_132 rfl ?_
        refine r_isub L_53_133 ?_
        refine r_aload_n L_53_134 rfl ?_
        refine r_getr (c' := 2) (d' := b) L_53_135 rfl rfl ?_
        refine r_getr (c' := 10) (d' := b) L_53_138 rfl rfl ?_
        refine r_iload L_53_141 rfl ?_
        refine r_iald (N := 8) (j := x5.toNatClampNeg) L_53_143 (by decide +kernel) rfl g2 rfl ?_
        refine r_iload L_53_144 rfl ?_
        refine r_isub L_53_146 ?_
        refine r_aload_n L_53_147 rfl ?_
        refine r_getr (c' := 2) (d' := b) L_53_148 rfl rfl ?_
        refine r_getr (c' := 11) (d' := b) L_53_151 rfl rfl ?_
        refine r_iload L_53_154 rfl ?_
        refine r_iald (N := 8) (j := x5.toNatClampNeg) L_53_156 (by decide +kernel) rfl g2 rfl ?_
        refine r_gets L_53_157 ?_
        refine r_iload_n L_53_160 rfl ?_
        obtain ⟨g5, h⟩ := h
        refine r_iald (N := 4) (j := x2.toNatClampNeg) L_53_161 (by decide +kernel) rfl g5 rfl ?_
        refine r_iadd L_53_162 ?_
        refine r_cs L_53_163 (by decide) rfl (V_95 ?_)
        refine r_ifeqP L_53_166 (i_mono h (fun c6 h => ?_) (fun c6 h => ?_))
        · refine r_iconst L_53_169 kI_0 ?_
          exact r_zret L_53_170 RT_53 (Or.inl rfl) h
        · refine r_iinc (ls1 := [some (.inr (0, b)), some (.inl x1), some (.inl x2), some (.inl x3), some (.inl x4), some (.inl (x5 + 1)), d6]) L_53_171 kI_1 rfl (Nat.le_of_ble_eq_true rfl) rfl ?_
          refine r_goto L_53_174 ?_
          exact h _
      · refine r_iinc (ls1 := [some (.inr (0, b)), some (.inl x1), some (.inl x2), some (.inl x3), some (.inl x4), some (.inl (x5 + 1)), d6]) L_53_171 kI_1 rfl (Nat.le_of_ble_eq_true rfl) rfl ?_
        refine r_goto L_53_174 ?_
        exact h _
    · refine r_iinc (ls1 := [some (.inr (0, b)), some (.inl x1), some (.inl x2), some (.inl x3), some (.inl x4), some (.inl (x5 + 1)), d6]) L_53_171 kI_1 rfl (Nat.le_of_ble_eq_true rfl) rfl ?_
      refine r_goto L_53_174 ?_
      exact h _
  · refine r_iconst L_53_177 kI_1 ?_
    exact r_zret L_53_178 RT_53 (Or.inr rfl) h
/-- State.isAllowed, the loop at 3 -/
theorem T_53_3 {b : Nat} {x1 x2 x3 x4 x5 : Int32} {m : aM} {Q : Int32 → aM → Prop} (h :
   if x5 < (m 1 b 5) then
    (Mi 54 [.inr (0, b), .inl x5, .inl x1] m (fun v3 m2 =>
     if v3 = (-1) then
      H_53_3 b x1 x2 x3 x4 (x5 + 1) m2 Q
     else
      a_in x5 8 = true ∧
       a_in x2 4 = true ∧
        if ¬ (v3 + (m2 42 0 x2.toNatClampNeg)) * (v3 + (m2 42 0 x2.toNatClampNeg)) < ((m2 4 b x5.toNatClampNeg) - x3) * ((m2 4 b x5.toNatClampNeg) - x3) + ((m2 5 b x5.toNatClampNeg) - x4) * ((m2 5 b x5.toNatClampNeg) - x4) then
         Q 0 m2
        else
         H_53_3 b x1 x2 x3 x4 (x5 + 1) m2 Q))
   else
    H_53_80 b x1 x2 x3 x4 0 m Q
  ) : H_53_3 b x1 x2 x3 x4 x5 m Q := by
  intro d6
  show Rg 53 3 [some (.inr (0, b)), some (.inl x1), some (.inl x2), some (.inl x3), some (.inl x4), some (.inl x5), d6] [] m (qI Q)
  refine r_iload L_53_3 rfl ?_
  refine r_aload_n L_53_5 rfl ?_
  refine r_getr (c' := 1) (d' := b) L_53_6 rfl rfl ?_
  refine r_geti L_53_9 rfl rfl ?_
  refine r_icmpn L_53_12 cc_ge (i_mono h (fun c1 h => ?_) (fun c1 h => ?_))
  · refine r_aload_n L_53_15 rfl ?_
    refine r_iload L_53_16 rfl ?_
    refine r_iload_n L_53_18 rfl ?_
    refine r_cv L_53_19 rfl (Mi_mono h fun v3 m2 h => ?_)
    refine r_istore (ls1 := [some (.inr (0, b)), some (.inl x1), some (.inl x2), some (.inl x3), some (.inl x4), some (.inl x5), some (.inl v3)]) L_53_22 (Nat.le_of_ble_eq_true rfl) rfl ?_
    refine r_iload L_53_24 rfl ?_
    refine r_iconst L_53_26 kI_m1 ?_
    refine r_icmp L_53_27 rfl (i_mono h (fun c4 h => ?_) (fun c4 h => ?_))
    · refine r_iinc (ls1 := [some (.inr (0, b)), some (.inl x1), some (.inl x2), some (.inl x3), some (.inl x4), some (.inl (x5 + 1)), some (.inl v3)]) L_53_71 kI_1 rfl (Nat.le_of_ble_eq_true rfl) rfl ?_
      refine r_goto L_53_74 ?_
      exact h _
    · refine r_aload_n L_53_30 rfl ?_
      refine r_getr (c' := 1) (d' := b) L_53_31 rfl rfl ?_
      refine r_getr (c' := 4) (d' := b) L_53_34 rfl rfl ?_
      refine r_iload L_53_37 rfl ?_
      obtain ⟨g5, h⟩ := h
      refine r_iald (N := 8) (j := x5.toNatClampNeg) L_53_39 (by decide +kernel) rfl g5 rfl ?_
      refine r_iload_n L_53_40 rfl ?_
      refine r_isub L_53_41 ?_
      refine r_aload_n L_53_42 rfl ?_
      refine r_getr (c' := 1) (d' := b) L_53_43 rfl rfl ?_
      refine r_getr (c' := 5) (d' := b) L_53_46 rfl rfl ?_
      refine r_iload L_53_49 rfl ?_
      refine r_iald (N := 8) (j := x5.toNatClampNeg) L_53_51 (by decide +kernel) rfl g5 rfl ?_
      refine r_iload L_53_52 rfl ?_
      refine r_isub L_53_54 ?_
      refine r_iload L_53_55 rfl ?_
      refine r_gets L_53_57 ?_
      refine r_iload_n L_53_60 rfl ?_
      obtain ⟨g6, h⟩ := h
      refine r_iald (N := 4) (j := x2.toNatClampNeg) L_53_61 (by decide +kernel) rfl g6 rfl ?_
      refine r_iadd L_53_62 ?_
      refine r_cs L_53_63 (by decide) rfl (V_95 ?_)
      refine r_ifeqP L_53_66 (i_mono h (fun c7 h => ?_) (fun c7 h => ?_))
      · refine r_iconst L_53_69 kI_0 ?_
        exact r_zret L_53_70 RT_53 (Or.inl rfl) h
      · refine r_iinc (ls1 := [some (.inr (0, b)), some (.inl x1), some (.inl x2), some (.inl x3), some (.inl x4), some (.inl (x5 + 1)), some (.inl v3)]) L_53_71 kI_1 rfl (Nat.le_of_ble_eq_true rfl) rfl ?_
        refine r_goto L_53_74 ?_
        exact h _
  · refine r_iconst L_53_77 kI_0 ?_
    refine r_istore (ls1 := [some (.inr (0, b)), some (.inl x1), some (.inl x2), some (.inl x3), some (.inl x4), some (.inl 0), d6]) L_53_78 (Nat.le_of_ble_eq_true rfl) rfl ?_
    exact h _
/-- State.isAllowed -/
theorem T_53 {b : Nat} {x1 x2 x3 x4 : Int32} {m : aM} {Q : Int32 → aM → Prop} (h :
   H_53_3 b x1 x2 x3 x4 0 m Q
  ) : Mi 53 [.inr (0, b), .inl x1, .inl x2, .inl x3, .inl x4] m Q := by
  refine Mi_in ML_53 (show Rg 53 0 [some (.inr (0, b)), some (.inl x1), some (.inl x2), some (.inl x3), some (.inl x4), none, none] [] m (qI Q) from ?_)
  refine r_iconst L_53_0 kI_0 ?_
  refine r_istore (ls1 := [some (.inr (0, b)), some (.inl x1), some (.inl x2), some (.inl x3), some (.inl x4), some (.inl 0), none]) L_53_1 (Nat.le_of_ble_eq_true rfl) rfl ?_
  exact h _
/-- State.barredRadius -/
theorem T_54 {b : Nat} {x1 x2 : Int32} {m : aM} {Q : Int32 → aM → Prop} (h :
   a_in x1 8 = true ∧
    if (m 8 b x1.toNatClampNeg) = 0 then
     Q (-1) m
    else
     a_in (m 7 b x1.toNatClampNeg) 5 = true ∧
      if ((m 6 b x1.toNatClampNeg) - x2) = 0 then
       Q (m 41 0 (m 7 b x1.toNatClampNeg).toNatClampNeg) m
      else
       if ((m 6 b x1.toNatClampNeg) - x2) = 1 then
        Q (((m 41 0 (m 7 b x1.toNatClampNeg).toNatClampNeg) * (m 26 b 0)) / 100) m
       else
        if ((m 6 b x1.toNatClampNeg) - x2) = (-1) then
         Q (((m 41 0 (m 7 b x1.toNatClampNeg).toNatClampNeg) * (m 26 b 0)) / 100) m
        else
         Q (-1) m
  ) : Mi 54 [.inr (0, b), .inl x1, .inl x2] m Q := by
  refine Mi_in ML_54 (show Rg 54 0 [some (.inr (0, b)), some (.inl x1), some (.inl x2), none, none] [] m (qI Q) from ?_)
  refine r_aload_n L_54_0 rfl ?_
  refine r_getr (c' := 1) (d' := b) L_54_1 rfl rfl ?_
  refine r_getr (c' := 8) (d' := b) L_54_4 rfl rfl ?_
  refine r_iload_n L_54_7 rfl ?_
  obtain ⟨g1, h⟩ := h
  refine r_iald (N := 8) (j := x1.toNatClampNeg) L_54_8 (by decide +kernel) rfl g1 rfl ?_
  refine r_ifn L_54_9 rfl (i_mono h (fun c2 h => ?_) (fun c2 h => ?_))
  · refine r_iconst L_54_12 kI_m1 ?_
    exact r_iret L_54_13 RT_54 h
  · refine r_gets L_54_14 ?_
    refine r_aload_n L_54_17 rfl ?_
    refine r_getr (c' := 1) (d' := b) L_54_18 rfl rfl ?_
    refine r_getr (c' := 7) (d' := b) L_54_21 rfl rfl ?_
    refine r_iload_n L_54_24 rfl ?_
    refine r_iald (N := 8) (j := x1.toNatClampNeg) L_54_25 (by decide +kernel) rfl g1 rfl ?_
    obtain ⟨g3, h⟩ := h
    refine r_iald (N := 5) (j := (m 7 b x1.toNatClampNeg).toNatClampNeg) L_54_26 (by decide +kernel) rfl g3 rfl ?_
    refine r_istore_n (ls1 := [some (.inr (0, b)), some (.inl x1), some (.inl x2), some (.inl (m 41 0 (m 7 b x1.toNatClampNeg).toNatClampNeg)), none]) L_54_27 (Nat.le_of_ble_eq_true rfl) rfl ?_
    refine r_aload_n L_54_28 rfl ?_
    refine r_getr (c' := 1) (d' := b) L_54_29 rfl rfl ?_
    refine r_getr (c' := 6) (d' := b) L_54_32 rfl rfl ?_
    refine r_iload_n L_54_35 rfl ?_
    refine r_iald (N := 8) (j := x1.toNatClampNeg) L_54_36 (by decide +kernel) rfl g1 rfl ?_
    refine r_iload_n L_54_37 rfl ?_
    refine r_isub L_54_38 ?_
    refine r_istore (ls1 := [some (.inr (0, b)), some (.inl x1), some (.inl x2), some (.inl (m 41 0 (m 7 b x1.toNatClampNeg).toNatClampNeg)), some (.inl ((m 6 b x1.toNatClampNeg) - x2))]) L_54_39 (Nat.le_of_ble_eq_true rfl) rfl ?_
    refine r_iload L_54_41 rfl ?_
    refine r_ifn L_54_43 rfl (i_mono h (fun c4 h => ?_) (fun c4 h => ?_))
    · refine r_iload_n L_54_46 rfl ?_
      exact r_iret L_54_47 RT_54 h
    · refine r_iload L_54_48 rfl ?_
      refine r_iconst L_54_50 kI_1 ?_
      refine r_icmp L_54_51 rfl (i_mono h (fun c5 h => ?_) (fun c5 h => ?_))
      · refine r_iload_n L_54_60 rfl ?_
        refine r_aload_n L_54_61 rfl ?_
        refine r_getr (c' := 26) (d' := b) L_54_62 rfl rfl ?_
        refine r_iconst L_54_65 kI_0 ?_
        refine r_iald (N := 3) (j := 0) L_54_66 (by decide +kernel) rfl (by decide +kernel) (by decide +kernel) ?_
        refine r_imul L_54_67 ?_
        refine r_bipush L_54_68 kB_100 ?_
        refine r_idiv L_54_70 (by decide +kernel) ?_
        exact r_iret L_54_71 RT_54 h
      · refine r_iload L_54_54 rfl ?_
        refine r_iconst L_54_56 kI_m1 ?_
        refine r_icmpn L_54_57 rfl (i_mono h (fun c6 h => ?_) (fun c6 h => ?_))
        · refine r_iload_n L_54_60 rfl ?_
          refine r_aload_n L_54_61 rfl ?_
          refine r_getr (c' := 26) (d' := b) L_54_62 rfl rfl ?_
          refine r_iconst L_54_65 kI_0 ?_
          refine r_iald (N := 3) (j := 0) L_54_66 (by decide +kernel) rfl (by decide +kernel) (by decide +kernel) ?_
          refine r_imul L_54_67 ?_
          refine r_bipush L_54_68 kB_100 ?_
          refine r_idiv L_54_70 (by decide +kernel) ?_
          exact r_iret L_54_71 RT_54 h
        · refine r_iconst L_54_72 kI_m1 ?_
          exact r_iret L_54_73 RT_54 h
/-- State.tellTotal -/
theorem T_55 {b : Nat} {x1 : Int32} {m : aM} {Q : Int32 → aM → Prop} (h :
   if x1 = 0 then
    Q (m 0 b 4) m
   else
   if x1 = 1 then
    Q (m 1 b 5) m
   else
   if x1 = 2 then
    Q (m 2 b 7) m
   else
   if x1 = 3 then
    Q (m 3 b 10) m
   else
   if x1 = 4 then
    (Mi 58 [.inr (1, b)] m (fun v7 m6 =>
     Q v7 m6))
   else
   if x1 = 5 then
    (Mi 15 [.inr (3, b)] m (fun v10 m9 =>
     Q v10 m9))
   else
   if x1 = 6 then
    (Mi 17 [.inr (3, b)] m (fun v13 m12 =>
     Q v13 m12))
   else
   if x1 = 7 then
    (Mi 18 [.inr (3, b), .inr (23, b)] m (fun v16 m15 =>
     Q v16 m15))
   else
   if x1 = 8 then
    (Mi 18 [.inr (3, b), .inr (24, b)] m (fun v19 m18 =>
     Q v19 m18))
   else
   if x1 = 9 then
    (Mi 18 [.inr (3, b), .inr (25, b)] m (fun v22 m21 =>
     Q v22 m21))
   else
   if x1 = 10 then
    Q (m 0 b 5) m
   else
   if x1 = 11 then
    Q (m 26 b 2) m
   else
   if x1 = 12 then
    Q (m 26 b 2) m
   else
   if x1 = 13 then
    Q (m 26 b 0) m
   else
   if x1 = 14 then
    Q (m 26 b 1) m
   else
    Q (m 26 b 2) m
  ) : Mi 55 [.inr (0, b), .inl x1] m Q := by
  refine Mi_in ML_55 (show Rg 55 0 [some (.inr (0, b)), some (.inl x1)] [] m (qI Q) from ?_)
  refine r_iload_n L_55_0 rfl ?_
  refine r_tsw2 L_55_1 (by decide) (by decide) ?_
  refine sw_t (tgt := 76) kT_0 (by decide) (i_mono h (fun c1 h => ?_) (fun c1 h => ?_))
  · refine r_aload_n L_55_76 rfl ?_
    refine r_geti L_55_77 rfl rfl ?_
    exact r_iret L_55_80 RT_55 h
  · skip
    refine sw_t (tgt := 81) kT_1 (by decide) (i_mono h (fun c2 h => ?_) (fun c2 h => ?_))
    · refine r_aload_n L_55_81 rfl ?_
      refine r_getr (c' := 1) (d' := b) L_55_82 rfl rfl ?_
      refine r_geti L_55_85 rfl rfl ?_
      exact r_iret L_55_88 RT_55 h
    · skip
      refine sw_t (tgt := 89) kT_2 (by decide) (i_mono h (fun c3 h => ?_) (fun c3 h => ?_))
      · refine r_aload_n L_55_89 rfl ?_
        refine r_getr (c' := 2) (d' := b) L_55_90 rfl rfl ?_
        refine r_geti L_55_93 rfl rfl ?_
        exact r_iret L_55_96 RT_55 h
      · skip
        refine sw_t (tgt := 97) kT_3 (by decide) (i_mono h (fun c4 h => ?_) (fun c4 h => ?_))
        · refine r_aload_n L_55_97 rfl ?_
          refine r_getr (c' := 3) (d' := b) L_55_98 rfl rfl ?_
          refine r_geti L_55_101 rfl rfl ?_
          exact r_iret L_55_104 RT_55 h
        · skip
          refine sw_t (tgt := 105) kT_4 (by decide) (i_mono h (fun c5 h => ?_) (fun c5 h => ?_))
          · refine r_aload_n L_55_105 rfl ?_
            refine r_getr (c' := 1) (d' := b) L_55_106 rfl rfl ?_
            refine r_cv L_55_109 rfl (Mi_mono h fun v7 m6 h => ?_)
            exact r_iret L_55_112 RT_55 h
          · skip
            refine sw_t (tgt := 113) kT_5 (by decide) (i_mono h (fun c8 h => ?_) (fun c8 h => ?_))
            · refine r_aload_n L_55_113 rfl ?_
              refine r_getr (c' := 3) (d' := b) L_55_114 rfl rfl ?_
              refine r_cv L_55_117 rfl (Mi_mono h fun v10 m9 h => ?_)
              exact r_iret L_55_120 RT_55 h
            · skip
              refine sw_t (tgt := 121) kT_6 (by decide) (i_mono h (fun c11 h => ?_) (fun c11 h => ?_))
              · refine r_aload_n L_55_121 rfl ?_
                refine r_getr (c' := 3) (d' := b) L_55_122 rfl rfl ?_
                refine r_cv L_55_125 rfl (Mi_mono h fun v13 m12 h => ?_)
                exact r_iret L_55_128 RT_55 h
              · skip
                refine sw_t (tgt := 129) kT_7 (by decide) (i_mono h (fun c14 h => ?_) (fun c14 h => ?_))
                · refine r_aload_n L_55_129 rfl ?_
                  refine r_getr (c' := 3) (d' := b) L_55_130 rfl rfl ?_
                  refine r_aload_n L_55_133 rfl ?_
                  refine r_getr (c' := 3) (d' := b) L_55_134 rfl rfl ?_
                  refine r_getr (c' := 23) (d' := b) L_55_137 rfl rfl ?_
                  refine r_cv L_55_140 rfl (Mi_mono h fun v16 m15 h => ?_)
                  exact r_iret L_55_143 RT_55 h
                · skip
                  refine sw_t (tgt := 144) kT_8 (by decide) (i_mono h (fun c17 h => ?_) (fun c17 h => ?_))
                  · refine r_aload_n L_55_144 rfl ?_
                    refine r_getr (c' := 3) (d' := b) L_55_145 rfl rfl ?_
                    refine r_aload_n L_55_148 rfl ?_
                    refine r_getr (c' := 3) (d' := b) L_55_149 rfl rfl ?_
                    refine r_getr (c' := 24) (d' := b) L_55_152 rfl rfl ?_
                    refine r_cv L_55_155 rfl (Mi_mono h fun v19 m18 h => ?_)
                    exact r_iret L_55_158 RT_55 h
                  · skip
                    refine sw_t (tgt := 159) kT_9 (by decide) (i_mono h (fun c20 h => ?_) (fun c20 h => ?_))
                    · refine r_aload_n L_55_159 rfl ?_
                      refine r_getr (c' := 3) (d' := b) L_55_160 rfl rfl ?_
                      refine r_aload_n L_55_163 rfl ?_
                      refine r_getr (c' := 3) (d' := b) L_55_164 rfl rfl ?_
                      refine r_getr (c' := 25) (d' := b) L_55_167 rfl rfl ?_
                      refine r_cv L_55_170 rfl (Mi_mono h fun v22 m21 h => ?_)
                      exact r_iret L_55_173 RT_55 h
                    · skip
                      refine sw_t (tgt := 174) kT_10 (by decide) (i_mono h (fun c23 h => ?_) (fun c23 h => ?_))
                      · refine r_aload_n L_55_174 rfl ?_
                        refine r_geti L_55_175 rfl rfl ?_
                        exact r_iret L_55_178 RT_55 h
                      · skip
                        refine sw_t (tgt := 193) kT_11 (by decide) (i_mono h (fun c24 h => ?_) (fun c24 h => ?_))
                        · refine r_aload_n L_55_193 rfl ?_
                          refine r_getr (c' := 26) (d' := b) L_55_194 rfl rfl ?_
                          refine r_iconst L_55_197 kI_2 ?_
                          refine r_iald (N := 3) (j := 2) L_55_198 (by decide +kernel) rfl (by decide +kernel) (by decide +kernel) ?_
                          exact r_iret L_55_199 RT_55 h
                        · skip
                          refine sw_t (tgt := 193) kT_12 (by decide) (i_mono h (fun c25 h => ?_) (fun c25 h => ?_))
                          · refine r_aload_n L_55_193 rfl ?_
                            refine r_getr (c' := 26) (d' := b) L_55_194 rfl rfl ?_
                            refine r_iconst L_55_197 kI_2 ?_
                            refine r_iald (N := 3) (j := 2) L_55_198 (by decide +kernel) rfl (by decide +kernel) (by decide +kernel) ?_
                            exact r_iret L_55_199 RT_55 h
                          · skip
                            refine sw_t (tgt := 179) kT_13 (by decide) (i_mono h (fun c26 h => ?_) (fun c26 h => ?_))
                            · refine r_aload_n L_55_179 rfl ?_
                              refine r_getr (c' := 26) (d' := b) L_55_180 rfl rfl ?_
                              refine r_iconst L_55_183 kI_0 ?_
                              refine r_iald (N := 3) (j := 0) L_55_184 (by decide +kernel) rfl (by decide +kernel) (by decide +kernel) ?_
                              exact r_iret L_55_185 RT_55 h
                            · skip
                              refine sw_t (tgt := 186) kT_14 (by decide) (i_mono h (fun c27 h => ?_) (fun c27 h => ?_))
                              · refine r_aload_n L_55_186 rfl ?_
                                refine r_getr (c' := 26) (d' := b) L_55_187 rfl rfl ?_
                                refine r_iconst L_55_190 kI_1 ?_
                                refine r_iald (N := 3) (j := 1) L_55_191 (by decide +kernel) rfl (by decide +kernel) (by decide +kernel) ?_
                                exact r_iret L_55_192 RT_55 h
                              · skip
                                refine sw_d (tgt := 193) (by decide) ?_
                                refine r_aload_n L_55_193 rfl ?_
                                refine r_getr (c' := 26) (d' := b) L_55_194 rfl rfl ?_
                                refine r_iconst L_55_197 kI_2 ?_
                                refine r_iald (N := 3) (j := 2) L_55_198 (by decide +kernel) rfl (by decide +kernel) (by decide +kernel) ?_
                                exact r_iret L_55_199 RT_55 h
/-- Stations.tell -/
theorem T_57 {b : Nat} {x1 x2 : Int32} {m : aM} {Q : Int32 → aM → Prop} (h :
   if x2 = 0 then
    (a_in x1 8 = true ∧
     Q (m 4 b x1.toNatClampNeg) m)
   else
   if x2 = 1 then
    (a_in x1 8 = true ∧
     Q (m 5 b x1.toNatClampNeg) m)
   else
   if x2 = 2 then
    (a_in x1 8 = true ∧
     Q (m 6 b x1.toNatClampNeg) m)
   else
   if x2 = 3 then
    (a_in x1 8 = true ∧
     Q (m 7 b x1.toNatClampNeg) m)
   else
   if x2 = 4 then
    (a_in x1 8 = true ∧
     a_in (m 7 b x1.toNatClampNeg) 5 = true ∧
      Q (m 41 0 (m 7 b x1.toNatClampNeg).toNatClampNeg) m)
   else
    a_in x1 8 = true ∧
     Q (m 8 b x1.toNatClampNeg) m
  ) : Mi 57 [.inr (1, b), .inl x1, .inl x2] m Q := by
  refine Mi_in ML_57 (show Rg 57 0 [some (.inr (1, b)), some (.inl x1), some (.inl x2)] [] m (qI Q) from ?_)
  refine r_iload_n L_57_0 rfl ?_
  refine r_tsw2 L_57_1 (by decide) (by decide) ?_
  refine sw_t (tgt := 36) kT_0 (by decide) (i_mono h (fun c1 h => ?_) (fun c1 h => ?_))
  · refine r_aload_n L_57_36 rfl ?_
    refine r_getr (c' := 4) (d' := b) L_57_37 rfl rfl ?_
    refine r_iload_n L_57_40 rfl ?_
    obtain ⟨g2, h⟩ := h
    refine r_iald (N := 8) (j := x1.toNatClampNeg) L_57_41 (by decide +kernel) rfl g2 rfl ?_
    exact r_iret L_57_42 RT_57 h
  · skip
    refine sw_t (tgt := 43) kT_1 (by decide) (i_mono h (fun c3 h => ?_) (fun c3 h => ?_))
    · refine r_aload_n L_57_43 rfl ?_
      refine r_getr (c' := 5) (d' := b) L_57_44 rfl rfl ?_
      refine r_iload_n L_57_47 rfl ?_
      obtain ⟨g4, h⟩ := h
      refine r_iald (N := 8) (j := x1.toNatClampNeg) L_57_48 (by decide +kernel) rfl g4 rfl ?_
      exact r_iret L_57_49 RT_57 h
    · skip
      refine sw_t (tgt := 50) kT_2 (by decide) (i_mono h (fun c5 h => ?_) (fun c5 h => ?_))
      · refine r_aload_n L_57_50 rfl ?_
        refine r_getr (c' := 6) (d' := b) L_57_51 rfl rfl ?_
        refine r_iload_n L_57_54 rfl ?_
        obtain ⟨g6, h⟩ := h
        refine r_iald (N := 8) (j := x1.toNatClampNeg) L_57_55 (by decide +kernel) rfl g6 rfl ?_
        exact r_iret L_57_56 RT_57 h
      · skip
        refine sw_t (tgt := 57) kT_3 (by decide) (i_mono h (fun c7 h => ?_) (fun c7 h => ?_))
        · refine r_aload_n L_57_57 rfl ?_
          refine r_getr (c' := 7) (d' := b) L_57_58 rfl rfl ?_
          refine r_iload_n L_57_61 rfl ?_
          obtain ⟨g8, h⟩ := h
          refine r_iald (N := 8) (j := x1.toNatClampNeg) L_57_62 (by decide +kernel) rfl g8 rfl ?_
          exact r_iret L_57_63 RT_57 h
        · skip
          refine sw_t (tgt := 64) kT_4 (by decide) (i_mono h (fun c9 h => ?_) (fun c9 h => ?_))
          · refine r_gets L_57_64 ?_
            refine r_aload_n L_57_67 rfl ?_
            refine r_getr (c' := 7) (d' := b) L_57_68 rfl rfl ?_
            refine r_iload_n L_57_71 rfl ?_
            obtain ⟨g10, h⟩ := h
            refine r_iald (N := 8) (j := x1.toNatClampNeg) L_57_72 (by decide +kernel) rfl g10 rfl ?_
            obtain ⟨g11, h⟩ := h
            refine r_iald (N := 5) (j := (m 7 b x1.toNatClampNeg).toNatClampNeg) L_57_73 (by decide +kernel) rfl g11 rfl ?_
            exact r_iret L_57_74 RT_57 h
          · skip
            refine sw_d (tgt := 75) (by decide) ?_
            refine r_aload_n L_57_75 rfl ?_
            refine r_getr (c' := 8) (d' := b) L_57_76 rfl rfl ?_
            refine r_iload_n L_57_79 rfl ?_
            obtain ⟨g12, h⟩ := h
            refine r_iald (N := 8) (j := x1.toNatClampNeg) L_57_80 (by decide +kernel) rfl g12 rfl ?_
            exact r_iret L_57_81 RT_57 h
def H_58_4 (b : Nat) (x1 x2 : Int32) (m : aM) (Q : Int32 → aM → Prop) : Prop := Rg 58 4 [some (.inr (1, b)), some (.inl x1), some (.inl x2)] [] m (qI Q)
/-- Stations.countAwake, the loop at 4 -/
theorem T_58_4 {b : Nat} {x1 x2 : Int32} {m : aM} {Q : Int32 → aM → Prop} (h :
   if x2 < (m 1 b 5) then
    (a_in x2 8 = true ∧
     H_58_4 b (x1 + (m 8 b x2.toNatClampNeg)) (x2 + 1) m Q)
   else
    Q x1 m
  ) : H_58_4 b x1 x2 m Q := by
  show Rg 58 4 [some (.inr (1, b)), some (.inl x1), some (.inl x2)] [] m (qI Q)
  refine r_iload_n L_58_4 rfl ?_
  refine r_aload_n L_58_5 rfl ?_
  refine r_geti L_58_6 rfl rfl ?_
  refine r_icmpn L_58_9 cc_ge (i_mono h (fun c1 h => ?_) (fun c1 h => ?_))
  · refine r_iload_n L_58_12 rfl ?_
    refine r_aload_n L_58_13 rfl ?_
    refine r_getr (c' := 8) (d' := b) L_58_14 rfl rfl ?_
    refine r_iload_n L_58_17 rfl ?_
    obtain ⟨g2, h⟩ := h
    refine r_iald (N := 8) (j := x2.toNatClampNeg) L_58_18 (by decide +kernel) rfl g2 rfl ?_
    refine r_iadd L_58_19 ?_
    refine r_istore_n (ls1 := [some (.inr (1, b)), some (.inl (x1 + (m 8 b x2.toNatClampNeg))), some (.inl x2)]) L_58_20 (Nat.le_of_ble_eq_true rfl) rfl ?_
    refine r_iinc (ls1 := [some (.inr (1, b)), some (.inl (x1 + (m 8 b x2.toNatClampNeg))), some (.inl (x2 + 1))]) L_58_21 kI_1 rfl (Nat.le_of_ble_eq_true rfl) rfl ?_
    refine r_goto L_58_24 ?_
    exact h
  · refine r_iload_n L_58_27 rfl ?_
    exact r_iret L_58_28 RT_58 h
/-- Stations.countAwake -/
theorem T_58 {b : Nat} {m : aM} {Q : Int32 → aM → Prop} (h :
   H_58_4 b 0 0 m Q
  ) : Mi 58 [.inr (1, b)] m Q := by
  refine Mi_in ML_58 (show Rg 58 0 [some (.inr (1, b)), none, none] [] m (qI Q) from ?_)
  refine r_iconst L_58_0 kI_0 ?_
  refine r_istore_n (ls1 := [some (.inr (1, b)), some (.inl 0), none]) L_58_1 (Nat.le_of_ble_eq_true rfl) rfl ?_
  refine r_iconst L_58_2 kI_0 ?_
  refine r_istore_n (ls1 := [some (.inr (1, b)), some (.inl 0), some (.inl 0)]) L_58_3 (Nat.le_of_ble_eq_true rfl) rfl ?_
  exact h
/-- Stations.copyFrom -/
theorem T_59 {b b1 : Nat} {m : aM} {Q : aM → Prop} (h :
   Mv 96 [.inr (4, b1), .inr (4, b)] m (fun m1 =>
    Mv 96 [.inr (5, b1), .inr (5, b)] m1 (fun m2 =>
     Mv 96 [.inr (6, b1), .inr (6, b)] m2 (fun m3 =>
      Mv 96 [.inr (7, b1), .inr (7, b)] m3 (fun m4 =>
       Mv 96 [.inr (8, b1), .inr (8, b)] m4 (fun m5 =>
        (∀ m6, m6 = a_up m5 1 b 5 (m5 1 b1 5) →
        Q m6))))))
  ) : Mv 59 [.inr (1, b), .inr (1, b1)] m Q := by
  refine Mv_in ML_59 (show Rg 59 0 [some (.inr (1, b)), some (.inr (1, b1))] [] m (qV Q) from ?_)
  refine r_aload_n L_59_0 rfl ?_
  refine r_getr (c' := 4) (d' := b1) L_59_1 rfl rfl ?_
  refine r_aload_n L_59_4 rfl ?_
  refine r_getr (c' := 4) (d' := b) L_59_5 rfl rfl ?_
  refine r_csv L_59_8 (by decide) rfl (Mv_mono h fun m1 h => ?_)
  refine r_aload_n L_59_11 rfl ?_
  refine r_getr (c' := 5) (d' := b1) L_59_12 rfl rfl ?_
  refine r_aload_n L_59_15 rfl ?_
  refine r_getr (c' := 5) (d' := b) L_59_16 rfl rfl ?_
  refine r_csv L_59_19 (by decide) rfl (Mv_mono h fun m2 h => ?_)
  refine r_aload_n L_59_22 rfl ?_
  refine r_getr (c' := 6) (d' := b1) L_59_23 rfl rfl ?_
  refine r_aload_n L_59_26 rfl ?_
  refine r_getr (c' := 6) (d' := b) L_59_27 rfl rfl ?_
  refine r_csv L_59_30 (by decide) rfl (Mv_mono h fun m3 h => ?_)
  refine r_aload_n L_59_33 rfl ?_
  refine r_getr (c' := 7) (d' := b1) L_59_34 rfl rfl ?_
  refine r_aload_n L_59_37 rfl ?_
  refine r_getr (c' := 7) (d' := b) L_59_38 rfl rfl ?_
  refine r_csv L_59_41 (by decide) rfl (Mv_mono h fun m4 h => ?_)
  refine r_aload_n L_59_44 rfl ?_
  refine r_getr (c' := 8) (d' := b1) L_59_45 rfl rfl ?_
  refine r_aload_n L_59_48 rfl ?_
  refine r_getr (c' := 8) (d' := b) L_59_49 rfl rfl ?_
  refine r_csv L_59_52 (by decide) rfl (Mv_mono h fun m5 h => ?_)
  refine r_aload_n L_59_55 rfl ?_
  refine r_aload_n L_59_56 rfl ?_
  refine r_geti L_59_57 rfl rfl ?_
  refine r_put L_59_60 ⟨rfl, rfl⟩ (fun z => absurd z (by decide)) ?_
  refine r_nm fun m6 em6 => ?_
  have h := h m6 em6
  exact r_vret L_59_63 RT_59 h
