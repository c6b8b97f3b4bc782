/-! trees: what is left of a method when its rows are walked; by program (wip/p34/gen9.py) -/
/-- Law.cell -/
theorem T_97 {x1 : Int32} {m : aM} {Q : Int32 → aM → Prop} (h :
   if x1 < (nI (a_ln m 46)) then
    (a_in x1 (a_ln m 46) = true ∧
     Q (m 46 0 x1.toNatClampNeg) m)
   else
    Q (40503 * (x1 + 3)) m
  ) : Mi 97 [.inr (46, 0), .inl x1] m Q := by
  refine Mi_in ML_97 (show Rg 97 0 [some (.inr (46, 0)), some (.inl x1)] [] m (qI Q) from ?_)
  refine r_iload_n L_97_0 rfl ?_
  refine r_aload_n L_97_1 rfl ?_
  refine r_alen (N := a_ln m 46) L_97_2 (by decide +kernel) rfl ?_
  refine r_icmpn L_97_3 cc_ge (i_mono h (fun c1 h => ?_) (fun c1 h => ?_))
  · refine r_aload_n L_97_6 rfl ?_
    refine r_iload_n L_97_7 rfl ?_
    obtain ⟨g2, h⟩ := h
    refine r_iald (N := a_ln m 46) (j := x1.toNatClampNeg) L_97_8 (by decide +kernel) rfl g2 rfl ?_
    refine r_goto L_97_9 ?_
    exact r_iret L_97_18 RT_97 h
  · refine r_ldc L_97_12 kN_40503 ?_
    refine r_iload_n L_97_14 rfl ?_
    refine r_iconst L_97_15 kI_3 ?_
    refine r_iadd L_97_16 ?_
    refine r_imul L_97_17 ?_
    exact r_iret L_97_18 RT_97 h
def H_102_3 (x3 x4 x5 x6 x7 x8 : Int32) (m : aM) (Q : Int32 → aM → Prop) : Prop := ∀ d9 d10 : Option aV, Rg 102 3 [some (.inr (34, 0)), some (.inr (35, 0)), some (.inr (36, 0)), some (.inl x3), some (.inl x4), some (.inl x5), some (.inl x6), some (.inl x7), some (.inl x8), d9, d10] [] m (qI Q)
def H_102_130 (x3 x4 x5 x6 x7 x8 : Int32) (m : aM) (Q : Int32 → aM → Prop) : Prop := ∀ d9 d10 : Option aV, Rg 102 130 [some (.inr (34, 0)), some (.inr (35, 0)), some (.inr (36, 0)), some (.inl x3), some (.inl x4), some (.inl x5), some (.inl x6), some (.inl x7), some (.inl x8), d9, d10] [] m (qI Q)
/-- Law.allowed, the loop at 130 -/
theorem T_102_130 {x3 x4 x5 x6 x7 x8 : Int32} {m : aM} {Q : Int32 → aM → Prop} (h :
   if x8 < (m 34 0 2) then
    (a_in ((7 * x8) + 6) 56 = true ∧
     if (m 36 0 ((7 * x8) + 6).toNatClampNeg) = 0 then
      (a_in ((7 * x8) + 4) 56 = true ∧
       if x7 < (m 36 0 ((7 * x8) + 4).toNatClampNeg) then
        H_102_130 x3 x4 x5 x6 x7 (x8 + 1) m Q
       else
        a_in ((7 * x8) + 5) 56 = true ∧
         if x7 < (m 36 0 ((7 * x8) + 5).toNatClampNeg) then
          (a_in ((7 * x8) + 3) 56 = true ∧
           if (m 36 0 ((7 * x8) + 3).toNatClampNeg) = x3 then
            (a_in (7 * x8) 56 = true ∧
             a_in ((7 * x8) + 1) 56 = true ∧
              a_in ((7 * x8) + 2) 56 = true ∧
               if nearP x4 x5 (m 36 0 (7 * x8).toNatClampNeg) (m 36 0 ((7 * x8) + 1).toNatClampNeg) ((m 36 0 ((7 * x8) + 2).toNatClampNeg) + (rchL x6)) then
                Q 0 m
               else
                H_102_130 x3 x4 x5 x6 x7 (x8 + 1) m Q)
           else
            H_102_130 x3 x4 x5 x6 x7 (x8 + 1) m Q)
         else
          H_102_130 x3 x4 x5 x6 x7 (x8 + 1) m Q)
     else
      H_102_130 x3 x4 x5 x6 x7 (x8 + 1) m Q)
   else
    Q 1 m
  ) : H_102_130 x3 x4 x5 x6 x7 x8 m Q := by
  intro d9 d10
  show Rg 102 130 [some (.inr (34, 0)), some (.inr (35, 0)), some (.inr (36, 0)), some (.inl x3), some (.inl x4), some (.inl x5), some (.inl x6), some (.inl x7), some (.inl x8), d9, d10] [] m (qI Q)
  refine r_iload L_102_130 rfl ?_
  refine r_aload_n L_102_132 rfl ?_
  refine r_iconst L_102_133 kI_2 ?_
  refine r_iald (N := 8) (j := 2) L_102_134 (by decide +kernel) rfl (by decide +kernel) (by decide +kernel) ?_
  refine r_icmpn L_102_135 cc_ge (i_mono h (fun c1 h => ?_) (fun c1 h => ?_))
  · refine r_bipush L_102_138 kB_7 ?_
    refine r_iload L_102_140 rfl ?_
    refine r_imul L_102_142 ?_
    refine r_istore (ls1 := [some (.inr (34, 0)), some (.inr (35, 0)), some (.inr (36, 0)), some (.inl x3), some (.inl x4), some (.inl x5), some (.inl x6), some (.inl x7), some (.inl x8), some (.inl (7 * x8)), d10]) L_102_143 (Nat.le_of_ble_eq_true rfl) rfl ?_
    refine r_aload_n L_102_145 rfl ?_
    refine r_iload L_102_146 rfl ?_
    refine r_bipush L_102_148 kB_6 ?_
    refine r_iadd L_102_150 ?_
    obtain ⟨g2, h⟩ := h
    refine r_iald (N := 56) (j := ((7 * x8) + 6).toNatClampNeg) L_102_151 (by decide +kernel) rfl g2 rfl ?_
    refine r_ifn L_102_152 rfl (i_mono h (fun c3 h => ?_) (fun c3 h => ?_))
    · refine r_aload_n L_102_155 rfl ?_
      refine r_iload L_102_156 rfl ?_
      refine r_iconst L_102_158 kI_4 ?_
      refine r_iadd L_102_159 ?_
      obtain ⟨g4, h⟩ := h
      refine r_iald (N := 56) (j := ((7 * x8) + 4).toNatClampNeg) L_102_160 (by decide +kernel) rfl g4 rfl ?_
      refine r_iload L_102_161 rfl ?_
      refine r_icmp L_102_163 rfl (i_mono h (fun c5 h => ?_) (fun c5 h => ?_))
      · refine r_iconst L_102_181 kI_0 ?_
        refine r_istore (ls1 := [some (.inr (34, 0)), some (.inr (35, 0)), some (.inr (36, 0)), some (.inl x3), some (.inl x4), some (.inl x5), some (.inl x6), some (.inl x7), some (.inl x8), some (.inl (7 * x8)), some (.inl 0)]) L_102_182 (Nat.le_of_ble_eq_true rfl) rfl ?_
        refine r_iload L_102_184 rfl ?_
        refine r_if (p := ((0 : Int32) = 0)) L_102_186 rfl (i_pos (by decide +kernel) ?_)
        refine r_iinc (ls1 := [some (.inr (34, 0)), some (.inr (35, 0)), some (.inr (36, 0)), some (.inl x3), some (.inl x4), some (.inl x5), some (.inl x6), some (.inl x7), some (.inl (x8 + 1)), some (.inl (7 * x8)), some (.inl 0)]) L_102_233 kI_1 rfl (Nat.le_of_ble_eq_true rfl) rfl ?_
        refine r_goto L_102_236 ?_
        exact h _ _
      · refine r_iload L_102_166 rfl ?_
        refine r_aload_n L_102_168 rfl ?_
        refine r_iload L_102_169 rfl ?_
        refine r_iconst L_102_171 kI_5 ?_
        refine r_iadd L_102_172 ?_
        obtain ⟨g6, h⟩ := h
        refine r_iald (N := 56) (j := ((7 * x8) + 5).toNatClampNeg) L_102_173 (by decide +kernel) rfl g6 rfl ?_
        refine r_icmpn L_102_174 cc_ge (i_mono h (fun c7 h => ?_) (fun c7 h => ?_))
        · refine r_iconst L_102_177 kI_1 ?_
          refine r_goto L_102_178 ?_
          refine r_istore (ls1 := [some (.inr (34, 0)), some (.inr (35, 0)), some (.inr (36, 0)), some (.inl x3), some (.inl x4), some (.inl x5), some (.inl x6), some (.inl x7), some (.inl x8), some (.inl (7 * x8)), some (.inl 1)]) L_102_182 (Nat.le_of_ble_eq_true rfl) rfl ?_
          refine r_iload L_102_184 rfl ?_
          refine r_if (p := ((1 : Int32) = 0)) L_102_186 rfl (i_neg (by decide +kernel) ?_)
          refine r_aload_n L_102_189 rfl ?_
          refine r_iload L_102_190 rfl ?_
          refine r_iconst L_102_192 kI_3 ?_
          refine r_iadd L_102_193 ?_
          obtain ⟨g8, h⟩ := h
          refine r_iald (N := 56) (j := ((7 * x8) + 3).toNatClampNeg) L_102_194 (by decide +kernel) rfl g8 rfl ?_
          refine r_iload_n L_102_195 rfl ?_
          refine r_icmpn L_102_196 rfl (i_mono h (fun c9 h => ?_) (fun c9 h => ?_))
          · refine r_iload L_102_199 rfl ?_
            refine r_iload L_102_201 rfl ?_
            refine r_aload_n L_102_203 rfl ?_
            refine r_iload L_102_204 rfl ?_
            obtain ⟨g10, h⟩ := h
            refine r_iald (N := 56) (j := (7 * x8).toNatClampNeg) L_102_206 (by decide +kernel) rfl g10 rfl ?_
            refine r_aload_n L_102_207 rfl ?_
            refine r_iload L_102_208 rfl ?_
            refine r_iconst L_102_210 kI_1 ?_
            refine r_iadd L_102_211 ?_
            obtain ⟨g11, h⟩ := h
            refine r_iald (N := 56) (j := ((7 * x8) + 1).toNatClampNeg) L_102_212 (by decide +kernel) rfl g11 rfl ?_
            refine r_aload_n L_102_213 rfl ?_
            refine r_iload L_102_214 rfl ?_
            refine r_iconst L_102_216 kI_2 ?_
            refine r_iadd L_102_217 ?_
            obtain ⟨g12, h⟩ := h
            refine r_iald (N := 56) (j := ((7 * x8) + 2).toNatClampNeg) L_102_218 (by decide +kernel) rfl g12 rfl ?_
            refine r_iload L_102_219 rfl ?_
            refine r_cs L_102_221 (by decide) rfl (V_99 ?_)
            refine r_iadd L_102_224 ?_
            refine r_cs L_102_225 (by decide) rfl (V_101 ?_)
            refine r_ifeqP L_102_228 (i_mono h (fun c13 h => ?_) (fun c13 h => ?_))
            · refine r_iconst L_102_231 kI_0 ?_
              exact r_zret L_102_232 RT_102 (Or.inl rfl) h
            · refine r_iinc (ls1 := [some (.inr (34, 0)), some (.inr (35, 0)), some (.inr (36, 0)), some (.inl x3), some (.inl x4), some (.inl x5), some (.inl x6), some (.inl x7), some (.inl (x8 + 1)), some (.inl (7 * x8)), some (.inl 1)]) L_102_233 kI_1 rfl (Nat.le_of_ble_eq_true rfl) rfl ?_
              refine r_goto L_102_236 ?_
              exact h _ _
          · refine r_iinc (ls1 := [some (.inr (34, 0)), some (.inr (35, 0)), some (.inr (36, 0)), some (.inl x3), some (.inl x4), some (.inl x5), some (.inl x6), some (.inl x7), some (.inl (x8 + 1)), some (.inl (7 * x8)), some (.inl 1)]) L_102_233 kI_1 rfl (Nat.le_of_ble_eq_true rfl) rfl ?_
            refine r_goto L_102_236 ?_
            exact h _ _
        · refine r_iconst L_102_181 kI_0 ?_
          refine r_istore (ls1 := [some (.inr (34, 0)), some (.inr (35, 0)), some (.inr (36, 0)), some (.inl x3), some (.inl x4), some (.inl x5), some (.inl x6), some (.inl x7), some (.inl x8), some (.inl (7 * x8)), some (.inl 0)]) L_102_182 (Nat.le_of_ble_eq_true rfl) rfl ?_
          refine r_iload L_102_184 rfl ?_
          refine r_if (p := ((0 : Int32) = 0)) L_102_186 rfl (i_pos (by decide +kernel) ?_)
          refine r_iinc (ls1 := [some (.inr (34, 0)), some (.inr (35, 0)), some (.inr (36, 0)), some (.inl x3), some (.inl x4), some (.inl x5), some (.inl x6), some (.inl x7), some (.inl (x8 + 1)), some (.inl (7 * x8)), some (.inl 0)]) L_102_233 kI_1 rfl (Nat.le_of_ble_eq_true rfl) rfl ?_
          refine r_goto L_102_236 ?_
          exact h _ _
    · refine r_iconst L_102_181 kI_0 ?_
      refine r_istore (ls1 := [some (.inr (34, 0)), some (.inr (35, 0)), some (.inr (36, 0)), some (.inl x3), some (.inl x4), some (.inl x5), some (.inl x6), some (.inl x7), some (.inl x8), some (.inl (7 * x8)), some (.inl 0)]) L_102_182 (Nat.le_of_ble_eq_true rfl) rfl ?_
      refine r_iload L_102_184 rfl ?_
      refine r_if (p := ((0 : Int32) = 0)) L_102_186 rfl (i_pos (by decide +kernel) ?_)
      refine r_iinc (ls1 := [some (.inr (34, 0)), some (.inr (35, 0)), some (.inr (36, 0)), some (.inl x3), some (.inl x4), some (.inl x5), some (.inl x6), some (.inl x7), some (.inl (x8 + 1)), some (.inl (7 * x8)), some (.inl 0)]) L_102_233 kI_1 rfl (Nat.le_of_ble_eq_true rfl) rfl ?_
      refine r_goto L_102_236 ?_
      exact h _ _
  · refine r_iconst L_102_239 kI_1 ?_
    exact r_zret L_102_240 RT_102 (Or.inr rfl) h
/-- Law.allowed, the loop at 3 -/
theorem T_102_3 {x3 x4 x5 x6 x7 x8 : Int32} {m : aM} {Q : Int32 → aM → Prop} (h :
   if x8 < (m 34 0 1) then
    (a_in ((5 * x8) + 2) 40 = true ∧
     if (m 35 0 ((5 * x8) + 2).toNatClampNeg) = x3 then
      (a_in ((5 * x8) + 3) 40 = true ∧
       a_in ((5 * x8) + 4) 40 = true ∧
        if (m 35 0 ((5 * x8) + 4).toNatClampNeg) = 1 then
         (if ((m 35 0 ((5 * x8) + 2).toNatClampNeg) - x3) < 2 then
          (if (x3 - (m 35 0 ((5 * x8) + 2).toNatClampNeg)) < 2 then
           (a_in (5 * x8) 40 = true ∧
            a_in ((5 * x8) + 1) 40 = true ∧
             if nearP x4 x5 (m 35 0 (5 * x8).toNatClampNeg) (m 35 0 ((5 * x8) + 1).toNatClampNeg) ((radL (m 35 0 ((5 * x8) + 3).toNatClampNeg)) + (rchL x6)) then
              Q 0 m
             else
              H_102_3 x3 x4 x5 x6 x7 (x8 + 1) m Q)
          else
           H_102_3 x3 x4 x5 x6 x7 (x8 + 1) m Q)
         else
          H_102_3 x3 x4 x5 x6 x7 (x8 + 1) m Q)
        else
         H_102_3 x3 x4 x5 x6 x7 (x8 + 1) m Q)
     else
      a_in ((5 * x8) + 3) 40 = true ∧
       a_in ((5 * x8) + 4) 40 = true ∧
        if (m 35 0 ((5 * x8) + 4).toNatClampNeg) = 1 then
         (if ((m 35 0 ((5 * x8) + 2).toNatClampNeg) - x3) < 2 then
          (if (x3 - (m 35 0 ((5 * x8) + 2).toNatClampNeg)) < 2 then
           (a_in (5 * x8) 40 = true ∧
            a_in ((5 * x8) + 1) 40 = true ∧
             if nearP x4 x5 (m 35 0 (5 * x8).toNatClampNeg) (m 35 0 ((5 * x8) + 1).toNatClampNeg) ((((radL (m 35 0 ((5 * x8) + 3).toNatClampNeg)) * (m 34 0 5)) / 100) + (rchL x6)) then
              Q 0 m
             else
              H_102_3 x3 x4 x5 x6 x7 (x8 + 1) m Q)
          else
           H_102_3 x3 x4 x5 x6 x7 (x8 + 1) m Q)
         else
          H_102_3 x3 x4 x5 x6 x7 (x8 + 1) m Q)
        else
         H_102_3 x3 x4 x5 x6 x7 (x8 + 1) m Q)
   else
    H_102_130 x3 x4 x5 x6 x7 0 m Q
  ) : H_102_3 x3 x4 x5 x6 x7 x8 m Q := by
  intro d9 d10
  show Rg 102 3 [some (.inr (34, 0)), some (.inr (35, 0)), some (.inr (36, 0)), some (.inl x3), some (.inl x4), some (.inl x5), some (.inl x6), some (.inl x7), some (.inl x8), d9, d10] [] m (qI Q)
  refine r_iload L_102_3 rfl ?_
  refine r_aload_n L_102_5 rfl ?_
  refine r_iconst L_102_6 kI_1 ?_
  refine r_iald (N := 8) (j := 1) L_102_7 (by decide +kernel) rfl (by decide +kernel) (by decide +kernel) ?_
  refine r_icmpn L_102_8 cc_ge (i_mono h (fun c1 h => ?_) (fun c1 h => ?_))
  · refine r_iconst L_102_11 kI_5 ?_
    refine r_iload L_102_12 rfl ?_
    refine r_imul L_102_14 ?_
    refine r_istore (ls1 := [some (.inr (34, 0)), some (.inr (35, 0)), some (.inr (36, 0)), some (.inl x3), some (.inl x4), some (.inl x5), some (.inl x6), some (.inl x7), some (.inl x8), some (.inl (5 * x8)), d10]) L_102_15 (Nat.le_of_ble_eq_true rfl) rfl ?_
    refine r_aload_n L_102_17 rfl ?_
    refine r_iload L_102_18 rfl ?_
    refine r_iconst L_102_20 kI_2 ?_
    refine r_iadd L_102_21 ?_
    obtain ⟨g2, h⟩ := h
    refine r_iald (N := 40) (j := ((5 * x8) + 2).toNatClampNeg) L_102_22 (by decide +kernel) rfl g2 rfl ?_
    refine r_iload_n L_102_23 rfl ?_
    refine r_icmpn L_102_24 rfl (i_mono h (fun c3 h => ?_) (fun c3 h => ?_))
    · refine r_aload_n L_102_27 rfl ?_
      refine r_iload L_102_28 rfl ?_
      refine r_iconst L_102_30 kI_3 ?_
      refine r_iadd L_102_31 ?_
      obtain ⟨g4, h⟩ := h
      refine r_iald (N := 40) (j := ((5 * x8) + 3).toNatClampNeg) L_102_32 (by decide +kernel) rfl g4 rfl ?_
      refine r_cs L_102_33 (by decide) rfl (V_100 ?_)
      refine r_goto L_102_36 ?_
      refine r_istore (ls1 := [some (.inr (34, 0)), some (.inr (35, 0)), some (.inr (36, 0)), some (.inl x3), some (.inl x4), some (.inl x5), some (.inl x6), some (.inl x7), some (.inl x8), some (.inl (5 * x8)), some (.inl (radL (m 35 0 ((5 * x8) + 3).toNatClampNeg)))]) L_102_55 (Nat.le_of_ble_eq_true rfl) rfl ?_
      refine r_aload_n L_102_57 rfl ?_
      refine r_iload L_102_58 rfl ?_
      refine r_iconst L_102_60 kI_4 ?_
      refine r_iadd L_102_61 ?_
      obtain ⟨g5, h⟩ := h
      refine r_iald (N := 40) (j := ((5 * x8) + 4).toNatClampNeg) L_102_62 (by decide +kernel) rfl g5 rfl ?_
      refine r_iconst L_102_63 kI_1 ?_
      refine r_icmpn L_102_64 rfl (i_mono h (fun c6 h => ?_) (fun c6 h => ?_))
      · refine r_aload_n L_102_67 rfl ?_
        refine r_iload L_102_68 rfl ?_
        refine r_iconst L_102_70 kI_2 ?_
        refine r_iadd L_102_71 ?_
        refine r_iald (N := 40) (j := ((5 * x8) + 2).toNatClampNeg) L_102_72 (by decide +kernel) rfl g2 rfl ?_
        refine r_iload_n L_102_73 rfl ?_
        refine r_isub L_102_74 ?_
        refine r_iconst L_102_75 kI_2 ?_
        refine r_icmpn L_102_76 cc_ge (i_mono h (fun c7 h => ?_) (fun c7 h => ?_))
        · refine r_iload_n L_102_79 rfl ?_
          refine r_aload_n L_102_80 rfl ?_
          refine r_iload L_102_81 rfl ?_
          refine r_iconst L_102_83 kI_2 ?_
          refine r_iadd L_102_84 ?_
          refine r_iald (N := 40) (j := ((5 * x8) + 2).toNatClampNeg) L_102_85 (by decide +kernel) rfl g2 rfl ?_
          refine r_isub L_102_86 ?_
          refine r_iconst L_102_87 kI_2 ?_
          refine r_icmpn L_102_88 cc_ge (i_mono h (fun c8 h => ?_) (fun c8 h => ?_))
          · refine r_iload L_102_91 rfl ?_
            refine r_iload L_102_93 rfl ?_
            refine r_aload_n L_102_95 rfl ?_
            refine r_iload L_102_96 rfl ?_
            obtain ⟨g9, h⟩ := h
            refine r_iald (N := 40) (j := (5 * x8).toNatClampNeg) L_102_98 (by decide +kernel) rfl g9 rfl ?_
            refine r_aload_n L_102_99 rfl ?_
            refine r_iload L_102_100 rfl ?_
            refine r_iconst L_102_102 kI_1 ?_
            refine r_iadd L_102_103 ?_
            obtain ⟨g10, h⟩ := h
            refine r_iald (N := 40) (j := ((5 * x8) + 1).toNatClampNeg) L_102_104 (by decide +kernel) rfl g10 rfl ?_
            refine r_iload L_102_105 rfl ?_
            refine r_iload L_102_107 rfl ?_
            refine r_cs L_102_109 (by decide) rfl (V_99 ?_)
            refine r_iadd L_102_112 ?_
            refine r_cs L_102_113 (by decide) rfl (V_101 ?_)
            refine r_ifeqP L_102_116 (i_mono h (fun c11 h => ?_) (fun c11 h => ?_))
            · refine r_iconst L_102_119 kI_0 ?_
              exact r_zret L_102_120 RT_102 (Or.inl rfl) h
            · refine r_iinc (ls1 := [some (.inr (34, 0)), some (.inr (35, 0)), some (.inr (36, 0)), some (.inl x3), some (.inl x4), some (.inl x5), some (.inl x6), some (.inl x7), some (.inl (x8 + 1)), some (.inl (5 * x8)), some (.inl (radL (m 35 0 ((5 * x8) + 3).toNatClampNeg)))]) L_102_121 kI_1 rfl (Nat.le_of_ble_eq_true rfl) rfl ?_
              refine r_goto L_102_124 ?_
              exact h _ _
          · refine r_iinc (ls1 := [some (.inr (34, 0)), some (.inr (35, 0)), some (.inr (36, 0)), some (.inl x3), some (.inl x4), some (.inl x5), some (.inl x6), some (.inl x7), some (.inl (x8 + 1)), some (.inl (5 * x8)), some (.inl (radL (m 35 0 ((5 * x8) + 3).toNatClampNeg)))]) L_102_121 kI_1 rfl (Nat.le_of_ble_eq_true rfl) rfl ?_
            refine r_goto L_102_124 ?_
            exact h _ _
        · refine r_iinc (ls1 := [some (.inr (34, 0)), some (.inr (35, 0)), some (.inr (36, 0)), some (.inl x3), some (.inl x4), some (.inl x5), some (.inl x6), some (.inl x7), some (.inl (x8 + 1)), some (.inl (5 * x8)), some (.inl (radL (m 35 0 ((5 * x8) + 3).toNatClampNeg)))]) L_102_121 kI_1 rfl (Nat.le_of_ble_eq_true rfl) rfl ?_
          refine r_goto L_102_124 ?_
          exact h _ _
      · refine r_iinc (ls1 := [some (.inr (34, 0)), some (.inr (35, 0)), some (.inr (36, 0)), some (.inl x3), some (.inl x4), some (.inl x5), some (.inl x6), some (.inl x7), some (.inl (x8 + 1)), some (.inl (5 * x8)), some (.inl (radL (m 35 0 ((5 * x8) + 3).toNatClampNeg)))]) L_102_121 kI_1 rfl (Nat.le_of_ble_eq_true rfl) rfl ?_
        refine r_goto L_102_124 ?_
        exact h _ _
    · refine r_aload_n L_102_39 rfl ?_
      refine r_iload L_102_40 rfl ?_
      refine r_iconst L_102_42 kI_3 ?_
      refine r_iadd L_102_43 ?_
      obtain ⟨g12, h⟩ := h
      refine r_iald (N := 40) (j := ((5 * x8) + 3).toNatClampNeg) L_102_44 (by decide +kernel) rfl g12 rfl ?_
      refine r_cs L_102_45 (by decide) rfl (V_100 ?_)
      refine r_aload_n L_102_48 rfl ?_
      refine r_iconst L_102_49 kI_5 ?_
      refine r_iald (N := 8) (j := 5) L_102_50 (by decide +kernel) rfl (by decide +kernel) (by decide +kernel) ?_
      refine r_imul L_102_51 ?_
      refine r_bipush L_102_52 kB_100 ?_
      refine r_idiv L_102_54 (by decide +kernel) ?_
      refine r_istore (ls1 := [some (.inr (34, 0)), some (.inr (35, 0)), some (.inr (36, 0)), some (.inl x3), some (.inl x4), some (.inl x5), some (.inl x6), some (.inl x7), some (.inl x8), some (.inl (5 * x8)), some (.inl (((radL (m 35 0 ((5 * x8) + 3).toNatClampNeg)) * (m 34 0 5)) / 100))]) L_102_55 (Nat.le_of_ble_eq_true rfl) rfl ?_
      refine r_aload_n L_102_57 rfl ?_
      refine r_iload L_102_58 rfl ?_
      refine r_iconst L_102_60 kI_4 ?_
      refine r_iadd L_102_61 ?_
      obtain ⟨g13, h⟩ := h
      refine r_iald (N := 40) (j := ((5 * x8) + 4).toNatClampNeg) L_102_62 (by decide +kernel) rfl g13 rfl ?_
      refine r_iconst L_102_63 kI_1 ?_
      refine r_icmpn L_102_64 rfl (i_mono h (fun c14 h => ?_) (fun c14 h => ?_))
      · refine r_aload_n L_102_67 rfl ?_
        refine r_iload L_102_68 rfl ?_
        refine r_iconst L_102_70 kI_2 ?_
        refine r_iadd L_102_71 ?_
        refine r_iald (N := 40) (j := ((5 * x8) + 2).toNatClampNeg) L_102_72 (by decide +kernel) rfl g2 rfl ?_
        refine r_iload_n L_102_73 rfl ?_
        refine r_isub L_102_74 ?_
        refine r_iconst L_102_75 kI_2 ?_
        refine r_icmpn L_102_76 cc_ge (i_mono h (fun c15 h => ?_) (fun c15 h => ?_))
        · refine r_iload_n L_102_79 rfl ?_
          refine r_aload_n L_102_80 rfl ?_
          refine r_iload L_102_81 rfl ?_
          refine r_iconst L_102_83 kI_2 ?_
          refine r_iadd L_102_84 ?_
          refine r_iald (N := 40) (j := ((5 * x8) + 2).toNatClampNeg) L_102_85 (by decide +kernel) rfl g2 rfl ?_
          refine r_isub L_102_86 ?_
          refine r_iconst L_102_87 kI_2 ?_
          refine r_icmpn L_102_88 cc_ge (i_mono h (fun c16 h => ?_) (fun c16 h => ?_))
          · refine r_iload L_102_91 rfl ?_
            refine r_iload L_102_93 rfl ?_
            refine r_aload_n L_102_95 rfl ?_
            refine r_iload L_102_96 rfl ?_
            obtain ⟨g17, h⟩ := h
            refine r_iald (N := 40) (j := (5 * x8).toNatClampNeg) L_102_98 (by decide +kernel) rfl g17 rfl ?_
            refine r_aload_n L_102_99 rfl ?_
            refine r_iload L_102_100 rfl ?_
            refine r_iconst L_102_102 kI_1 ?_
            refine r_iadd L_102_103 ?_
            obtain ⟨g18, h⟩ := h
            refine r_iald (N := 40) (j := ((5 * x8) + 1).toNatClampNeg) L_102_104 (by decide +kernel) rfl g18 rfl ?_
            refine r_iload L_102_105 rfl ?_
            refine r_iload L_102_107 rfl ?_
            refine r_cs L_102_109 (by decide) rfl (V_99 ?_)
            refine r_iadd L_102_112 ?_
            refine r_cs L_102_113 (by decide) rfl (V_101 ?_)
            refine r_ifeqP L_102_116 (i_mono h (fun c19 h => ?_) (fun c19 h => ?_))
            · refine r_iconst L_102_119 kI_0 ?_
              exact r_zret L_102_120 RT_102 (Or.inl rfl) h
            · refine r_iinc (ls1 := [some (.inr (34, 0)), some (.inr (35, 0)), some (.inr (36, 0)), some (.inl x3), some (.inl x4), some (.inl x5), some (.inl x6), some (.inl x7), some (.inl (x8 + 1)), some (.inl (5 * x8)), some (.inl (((radL (m 35 0 ((5 * x8) + 3).toNatClampNeg)) * (m 34 0 5)) / 100))]) L_102_121 kI_1 rfl (Nat.le_of_ble_eq_true rfl) rfl ?_
              refine r_goto L_102_124 ?_
              exact h _ _
          · refine r_iinc (ls1 := [some (.inr (34, 0)), some (.inr (35, 0)), some (.inr (36, 0)), some (.inl x3), some (.inl x4), some (.inl x5), some (.inl x6), some (.inl x7), some (.inl (x8 + 1)), some (.inl (5 * x8)), some (.inl (((radL (m 35 0 ((5 * x8) + 3).toNatClampNeg)) * (m 34 0 5)) / 100))]) L_102_121 kI_1 rfl (Nat.le_of_ble_eq_true rfl) rfl ?_
            refine r_goto L_102_124 ?_
            exact h _ _
        · refine r_iinc (ls1 := [some (.inr (34, 0)), some (.inr (35, 0)), some (.inr (36, 0)), some (.inl x3), some (.inl x4), some (.inl x5), some (.inl x6), some (.inl x7), some (.inl (x8 + 1)), some (.inl (5 * x8)), some (.inl (((radL (m 35 0 ((5 * x8) + 3).toNatClampNeg)) * (m 34 0 5)) / 100))]) L_102_121 kI_1 rfl (Nat.le_of_ble_eq_true rfl) rfl ?_
          refine r_goto L_102_124 ?_
          exact h _ _
      · refine r_iinc (ls1 := [some (.inr (34, 0)), some (.inr (35, 0)), some (.inr (36, 0)), some (.inl x3), some (.inl x4), some (.inl x5), some (.inl x6), some (.inl x7), some (.inl (x8 + 1)), some (.inl (5 * x8)), some (.inl (((radL (m 35 0 ((5 * x8) + 3).toNatClampNeg)) * (m 34 0 5)) / 100))]) L_102_121 kI_1 rfl (Nat.le_of_ble_eq_true rfl) rfl ?_
        refine r_goto L_102_124 ?_
        exact h _ _
  · refine r_iconst L_102_127 kI_0 ?_
    refine r_istore (ls1 := [some (.inr (34, 0)), some (.inr (35, 0)), some (.inr (36, 0)), some (.inl x3), some (.inl x4), some (.inl x5), some (.inl x6), some (.inl x7), some (.inl 0), d9, d10]) L_102_128 (Nat.le_of_ble_eq_true rfl) rfl ?_
    exact h _ _
/-- Law.allowed -/
theorem T_102 {x3 x4 x5 x6 x7 : Int32} {m : aM} {Q : Int32 → aM → Prop} (h :
   H_102_3 x3 x4 x5 x6 x7 0 m Q
  ) : Mi 102 [.inr (34, 0), .inr (35, 0), .inr (36, 0), .inl x3, .inl x4, .inl x5, .inl x6, .inl x7] m Q := by
  refine Mi_in ML_102 (show Rg 102 0 [some (.inr (34, 0)), some (.inr (35, 0)), some (.inr (36, 0)), some (.inl x3), some (.inl x4), some (.inl x5), some (.inl x6), some (.inl x7), none, none, none] [] m (qI Q) from ?_)
  refine r_iconst L_102_0 kI_0 ?_
  refine r_istore (ls1 := [some (.inr (34, 0)), some (.inr (35, 0)), some (.inr (36, 0)), some (.inl x3), some (.inl x4), some (.inl x5), some (.inl x6), some (.inl x7), some (.inl 0), none, none]) L_102_1 (Nat.le_of_ble_eq_true rfl) rfl ?_
  exact h _ _
/-- Law.may -/
theorem T_103 {x4 x5 x6 : Int32} {m : aM} {Q : Int32 → aM → Prop} (h :
   a_in (4 * x4) 64 = true ∧
    a_in ((4 * x4) + 1) 64 = true ∧
     Mi 102 [.inr (34, 0), .inr (35, 0), .inr (36, 0), .inl x5, .inl (m 37 0 (4 * x4).toNatClampNeg), .inl (m 37 0 ((4 * x4) + 1).toNatClampNeg), .inl x6, .inl (m 34 0 0)] m (fun v4 m3 =>
      (v4 = 0 ∨ v4 = 1) ∧
       Q v4 m3)
  ) : Mi 103 [.inr (34, 0), .inr (35, 0), .inr (36, 0), .inr (37, 0), .inl x4, .inl x5, .inl x6] m Q := by
  refine Mi_in ML_103 (show Rg 103 0 [some (.inr (34, 0)), some (.inr (35, 0)), some (.inr (36, 0)), some (.inr (37, 0)), some (.inl x4), some (.inl x5), some (.inl x6)] [] m (qI Q) from ?_)
  refine r_aload_n L_103_0 rfl ?_
  refine r_aload_n L_103_1 rfl ?_
  refine r_aload_n L_103_2 rfl ?_
  refine r_iload L_103_3 rfl ?_
  refine r_aload_n L_103_5 rfl ?_
  refine r_iconst L_103_6 kI_4 ?_
  refine r_iload L_103_7 rfl ?_
  refine r_imul L_103_9 ?_
  obtain ⟨g1, h⟩ := h
  refine r_iald (N := 64) (j := (4 * x4).toNatClampNeg) L_103_10 (by decide +kernel) rfl g1 rfl ?_
  refine r_aload_n L_103_11 rfl ?_
  refine r_iconst L_103_12 kI_4 ?_
  refine r_iload L_103_13 rfl ?_
  refine r_imul L_103_15 ?_
  refine r_iconst L_103_16 kI_1 ?_
  refine r_iadd L_103_17 ?_
  obtain ⟨g2, h⟩ := h
  refine r_iald (N := 64) (j := ((4 * x4) + 1).toNatClampNeg) L_103_18 (by decide +kernel) rfl g2 rfl ?_
  refine r_iload L_103_19 rfl ?_
  refine r_aload_n L_103_21 rfl ?_
  refine r_iconst L_103_22 kI_0 ?_
  refine r_iald (N := 8) (j := 0) L_103_23 (by decide +kernel) rfl (by decide +kernel) (by decide +kernel) ?_
  refine r_cs L_103_24 (by decide) rfl (Mi_mono h fun v4 m3 h => ?_)
  exact r_zret L_103_27 RT_103 h.1 h.2
def H_104_12 (x5 x6 x7 x8 x9 : Int32) (m : aM) (Q : Int32 → aM → Prop) : Prop := ∀ d10 d11 d12 : Option aV, Rg 104 12 [some (.inr (34, 0)), some (.inr (35, 0)), some (.inr (36, 0)), some (.inr (37, 0)), some (.inr (38, 0)), some (.inl x5), some (.inl x6), some (.inl x7), some (.inl x8), some (.inl x9), d10, d11, d12] [] m (qI Q)
def H_104_38 (x5 x6 x7 x8 x9 x10 x11 x12 : Int32) (m : aM) (Q : Int32 → aM → Prop) : Prop := Rg 104 38 [some (.inr (34, 0)), some (.inr (35, 0)), some (.inr (36, 0)), some (.inr (37, 0)), some (.inr (38, 0)), some (.inl x5), some (.inl x6), some (.inl x7), some (.inl x8), some (.inl x9), some (.inl x10), some (.inl x11), some (.inl x12)] [] m (qI Q)
/-- Law.offer, the loop at 38 -/
theorem T_104_38 {x5 x6 x7 x8 x9 x10 x11 x12 : Int32} {m : aM} {Q : Int32 → aM → Prop} (h :
   if x12 < (m 34 0 3) then
    (if x12 = x5 then
     H_104_38 x5 x6 x7 x8 x9 x10 x11 (x12 + 1) m Q
    else
     a_in ((4 * x12) + 3) 64 = true ∧
      if (m 37 0 ((4 * x12) + 3).toNatClampNeg) = x9 then
       (if x11 = 0 then
        H_104_38 x5 x6 x7 x8 x9 (x10 + 1) 0 (x12 + 1) m Q
       else
        a_in (4 * x5) 64 = true ∧
         a_in ((4 * x5) + 1) 64 = true ∧
          a_in (4 * x12) 64 = true ∧
           a_in ((4 * x12) + 1) 64 = true ∧
            a_in (3 * x12) 48 = true ∧
             if nearP (m 37 0 (4 * x5).toNatClampNeg) (m 37 0 ((4 * x5) + 1).toNatClampNeg) (m 37 0 (4 * x12).toNatClampNeg) (m 37 0 ((4 * x12) + 1).toNatClampNeg) ((rchL x6) + (rchL (m 38 0 (3 * x12).toNatClampNeg))) then
              H_104_38 x5 x6 x7 x8 x9 (x10 + 1) 0 (x12 + 1) m Q
             else
              H_104_38 x5 x6 x7 x8 x9 (x10 + 1) 1 (x12 + 1) m Q)
      else
       H_104_38 x5 x6 x7 x8 x9 x10 x11 (x12 + 1) m Q)
   else
    if x11 = 0 then
     H_104_12 x5 x6 x7 x8 (x9 + (-1)) m Q
    else
     if x8 < x10 then
      H_104_12 x5 x6 x7 x8 (x9 + (-1)) m Q
     else
      H_104_12 x5 x6 x9 x10 (x9 + (-1)) m Q
  ) : H_104_38 x5 x6 x7 x8 x9 x10 x11 x12 m Q := by
  show Rg 104 38 [some (.inr (34, 0)), some (.inr (35, 0)), some (.inr (36, 0)), some (.inr (37, 0)), some (.inr (38, 0)), some (.inl x5), some (.inl x6), some (.inl x7), some (.inl x8), some (.inl x9), some (.inl x10), some (.inl x11), some (.inl x12)] [] m (qI Q)
  refine r_iload L_104_38 rfl ?_
  refine r_aload_n L_104_40 rfl ?_
  refine r_iconst L_104_41 kI_3 ?_
  refine r_iald (N := 8) (j := 3) L_104_42 (by decide +kernel) rfl (by decide +kernel) (by decide +kernel) ?_
  refine r_icmpn L_104_43 cc_ge (i_mono h (fun c1 h => ?_) (fun c1 h => ?_))
  · refine r_iload L_104_46 rfl ?_
    refine r_iload L_104_48 rfl ?_
    refine r_icmp L_104_50 rfl (i_mono h (fun c2 h => ?_) (fun c2 h => ?_))
    · refine r_iinc (ls1 := [some (.inr (34, 0)), some (.inr (35, 0)), some (.inr (36, 0)), some (.inr (37, 0)), some (.inr (38, 0)), some (.inl x5), some (.inl x6), some (.inl x7), some (.inl x8), some (.inl x9), some (.inl x10), some (.inl x11), some (.inl (x12 + 1))]) L_104_131 kI_1 rfl (Nat.le_of_ble_eq_true rfl) rfl ?_
      refine r_goto L_104_134 ?_
      exact h
    · refine r_aload_n L_104_53 rfl ?_
      refine r_iconst L_104_54 kI_4 ?_
      refine r_iload L_104_55 rfl ?_
      refine r_imul L_104_57 ?_
      refine r_iconst L_104_58 kI_3 ?_
      refine r_iadd L_104_59 ?_
      obtain ⟨g3, h⟩ := h
      refine r_iald (N := 64) (j := ((4 * x12) + 3).toNatClampNeg) L_104_60 (by decide +kernel) rfl g3 rfl ?_
      refine r_iload L_104_61 rfl ?_
      refine r_icmpn L_104_63 rfl (i_mono h (fun c4 h => ?_) (fun c4 h => ?_))
      · refine r_iinc (ls1 := [some (.inr (34, 0)), some (.inr (35, 0)), some (.inr (36, 0)), some (.inr (37, 0)), some (.inr (38, 0)), some (.inl x5), some (.inl x6), some (.inl x7), some (.inl x8), some (.inl x9), some (.inl (x10 + 1)), some (.inl x11), some (.inl x12)]) L_104_66 kI_1 rfl (Nat.le_of_ble_eq_true rfl) rfl ?_
        refine r_iload L_104_69 rfl ?_
        refine r_if L_104_71 rfl (i_mono h (fun c5 h => ?_) (fun c5 h => ?_))
        · refine r_iconst L_104_128 kI_0 ?_
          refine r_istore (ls1 := [some (.inr (34, 0)), some (.inr (35, 0)), some (.inr (36, 0)), some (.inr (37, 0)), some (.inr (38, 0)), some (.inl x5), some (.inl x6), some (.inl x7), some (.inl x8), some (.inl x9), some (.inl (x10 + 1)), some (.inl 0), some (.inl x12)]) L_104_129 (Nat.le_of_ble_eq_true rfl) rfl ?_
          refine r_iinc (ls1 := [some (.inr (34, 0)), some (.inr (35, 0)), some (.inr (36, 0)), some (.inr (37, 0)), some (.inr (38, 0)), some (.inl x5), some (.inl x6), some (.inl x7), some (.inl x8), some (.inl x9), some (.inl (x10 + 1)), some (.inl 0), some (.inl (x12 + 1))]) L_104_131 kI_1 rfl (Nat.le_of_ble_eq_true rfl) rfl ?_
          refine r_goto L_104_134 ?_
          exact h
        · refine r_aload_n L_104_74 rfl ?_
          refine r_iconst L_104_75 kI_4 ?_
          refine r_iload L_104_76 rfl ?_
          refine r_imul L_104_78 ?_
          obtain ⟨g6, h⟩ := h
          refine r_iald (N := 64) (j := (4 * x5).toNatClampNeg) L_104_79 (by decide +kernel) rfl g6 rfl ?_
          refine r_aload_n L_104_80 rfl ?_
          refine r_iconst L_104_81 kI_4 ?_
          refine r_iload L_104_82 rfl ?_
          refine r_imul L_104_84 ?_
          refine r_iconst L_104_85 kI_1 ?_
          refine r_iadd L_104_86 ?_
          obtain ⟨g7, h⟩ := h
          refine r_iald (N := 64) (j := ((4 * x5) + 1).toNatClampNeg) L_104_87 (by decide +kernel) rfl g7 rfl ?_
          refine r_aload_n L_104_88 rfl ?_
          refine r_iconst L_104_89 kI_4 ?_
          refine r_iload L_104_90 rfl ?_
          refine r_imul L_104_92 ?_
          obtain ⟨g8, h⟩ := h
          refine r_iald (N := 64) (j := (4 * x12).toNatClampNeg) L_104_93 (by decide +kernel) rfl g8 rfl ?_
          refine r_aload_n L_104_94 rfl ?_
          refine r_iconst L_104_95 kI_4 ?_
          refine r_iload L_104_96 rfl ?_
          refine r_imul L_104_98 ?_
          refine r_iconst L_104_99 kI_1 ?_
          refine r_iadd L_104_100 ?_
          obtain ⟨g9, h⟩ := h
          refine r_iald (N := 64) (j := ((4 * x12) + 1).toNatClampNeg) L_104_101 (by decide +kernel) rfl g9 rfl ?_
          refine r_iload L_104_102 rfl ?_
          refine r_cs L_104_104 (by decide) rfl (V_99 ?_)
          refine r_aload L_104_107 rfl ?_
          refine r_iconst L_104_109 kI_3 ?_
          refine r_iload L_104_110 rfl ?_
          refine r_imul L_104_112 ?_
          obtain ⟨g10, h⟩ := h
          refine r_iald (N := 48) (j := (3 * x12).toNatClampNeg) L_104_113 (by decide +kernel) rfl g10 rfl ?_
          refine r_cs L_104_114 (by decide) rfl (V_99 ?_)
          refine r_iadd L_104_117 ?_
          refine r_cs L_104_118 (by decide) rfl (V_101 ?_)
          refine r_ifneP L_104_121 (i_mono h (fun c11 h => ?_) (fun c11 h => ?_))
          · refine r_iconst L_104_128 kI_0 ?_
            refine r_istore (ls1 := [some (.inr (34, 0)), some (.inr (35, 0)), some (.inr (36, 0)), some (.inr (37, 0)), some (.inr (38, 0)), some (.inl x5), some (.inl x6), some (.inl x7), some (.inl x8), some (.inl x9), some (.inl (x10 + 1)), some (.inl 0), some (.inl x12)]) L_104_129 (Nat.le_of_ble_eq_true rfl) rfl ?_
            refine r_iinc (ls1 := [some (.inr (34, 0)), some (.inr (35, 0)), some (.inr (36, 0)), some (.inr (37, 0)), some (.inr (38, 0)), some (.inl x5), some (.inl x6), some (.inl x7), some (.inl x8), some (.inl x9), some (.inl (x10 + 1)), some (.inl 0), some (.inl (x12 + 1))]) L_104_131 kI_1 rfl (Nat.le_of_ble_eq_true rfl) rfl ?_
            refine r_goto L_104_134 ?_
            exact h
          · refine r_iconst L_104_124 kI_1 ?_
            refine r_goto L_104_125 ?_
            refine r_istore (ls1 := [some (.inr (34, 0)), some (.inr (35, 0)), some (.inr (36, 0)), some (.inr (37, 0)), some (.inr (38, 0)), some (.inl x5), some (.inl x6), some (.inl x7), some (.inl x8), some (.inl x9), some (.inl (x10 + 1)), some (.inl 1), some (.inl x12)]) L_104_129 (Nat.le_of_ble_eq_true rfl) rfl ?_
            refine r_iinc (ls1 := [some (.inr (34, 0)), some (.inr (35, 0)), some (.inr (36, 0)), some (.inr (37, 0)), some (.inr (38, 0)), some (.inl x5), some (.inl x6), some (.inl x7), some (.inl x8), some (.inl x9), some (.inl (x10 + 1)), some (.inl 1), some (.inl (x12 + 1))]) L_104_131 kI_1 rfl (Nat.le_of_ble_eq_true rfl) rfl ?_
            refine r_goto L_104_134 ?_
            exact h
      · refine r_iinc (ls1 := [some (.inr (34, 0)), some (.inr (35, 0)), some (.inr (36, 0)), some (.inr (37, 0)), some (.inr (38, 0)), some (.inl x5), some (.inl x6), some (.inl x7), some (.inl x8), some (.inl x9), some (.inl x10), some (.inl x11), some (.inl (x12 + 1))]) L_104_131 kI_1 rfl (Nat.le_of_ble_eq_true rfl) rfl ?_
        refine r_goto L_104_134 ?_
        exact h
  · refine r_iload L_104_137 rfl ?_
    refine r_if L_104_139 rfl (i_mono h (fun c12 h => ?_) (fun c12 h => ?_))
    · refine r_iinc (ls1 := [some (.inr (34, 0)), some (.inr (35, 0)), some (.inr (36, 0)), some (.inr (37, 0)), some (.inr (38, 0)), some (.inl x5), some (.inl x6), some (.inl x7), some (.inl x8), some (.inl (x9 + (-1))), some (.inl x10), some (.inl x11), some (.inl x12)]) L_104_157 kI_m1 rfl (Nat.le_of_ble_eq_true rfl) rfl ?_
      refine r_goto L_104_160 ?_
      exact h _ _ _
    · refine r_iload L_104_142 rfl ?_
      refine r_iload L_104_144 rfl ?_
      refine r_icmp L_104_146 rfl (i_mono h (fun c13 h => ?_) (fun c13 h => ?_))
      · refine r_iinc (ls1 := [some (.inr (34, 0)), some (.inr (35, 0)), some (.inr (36, 0)), some (.inr (37, 0)), some (.inr (38, 0)), some (.inl x5), some (.inl x6), some (.inl x7), some (.inl x8), some (.inl (x9 + (-1))), some (.inl x10), some (.inl x11), some (.inl x12)]) L_104_157 kI_m1 rfl (Nat.le_of_ble_eq_true rfl) rfl ?_
        refine r_goto L_104_160 ?_
        exact h _ _ _
      · refine r_iload L_104_149 rfl ?_
        refine r_istore (ls1 := [some (.inr (34, 0)), some (.inr (35, 0)), some (.inr (36, 0)), some (.inr (37, 0)), some (.inr (38, 0)), some (.inl x5), some (.inl x6), some (.inl x9), some (.inl x8), some (.inl x9), some (.inl x10), some (.inl x11), some (.inl x12)]) L_104_151 (Nat.le_of_ble_eq_true rfl) rfl ?_
        refine r_iload L_104_153 rfl ?_
        refine r_istore (ls1 := [some (.inr (34, 0)), some (.inr (35, 0)), some (.inr (36, 0)), some (.inr (37, 0)), some (.inr (38, 0)), some (.inl x5), some (.inl x6), some (.inl x9), some (.inl x10), some (.inl x9), some (.inl x10), some (.inl x11), some (.inl x12)]) L_104_155 (Nat.le_of_ble_eq_true rfl) rfl ?_
        refine r_iinc (ls1 := [some (.inr (34, 0)), some (.inr (35, 0)), some (.inr (36, 0)), some (.inr (37, 0)), some (.inr (38, 0)), some (.inl x5), some (.inl x6), some (.inl x9), some (.inl x10), some (.inl (x9 + (-1))), some (.inl x10), some (.inl x11), some (.inl x12)]) L_104_157 kI_m1 rfl (Nat.le_of_ble_eq_true rfl) rfl ?_
        refine r_goto L_104_160 ?_
        exact h _ _ _
/-- Law.offer, the loop at 12 -/
theorem T_104_12 {x5 x6 x7 x8 x9 : Int32} {m : aM} {Q : Int32 → aM → Prop} (h :
   if x9 < 0 then
    Q x7 m
   else
    Mi 103 [.inr (34, 0), .inr (35, 0), .inr (36, 0), .inr (37, 0), .inl x5, .inl x9, .inl x6] m (fun v3 m2 =>
     H_104_38 x5 x6 x7 x8 x9 0 v3 0 m2 Q)
  ) : H_104_12 x5 x6 x7 x8 x9 m Q := by
  intro d10 d11 d12
  show Rg 104 12 [some (.inr (34, 0)), some (.inr (35, 0)), some (.inr (36, 0)), some (.inr (37, 0)), some (.inr (38, 0)), some (.inl x5), some (.inl x6), some (.inl x7), some (.inl x8), some (.inl x9), d10, d11, d12] [] m (qI Q)
  refine r_iload L_104_12 rfl ?_
  refine r_if L_104_14 rfl (i_mono h (fun c1 h => ?_) (fun c1 h => ?_))
  · refine r_iload L_104_163 rfl ?_
    exact r_iret L_104_165 RT_104 h
  · refine r_iconst L_104_17 kI_0 ?_
    refine r_istore (ls1 := [some (.inr (34, 0)), some (.inr (35, 0)), some (.inr (36, 0)), some (.inr (37, 0)), some (.inr (38, 0)), some (.inl x5), some (.inl x6), some (.inl x7), some (.inl x8), some (.inl x9), some (.inl 0), d11, d12]) L_104_18 (Nat.le_of_ble_eq_true rfl) rfl ?_
    refine r_aload_n L_104_20 rfl ?_
    refine r_aload_n L_104_21 rfl ?_
    refine r_aload_n L_104_22 rfl ?_
    refine r_aload_n L_104_23 rfl ?_
    refine r_iload L_104_24 rfl ?_
    refine r_iload L_104_26 rfl ?_
    refine r_iload L_104_28 rfl ?_
    refine r_cs L_104_30 (by decide) rfl (Mi_mono h fun v3 m2 h => ?_)
    refine r_istore (ls1 := [some (.inr (34, 0)), some (.inr (35, 0)), some (.inr (36, 0)), some (.inr (37, 0)), some (.inr (38, 0)), some (.inl x5), some (.inl x6), some (.inl x7), some (.inl x8), some (.inl x9), some (.inl 0), some (.inl v3), d12]) L_104_33 (Nat.le_of_ble_eq_true rfl) rfl ?_
    refine r_iconst L_104_35 kI_0 ?_
    refine r_istore (ls1 := [some (.inr (34, 0)), some (.inr (35, 0)), some (.inr (36, 0)), some (.inr (37, 0)), some (.inr (38, 0)), some (.inl x5), some (.inl x6), some (.inl x7), some (.inl x8), some (.inl x9), some (.inl 0), some (.inl v3), some (.inl 0)]) L_104_36 (Nat.le_of_ble_eq_true rfl) rfl ?_
    exact h
/-- Law.offer -/
theorem T_104 {x5 x6 : Int32} {m : aM} {Q : Int32 → aM → Prop} (h :
   H_104_12 x5 x6 (-6) 99 7 m Q
  ) : Mi 104 [.inr (34, 0), .inr (35, 0), .inr (36, 0), .inr (37, 0), .inr (38, 0), .inl x5, .inl x6] m Q := by
  refine Mi_in ML_104 (show Rg 104 0 [some (.inr (34, 0)), some (.inr (35, 0)), some (.inr (36, 0)), some (.inr (37, 0)), some (.inr (38, 0)), some (.inl x5), some (.inl x6), none, none, none, none, none, none] [] m (qI Q) from ?_)
  refine r_bipush L_104_0 kB_m6 ?_
  refine r_istore (ls1 := [some (.inr (34, 0)), some (.inr (35, 0)), some (.inr (36, 0)), some (.inr (37, 0)), some (.inr (38, 0)), some (.inl x5), some (.inl x6), some (.inl (-6)), none, none, none, none, none]) L_104_2 (Nat.le_of_ble_eq_true rfl) rfl ?_
  refine r_bipush L_104_4 kB_99 ?_
  refine r_istore (ls1 := [some (.inr (34, 0)), some (.inr (35, 0)), some (.inr (36, 0)), some (.inr (37, 0)), some (.inr (38, 0)), some (.inl x5), some (.inl x6), some (.inl (-6)), some (.inl 99), none, none, none, none]) L_104_6 (Nat.le_of_ble_eq_true rfl) rfl ?_
  refine r_bipush L_104_8 kB_7 ?_
  refine r_istore (ls1 := [some (.inr (34, 0)), some (.inr (35, 0)), some (.inr (36, 0)), some (.inr (37, 0)), some (.inr (38, 0)), some (.inl x5), some (.inl x6), some (.inl (-6)), some (.inl 99), some (.inl 7), none, none, none]) L_104_10 (Nat.le_of_ble_eq_true rfl) rfl ?_
  exact h _ _ _
def H_105_3 (x5 : Int32) (m : aM) (Q : aM → Prop) : Prop := ∀ d6 : Option aV, Rg 105 3 [some (.inr (34, 0)), some (.inr (35, 0)), some (.inr (36, 0)), some (.inr (37, 0)), some (.inr (38, 0)), some (.inl x5), d6] [] m (qV Q)
/-- Law.review, the loop at 3 -/
theorem T_105_3 {x5 : Int32} {m : aM} {Q : aM → Prop} (h :
   if x5 < (m 34 0 3) then
    (a_in ((4 * x5) + 3) 64 = true ∧
     if (m 37 0 ((4 * x5) + 3).toNatClampNeg) < 0 then
      H_105_3 (x5 + 1) m Q
     else
      a_in (3 * x5) 48 = true ∧
       Mi 103 [.inr (34, 0), .inr (35, 0), .inr (36, 0), .inr (37, 0), .inl x5, .inl (m 37 0 ((4 * x5) + 3).toNatClampNeg), .inl (m 38 0 (3 * x5).toNatClampNeg)] m (fun v6 m5 =>
        if v6 = 0 then
         (a_in ((3 * x5) + 2) 48 = true ∧
          if (m5 38 0 ((3 * x5) + 2).toNatClampNeg) < 0 then
           ((∀ m10, m10 = a_up m5 38 0 ((3 * x5) + 2).toNatClampNeg (m5 34 0 0) →
           H_105_3 (x5 + 1) m10 Q))
          else
           (∀ m11, m11 = a_up m5 38 0 ((3 * x5) + 2).toNatClampNeg (m5 38 0 ((3 * x5) + 2).toNatClampNeg) →
           H_105_3 (x5 + 1) m11 Q))
        else
         (a_in ((3 * x5) + 2) 48 = true ∧
          (∀ m13, m13 = a_up m5 38 0 ((3 * x5) + 2).toNatClampNeg (-6) →
          H_105_3 (x5 + 1) m13 Q))))
   else
    Q m
  ) : H_105_3 x5 m Q := by
  intro d6
  show Rg 105 3 [some (.inr (34, 0)), some (.inr (35, 0)), some (.inr (36, 0)), some (.inr (37, 0)), some (.inr (38, 0)), some (.inl x5), d6] [] m (qV Q)
  refine r_iload L_105_3 rfl ?_
  refine r_aload_n L_105_5 rfl ?_
  refine r_iconst L_105_6 kI_3 ?_
  refine r_iald (N := 8) (j := 3) L_105_7 (by decide +kernel) rfl (by decide +kernel) (by decide +kernel) ?_
  refine r_icmpn L_105_8 cc_ge (i_mono h (fun c1 h => ?_) (fun c1 h => ?_))
  · refine r_aload_n L_105_11 rfl ?_
    refine r_iconst L_105_12 kI_4 ?_
    refine r_iload L_105_13 rfl ?_
    refine r_imul L_105_15 ?_
    refine r_iconst L_105_16 kI_3 ?_
    refine r_iadd L_105_17 ?_
    obtain ⟨g2, h⟩ := h
    refine r_iald (N := 64) (j := ((4 * x5) + 3).toNatClampNeg) L_105_18 (by decide +kernel) rfl g2 rfl ?_
    refine r_if L_105_19 rfl (i_mono h (fun c3 h => ?_) (fun c3 h => ?_))
    · refine r_iinc (ls1 := [some (.inr (34, 0)), some (.inr (35, 0)), some (.inr (36, 0)), some (.inr (37, 0)), some (.inr (38, 0)), some (.inl (x5 + 1)), d6]) L_105_94 kI_1 rfl (Nat.le_of_ble_eq_true rfl) rfl ?_
      refine r_goto L_105_97 ?_
      exact h _
    · refine r_aload_n L_105_22 rfl ?_
      refine r_aload_n L_105_23 rfl ?_
      refine r_aload_n L_105_24 rfl ?_
      refine r_aload_n L_105_25 rfl ?_
      refine r_iload L_105_26 rfl ?_
      refine r_aload_n L_105_28 rfl ?_
      refine r_iconst L_105_29 kI_4 ?_
      refine r_iload L_105_30 rfl ?_
      refine r_imul L_105_32 ?_
      refine r_iconst L_105_33 kI_3 ?_
      refine r_iadd L_105_34 ?_
      refine r_iald (N := 64) (j := ((4 * x5) + 3).toNatClampNeg) L_105_35 (by decide +kernel) rfl g2 rfl ?_
      refine r_aload L_105_36 rfl ?_
      refine r_iconst L_105_38 kI_3 ?_
      refine r_iload L_105_39 rfl ?_
      refine r_imul L_105_41 ?_
      obtain ⟨g4, h⟩ := h
      refine r_iald (N := 48) (j := (3 * x5).toNatClampNeg) L_105_42 (by decide +kernel) rfl g4 rfl ?_
      refine r_cs L_105_43 (by decide) rfl (Mi_mono h fun v6 m5 h => ?_)
      refine r_istore (ls1 := [some (.inr (34, 0)), some (.inr (35, 0)), some (.inr (36, 0)), some (.inr (37, 0)), some (.inr (38, 0)), some (.inl x5), some (.inl v6)]) L_105_46 (Nat.le_of_ble_eq_true rfl) rfl ?_
      refine r_aload L_105_48 rfl ?_
      refine r_iconst L_105_50 kI_3 ?_
      refine r_iload L_105_51 rfl ?_
      refine r_imul L_105_53 ?_
      refine r_iconst L_105_54 kI_2 ?_
      refine r_iadd L_105_55 ?_
      refine r_iload L_105_56 rfl ?_
      refine r_if L_105_58 rfl (i_mono h (fun c7 h => ?_) (fun c7 h => ?_))
      · refine r_aload L_105_66 rfl ?_
        refine r_iconst L_105_68 kI_3 ?_
        refine r_iload L_105_69 rfl ?_
        refine r_imul L_105_71 ?_
        refine r_iconst L_105_72 kI_2 ?_
        refine r_iadd L_105_73 ?_
        obtain ⟨g8, h⟩ := h
        refine r_iald (N := 48) (j := ((3 * x5) + 2).toNatClampNeg) L_105_74 (by decide +kernel) rfl g8 rfl ?_
        refine r_ifn L_105_75 cc_ge (i_mono h (fun c9 h => ?_) (fun c9 h => ?_))
        · refine r_aload_n L_105_78 rfl ?_
          refine r_iconst L_105_79 kI_0 ?_
          refine r_iald (N := 8) (j := 0) L_105_80 (by decide +kernel) rfl (by decide +kernel) (by decide +kernel) ?_
          refine r_goto L_105_81 ?_
          refine r_iast (N := 48) (j := ((3 * x5) + 2).toNatClampNeg) L_105_93 (by decide +kernel) rfl g8 rfl ?_
          refine r_nm fun m10 em10 => ?_
          have h := h m10 em10
          refine r_iinc (ls1 := [some (.inr (34, 0)), some (.inr (35, 0)), some (.inr (36, 0)), some (.inr (37, 0)), some (.inr (38, 0)), some (.inl (x5 + 1)), some (.inl v6)]) L_105_94 kI_1 rfl (Nat.le_of_ble_eq_true rfl) rfl ?_
          refine r_goto L_105_97 ?_
          exact h _
        · refine r_aload L_105_84 rfl ?_
          refine r_iconst L_105_86 kI_3 ?_
          refine r_iload L_105_87 rfl ?_
          refine r_imul L_105_89 ?_
          refine r_iconst L_105_90 kI_2 ?_
          refine r_iadd L_105_91 ?_
          refine r_iald (N := 48) (j := ((3 * x5) + 2).toNatClampNeg) L_105_92 (by decide +kernel) rfl g8 rfl ?_
          refine r_iast (N := 48) (j := ((3 * x5) + 2).toNatClampNeg) L_105_93 (by decide +kernel) rfl g8 rfl ?_
          refine r_nm fun m11 em11 => ?_
          have h := h m11 em11
          refine r_iinc (ls1 := [some (.inr (34, 0)), some (.inr (35, 0)), some (.inr (36, 0)), some (.inr (37, 0)), some (.inr (38, 0)), some (.inl (x5 + 1)), some (.inl v6)]) L_105_94 kI_1 rfl (Nat.le_of_ble_eq_true rfl) rfl ?_
          refine r_goto L_105_97 ?_
          exact h _
      · refine r_bipush L_105_61 kB_m6 ?_
        refine r_goto L_105_63 ?_
        obtain ⟨g12, h⟩ := h
        refine r_iast (N := 48) (j := ((3 * x5) + 2).toNatClampNeg) L_105_93 (by decide +kernel) rfl g12 rfl ?_
        refine r_nm fun m13 em13 => ?_
        have h := h m13 em13
        refine r_iinc (ls1 := [some (.inr (34, 0)), some (.inr (35, 0)), some (.inr (36, 0)), some (.inr (37, 0)), some (.inr (38, 0)), some (.inl (x5 + 1)), some (.inl v6)]) L_105_94 kI_1 rfl (Nat.le_of_ble_eq_true rfl) rfl ?_
        refine r_goto L_105_97 ?_
        exact h _
  · exact r_vret L_105_100 RT_105 h
/-- Law.review -/
theorem T_105 {m : aM} {Q : aM → Prop} (h :
   H_105_3 0 m Q
  ) : Mv 105 [.inr (34, 0), .inr (35, 0), .inr (36, 0), .inr (37, 0), .inr (38, 0)] m Q := by
  refine Mv_in ML_105 (show Rg 105 0 [some (.inr (34, 0)), some (.inr (35, 0)), some (.inr (36, 0)), some (.inr (37, 0)), some (.inr (38, 0)), none, none] [] m (qV Q) from ?_)
  refine r_iconst L_105_0 kI_0 ?_
  refine r_istore (ls1 := [some (.inr (34, 0)), some (.inr (35, 0)), some (.inr (36, 0)), some (.inr (37, 0)), some (.inr (38, 0)), some (.inl 0), none]) L_105_1 (Nat.le_of_ble_eq_true rfl) rfl ?_
  exact h _
def H_106_11 (x2 x3 : Int32) (m : aM) (Q : aM → Prop) : Prop := Rg 106 11 [some (.inr (37, 0)), some (.inr (38, 0)), some (.inl x2), some (.inl x3)] [] m (qV Q)
/-- Law.ends, the loop at 11 -/
theorem T_106_11 {x2 x3 : Int32} {m : aM} {Q : aM → Prop} (h :
   if x3 < 3 then
    ((a_in ((3 * x2) + x3) 48 = true ∧
     (∀ m3, m3 = a_up m 38 0 ((3 * x2) + x3).toNatClampNeg (-6) →
     H_106_11 x2 (x3 + 1) m3 Q)))
   else
    Q m
  ) : H_106_11 x2 x3 m Q := by
  show Rg 106 11 [some (.inr (37, 0)), some (.inr (38, 0)), some (.inl x2), some (.inl x3)] [] m (qV Q)
  refine r_iload_n L_106_11 rfl ?_
  refine r_iconst L_106_12 kI_3 ?_
  refine r_icmpn L_106_13 cc_ge (i_mono h (fun c1 h => ?_) (fun c1 h => ?_))
  · refine r_aload_n L_106_16 rfl ?_
    refine r_iconst L_106_17 kI_3 ?_
    refine r_iload_n L_106_18 rfl ?_
    refine r_imul L_106_19 ?_
    refine r_iload_n L_106_20 rfl ?_
    refine r_iadd L_106_21 ?_
    refine r_bipush L_106_22 kB_m6 ?_
    obtain ⟨g2, h⟩ := h
    refine r_iast (N := 48) (j := ((3 * x2) + x3).toNatClampNeg) L_106_24 (by decide +kernel) rfl g2 rfl ?_
    refine r_nm fun m3 em3 => ?_
    have h := h m3 em3
    refine r_iinc (ls1 := [some (.inr (37, 0)), some (.inr (38, 0)), some (.inl x2), some (.inl (x3 + 1))]) L_106_25 kI_1 rfl (Nat.le_of_ble_eq_true rfl) rfl ?_
    refine r_goto L_106_28 ?_
    exact h
  · exact r_vret L_106_31 RT_106 h
/-- Law.ends -/
theorem T_106 {x2 : Int32} {m : aM} {Q : aM → Prop} (h :
   (a_in ((4 * x2) + 3) 64 = true ∧
    (∀ m2, m2 = a_up m 37 0 ((4 * x2) + 3).toNatClampNeg (-6) →
    H_106_11 x2 0 m2 Q))
  ) : Mv 106 [.inr (37, 0), .inr (38, 0), .inl x2] m Q := by
  refine Mv_in ML_106 (show Rg 106 0 [some (.inr (37, 0)), some (.inr (38, 0)), some (.inl x2), none] [] m (qV Q) from ?_)
  refine r_aload_n L_106_0 rfl ?_
  refine r_iconst L_106_1 kI_4 ?_
  refine r_iload_n L_106_2 rfl ?_
  refine r_imul L_106_3 ?_
  refine r_iconst L_106_4 kI_3 ?_
  refine r_iadd L_106_5 ?_
  refine r_bipush L_106_6 kB_m6 ?_
  obtain ⟨g1, h⟩ := h
  refine r_iast (N := 64) (j := ((4 * x2) + 3).toNatClampNeg) L_106_8 (by decide +kernel) rfl g1 rfl ?_
  refine r_nm fun m2 em2 => ?_
  have h := h m2 em2
  refine r_iconst L_106_9 kI_0 ?_
  refine r_istore_n (ls1 := [some (.inr (37, 0)), some (.inr (38, 0)), some (.inl x2), some (.inl 0)]) L_106_10 (Nat.le_of_ble_eq_true rfl) rfl ?_
  exact h
def H_107_4 (x2 x3 : Int32) (m : aM) (Q : Int32 → aM → Prop) : Prop := Rg 107 4 [some (.inr (34, 0)), some (.inr (38, 0)), some (.inl x2), some (.inl x3)] [] m (qI Q)
/-- Law.notices, the loop at 4 -/
theorem T_107_4 {x2 x3 : Int32} {m : aM} {Q : Int32 → aM → Prop} (h :
   if x3 < (m 34 0 3) then
    (a_in ((3 * x3) + 2) 48 = true ∧
     if (m 38 0 ((3 * x3) + 2).toNatClampNeg) < 0 then
      H_107_4 (x2 + 0) (x3 + 1) m Q
     else
      H_107_4 (x2 + 1) (x3 + 1) m Q)
   else
    Q x2 m
  ) : H_107_4 x2 x3 m Q := by
  show Rg 107 4 [some (.inr (34, 0)), some (.inr (38, 0)), some (.inl x2), some (.inl x3)] [] m (qI Q)
  refine r_iload_n L_107_4 rfl ?_
  refine r_aload_n L_107_5 rfl ?_
  refine r_iconst L_107_6 kI_3 ?_
  refine r_iald (N := 8) (j := 3) L_107_7 (by decide +kernel) rfl (by decide +kernel) (by decide +kernel) ?_
  refine r_icmpn L_107_8 cc_ge (i_mono h (fun c1 h => ?_) (fun c1 h => ?_))
  · refine r_iload_n L_107_11 rfl ?_
    refine r_aload_n L_107_12 rfl ?_
    refine r_iconst L_107_13 kI_3 ?_
    refine r_iload_n L_107_14 rfl ?_
    refine r_imul L_107_15 ?_
    refine r_iconst L_107_16 kI_2 ?_
    refine r_iadd L_107_17 ?_
    obtain ⟨g2, h⟩ := h
    refine r_iald (N := 48) (j := ((3 * x3) + 2).toNatClampNeg) L_107_18 (by decide +kernel) rfl g2 rfl ?_
    refine r_if L_107_19 rfl (i_mono h (fun c3 h => ?_) (fun c3 h => ?_))
    · refine r_iconst L_107_26 kI_0 ?_
      refine r_iadd L_107_27 ?_
      refine r_istore_n (ls1 := [some (.inr (34, 0)), some (.inr (38, 0)), some (.inl (x2 + 0)), some (.inl x3)]) L_107_28 (Nat.le_of_ble_eq_true rfl) rfl ?_
      refine r_iinc (ls1 := [some (.inr (34, 0)), some (.inr (38, 0)), some (.inl (x2 + 0)), some (.inl (x3 + 1))]) L_107_29 kI_1 rfl (Nat.le_of_ble_eq_true rfl) rfl ?_
      refine r_goto L_107_32 ?_
      exact h
    · refine r_iconst L_107_22 kI_1 ?_
      refine r_goto L_107_23 ?_
      refine r_iadd L_107_27 ?_
      refine r_istore_n (ls1 := [some (.inr (34, 0)), some (.inr (38, 0)), some (.inl (x2 + 1)), some (.inl x3)]) L_107_28 (Nat.le_of_ble_eq_true rfl) rfl ?_
      refine r_iinc (ls1 := [some (.inr (34, 0)), some (.inr (38, 0)), some (.inl (x2 + 1)), some (.inl (x3 + 1))]) L_107_29 kI_1 rfl (Nat.le_of_ble_eq_true rfl) rfl ?_
      refine r_goto L_107_32 ?_
      exact h
  · refine r_iload_n L_107_35 rfl ?_
    exact r_iret L_107_36 RT_107 h
/-- Law.notices -/
theorem T_107 {m : aM} {Q : Int32 → aM → Prop} (h :
   H_107_4 0 0 m Q
  ) : Mi 107 [.inr (34, 0), .inr (38, 0)] m Q := by
  refine Mi_in ML_107 (show Rg 107 0 [some (.inr (34, 0)), some (.inr (38, 0)), none, none] [] m (qI Q) from ?_)
  refine r_iconst L_107_0 kI_0 ?_
  refine r_istore_n (ls1 := [some (.inr (34, 0)), some (.inr (38, 0)), some (.inl 0), none]) L_107_1 (Nat.le_of_ble_eq_true rfl) rfl ?_
  refine r_iconst L_107_2 kI_0 ?_
  refine r_istore_n (ls1 := [some (.inr (34, 0)), some (.inr (38, 0)), some (.inl 0), some (.inl 0)]) L_107_3 (Nat.le_of_ble_eq_true rfl) rfl ?_
  exact h
def H_108_4 (x2 x3 : Int32) (m : aM) (Q : Int32 → aM → Prop) : Prop := Rg 108 4 [some (.inr (34, 0)), some (.inr (37, 0)), some (.inl x2), some (.inl x3)] [] m (qI Q)
/-- Law.leases, the loop at 4 -/
theorem T_108_4 {x2 x3 : Int32} {m : aM} {Q : Int32 → aM → Prop} (h :
   if x3 < (m 34 0 3) then
    (a_in ((4 * x3) + 3) 64 = true ∧
     if (m 37 0 ((4 * x3) + 3).toNatClampNeg) < 0 then
      H_108_4 (x2 + 0) (x3 + 1) m Q
     else
      H_108_4 (x2 + 1) (x3 + 1) m Q)
   else
    Q x2 m
  ) : H_108_4 x2 x3 m Q := by
  show Rg 108 4 [some (.inr (34, 0)), some (.inr (37, 0)), some (.inl x2), some (.inl x3)] [] m (qI Q)
  refine r_iload_n L_108_4 rfl ?_
  refine r_aload_n L_108_5 rfl ?_
  refine r_iconst L_108_6 kI_3 ?_
  refine r_iald (N := 8) (j := 3) L_108_7 (by decide +kernel) rfl (by decide +kernel) (by decide +kernel) ?_
  refine r_icmpn L_108_8 cc_ge (i_mono h (fun c1 h => ?_) (fun c1 h => ?_))
  · refine r_iload_n L_108_11 rfl ?_
    refine r_aload_n L_108_12 rfl ?_
    refine r_iconst L_108_13 kI_4 ?_
    refine r_iload_n L_108_14 rfl ?_
    refine r_imul L_108_15 ?_
    refine r_iconst L_108_16 kI_3 ?_
    refine r_iadd L_108_17 ?_
    obtain ⟨g2, h⟩ := h
    refine r_iald (N := 64) (j := ((4 * x3) + 3).toNatClampNeg) L_108_18 (by decide +kernel) rfl g2 rfl ?_
    refine r_if L_108_19 rfl (i_mono h (fun c3 h => ?_) (fun c3 h => ?_))
    · refine r_iconst L_108_26 kI_0 ?_
      refine r_iadd L_108_27 ?_
      refine r_istore_n (ls1 := [some (.inr (34, 0)), some (.inr (37, 0)), some (.inl (x2 + 0)), some (.inl x3)]) L_108_28 (Nat.le_of_ble_eq_true rfl) rfl ?_
      refine r_iinc (ls1 := [some (.inr (34, 0)), some (.inr (37, 0)), some (.inl (x2 + 0)), some (.inl (x3 + 1))]) L_108_29 kI_1 rfl (Nat.le_of_ble_eq_true rfl) rfl ?_
      refine r_goto L_108_32 ?_
      exact h
    · refine r_iconst L_108_22 kI_1 ?_
      refine r_goto L_108_23 ?_
      refine r_iadd L_108_27 ?_
      refine r_istore_n (ls1 := [some (.inr (34, 0)), some (.inr (37, 0)), some (.inl (x2 + 1)), some (.inl x3)]) L_108_28 (Nat.le_of_ble_eq_true rfl) rfl ?_
      refine r_iinc (ls1 := [some (.inr (34, 0)), some (.inr (37, 0)), some (.inl (x2 + 1)), some (.inl (x3 + 1))]) L_108_29 kI_1 rfl (Nat.le_of_ble_eq_true rfl) rfl ?_
      refine r_goto L_108_32 ?_
      exact h
  · refine r_iload_n L_108_35 rfl ?_
    exact r_iret L_108_36 RT_108 h
/-- Law.leases -/
theorem T_108 {m : aM} {Q : Int32 → aM → Prop} (h :
   H_108_4 0 0 m Q
  ) : Mi 108 [.inr (34, 0), .inr (37, 0)] m Q := by
  refine Mi_in ML_108 (show Rg 108 0 [some (.inr (34, 0)), some (.inr (37, 0)), none, none] [] m (qI Q) from ?_)
  refine r_iconst L_108_0 kI_0 ?_
  refine r_istore_n (ls1 := [some (.inr (34, 0)), some (.inr (37, 0)), some (.inl 0), none]) L_108_1 (Nat.le_of_ble_eq_true rfl) rfl ?_
  refine r_iconst L_108_2 kI_0 ?_
  refine r_istore_n (ls1 := [some (.inr (34, 0)), some (.inr (37, 0)), some (.inl 0), some (.inl 0)]) L_108_3 (Nat.le_of_ble_eq_true rfl) rfl ?_
  exact h
def H_109_13 (x6 x7 : Int32) (m : aM) (Q : Int32 → aM → Prop) : Prop := ∀ d8 d9 : Option aV, Rg 109 13 [some (.inr (34, 0)), some (.inr (35, 0)), some (.inr (36, 0)), some (.inr (37, 0)), some (.inr (38, 0)), some (.inr (39, 0)), some (.inl x6), some (.inl x7), d8, d9] [] m (qI Q)
def H_109_73 (x6 x7 : Int32) (m : aM) (Q : Int32 → aM → Prop) : Prop := ∀ d8 d9 : Option aV, Rg 109 73 [some (.inr (34, 0)), some (.inr (35, 0)), some (.inr (36, 0)), some (.inr (37, 0)), some (.inr (38, 0)), some (.inr (39, 0)), some (.inl x6), some (.inl x7), d8, d9] [] m (qI Q)
def H_109_120 (x6 x7 x8 x9 : Int32) (m : aM) (Q : Int32 → aM → Prop) : Prop := Rg 109 120 [some (.inr (34, 0)), some (.inr (35, 0)), some (.inr (36, 0)), some (.inr (37, 0)), some (.inr (38, 0)), some (.inr (39, 0)), some (.inl x6), some (.inl x7), some (.inl x8), some (.inl x9)] [] m (qI Q)
def H_109_245 (x6 x7 : Int32) (m : aM) (Q : Int32 → aM → Prop) : Prop := ∀ d8 d9 : Option aV, Rg 109 245 [some (.inr (34, 0)), some (.inr (35, 0)), some (.inr (36, 0)), some (.inr (37, 0)), some (.inr (38, 0)), some (.inr (39, 0)), some (.inl x6), some (.inl x7), d8, d9] [] m (qI Q)
/-- Law.hour, the loop at 245 -/
theorem T_109_245 {x6 x7 : Int32} {m : aM} {Q : Int32 → aM → Prop} (h :
   if x7 < (m 34 0 3) then
    (a_in ((3 * x7) + 2) 48 = true ∧
     if (m 38 0 ((3 * x7) + 2).toNatClampNeg) < 0 then
      H_109_245 x6 (x7 + 1) m Q
     else
      if ((m 34 0 0) - (m 38 0 ((3 * x7) + 2).toNatClampNeg)) < (m 34 0 7) then
       H_109_245 x6 (x7 + 1) m Q
      else
       Mv 106 [.inr (37, 0), .inr (38, 0), .inl x7] m (fun m5 =>
        (∀ m6, m6 = a_up m5 39 0 ((3 * x7) + 2).toNatClampNeg ((m5 39 0 ((3 * x7) + 2).toNatClampNeg) + 1) →
        H_109_245 x6 (x7 + 1) m6 Q)))
   else
    Q x6 m
  ) : H_109_245 x6 x7 m Q := by
  intro d8 d9
  show Rg 109 245 [some (.inr (34, 0)), some (.inr (35, 0)), some (.inr (36, 0)), some (.inr (37, 0)), some (.inr (38, 0)), some (.inr (39, 0)), some (.inl x6), some (.inl x7), d8, d9] [] m (qI Q)
  refine r_iload L_109_245 rfl ?_
  refine r_aload_n L_109_247 rfl ?_
  refine r_iconst L_109_248 kI_3 ?_
  refine r_iald (N := 8) (j := 3) L_109_249 (by decide +kernel) rfl (by decide +kernel) (by decide +kernel) ?_
  refine r_icmpn L_109_250 cc_ge (i_mono h (fun c1 h => ?_) (fun c1 h => ?_))
  · refine r_aload L_109_253 rfl ?_
    refine r_iconst L_109_255 kI_3 ?_
    refine r_iload L_109_256 rfl ?_
    refine r_imul L_109_258 ?_
    refine r_iconst L_109_259 kI_2 ?_
    refine r_iadd L_109_260 ?_
    obtain ⟨g2, h⟩ := h
    refine r_iald (N := 48) (j := ((3 * x7) + 2).toNatClampNeg) L_109_261 (by decide +kernel) rfl g2 rfl ?_
    refine r_if L_109_262 rfl (i_mono h (fun c3 h => ?_) (fun c3 h => ?_))
    · refine r_iinc (ls1 := [some (.inr (34, 0)), some (.inr (35, 0)), some (.inr (36, 0)), some (.inr (37, 0)), some (.inr (38, 0)), some (.inr (39, 0)), some (.inl x6), some (.inl (x7 + 1)), d8, d9]) L_109_306 kI_1 rfl (Nat.le_of_ble_eq_true rfl) rfl ?_
      refine r_goto L_109_309 ?_
      exact h _ _
    · refine r_aload_n L_109_265 rfl ?_
      refine r_iconst L_109_266 kI_0 ?_
      refine r_iald (N := 8) (j := 0) L_109_267 (by decide +kernel) rfl (by decide +kernel) (by decide +kernel) ?_
      refine r_aload L_109_268 rfl ?_
      refine r_iconst L_109_270 kI_3 ?_
      refine r_iload L_109_271 rfl ?_
      refine r_imul L_109_273 ?_
      refine r_iconst L_109_274 kI_2 ?_
      refine r_iadd L_109_275 ?_
      refine r_iald (N := 48) (j := ((3 * x7) + 2).toNatClampNeg) L_109_276 (by decide +kernel) rfl g2 rfl ?_
      refine r_isub L_109_277 ?_
      refine r_aload_n L_109_278 rfl ?_
      refine r_bipush L_109_279 kB_7 ?_
      refine r_iald (N := 8) (j := 7) L_109_281 (by decide +kernel) rfl (by decide +kernel) (by decide +kernel) ?_
      refine r_icmp L_109_282 rfl (i_mono h (fun c4 h => ?_) (fun c4 h => ?_))
      · refine r_iinc (ls1 := [some (.inr (34, 0)), some (.inr (35, 0)), some (.inr (36, 0)), some (.inr (37, 0)), some (.inr (38, 0)), some (.inr (39, 0)), some (.inl x6), some (.inl (x7 + 1)), d8, d9]) L_109_306 kI_1 rfl (Nat.le_of_ble_eq_true rfl) rfl ?_
        refine r_goto L_109_309 ?_
        exact h _ _
      · refine r_aload_n L_109_285 rfl ?_
        refine r_aload L_109_286 rfl ?_
        refine r_iload L_109_288 rfl ?_
        refine r_csv L_109_290 (by decide) rfl (Mv_mono h fun m5 h => ?_)
        refine r_aload L_109_293 rfl ?_
        refine r_iconst L_109_295 kI_3 ?_
        refine r_iload L_109_296 rfl ?_
        refine r_imul L_109_298 ?_
        refine r_iconst L_109_299 kI_2 ?_
        refine r_iadd L_109_300 ?_
        refine r_dup2 L_109_301 ?_
        refine r_iald (N := 48) (j := ((3 * x7) + 2).toNatClampNeg) L_109_302 (by decide +kernel) rfl g2 rfl ?_
        refine r_iconst L_109_303 kI_1 ?_
        refine r_iadd L_109_304 ?_
        refine r_iast (N := 48) (j := ((3 * x7) + 2).toNatClampNeg) L_109_305 (by decide +kernel) rfl g2 rfl ?_
        refine r_nm fun m6 em6 => ?_
        have h := h m6 em6
        refine r_iinc (ls1 := [some (.inr (34, 0)), some (.inr (35, 0)), some (.inr (36, 0)), some (.inr (37, 0)), some (.inr (38, 0)), some (.inr (39, 0)), some (.inl x6), some (.inl (x7 + 1)), d8, d9]) L_109_306 kI_1 rfl (Nat.le_of_ble_eq_true rfl) rfl ?_
        refine r_goto L_109_309 ?_
        exact h _ _
  · refine r_iload L_109_312 rfl ?_
    exact r_iret L_109_314 RT_109 h
/-- Law.hour, the loop at 120 -/
theorem T_109_120 {x6 x7 x8 x9 : Int32} {m : aM} {Q : Int32 → aM → Prop} (h :
   if x8 < 0 then
    (if x9 < 0 then
     (Mv 106 [.inr (37, 0), .inr (38, 0), .inl x7] m (fun m3 =>
      a_in ((3 * x7) + 1) 48 = true ∧
       (∀ m5, m5 = a_up m3 39 0 ((3 * x7) + 1).toNatClampNeg ((m3 39 0 ((3 * x7) + 1).toNatClampNeg) + 1) →
       H_109_73 x6 (x7 + 1) m5 Q)))
    else
     (a_in ((4 * x7) + 3) 64 = true ∧
      (∀ m7, m7 = a_up m 37 0 ((4 * x7) + 3).toNatClampNeg x9 →
      (a_in (3 * x7) 48 = true ∧
       (∀ m9, m9 = a_up m7 38 0 (3 * x7).toNatClampNeg x8 →
       (a_in ((3 * x7) + 2) 48 = true ∧
        (∀ m11, m11 = a_up m9 38 0 ((3 * x7) + 2).toNatClampNeg (-6) →
        (∀ m12, m12 = a_up m11 39 0 (3 * x7).toNatClampNeg ((m11 39 0 (3 * x7).toNatClampNeg) + 1) →
        H_109_73 (x6 + 1) (x7 + 1) m12 Q))))))))
   else
    if x9 < 0 then
     (Mi 104 [.inr (34, 0), .inr (35, 0), .inr (36, 0), .inr (37, 0), .inr (38, 0), .inl x7, .inl x8] m (fun v15 m14 =>
      if v15 < 0 then
       H_109_120 x6 x7 (x8 - 1) v15 m14 Q
      else
       H_109_120 x6 x7 (x8 - 0) v15 m14 Q))
    else
     (a_in ((4 * x7) + 3) 64 = true ∧
      (∀ m18, m18 = a_up m 37 0 ((4 * x7) + 3).toNatClampNeg x9 →
      (a_in (3 * x7) 48 = true ∧
       (∀ m20, m20 = a_up m18 38 0 (3 * x7).toNatClampNeg x8 →
       (a_in ((3 * x7) + 2) 48 = true ∧
        (∀ m22, m22 = a_up m20 38 0 ((3 * x7) + 2).toNatClampNeg (-6) →
        (∀ m23, m23 = a_up m22 39 0 (3 * x7).toNatClampNeg ((m22 39 0 (3 * x7).toNatClampNeg) + 1) →
        H_109_73 (x6 + 1) (x7 + 1) m23 Q)))))))
  ) : H_109_120 x6 x7 x8 x9 m Q := by
  show Rg 109 120 [some (.inr (34, 0)), some (.inr (35, 0)), some (.inr (36, 0)), some (.inr (37, 0)), some (.inr (38, 0)), some (.inr (39, 0)), some (.inl x6), some (.inl x7), some (.inl x8), some (.inl x9)] [] m (qI Q)
  refine r_iload L_109_120 rfl ?_
  refine r_if L_109_122 rfl (i_mono h (fun c1 h => ?_) (fun c1 h => ?_))
  · refine r_iload L_109_163 rfl ?_
    refine r_if L_109_165 rfl (i_mono h (fun c2 h => ?_) (fun c2 h => ?_))
    · refine r_aload_n L_109_215 rfl ?_
      refine r_aload L_109_216 rfl ?_
      refine r_iload L_109_218 rfl ?_
      refine r_csv L_109_220 (by decide) rfl (Mv_mono h fun m3 h => ?_)
      refine r_aload L_109_223 rfl ?_
      refine r_iconst L_109_225 kI_3 ?_
      refine r_iload L_109_226 rfl ?_
      refine r_imul L_109_228 ?_
      refine r_iconst L_109_229 kI_1 ?_
      refine r_iadd L_109_230 ?_
      refine r_dup2 L_109_231 ?_
      obtain ⟨g4, h⟩ := h
      refine r_iald (N := 48) (j := ((3 * x7) + 1).toNatClampNeg) L_109_232 (by decide +kernel) rfl g4 rfl ?_
      refine r_iconst L_109_233 kI_1 ?_
      refine r_iadd L_109_234 ?_
      refine r_iast (N := 48) (j := ((3 * x7) + 1).toNatClampNeg) L_109_235 (by decide +kernel) rfl g4 rfl ?_
      refine r_nm fun m5 em5 => ?_
      have h := h m5 em5
      refine r_iinc (ls1 := [some (.inr (34, 0)), some (.inr (35, 0)), some (.inr (36, 0)), some (.inr (37, 0)), some (.inr (38, 0)), some (.inr (39, 0)), some (.inl x6), some (.inl (x7 + 1)), some (.inl x8), some (.inl x9)]) L_109_236 kI_1 rfl (Nat.le_of_ble_eq_true rfl) rfl ?_
      refine r_goto L_109_239 ?_
      exact h _ _
    · refine r_aload_n L_109_168 rfl ?_
      refine r_iconst L_109_169 kI_4 ?_
      refine r_iload L_109_170 rfl ?_
      refine r_imul L_109_172 ?_
      refine r_iconst L_109_173 kI_3 ?_
      refine r_iadd L_109_174 ?_
      refine r_iload L_109_175 rfl ?_
      obtain ⟨g6, h⟩ := h
      refine r_iast (N := 64) (j := ((4 * x7) + 3).toNatClampNeg) L_109_177 (by decide +kernel) rfl g6 rfl ?_
      refine r_nm fun m7 em7 => ?_
      have h := h m7 em7
      refine r_aload L_109_178 rfl ?_
      refine r_iconst L_109_180 kI_3 ?_
      refine r_iload L_109_181 rfl ?_
      refine r_imul L_109_183 ?_
      refine r_iload L_109_184 rfl ?_
      obtain ⟨g8, h⟩ := h
      refine r_iast (N := 48) (j := (3 * x7).toNatClampNeg) L_109_186 (by decide +kernel) rfl g8 rfl ?_
      refine r_nm fun m9 em9 => ?_
      have h := h m9 em9
      refine r_aload L_109_187 rfl ?_
      refine r_iconst L_109_189 kI_3 ?_
      refine r_iload L_109_190 rfl ?_
      refine r_imul L_109_192 ?_
      refine r_iconst L_109_193 kI_2 ?_
      refine r_iadd L_109_194 ?_
      refine r_bipush L_109_195 kB_m6 ?_
      obtain ⟨g10, h⟩ := h
      refine r_iast (N := 48) (j := ((3 * x7) + 2).toNatClampNeg) L_109_197 (by decide +kernel) rfl g10 rfl ?_
      refine r_nm fun m11 em11 => ?_
      have h := h m11 em11
      refine r_aload L_109_198 rfl ?_
      refine r_iconst L_109_200 kI_3 ?_
      refine r_iload L_109_201 rfl ?_
      refine r_imul L_109_203 ?_
      refine r_dup2 L_109_204 ?_
      refine r_iald (N := 48) (j := (3 * x7).toNatClampNeg) L_109_205 (by decide +kernel) rfl g8 rfl ?_
      refine r_iconst L_109_206 kI_1 ?_
      refine r_iadd L_109_207 ?_
      refine r_iast (N := 48) (j := (3 * x7).toNatClampNeg) L_109_208 (by decide +kernel) rfl g8 rfl ?_
      refine r_nm fun m12 em12 => ?_
      have h := h m12 em12
      refine r_iinc (ls1 := [some (.inr (34, 0)), some (.inr (35, 0)), some (.inr (36, 0)), some (.inr (37, 0)), some (.inr (38, 0)), some (.inr (39, 0)), some (.inl (x6 + 1)), some (.inl x7), some (.inl x8), some (.inl x9)]) L_109_209 kI_1 rfl (Nat.le_of_ble_eq_true rfl) rfl ?_
      refine r_goto L_109_212 ?_
      refine r_iinc (ls1 := [some (.inr (34, 0)), some (.inr (35, 0)), some (.inr (36, 0)), some (.inr (37, 0)), some (.inr (38, 0)), some (.inr (39, 0)), some (.inl (x6 + 1)), some (.inl (x7 + 1)), some (.inl x8), some (.inl x9)]) L_109_236 kI_1 rfl (Nat.le_of_ble_eq_true rfl) rfl ?_
      refine r_goto L_109_239 ?_
      exact h _ _
  · refine r_iload L_109_125 rfl ?_
    refine r_ifn L_109_127 cc_ge (i_mono h (fun c13 h => ?_) (fun c13 h => ?_))
    · refine r_aload_n L_109_130 rfl ?_
      refine r_aload_n L_109_131 rfl ?_
      refine r_aload_n L_109_132 rfl ?_
      refine r_aload_n L_109_133 rfl ?_
      refine r_aload L_109_134 rfl ?_
      refine r_iload L_109_136 rfl ?_
      refine r_iload L_109_138 rfl ?_
      refine r_cs L_109_140 (by decide) rfl (Mi_mono h fun v15 m14 h => ?_)
      refine r_istore (ls1 := [some (.inr (34, 0)), some (.inr (35, 0)), some (.inr (36, 0)), some (.inr (37, 0)), some (.inr (38, 0)), some (.inr (39, 0)), some (.inl x6), some (.inl x7), some (.inl x8), some (.inl v15)]) L_109_143 (Nat.le_of_ble_eq_true rfl) rfl ?_
      refine r_iload L_109_145 rfl ?_
      refine r_iload L_109_147 rfl ?_
      refine r_ifn L_109_149 cc_ge (i_mono h (fun c16 h => ?_) (fun c16 h => ?_))
      · refine r_iconst L_109_152 kI_1 ?_
        refine r_goto L_109_153 ?_
        refine r_isub L_109_157 ?_
        refine r_istore (ls1 := [some (.inr (34, 0)), some (.inr (35, 0)), some (.inr (36, 0)), some (.inr (37, 0)), some (.inr (38, 0)), some (.inr (39, 0)), some (.inl x6), some (.inl x7), some (.inl (x8 - 1)), some (.inl v15)]) L_109_158 (Nat.le_of_ble_eq_true rfl) rfl ?_
        refine r_goto L_109_160 ?_
        exact h
      · refine r_iconst L_109_156 kI_0 ?_
        refine r_isub L_109_157 ?_
        refine r_istore (ls1 := [some (.inr (34, 0)), some (.inr (35, 0)), some (.inr (36, 0)), some (.inr (37, 0)), some (.inr (38, 0)), some (.inr (39, 0)), some (.inl x6), some (.inl x7), some (.inl (x8 - 0)), some (.inl v15)]) L_109_158 (Nat.le_of_ble_eq_true rfl) rfl ?_
        refine r_goto L_109_160 ?_
        exact h
    · refine r_iload L_109_163 rfl ?_
      refine r_if L_109_165 rfl (i_neg c13 ?_)
      refine r_aload_n L_109_168 rfl ?_
      refine r_iconst L_109_169 kI_4 ?_
      refine r_iload L_109_170 rfl ?_
      refine r_imul L_109_172 ?_
      refine r_iconst L_109_173 kI_3 ?_
      refine r_iadd L_109_174 ?_
      refine r_iload L_109_175 rfl ?_
      obtain ⟨g17, h⟩ := h
      refine r_iast (N := 64) (j := ((4 * x7) + 3).toNatClampNeg) L_109_177 (by decide +kernel) rfl g17 rfl ?_
      refine r_nm fun m18 em18 => ?_
      have h := h m18 em18
      refine r_aload L_109_178 rfl ?_
      refine r_iconst L_109_180 kI_3 ?_
      refine r_iload L_109_181 rfl ?_
      refine r_imul L_109_183 ?_
      refine r_iload L_109_184 rfl ?_
      obtain ⟨g19, h⟩ := h
      refine r_iast (N := 48) (j := (3 * x7).toNatClampNeg) L_109_186 (by decide +kernel) rfl g19 rfl ?_
      refine r_nm fun m20 em20 => ?_
      have h := h m20 em20
      refine r_aload L_109_187 rfl ?_
      refine r_iconst L_109_189 kI_3 ?_
      refine r_iload L_109_190 rfl ?_
      refine r_imul L_109_192 ?_
      refine r_iconst L_109_193 kI_2 ?_
      refine r_iadd L_109_194 ?_
      refine r_bipush L_109_195 kB_m6 ?_
      obtain ⟨g21, h⟩ := h
      refine r_iast (N := 48) (j := ((3 * x7) + 2).toNatClampNeg) L_109_197 (by decide +kernel) rfl g21 rfl ?_
      refine r_nm fun m22 em22 => ?_
      have h := h m22 em22
      refine r_aload L_109_198 rfl ?_
      refine r_iconst L_109_200 kI_3 ?_
      refine r_iload L_109_201 rfl ?_
      refine r_imul L_109_203 ?_
      refine r_dup2 L_109_204 ?_
      refine r_iald (N := 48) (j := (3 * x7).toNatClampNeg) L_109_205 (by decide +kernel) rfl g19 rfl ?_
      refine r_iconst L_109_206 kI_1 ?_
      refine r_iadd L_109_207 ?_
      refine r_iast (N := 48) (j := (3 * x7).toNatClampNeg) L_109_208 (by decide +kernel) rfl g19 rfl ?_
      refine r_nm fun m23 em23 => ?_
      have h := h m23 em23
      refine r_iinc (ls1 := [some (.inr (34, 0)), some (.inr (35, 0)), some (.inr (36, 0)), some (.inr (37, 0)), some (.inr (38, 0)), some (.inr (39, 0)), some (.inl (x6 + 1)), some (.inl x7), some (.inl x8), some (.inl x9)]) L_109_209 kI_1 rfl (Nat.le_of_ble_eq_true rfl) rfl ?_
      refine r_goto L_109_212 ?_
      refine r_iinc (ls1 := [some (.inr (34, 0)), some (.inr (35, 0)), some (.inr (36, 0)), some (.inr (37, 0)), some (.inr (38, 0)), some (.inr (39, 0)), some (.inl (x6 + 1)), some (.inl (x7 + 1)), some (.inl x8), some (.inl x9)]) L_109_236 kI_1 rfl (Nat.le_of_ble_eq_true rfl) rfl ?_
      refine r_goto L_109_239 ?_
      exact h _ _
/-- Law.hour, the loop at 73 -/
theorem T_109_73 {x6 x7 : Int32} {m : aM} {Q : Int32 → aM → Prop} (h :
   if x7 < (m 34 0 3) then
    (¬ (m 34 0 6) = 0 ∧
     if (iR ((m 34 0 0) + x7) (m 34 0 6)) = 0 then
      (a_in ((3 * x7) + 2) 48 = true ∧
       if (m 38 0 ((3 * x7) + 2).toNatClampNeg) < 0 then
        H_109_73 x6 (x7 + 1) m Q
       else
        a_in (3 * x7) 48 = true ∧
         H_109_120 x6 x7 (m 38 0 (3 * x7).toNatClampNeg) (-6) m Q)
     else
      H_109_73 x6 (x7 + 1) m Q)
   else
    H_109_245 x6 0 m Q
  ) : H_109_73 x6 x7 m Q := by
  intro d8 d9
  show Rg 109 73 [some (.inr (34, 0)), some (.inr (35, 0)), some (.inr (36, 0)), some (.inr (37, 0)), some (.inr (38, 0)), some (.inr (39, 0)), some (.inl x6), some (.inl x7), d8, d9] [] m (qI Q)
  refine r_iload L_109_73 rfl ?_
  refine r_aload_n L_109_75 rfl ?_
  refine r_iconst L_109_76 kI_3 ?_
  refine r_iald (N := 8) (j := 3) L_109_77 (by decide +kernel) rfl (by decide +kernel) (by decide +kernel) ?_
  refine r_icmpn L_109_78 cc_ge (i_mono h (fun c1 h => ?_) (fun c1 h => ?_))
  · refine r_aload_n L_109_81 rfl ?_
    refine r_iconst L_109_82 kI_0 ?_
    refine r_iald (N := 8) (j := 0) L_109_83 (by decide +kernel) rfl (by decide +kernel) (by decide +kernel) ?_
    refine r_iload L_109_84 rfl ?_
    refine r_iadd L_109_86 ?_
    refine r_aload_n L_109_87 rfl ?_
    refine r_bipush L_109_88 kB_6 ?_
    refine r_iald (N := 8) (j := 6) L_109_90 (by decide +kernel) rfl (by decide +kernel) (by decide +kernel) ?_
    obtain ⟨g2, h⟩ := h
    refine r_irem L_109_91 g2 ?_
    refine r_ifn L_109_92 rfl (i_mono h (fun c3 h => ?_) (fun c3 h => ?_))
    · refine r_aload L_109_95 rfl ?_
      refine r_iconst L_109_97 kI_3 ?_
      refine r_iload L_109_98 rfl ?_
      refine r_imul L_109_100 ?_
      refine r_iconst L_109_101 kI_2 ?_
      refine r_iadd L_109_102 ?_
      obtain ⟨g4, h⟩ := h
      refine r_iald (N := 48) (j := ((3 * x7) + 2).toNatClampNeg) L_109_103 (by decide +kernel) rfl g4 rfl ?_
      refine r_if L_109_104 rfl (i_mono h (fun c5 h => ?_) (fun c5 h => ?_))
      · refine r_iinc (ls1 := [some (.inr (34, 0)), some (.inr (35, 0)), some (.inr (36, 0)), some (.inr (37, 0)), some (.inr (38, 0)), some (.inr (39, 0)), some (.inl x6), some (.inl (x7 + 1)), d8, d9]) L_109_236 kI_1 rfl (Nat.le_of_ble_eq_true rfl) rfl ?_
        refine r_goto L_109_239 ?_
        exact h _ _
      · refine r_aload L_109_107 rfl ?_
        refine r_iconst L_109_109 kI_3 ?_
        refine r_iload L_109_110 rfl ?_
        refine r_imul L_109_112 ?_
        obtain ⟨g6, h⟩ := h
        refine r_iald (N := 48) (j := (3 * x7).toNatClampNeg) L_109_113 (by decide +kernel) rfl g6 rfl ?_
        refine r_istore (ls1 := [some (.inr (34, 0)), some (.inr (35, 0)), some (.inr (36, 0)), some (.inr (37, 0)), some (.inr (38, 0)), some (.inr (39, 0)), some (.inl x6), some (.inl x7), some (.inl (m 38 0 (3 * x7).toNatClampNeg)), d9]) L_109_114 (Nat.le_of_ble_eq_true rfl) rfl ?_
        refine r_bipush L_109_116 kB_m6 ?_
        refine r_istore (ls1 := [some (.inr (34, 0)), some (.inr (35, 0)), some (.inr (36, 0)), some (.inr (37, 0)), some (.inr (38, 0)), some (.inr (39, 0)), some (.inl x6), some (.inl x7), some (.inl (m 38 0 (3 * x7).toNatClampNeg)), some (.inl (-6))]) L_109_118 (Nat.le_of_ble_eq_true rfl) rfl ?_
        exact h
    · refine r_iinc (ls1 := [some (.inr (34, 0)), some (.inr (35, 0)), some (.inr (36, 0)), some (.inr (37, 0)), some (.inr (38, 0)), some (.inr (39, 0)), some (.inl x6), some (.inl (x7 + 1)), d8, d9]) L_109_236 kI_1 rfl (Nat.le_of_ble_eq_true rfl) rfl ?_
      refine r_goto L_109_239 ?_
      exact h _ _
  · refine r_iconst L_109_242 kI_0 ?_
    refine r_istore (ls1 := [some (.inr (34, 0)), some (.inr (35, 0)), some (.inr (36, 0)), some (.inr (37, 0)), some (.inr (38, 0)), some (.inr (39, 0)), some (.inl x6), some (.inl 0), d8, d9]) L_109_243 (Nat.le_of_ble_eq_true rfl) rfl ?_
    exact h _ _
/-- Law.hour, the loop at 13 -/
theorem T_109_13 {x6 x7 : Int32} {m : aM} {Q : Int32 → aM → Prop} (h :
   if x7 < (m 34 0 3) then
    (a_in ((4 * x7) + 3) 64 = true ∧
     if (m 37 0 ((4 * x7) + 3).toNatClampNeg) < 0 then
      H_109_13 x6 (x7 + 1) m Q
     else
      a_in ((3 * x7) + 1) 48 = true ∧
       if (m 38 0 ((3 * x7) + 1).toNatClampNeg) = (m 34 0 0) then
        (Mv 106 [.inr (37, 0), .inr (38, 0), .inl x7] m (fun m6 =>
         H_109_13 x6 (x7 + 1) m6 Q))
       else
        H_109_13 x6 (x7 + 1) m Q)
   else
    Mv 105 [.inr (34, 0), .inr (35, 0), .inr (36, 0), .inr (37, 0), .inr (38, 0)] m (fun m7 =>
     H_109_73 x6 0 m7 Q)
  ) : H_109_13 x6 x7 m Q := by
  intro d8 d9
  show Rg 109 13 [some (.inr (34, 0)), some (.inr (35, 0)), some (.inr (36, 0)), some (.inr (37, 0)), some (.inr (38, 0)), some (.inr (39, 0)), some (.inl x6), some (.inl x7), d8, d9] [] m (qI Q)
  refine r_iload L_109_13 rfl ?_
  refine r_aload_n L_109_15 rfl ?_
  refine r_iconst L_109_16 kI_3 ?_
  refine r_iald (N := 8) (j := 3) L_109_17 (by decide +kernel) rfl (by decide +kernel) (by decide +kernel) ?_
  refine r_icmpn L_109_18 cc_ge (i_mono h (fun c1 h => ?_) (fun c1 h => ?_))
  · refine r_aload_n L_109_21 rfl ?_
    refine r_iconst L_109_22 kI_4 ?_
    refine r_iload L_109_23 rfl ?_
    refine r_imul L_109_25 ?_
    refine r_iconst L_109_26 kI_3 ?_
    refine r_iadd L_109_27 ?_
    obtain ⟨g2, h⟩ := h
    refine r_iald (N := 64) (j := ((4 * x7) + 3).toNatClampNeg) L_109_28 (by decide +kernel) rfl g2 rfl ?_
    refine r_if L_109_29 rfl (i_mono h (fun c3 h => ?_) (fun c3 h => ?_))
    · refine r_iinc (ls1 := [some (.inr (34, 0)), some (.inr (35, 0)), some (.inr (36, 0)), some (.inr (37, 0)), some (.inr (38, 0)), some (.inr (39, 0)), some (.inl x6), some (.inl (x7 + 1)), d8, d9]) L_109_55 kI_1 rfl (Nat.le_of_ble_eq_true rfl) rfl ?_
      refine r_goto L_109_58 ?_
      exact h _ _
    · refine r_aload L_109_32 rfl ?_
      refine r_iconst L_109_34 kI_3 ?_
      refine r_iload L_109_35 rfl ?_
      refine r_imul L_109_37 ?_
      refine r_iconst L_109_38 kI_1 ?_
      refine r_iadd L_109_39 ?_
      obtain ⟨g4, h⟩ := h
      refine r_iald (N := 48) (j := ((3 * x7) + 1).toNatClampNeg) L_109_40 (by decide +kernel) rfl g4 rfl ?_
      refine r_aload_n L_109_41 rfl ?_
      refine r_iconst L_109_42 kI_0 ?_
      refine r_iald (N := 8) (j := 0) L_109_43 (by decide +kernel) rfl (by decide +kernel) (by decide +kernel) ?_
      refine r_icmpn L_109_44 rfl (i_mono h (fun c5 h => ?_) (fun c5 h => ?_))
      · refine r_aload_n L_109_47 rfl ?_
        refine r_aload L_109_48 rfl ?_
        refine r_iload L_109_50 rfl ?_
        refine r_csv L_109_52 (by decide) rfl (Mv_mono h fun m6 h => ?_)
        refine r_iinc (ls1 := [some (.inr (34, 0)), some (.inr (35, 0)), some (.inr (36, 0)), some (.inr (37, 0)), some (.inr (38, 0)), some (.inr (39, 0)), some (.inl x6), some (.inl (x7 + 1)), d8, d9]) L_109_55 kI_1 rfl (Nat.le_of_ble_eq_true rfl) rfl ?_
        refine r_goto L_109_58 ?_
        exact h _ _
      · refine r_iinc (ls1 := [some (.inr (34, 0)), some (.inr (35, 0)), some (.inr (36, 0)), some (.inr (37, 0)), some (.inr (38, 0)), some (.inr (39, 0)), some (.inl x6), some (.inl (x7 + 1)), d8, d9]) L_109_55 kI_1 rfl (Nat.le_of_ble_eq_true rfl) rfl ?_
        refine r_goto L_109_58 ?_
        exact h _ _
  · refine r_aload_n L_109_61 rfl ?_
    refine r_aload_n L_109_62 rfl ?_
    refine r_aload_n L_109_63 rfl ?_
    refine r_aload_n L_109_64 rfl ?_
    refine r_aload L_109_65 rfl ?_
    refine r_csv L_109_67 (by decide) rfl (Mv_mono h fun m7 h => ?_)
    refine r_iconst L_109_70 kI_0 ?_
    refine r_istore (ls1 := [some (.inr (34, 0)), some (.inr (35, 0)), some (.inr (36, 0)), some (.inr (37, 0)), some (.inr (38, 0)), some (.inr (39, 0)), some (.inl x6), some (.inl 0), d8, d9]) L_109_71 (Nat.le_of_ble_eq_true rfl) rfl ?_
    exact h _ _
/-- Law.hour -/
theorem T_109 {m : aM} {Q : Int32 → aM → Prop} (h :
   (∀ m1, m1 = a_up m 34 0 0 ((m 34 0 0) + 1) →
   H_109_13 0 0 m1 Q)
  ) : Mi 109 [.inr (34, 0), .inr (35, 0), .inr (36, 0), .inr (37, 0), .inr (38, 0), .inr (39, 0)] m Q := by
  refine Mi_in ML_109 (show Rg 109 0 [some (.inr (34, 0)), some (.inr (35, 0)), some (.inr (36, 0)), some (.inr (37, 0)), some (.inr (38, 0)), some (.inr (39, 0)), none, none, none, none] [] m (qI Q) from ?_)
  refine r_aload_n L_109_0 rfl ?_
  refine r_iconst L_109_1 kI_0 ?_
  refine r_dup2 L_109_2 ?_
  refine r_iald (N := 8) (j := 0) L_109_3 (by decide +kernel) rfl (by decide +kernel) (by decide +kernel) ?_
  refine r_iconst L_109_4 kI_1 ?_
  refine r_iadd L_109_5 ?_
  refine r_iast (N := 8) (j := 0) L_109_6 (by decide +kernel) rfl (by decide +kernel) (by decide +kernel) ?_
  refine r_nm fun m1 em1 => ?_
  have h := h m1 em1
  refine r_iconst L_109_7 kI_0 ?_
  refine r_istore (ls1 := [some (.inr (34, 0)), some (.inr (35, 0)), some (.inr (36, 0)), some (.inr (37, 0)), some (.inr (38, 0)), some (.inr (39, 0)), some (.inl 0), none, none, none]) L_109_8 (Nat.le_of_ble_eq_true rfl) rfl ?_
  refine r_iconst L_109_10 kI_0 ?_
  refine r_istore (ls1 := [some (.inr (34, 0)), some (.inr (35, 0)), some (.inr (36, 0)), some (.inr (37, 0)), some (.inr (38, 0)), some (.inr (39, 0)), some (.inl 0), some (.inl 0), none, none]) L_109_11 (Nat.le_of_ble_eq_true rfl) rfl ?_
  exact h _ _
