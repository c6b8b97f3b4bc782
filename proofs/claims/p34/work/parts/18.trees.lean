/-! trees: what is left of a method when its rows are walked; by program (wip/p34/gen9.py) -/
/-- Law.adds -/
theorem T_110 {x7 x8 : Int32} {m : aM} {Q : Int32 → aM → Prop} (h :
   if x8 = 0 then
    (if (m 34 0 1) = 8 then
     (Mi 60 [.inr (27, 0), .inl (iR x7 60), .inl (iR (x7 / 60) 60), .inl (iR (x7 / 3600) 8), .inl 0] m (fun v4 m3 =>
      if v4 = (-4) then
       Q 1 m3
      else
       Q 0 m3))
    else
     (a_in (5 * (m 34 0 1)) 40 = true ∧
      (∀ m7, m7 = a_up m 35 0 (5 * (m 34 0 1)).toNatClampNeg (iR x7 60) →
      (a_in ((5 * (m 34 0 1)) + 1) 40 = true ∧
       (∀ m9, m9 = a_up m7 35 0 ((5 * (m 34 0 1)) + 1).toNatClampNeg (iR (x7 / 60) 60) →
       (a_in ((5 * (m 34 0 1)) + 2) 40 = true ∧
        (∀ m11, m11 = a_up m9 35 0 ((5 * (m 34 0 1)) + 2).toNatClampNeg (iR (x7 / 3600) 8) →
        (a_in ((5 * (m 34 0 1)) + 3) 40 = true ∧
         (∀ m13, m13 = a_up m11 35 0 ((5 * (m 34 0 1)) + 3).toNatClampNeg (iR (x7 / 28800) 5) →
         (a_in ((5 * (m 34 0 1)) + 4) 40 = true ∧
          (∀ m15, m15 = a_up m13 35 0 ((5 * (m 34 0 1)) + 4).toNatClampNeg 0 →
          (∀ m16, m16 = a_up m15 34 0 1 ((m15 34 0 1) + 1) →
          Mi 60 [.inr (27, 0), .inl (iR x7 60), .inl (iR (x7 / 60) 60), .inl (iR (x7 / 3600) 8), .inl (m16 35 0 ((5 * (m 34 0 1)) + 3).toNatClampNeg)] m16 (fun v18 m17 =>
           if v18 = ((m17 34 0 1) - 1) then
            Q 1 m17
           else
            Q 0 m17)))))))))))))
   else
    if x8 = 1 then
     (if (m 34 0 2) = 8 then
      (Mi 61 [.inr (27, 0), .inl (iR x7 60), .inl (iR (x7 / 60) 60), .inl 3, .inl (iR (x7 / 3600) 8), .inl ((m 34 0 0) + (iR (x7 / 28800) 6)), .inl ((((m 34 0 0) + (iR (x7 / 28800) 6)) + 1) + (iR (x7 / 7) 9))] m (fun v23 m22 =>
       if v23 = (-4) then
        Q 1 m22
       else
        Q 0 m22))
     else
      (a_in (7 * (m 34 0 2)) 56 = true ∧
       (∀ m26, m26 = a_up m 36 0 (7 * (m 34 0 2)).toNatClampNeg (iR x7 60) →
       (a_in ((7 * (m 34 0 2)) + 1) 56 = true ∧
        (∀ m28, m28 = a_up m26 36 0 ((7 * (m 34 0 2)) + 1).toNatClampNeg (iR (x7 / 60) 60) →
        (a_in ((7 * (m 34 0 2)) + 2) 56 = true ∧
         (∀ m30, m30 = a_up m28 36 0 ((7 * (m 34 0 2)) + 2).toNatClampNeg (1 + (iR (x7 / 5) 30)) →
         (a_in ((7 * (m 34 0 2)) + 3) 56 = true ∧
          (∀ m32, m32 = a_up m30 36 0 ((7 * (m 34 0 2)) + 3).toNatClampNeg (iR (x7 / 3600) 8) →
          (a_in ((7 * (m 34 0 2)) + 4) 56 = true ∧
           (∀ m34, m34 = a_up m32 36 0 ((7 * (m 34 0 2)) + 4).toNatClampNeg ((m 34 0 0) + (iR (x7 / 28800) 6)) →
           (a_in ((7 * (m 34 0 2)) + 5) 56 = true ∧
            (∀ m36, m36 = a_up m34 36 0 ((7 * (m 34 0 2)) + 5).toNatClampNeg ((((m 34 0 0) + (iR (x7 / 28800) 6)) + 1) + (iR (x7 / 7) 9)) →
            (a_in ((7 * (m 34 0 2)) + 6) 56 = true ∧
             (∀ m38, m38 = a_up m36 36 0 ((7 * (m 34 0 2)) + 6).toNatClampNeg 0 →
             (∀ m39, m39 = a_up m38 34 0 2 ((m38 34 0 2) + 1) →
             Mv 105 [.inr (34, 0), .inr (35, 0), .inr (36, 0), .inr (37, 0), .inr (38, 0)] m39 (fun m40 =>
              Mi 61 [.inr (27, 0), .inl (iR x7 60), .inl (iR (x7 / 60) 60), .inl (m40 36 0 ((7 * (m 34 0 2)) + 2).toNatClampNeg), .inl (iR (x7 / 3600) 8), .inl ((m 34 0 0) + (iR (x7 / 28800) 6)), .inl ((((m 34 0 0) + (iR (x7 / 28800) 6)) + 1) + (iR (x7 / 7) 9))] m40 (fun v42 m41 =>
               if v42 = ((m41 34 0 2) - 1) then
                Q 1 m41
               else
                Q 0 m41))))))))))))))))))
    else
     if (m 34 0 3) = 16 then
      (Mi 62 [.inr (27, 0), .inl (iR x7 60), .inl (iR (x7 / 60) 60), .inl 0] m (fun v46 m45 =>
       if v46 = (-4) then
        Q 1 m45
       else
        Q 0 m45))
     else
      (a_in (4 * (m 34 0 3)) 64 = true ∧
       (∀ m49, m49 = a_up m 37 0 (4 * (m 34 0 3)).toNatClampNeg (iR x7 60) →
       (a_in ((4 * (m49 34 0 3)) + 1) 64 = true ∧
        (∀ m51, m51 = a_up m49 37 0 ((4 * (m49 34 0 3)) + 1).toNatClampNeg (iR (x7 / 60) 60) →
        (a_in ((4 * (m51 34 0 3)) + 2) 64 = true ∧
         (∀ m53, m53 = a_up m51 37 0 ((4 * (m51 34 0 3)) + 2).toNatClampNeg (iR (x7 / 3600) 4) →
         Mv 106 [.inr (37, 0), .inr (38, 0), .inl (m53 34 0 3)] m53 (fun m54 =>
          (∀ m55, m55 = a_up m54 34 0 3 ((m54 34 0 3) + 1) →
          Mi 62 [.inr (27, 0), .inl (iR x7 60), .inl (iR (x7 / 60) 60), .inl (iR (x7 / 3600) 4)] m55 (fun v57 m56 =>
           if v57 = ((m56 34 0 3) - 1) then
            Q 1 m56
           else
            Q 0 m56)))))))))
  ) : Mi 110 [.inr (27, 0), .inr (34, 0), .inr (35, 0), .inr (36, 0), .inr (37, 0), .inr (38, 0), .inr (39, 0), .inl x7, .inl x8] m Q := by
  refine Mi_in ML_110 (show Rg 110 0 [some (.inr (27, 0)), some (.inr (34, 0)), some (.inr (35, 0)), some (.inr (36, 0)), some (.inr (37, 0)), some (.inr (38, 0)), some (.inr (39, 0)), some (.inl x7), some (.inl x8), none, none, none, none, none, none] [] m (qI Q) from ?_)
  refine r_iload L_110_0 rfl ?_
  refine r_bipush L_110_2 kB_60 ?_
  refine r_irem L_110_4 (by decide +kernel) ?_
  refine r_istore (ls1 := [some (.inr (27, 0)), some (.inr (34, 0)), some (.inr (35, 0)), some (.inr (36, 0)), some (.inr (37, 0)), some (.inr (38, 0)), some (.inr (39, 0)), some (.inl x7), some (.inl x8), some (.inl (iR x7 60)), none, none, none, none, none]) L_110_5 (Nat.le_of_ble_eq_true rfl) rfl ?_
  refine r_iload L_110_7 rfl ?_
  refine r_bipush L_110_9 kB_60 ?_
  refine r_idiv L_110_11 (by decide +kernel) ?_
  refine r_bipush L_110_12 kB_60 ?_
  refine r_irem L_110_14 (by decide +kernel) ?_
  refine r_istore (ls1 := [some (.inr (27, 0)), some (.inr (34, 0)), some (.inr (35, 0)), some (.inr (36, 0)), some (.inr (37, 0)), some (.inr (38, 0)), some (.inr (39, 0)), some (.inl x7), some (.inl x8), some (.inl (iR x7 60)), some (.inl (iR (x7 / 60) 60)), none, none, none, none]) L_110_15 (Nat.le_of_ble_eq_true rfl) rfl ?_
  refine r_iload L_110_17 rfl ?_
  refine r_sipush L_110_19 kS_3600 ?_
  refine r_idiv L_110_22 (by decide +kernel) ?_
  refine r_bipush L_110_23 kB_8 ?_
  refine r_irem L_110_25 (by decide +kernel) ?_
  refine r_istore (ls1 := [some (.inr (27, 0)), some (.inr (34, 0)), some (.inr (35, 0)), some (.inr (36, 0)), some (.inr (37, 0)), some (.inr (38, 0)), some (.inr (39, 0)), some (.inl x7), some (.inl x8), some (.inl (iR x7 60)), some (.inl (iR (x7 / 60) 60)), some (.inl (iR (x7 / 3600) 8)), none, none, none]) L_110_26 (Nat.le_of_ble_eq_true rfl) rfl ?_
  refine r_iload L_110_28 rfl ?_
  refine r_ifn L_110_30 rfl (i_mono h (fun c1 h => ?_) (fun c1 h => ?_))
  · refine r_aload_n L_110_33 rfl ?_
    refine r_iconst L_110_34 kI_1 ?_
    refine r_iald (N := 8) (j := 1) L_110_35 (by decide +kernel) rfl (by decide +kernel) (by decide +kernel) ?_
    refine r_bipush L_110_36 kB_8 ?_
    refine r_icmpn L_110_38 rfl (i_mono h (fun c2 h => ?_) (fun c2 h => ?_))
    · refine r_aload_n L_110_41 rfl ?_
      refine r_iload L_110_42 rfl ?_
      refine r_iload L_110_44 rfl ?_
      refine r_iload L_110_46 rfl ?_
      refine r_iconst L_110_48 kI_0 ?_
      refine r_cv L_110_49 rfl (Mi_mono h fun v4 m3 h => ?_)
      refine r_bipush L_110_52 kB_m4 ?_
      refine r_icmpn L_110_54 rfl (i_mono h (fun c5 h => ?_) (fun c5 h => ?_))
      · refine r_iconst L_110_57 kI_1 ?_
        refine r_goto L_110_58 ?_
        exact r_zret L_110_62 RT_110 (Or.inr rfl) h
      · refine r_iconst L_110_61 kI_0 ?_
        exact r_zret L_110_62 RT_110 (Or.inl rfl) h
    · refine r_iconst L_110_63 kI_5 ?_
      refine r_aload_n L_110_64 rfl ?_
      refine r_iconst L_110_65 kI_1 ?_
      refine r_iald (N := 8) (j := 1) L_110_66 (by decide +kernel) rfl (by decide +kernel) (by decide +kernel) ?_
      refine r_imul L_110_67 ?_
      refine r_istore (ls1 := [some (.inr (27, 0)), some (.inr (34, 0)), some (.inr (35, 0)), some (.inr (36, 0)), some (.inr (37, 0)), some (.inr (38, 0)), some (.inr (39, 0)), some (.inl x7), some (.inl x8), some (.inl (iR x7 60)), some (.inl (iR (x7 / 60) 60)), some (.inl (iR (x7 / 3600) 8)), some (.inl (5 * (m 34 0 1))), none, none]) L_110_68 (Nat.le_of_ble_eq_true rfl) rfl ?_
      refine r_aload_n L_110_70 rfl ?_
      refine r_iload L_110_71 rfl ?_
      refine r_iload L_110_73 rfl ?_
      obtain ⟨g6, h⟩ := h
      refine r_iast (N := 40) (j := (5 * (m 34 0 1)).toNatClampNeg) L_110_75 (by decide +kernel) rfl g6 rfl ?_
      refine r_nm fun m7 em7 => ?_
      have h := h m7 em7
      refine r_aload_n L_110_76 rfl ?_
      refine r_iload L_110_77 rfl ?_
      refine r_iconst L_110_79 kI_1 ?_
      refine r_iadd L_110_80 ?_
      refine r_iload L_110_81 rfl ?_
      obtain ⟨g8, h⟩ := h
      refine r_iast (N := 40) (j := ((5 * (m 34 0 1)) + 1).toNatClampNeg) L_110_83 (by decide +kernel) rfl g8 rfl ?_
      refine r_nm fun m9 em9 => ?_
      have h := h m9 em9
      refine r_aload_n L_110_84 rfl ?_
      refine r_iload L_110_85 rfl ?_
      refine r_iconst L_110_87 kI_2 ?_
      refine r_iadd L_110_88 ?_
      refine r_iload L_110_89 rfl ?_
      obtain ⟨g10, h⟩ := h
      refine r_iast (N := 40) (j := ((5 * (m 34 0 1)) + 2).toNatClampNeg) L_110_91 (by decide +kernel) rfl g10 rfl ?_
      refine r_nm fun m11 em11 => ?_
      have h := h m11 em11
      refine r_aload_n L_110_92 rfl ?_
      refine r_iload L_110_93 rfl ?_
      refine r_iconst L_110_95 kI_3 ?_
      refine r_iadd L_110_96 ?_
      refine r_iload L_110_97 rfl ?_
      refine r_sipush L_110_99 kS_28800 ?_
      refine r_idiv L_110_102 (by decide +kernel) ?_
      refine r_iconst L_110_103 kI_5 ?_
      refine r_irem L_110_104 (by decide +kernel) ?_
      obtain ⟨g12, h⟩ := h
      refine r_iast (N := 40) (j := ((5 * (m 34 0 1)) + 3).toNatClampNeg) L_110_105 (by decide +kernel) rfl g12 rfl ?_
      refine r_nm fun m13 em13 => ?_
      have h := h m13 em13
      refine r_aload_n L_110_106 rfl ?_
      refine r_iload L_110_107 rfl ?_
      refine r_iconst L_110_109 kI_4 ?_
      refine r_iadd L_110_110 ?_
      refine r_iconst L_110_111 kI_0 ?_
      obtain ⟨g14, h⟩ := h
      refine r_iast (N := 40) (j := ((5 * (m 34 0 1)) + 4).toNatClampNeg) L_110_112 (by decide +kernel) rfl g14 rfl ?_
      refine r_nm fun m15 em15 => ?_
      have h := h m15 em15
      refine r_aload_n L_110_113 rfl ?_
      refine r_iconst L_110_114 kI_1 ?_
      refine r_dup2 L_110_115 ?_
      refine r_iald (N := 8) (j := 1) L_110_116 (by decide +kernel) rfl (by decide +kernel) (by decide +kernel) ?_
      refine r_iconst L_110_117 kI_1 ?_
      refine r_iadd L_110_118 ?_
      refine r_iast (N := 8) (j := 1) L_110_119 (by decide +kernel) rfl (by decide +kernel) (by decide +kernel) ?_
      refine r_nm fun m16 em16 => ?_
      have h := h m16 em16
      refine r_aload_n L_110_120 rfl ?_
      refine r_iload L_110_121 rfl ?_
      refine r_iload L_110_123 rfl ?_
      refine r_iload L_110_125 rfl ?_
      refine r_aload_n L_110_127 rfl ?_
      refine r_iload L_110_128 rfl ?_
      refine r_iconst L_110_130 kI_3 ?_
      refine r_iadd L_110_131 ?_
      refine r_iald (N := 40) (j := ((5 * (m 34 0 1)) + 3).toNatClampNeg) L_110_132 (by decide +kernel) rfl g12 rfl ?_
      refine r_cv L_110_133 rfl (Mi_mono h fun v18 m17 h => ?_)
      refine r_aload_n L_110_136 rfl ?_
      refine r_iconst L_110_137 kI_1 ?_
      refine r_iald (N := 8) (j := 1) L_110_138 (by decide +kernel) rfl (by decide +kernel) (by decide +kernel) ?_
      refine r_iconst L_110_139 kI_1 ?_
      refine r_isub L_110_140 ?_
      refine r_icmpn L_110_141 rfl (i_mono h (fun c19 h => ?_) (fun c19 h => ?_))
      · refine r_iconst L_110_144 kI_1 ?_
        refine r_goto L_110_145 ?_
        exact r_zret L_110_149 RT_110 (Or.inr rfl) h
      · refine r_iconst L_110_148 kI_0 ?_
        exact r_zret L_110_149 RT_110 (Or.inl rfl) h
  · refine r_iload L_110_150 rfl ?_
    refine r_iconst L_110_152 kI_1 ?_
    refine r_icmpn L_110_153 rfl (i_mono h (fun c20 h => ?_) (fun c20 h => ?_))
    · refine r_aload_n L_110_156 rfl ?_
      refine r_iconst L_110_157 kI_0 ?_
      refine r_iald (N := 8) (j := 0) L_110_158 (by decide +kernel) rfl (by decide +kernel) (by decide +kernel) ?_
      refine r_iload L_110_159 rfl ?_
      refine r_sipush L_110_161 kS_28800 ?_
      refine r_idiv L_110_164 (by decide +kernel) ?_
      refine r_bipush L_110_165 kB_6 ?_
      refine r_irem L_110_167 (by decide +kernel) ?_
      refine r_iadd L_110_168 ?_
      refine r_istore (ls1 := [some (.inr (27, 0)), some (.inr (34, 0)), some (.inr (35, 0)), some (.inr (36, 0)), some (.inr (37, 0)), some (.inr (38, 0)), some (.inr (39, 0)), some (.inl x7), some (.inl x8), some (.inl (iR x7 60)), some (.inl (iR (x7 / 60) 60)), some (.inl (iR (x7 / 3600) 8)), some (.inl ((m 34 0 0) + (iR (x7 / 28800) 6))), none, none]) L_110_169 (Nat.le_of_ble_eq_true rfl) rfl ?_
      refine r_iload L_110_171 rfl ?_
      refine r_iconst L_110_173 kI_1 ?_
      refine r_iadd L_110_174 ?_
      refine r_iload L_110_175 rfl ?_
      refine r_bipush L_110_177 kB_7 ?_
      refine r_idiv L_110_179 (by decide +kernel) ?_
      refine r_bipush L_110_180 kB_9 ?_
      refine r_irem L_110_182 (by decide +kernel) ?_
      refine r_iadd L_110_183 ?_
      refine r_istore (ls1 := [some (.inr (27, 0)), some (.inr (34, 0)), some (.inr (35, 0)), some (.inr (36, 0)), some (.inr (37, 0)), some (.inr (38, 0)), some (.inr (39, 0)), some (.inl x7), some (.inl x8), some (.inl (iR x7 60)), some (.inl (iR (x7 / 60) 60)), some (.inl (iR (x7 / 3600) 8)), some (.inl ((m 34 0 0) + (iR (x7 / 28800) 6))), some (.inl ((((m 34 0 0) + (iR (x7 / 28800) 6)) + 1) + (iR (x7 / 7) 9))), none]) L_110_184 (Nat.le_of_ble_eq_true rfl) rfl ?_
      refine r_aload_n L_110_186 rfl ?_
      refine r_iconst L_110_187 kI_2 ?_
      refine r_iald (N := 8) (j := 2) L_110_188 (by decide +kernel) rfl (by decide +kernel) (by decide +kernel) ?_
      refine r_bipush L_110_189 kB_8 ?_
      refine r_icmpn L_110_191 rfl (i_mono h (fun c21 h => ?_) (fun c21 h => ?_))
      · refine r_aload_n L_110_194 rfl ?_
        refine r_iload L_110_195 rfl ?_
        refine r_iload L_110_197 rfl ?_
        refine r_iconst L_110_199 kI_3 ?_
        refine r_iload L_110_200 rfl ?_
        refine r_iload L_110_202 rfl ?_
        refine r_iload L_110_204 rfl ?_
        refine r_cv L_110_206 rfl (Mi_mono h fun v23 m22 h => ?_)
        refine r_bipush L_110_209 kB_m4 ?_
        refine r_icmpn L_110_211 rfl (i_mono h (fun c24 h => ?_) (fun c24 h => ?_))
        · refine r_iconst L_110_214 kI_1 ?_
          refine r_goto L_110_215 ?_
          exact r_zret L_110_219 RT_110 (Or.inr rfl) h
        · refine r_iconst L_110_218 kI_0 ?_
          exact r_zret L_110_219 RT_110 (Or.inl rfl) h
      · refine r_bipush L_110_220 kB_7 ?_
        refine r_aload_n L_110_222 rfl ?_
        refine r_iconst L_110_223 kI_2 ?_
        refine r_iald (N := 8) (j := 2) L_110_224 (by decide +kernel) rfl (by decide +kernel) (by decide +kernel) ?_
        refine r_imul L_110_225 ?_
        refine r_istore (ls1 := [some (.inr (27, 0)), some (.inr (34, 0)), some (.inr (35, 0)), some (.inr (36, 0)), some (.inr (37, 0)), some (.inr (38, 0)), some (.inr (39, 0)), some (.inl x7), some (.inl x8), some (.inl (iR x7 60)), some (.inl (iR (x7 / 60) 60)), some (.inl (iR (x7 / 3600) 8)), some (.inl ((m 34 0 0) + (iR (x7 / 28800) 6))), some (.inl ((((m 34 0 0) + (iR (x7 / 28800) 6)) + 1) + (iR (x7 / 7) 9))), some (.inl (7 * (m 34 0 2)))]) L_110_226 (Nat.le_of_ble_eq_true rfl) rfl ?_
        refine r_aload_n L_110_228 rfl ?_
        refine r_iload L_110_229 rfl ?_
        refine r_iload L_110_231 rfl ?_
        obtain ⟨g25, h⟩ := h
        refine r_iast (N := 56) (j := (7 * (m 34 0 2)).toNatClampNeg) L_110_233 (by decide +kernel) rfl g25 rfl ?_
        refine r_nm fun m26 em26 => ?_
        have h := h m26 em26
        refine r_aload_n L_110_234 rfl ?_
        refine r_iload L_110_235 rfl ?_
        refine r_iconst L_110_237 kI_1 ?_
        refine r_iadd L_110_238 ?_
        refine r_iload L_110_239 rfl ?_
        obtain ⟨g27, h⟩ := h
        refine r_iast (N := 56) (j := ((7 * (m 34 0 2)) + 1).toNatClampNeg) L_110_241 (by decide +kernel) rfl g27 rfl ?_
        refine r_nm fun m28 em28 => ?_
        have h := h m28 em28
        refine r_aload_n L_110_242 rfl ?_
        refine r_iload L_110_243 rfl ?_
        refine r_iconst L_110_245 kI_2 ?_
        refine r_iadd L_110_246 ?_
        refine r_iconst L_110_247 kI_1 ?_
        refine r_iload L_110_248 rfl ?_
        refine r_iconst L_110_250 kI_5 ?_
        refine r_idiv L_110_251 (by decide +kernel) ?_
        refine r_bipush L_110_252 kB_30 ?_
        refine r_irem L_110_254 (by decide +kernel) ?_
        refine r_iadd L_110_255 ?_
        obtain ⟨g29, h⟩ := h
        refine r_iast (N := 56) (j := ((7 * (m 34 0 2)) + 2).toNatClampNeg) L_110_256 (by decide +kernel) rfl g29 rfl ?_
        refine r_nm fun m30 em30 => ?_
        have h := h m30 em30
        refine r_aload_n L_110_257 rfl ?_
        refine r_iload L_110_258 rfl ?_
        refine r_iconst L_110_260 kI_3 ?_
        refine r_iadd L_110_261 ?_
        refine r_iload L_110_262 rfl ?_
        obtain ⟨g31, h⟩ := h
        refine r_iast (N := 56) (j := ((7 * (m 34 0 2)) + 3).toNatClampNeg) L_110_264 (by decide +kernel) rfl g31 rfl ?_
        refine r_nm fun m32 em32 => ?_
        have h := h m32 em32
        refine r_aload_n L_110_265 rfl ?_
        refine r_iload L_110_266 rfl ?_
        refine r_iconst L_110_268 kI_4 ?_
        refine r_iadd L_110_269 ?_
        refine r_iload L_110_270 rfl ?_
        obtain ⟨g33, h⟩ := h
        refine r_iast (N := 56) (j := ((7 * (m 34 0 2)) + 4).toNatClampNeg) L_110_272 (by decide +kernel) rfl g33 rfl ?_
        refine r_nm fun m34 em34 => ?_
        have h := h m34 em34
        refine r_aload_n L_110_273 rfl ?_
        refine r_iload L_110_274 rfl ?_
        refine r_iconst L_110_276 kI_5 ?_
        refine r_iadd L_110_277 ?_
        refine r_iload L_110_278 rfl ?_
        obtain ⟨g35, h⟩ := h
        refine r_iast (N := 56) (j := ((7 * (m 34 0 2)) + 5).toNatClampNeg) L_110_280 (by decide +kernel) rfl g35 rfl ?_
        refine r_nm fun m36 em36 => ?_
        have h := h m36 em36
        refine r_aload_n L_110_281 rfl ?_
        refine r_iload L_110_282 rfl ?_
        refine r_bipush L_110_284 kB_6 ?_
        refine r_iadd L_110_286 ?_
        refine r_iconst L_110_287 kI_0 ?_
        obtain ⟨g37, h⟩ := h
        refine r_iast (N := 56) (j := ((7 * (m 34 0 2)) + 6).toNatClampNeg) L_110_288 (by decide +kernel) rfl g37 rfl ?_
        refine r_nm fun m38 em38 => ?_
        have h := h m38 em38
        refine r_aload_n L_110_289 rfl ?_
        refine r_iconst L_110_290 kI_2 ?_
        refine r_dup2 L_110_291 ?_
        refine r_iald (N := 8) (j := 2) L_110_292 (by decide +kernel) rfl (by decide +kernel) (by decide +kernel) ?_
        refine r_iconst L_110_293 kI_1 ?_
        refine r_iadd L_110_294 ?_
        refine r_iast (N := 8) (j := 2) L_110_295 (by decide +kernel) rfl (by decide +kernel) (by decide +kernel) ?_
        refine r_nm fun m39 em39 => ?_
        have h := h m39 em39
        refine r_aload_n L_110_296 rfl ?_
        refine r_aload_n L_110_297 rfl ?_
        refine r_aload_n L_110_298 rfl ?_
        refine r_aload L_110_299 rfl ?_
        refine r_aload L_110_301 rfl ?_
        refine r_csv L_110_303 (by decide) rfl (Mv_mono h fun m40 h => ?_)
        refine r_aload_n L_110_306 rfl ?_
        refine r_iload L_110_307 rfl ?_
        refine r_iload L_110_309 rfl ?_
        refine r_aload_n L_110_311 rfl ?_
        refine r_iload L_110_312 rfl ?_
        refine r_iconst L_110_314 kI_2 ?_
        refine r_iadd L_110_315 ?_
        refine r_iald (N := 56) (j := ((7 * (m 34 0 2)) + 2).toNatClampNeg) L_110_316 (by decide +kernel) rfl g29 rfl ?_
        refine r_iload L_110_317 rfl ?_
        refine r_iload L_110_319 rfl ?_
        refine r_iload L_110_321 rfl ?_
        refine r_cv L_110_323 rfl (Mi_mono h fun v42 m41 h => ?_)
        refine r_aload_n L_110_326 rfl ?_
        refine r_iconst L_110_327 kI_2 ?_
        refine r_iald (N := 8) (j := 2) L_110_328 (by decide +kernel) rfl (by decide +kernel) (by decide +kernel) ?_
        refine r_iconst L_110_329 kI_1 ?_
        refine r_isub L_110_330 ?_
        refine r_icmpn L_110_331 rfl (i_mono h (fun c43 h => ?_) (fun c43 h => ?_))
        · refine r_iconst L_110_334 kI_1 ?_
          refine r_goto L_110_335 ?_
          exact r_zret L_110_339 RT_110 (Or.inr rfl) h
        · refine r_iconst L_110_338 kI_0 ?_
          exact r_zret L_110_339 RT_110 (Or.inl rfl) h
    · refine r_aload_n L_110_340 rfl ?_
      refine r_iconst L_110_341 kI_3 ?_
      refine r_iald (N := 8) (j := 3) L_110_342 (by decide +kernel) rfl (by decide +kernel) (by decide +kernel) ?_
      refine r_bipush L_110_343 kB_16 ?_
      refine r_icmpn L_110_345 rfl (i_mono h (fun c44 h => ?_) (fun c44 h => ?_))
      · refine r_aload_n L_110_348 rfl ?_
        refine r_iload L_110_349 rfl ?_
        refine r_iload L_110_351 rfl ?_
        refine r_iconst L_110_353 kI_0 ?_
        refine r_cv L_110_354 rfl (Mi_mono h fun v46 m45 h => ?_)
        refine r_bipush L_110_357 kB_m4 ?_
        refine r_icmpn L_110_359 rfl (i_mono h (fun c47 h => ?_) (fun c47 h => ?_))
        · refine r_iconst L_110_362 kI_1 ?_
          refine r_goto L_110_363 ?_
          exact r_zret L_110_367 RT_110 (Or.inr rfl) h
        · refine r_iconst L_110_366 kI_0 ?_
          exact r_zret L_110_367 RT_110 (Or.inl rfl) h
      · refine r_aload L_110_368 rfl ?_
        refine r_iconst L_110_370 kI_4 ?_
        refine r_aload_n L_110_371 rfl ?_
        refine r_iconst L_110_372 kI_3 ?_
        refine r_iald (N := 8) (j := 3) L_110_373 (by decide +kernel) rfl (by decide +kernel) (by decide +kernel) ?_
        refine r_imul L_110_374 ?_
        refine r_iload L_110_375 rfl ?_
        obtain ⟨g48, h⟩ := h
        refine r_iast (N := 64) (j := (4 * (m 34 0 3)).toNatClampNeg) L_110_377 (by decide +kernel) rfl g48 rfl ?_
        refine r_nm fun m49 em49 => ?_
        have h := h m49 em49
        refine r_aload L_110_378 rfl ?_
        refine r_iconst L_110_380 kI_4 ?_
        refine r_aload_n L_110_381 rfl ?_
        refine r_iconst L_110_382 kI_3 ?_
        refine r_iald (N := 8) (j := 3) L_110_383 (by decide +kernel) rfl (by decide +kernel) (by decide +kernel) ?_
        refine r_imul L_110_384 ?_
        refine r_iconst L_110_385 kI_1 ?_
        refine r_iadd L_110_386 ?_
        refine r_iload L_110_387 rfl ?_
        obtain ⟨g50, h⟩ := h
        refine r_iast (N := 64) (j := ((4 * (m49 34 0 3)) + 1).toNatClampNeg) L_110_389 (by decide +kernel) rfl g50 rfl ?_
        refine r_nm fun m51 em51 => ?_
        have h := h m51 em51
        refine r_aload L_110_390 rfl ?_
        refine r_iconst L_110_392 kI_4 ?_
        refine r_aload_n L_110_393 rfl ?_
        refine r_iconst L_110_394 kI_3 ?_
        refine r_iald (N := 8) (j := 3) L_110_395 (by decide +kernel) rfl (by decide +kernel) (by decide +kernel) ?_
        refine r_imul L_110_396 ?_
        refine r_iconst L_110_397 kI_2 ?_
        refine r_iadd L_110_398 ?_
        refine r_iload L_110_399 rfl ?_
        refine r_sipush L_110_401 kS_3600 ?_
        refine r_idiv L_110_404 (by decide +kernel) ?_
        refine r_iconst L_110_405 kI_4 ?_
        refine r_irem L_110_406 (by decide +kernel) ?_
        obtain ⟨g52, h⟩ := h
        refine r_iast (N := 64) (j := ((4 * (m51 34 0 3)) + 2).toNatClampNeg) L_110_407 (by decide +kernel) rfl g52 rfl ?_
        refine r_nm fun m53 em53 => ?_
        have h := h m53 em53
        refine r_aload L_110_408 rfl ?_
        refine r_aload L_110_410 rfl ?_
        refine r_aload_n L_110_412 rfl ?_
        refine r_iconst L_110_413 kI_3 ?_
        refine r_iald (N := 8) (j := 3) L_110_414 (by decide +kernel) rfl (by decide +kernel) (by decide +kernel) ?_
        refine r_csv L_110_415 (by decide) rfl (Mv_mono h fun m54 h => ?_)
        refine r_aload_n L_110_418 rfl ?_
        refine r_iconst L_110_419 kI_3 ?_
        refine r_dup2 L_110_420 ?_
        refine r_iald (N := 8) (j := 3) L_110_421 (by decide +kernel) rfl (by decide +kernel) (by decide +kernel) ?_
        refine r_iconst L_110_422 kI_1 ?_
        refine r_iadd L_110_423 ?_
        refine r_iast (N := 8) (j := 3) L_110_424 (by decide +kernel) rfl (by decide +kernel) (by decide +kernel) ?_
        refine r_nm fun m55 em55 => ?_
        have h := h m55 em55
        refine r_aload_n L_110_425 rfl ?_
        refine r_iload L_110_426 rfl ?_
        refine r_iload L_110_428 rfl ?_
        refine r_iload L_110_430 rfl ?_
        refine r_sipush L_110_432 kS_3600 ?_
        refine r_idiv L_110_435 (by decide +kernel) ?_
        refine r_iconst L_110_436 kI_4 ?_
        refine r_irem L_110_437 (by decide +kernel) ?_
        refine r_cv L_110_438 rfl (Mi_mono h fun v57 m56 h => ?_)
        refine r_aload_n L_110_441 rfl ?_
        refine r_iconst L_110_442 kI_3 ?_
        refine r_iald (N := 8) (j := 3) L_110_443 (by decide +kernel) rfl (by decide +kernel) (by decide +kernel) ?_
        refine r_iconst L_110_444 kI_1 ?_
        refine r_isub L_110_445 ?_
        refine r_icmpn L_110_446 rfl (i_mono h (fun c58 h => ?_) (fun c58 h => ?_))
        · refine r_iconst L_110_449 kI_1 ?_
          refine r_goto L_110_450 ?_
          exact r_zret L_110_454 RT_110 (Or.inr rfl) h
        · refine r_iconst L_110_453 kI_0 ?_
          exact r_zret L_110_454 RT_110 (Or.inl rfl) h
/-- Law.turns -/
theorem T_111 {x6 x7 : Int32} {m : aM} {Q : Int32 → aM → Prop} (h :
   if x7 = 0 then
    (if (iR x6 9) < (m 34 0 1) then
     (a_in ((5 * (iR x6 9)) + 4) 40 = true ∧
      if (m 35 0 ((5 * (iR x6 9)) + 4).toNatClampNeg) = (iR (x6 / 9) 2) then
       (if (iR (x6 / 9) 2) = 1 then
        (Mi 64 [.inr (27, 0), .inl (iR x6 9)] m (fun v7 m6 =>
         if (iR x6 9) < (m6 34 0 1) then
          (if v7 = (-3) then
           Q 1 m6
          else
           Q 0 m6)
         else
          if v7 = (-1) then
           Q 1 m6
          else
           Q 0 m6))
       else
        Mi 65 [.inr (27, 0), .inl (iR x6 9)] m (fun v12 m11 =>
         if (iR x6 9) < (m11 34 0 1) then
          (if v12 = (-3) then
           Q 1 m11
          else
           Q 0 m11)
         else
          if v12 = (-1) then
           Q 1 m11
          else
           Q 0 m11))
      else
       (∀ m16, m16 = a_up m 35 0 ((5 * (iR x6 9)) + 4).toNatClampNeg (iR (x6 / 9) 2) →
       Mv 105 [.inr (34, 0), .inr (35, 0), .inr (36, 0), .inr (37, 0), .inr (38, 0)] m16 (fun m17 =>
        if (iR (x6 / 9) 2) = 1 then
         (Mi 64 [.inr (27, 0), .inl (iR x6 9)] m17 (fun v20 m19 =>
          Mi 107 [.inr (34, 0), .inr (38, 0)] m19 (fun v22 m21 =>
           if v20 = v22 then
            Q 1 m21
           else
            Q 0 m21)))
        else
         Mi 65 [.inr (27, 0), .inl (iR x6 9)] m17 (fun v25 m24 =>
          Mi 107 [.inr (34, 0), .inr (38, 0)] m24 (fun v27 m26 =>
           if v25 = v27 then
            Q 1 m26
           else
            Q 0 m26)))))
    else
     if (iR (x6 / 9) 2) = 1 then
      (Mi 64 [.inr (27, 0), .inl (iR x6 9)] m (fun v31 m30 =>
       if (iR x6 9) < (m30 34 0 1) then
        (if v31 = (-3) then
         Q 1 m30
        else
         Q 0 m30)
       else
        if v31 = (-1) then
         Q 1 m30
        else
         Q 0 m30))
     else
      Mi 65 [.inr (27, 0), .inl (iR x6 9)] m (fun v36 m35 =>
       if (iR x6 9) < (m35 34 0 1) then
        (if v36 = (-3) then
         Q 1 m35
        else
         Q 0 m35)
       else
        if v36 = (-1) then
         Q 1 m35
        else
         Q 0 m35))
   else
    if x7 = 1 then
     (if (iR x6 8) < (m 34 0 2) then
      (a_in ((7 * (iR x6 8)) + 6) 56 = true ∧
       if (m 36 0 ((7 * (iR x6 8)) + 6).toNatClampNeg) = 1 then
        (Mi 66 [.inr (27, 0), .inl (iR x6 8)] m (fun v45 m44 =>
         if (iR x6 8) < (m44 34 0 2) then
          (if v45 = (-3) then
           Q 1 m44
          else
           Q 0 m44)
         else
          if v45 = (-1) then
           Q 1 m44
          else
           Q 0 m44))
       else
        a_in ((7 * (iR x6 8)) + 5) 56 = true ∧
         if (m 34 0 0) < (m 36 0 ((7 * (iR x6 8)) + 5).toNatClampNeg) then
          ((∀ m51, m51 = a_up m 36 0 ((7 * (iR x6 8)) + 6).toNatClampNeg 1 →
          Mv 105 [.inr (34, 0), .inr (35, 0), .inr (36, 0), .inr (37, 0), .inr (38, 0)] m51 (fun m52 =>
           Mi 66 [.inr (27, 0), .inl (iR x6 8)] m52 (fun v54 m53 =>
            Mi 107 [.inr (34, 0), .inr (38, 0)] m53 (fun v56 m55 =>
             if v54 = v56 then
              Q 1 m55
             else
              Q 0 m55)))))
         else
          Mi 66 [.inr (27, 0), .inl (iR x6 8)] m (fun v59 m58 =>
           if (iR x6 8) < (m58 34 0 2) then
            (if v59 = (-3) then
             Q 1 m58
            else
             Q 0 m58)
           else
            if v59 = (-1) then
             Q 1 m58
            else
             Q 0 m58))
     else
      Mi 66 [.inr (27, 0), .inl (iR x6 8)] m (fun v64 m63 =>
       if (iR x6 8) < (m63 34 0 2) then
        (if v64 = (-3) then
         Q 1 m63
        else
         Q 0 m63)
       else
        if v64 = (-1) then
         Q 1 m63
        else
         Q 0 m63))
    else
     a_in (5 + (iR x6 3)) 8 = true ∧
      if (iR x6 3) = 0 then
       ((∀ m70, m70 = a_up m 34 0 (5 + (iR x6 3)).toNatClampNeg (iR (x6 / 3) 101) →
       Mv 105 [.inr (34, 0), .inr (35, 0), .inr (36, 0), .inr (37, 0), .inr (38, 0)] m70 (fun m71 =>
        Mi 63 [.inr (27, 0), .inl (iR x6 3), .inl (m71 34 0 (5 + (iR x6 3)).toNatClampNeg)] m71 (fun v73 m72 =>
         if v73 = (m 34 0 (5 + (iR x6 3)).toNatClampNeg) then
          Q 1 m72
         else
          Q 0 m72))))
      else
       if (iR x6 3) = 1 then
        ((∀ m76, m76 = a_up m 34 0 (5 + (iR x6 3)).toNatClampNeg (1 + (iR (x6 / 3) 12)) →
        Mv 105 [.inr (34, 0), .inr (35, 0), .inr (36, 0), .inr (37, 0), .inr (38, 0)] m76 (fun m77 =>
         Mi 63 [.inr (27, 0), .inl (iR x6 3), .inl (m77 34 0 (5 + (iR x6 3)).toNatClampNeg)] m77 (fun v79 m78 =>
          if v79 = (m 34 0 (5 + (iR x6 3)).toNatClampNeg) then
           Q 1 m78
          else
           Q 0 m78))))
       else
        (∀ m81, m81 = a_up m 34 0 (5 + (iR x6 3)).toNatClampNeg (iR (x6 / 3) 6) →
        Mv 105 [.inr (34, 0), .inr (35, 0), .inr (36, 0), .inr (37, 0), .inr (38, 0)] m81 (fun m82 =>
         Mi 63 [.inr (27, 0), .inl (iR x6 3), .inl (m82 34 0 (5 + (iR x6 3)).toNatClampNeg)] m82 (fun v84 m83 =>
          if v84 = (m 34 0 (5 + (iR x6 3)).toNatClampNeg) then
           Q 1 m83
          else
           Q 0 m83)))
  ) : Mi 111 [.inr (27, 0), .inr (34, 0), .inr (35, 0), .inr (36, 0), .inr (37, 0), .inr (38, 0), .inl x6, .inl x7] m Q := by
  refine Mi_in ML_111 (show Rg 111 0 [some (.inr (27, 0)), some (.inr (34, 0)), some (.inr (35, 0)), some (.inr (36, 0)), some (.inr (37, 0)), some (.inr (38, 0)), some (.inl x6), some (.inl x7), none, none] [] m (qI Q) from ?_)
  refine r_iload L_111_0 rfl ?_
  refine r_ifn L_111_2 rfl (i_mono h (fun c1 h => ?_) (fun c1 h => ?_))
  · refine r_iload L_111_5 rfl ?_
    refine r_bipush L_111_7 kB_9 ?_
    refine r_irem L_111_9 (by decide +kernel) ?_
    refine r_istore (ls1 := [some (.inr (27, 0)), some (.inr (34, 0)), some (.inr (35, 0)), some (.inr (36, 0)), some (.inr (37, 0)), some (.inr (38, 0)), some (.inl x6), some (.inl x7), some (.inl (iR x6 9)), none]) L_111_10 (Nat.le_of_ble_eq_true rfl) rfl ?_
    refine r_iload L_111_12 rfl ?_
    refine r_bipush L_111_14 kB_9 ?_
    refine r_idiv L_111_16 (by decide +kernel) ?_
    refine r_iconst L_111_17 kI_2 ?_
    refine r_irem L_111_18 (by decide +kernel) ?_
    refine r_istore (ls1 := [some (.inr (27, 0)), some (.inr (34, 0)), some (.inr (35, 0)), some (.inr (36, 0)), some (.inr (37, 0)), some (.inr (38, 0)), some (.inl x6), some (.inl x7), some (.inl (iR x6 9)), some (.inl (iR (x6 / 9) 2))]) L_111_19 (Nat.le_of_ble_eq_true rfl) rfl ?_
    refine r_iload L_111_21 rfl ?_
    refine r_aload_n L_111_23 rfl ?_
    refine r_iconst L_111_24 kI_1 ?_
    refine r_iald (N := 8) (j := 1) L_111_25 (by decide +kernel) rfl (by decide +kernel) (by decide +kernel) ?_
    refine r_icmpn L_111_26 cc_ge (i_mono h (fun c2 h => ?_) (fun c2 h => ?_))
    · refine r_aload_n L_111_29 rfl ?_
      refine r_iconst L_111_30 kI_5 ?_
      refine r_iload L_111_31 rfl ?_
      refine r_imul L_111_33 ?_
      refine r_iconst L_111_34 kI_4 ?_
      refine r_iadd L_111_35 ?_
      obtain ⟨g3, h⟩ := h
      refine r_iald (N := 40) (j := ((5 * (iR x6 9)) + 4).toNatClampNeg) L_111_36 (by decide +kernel) rfl g3 rfl ?_
      refine r_iload L_111_37 rfl ?_
      refine r_icmpn L_111_39 rfl (i_mono h (fun c4 h => ?_) (fun c4 h => ?_))
      · refine r_iload L_111_42 rfl ?_
        refine r_iconst L_111_44 kI_1 ?_
        refine r_icmpn L_111_45 rfl (i_mono h (fun c5 h => ?_) (fun c5 h => ?_))
        · refine r_aload_n L_111_48 rfl ?_
          refine r_iload L_111_49 rfl ?_
          refine r_cv L_111_51 rfl (Mi_mono h fun v7 m6 h => ?_)
          refine r_goto L_111_54 ?_
          refine r_iload L_111_63 rfl ?_
          refine r_aload_n L_111_65 rfl ?_
          refine r_iconst L_111_66 kI_1 ?_
          refine r_iald (N := 8) (j := 1) L_111_67 (by decide +kernel) rfl (by decide +kernel) (by decide +kernel) ?_
          refine r_icmp L_111_68 rfl (i_mono h (fun c8 h => ?_) (fun c8 h => ?_))
          · refine r_bipush L_111_75 kB_m3 ?_
            refine r_icmpn L_111_77 rfl (i_mono h (fun c9 h => ?_) (fun c9 h => ?_))
            · refine r_iconst L_111_80 kI_1 ?_
              refine r_goto L_111_81 ?_
              exact r_zret L_111_85 RT_111 (Or.inr rfl) h
            · refine r_iconst L_111_84 kI_0 ?_
              exact r_zret L_111_85 RT_111 (Or.inl rfl) h
          · refine r_iconst L_111_71 kI_m1 ?_
            refine r_goto L_111_72 ?_
            refine r_icmpn L_111_77 rfl (i_mono h (fun c10 h => ?_) (fun c10 h => ?_))
            · refine r_iconst L_111_80 kI_1 ?_
              refine r_goto L_111_81 ?_
              exact r_zret L_111_85 RT_111 (Or.inr rfl) h
            · refine r_iconst L_111_84 kI_0 ?_
              exact r_zret L_111_85 RT_111 (Or.inl rfl) h
        · refine r_aload_n L_111_57 rfl ?_
          refine r_iload L_111_58 rfl ?_
          refine r_cv L_111_60 rfl (Mi_mono h fun v12 m11 h => ?_)
          refine r_iload L_111_63 rfl ?_
          refine r_aload_n L_111_65 rfl ?_
          refine r_iconst L_111_66 kI_1 ?_
          refine r_iald (N := 8) (j := 1) L_111_67 (by decide +kernel) rfl (by decide +kernel) (by decide +kernel) ?_
          refine r_icmp L_111_68 rfl (i_mono h (fun c13 h => ?_) (fun c13 h => ?_))
          · refine r_bipush L_111_75 kB_m3 ?_
            refine r_icmpn L_111_77 rfl (i_mono h (fun c14 h => ?_) (fun c14 h => ?_))
            · refine r_iconst L_111_80 kI_1 ?_
              refine r_goto L_111_81 ?_
              exact r_zret L_111_85 RT_111 (Or.inr rfl) h
            · refine r_iconst L_111_84 kI_0 ?_
              exact r_zret L_111_85 RT_111 (Or.inl rfl) h
          · refine r_iconst L_111_71 kI_m1 ?_
            refine r_goto L_111_72 ?_
            refine r_icmpn L_111_77 rfl (i_mono h (fun c15 h => ?_) (fun c15 h => ?_))
            · refine r_iconst L_111_80 kI_1 ?_
              refine r_goto L_111_81 ?_
              exact r_zret L_111_85 RT_111 (Or.inr rfl) h
            · refine r_iconst L_111_84 kI_0 ?_
              exact r_zret L_111_85 RT_111 (Or.inl rfl) h
      · refine r_aload_n L_111_86 rfl ?_
        refine r_iconst L_111_87 kI_5 ?_
        refine r_iload L_111_88 rfl ?_
        refine r_imul L_111_90 ?_
        refine r_iconst L_111_91 kI_4 ?_
        refine r_iadd L_111_92 ?_
        refine r_iload L_111_93 rfl ?_
        refine r_iast (N := 40) (j := ((5 * (iR x6 9)) + 4).toNatClampNeg) L_111_95 (by decide +kernel) rfl g3 rfl ?_
        refine r_nm fun m16 em16 => ?_
        have h := h m16 em16
        refine r_aload_n L_111_96 rfl ?_
        refine r_aload_n L_111_97 rfl ?_
        refine r_aload_n L_111_98 rfl ?_
        refine r_aload L_111_99 rfl ?_
        refine r_aload L_111_101 rfl ?_
        refine r_csv L_111_103 (by decide) rfl (Mv_mono h fun m17 h => ?_)
        refine r_iload L_111_106 rfl ?_
        refine r_iconst L_111_108 kI_1 ?_
        refine r_icmpn L_111_109 rfl (i_mono h (fun c18 h => ?_) (fun c18 h => ?_))
        · refine r_aload_n L_111_112 rfl ?_
          refine r_iload L_111_113 rfl ?_
          refine r_cv L_111_115 rfl (Mi_mono h fun v20 m19 h => ?_)
          refine r_goto L_111_118 ?_
          refine r_aload_n L_111_127 rfl ?_
          refine r_aload L_111_128 rfl ?_
          refine r_cs L_111_130 (by decide) rfl (Mi_mono h fun v22 m21 h => ?_)
          refine r_icmpn L_111_133 rfl (i_mono h (fun c23 h => ?_) (fun c23 h => ?_))
          · refine r_iconst L_111_136 kI_1 ?_
            refine r_goto L_111_137 ?_
            exact r_zret L_111_141 RT_111 (Or.inr rfl) h
          · refine r_iconst L_111_140 kI_0 ?_
            exact r_zret L_111_141 RT_111 (Or.inl rfl) h
        · refine r_aload_n L_111_121 rfl ?_
          refine r_iload L_111_122 rfl ?_
          refine r_cv L_111_124 rfl (Mi_mono h fun v25 m24 h => ?_)
          refine r_aload_n L_111_127 rfl ?_
          refine r_aload L_111_128 rfl ?_
          refine r_cs L_111_130 (by decide) rfl (Mi_mono h fun v27 m26 h => ?_)
          refine r_icmpn L_111_133 rfl (i_mono h (fun c28 h => ?_) (fun c28 h => ?_))
          · refine r_iconst L_111_136 kI_1 ?_
            refine r_goto L_111_137 ?_
            exact r_zret L_111_141 RT_111 (Or.inr rfl) h
          · refine r_iconst L_111_140 kI_0 ?_
            exact r_zret L_111_141 RT_111 (Or.inl rfl) h
    · refine r_iload L_111_42 rfl ?_
      refine r_iconst L_111_44 kI_1 ?_
      refine r_icmpn L_111_45 rfl (i_mono h (fun c29 h => ?_) (fun c29 h => ?_))
      · refine r_aload_n L_111_48 rfl ?_
        refine r_iload L_111_49 rfl ?_
        refine r_cv L_111_51 rfl (Mi_mono h fun v31 m30 h => ?_)
        refine r_goto L_111_54 ?_
        refine r_iload L_111_63 rfl ?_
        refine r_aload_n L_111_65 rfl ?_
        refine r_iconst L_111_66 kI_1 ?_
        refine r_iald (N := 8) (j := 1) L_111_67 (by decide +kernel) rfl (by decide +kernel) (by decide +kernel) ?_
        refine r_icmp L_111_68 rfl (i_mono h (fun c32 h => ?_) (fun c32 h => ?_))
        · refine r_bipush L_111_75 kB_m3 ?_
          refine r_icmpn L_111_77 rfl (i_mono h (fun c33 h => ?_) (fun c33 h => ?_))
          · refine r_iconst L_111_80 kI_1 ?_
            refine r_goto L_111_81 ?_
            exact r_zret L_111_85 RT_111 (Or.inr rfl) h
          · refine r_iconst L_111_84 kI_0 ?_
            exact r_zret L_111_85 RT_111 (Or.inl rfl) h
        · refine r_iconst L_111_71 kI_m1 ?_
          refine r_goto L_111_72 ?_
          refine r_icmpn L_111_77 rfl (i_mono h (fun c34 h => ?_) (fun c34 h => ?_))
          · refine r_iconst L_111_80 kI_1 ?_
            refine r_goto L_111_81 ?_
            exact r_zret L_111_85 RT_111 (Or.inr rfl) h
          · refine r_iconst L_111_84 kI_0 ?_
            exact r_zret L_111_85 RT_111 (Or.inl rfl) h
      · refine r_aload_n L_111_57 rfl ?_
        refine r_iload L_111_58 rfl ?_
        refine r_cv L_111_60 rfl (Mi_mono h fun v36 m35 h => ?_)
        refine r_iload L_111_63 rfl ?_
        refine r_aload_n L_111_65 rfl ?_
        refine r_iconst L_111_66 kI_1 ?_
        refine r_iald (N := 8) (j := 1) L_111_67 (by decide +kernel) rfl (by decide +kernel) (by decide +kernel) ?_
        refine r_icmp L_111_68 rfl (i_mono h (fun c37 h => ?_) (fun c37 h => ?_))
        · refine r_bipush L_111_75 kB_m3 ?_
          refine r_icmpn L_111_77 rfl (i_mono h (fun c38 h => ?_) (fun c38 h => ?_))
          · refine r_iconst L_111_80 kI_1 ?_
            refine r_goto L_111_81 ?_
            exact r_zret L_111_85 RT_111 (Or.inr rfl) h
          · refine r_iconst L_111_84 kI_0 ?_
            exact r_zret L_111_85 RT_111 (Or.inl rfl) h
        · refine r_iconst L_111_71 kI_m1 ?_
          refine r_goto L_111_72 ?_
          refine r_icmpn L_111_77 rfl (i_mono h (fun c39 h => ?_) (fun c39 h => ?_))
          · refine r_iconst L_111_80 kI_1 ?_
            refine r_goto L_111_81 ?_
            exact r_zret L_111_85 RT_111 (Or.inr rfl) h
          · refine r_iconst L_111_84 kI_0 ?_
            exact r_zret L_111_85 RT_111 (Or.inl rfl) h
  · refine r_iload L_111_142 rfl ?_
    refine r_iconst L_111_144 kI_1 ?_
    refine r_icmpn L_111_145 rfl (i_mono h (fun c40 h => ?_) (fun c40 h => ?_))
    · refine r_iload L_111_148 rfl ?_
      refine r_bipush L_111_150 kB_8 ?_
      refine r_irem L_111_152 (by decide +kernel) ?_
      refine r_istore (ls1 := [some (.inr (27, 0)), some (.inr (34, 0)), some (.inr (35, 0)), some (.inr (36, 0)), some (.inr (37, 0)), some (.inr (38, 0)), some (.inl x6), some (.inl x7), some (.inl (iR x6 8)), none]) L_111_153 (Nat.le_of_ble_eq_true rfl) rfl ?_
      refine r_iload L_111_155 rfl ?_
      refine r_aload_n L_111_157 rfl ?_
      refine r_iconst L_111_158 kI_2 ?_
      refine r_iald (N := 8) (j := 2) L_111_159 (by decide +kernel) rfl (by decide +kernel) (by decide +kernel) ?_
      refine r_icmpn L_111_160 cc_ge (i_mono h (fun c41 h => ?_) (fun c41 h => ?_))
      · refine r_aload_n L_111_163 rfl ?_
        refine r_bipush L_111_164 kB_7 ?_
        refine r_iload L_111_166 rfl ?_
        refine r_imul L_111_168 ?_
        refine r_bipush L_111_169 kB_6 ?_
        refine r_iadd L_111_171 ?_
        obtain ⟨g42, h⟩ := h
        refine r_iald (N := 56) (j := ((7 * (iR x6 8)) + 6).toNatClampNeg) L_111_172 (by decide +kernel) rfl g42 rfl ?_
        refine r_iconst L_111_173 kI_1 ?_
        refine r_icmp L_111_174 rfl (i_mono h (fun c43 h => ?_) (fun c43 h => ?_))
        · refine r_aload_n L_111_192 rfl ?_
          refine r_iload L_111_193 rfl ?_
          refine r_cv L_111_195 rfl (Mi_mono h fun v45 m44 h => ?_)
          refine r_iload L_111_198 rfl ?_
          refine r_aload_n L_111_200 rfl ?_
          refine r_iconst L_111_201 kI_2 ?_
          refine r_iald (N := 8) (j := 2) L_111_202 (by decide +kernel) rfl (by decide +kernel) (by decide +kernel) ?_
          refine r_icmp L_111_203 rfl (i_mono h (fun c46 h => ?_) (fun c46 h => ?_))
          · refine r_bipush L_111_210 kB_m3 ?_
            refine r_icmpn L_111_212 rfl (i_mono h (fun c47 h => ?_) (fun c47 h => ?_))
            · refine r_iconst L_111_215 kI_1 ?_
              refine r_goto L_111_216 ?_
              exact r_zret L_111_220 RT_111 (Or.inr rfl) h
            · refine r_iconst L_111_219 kI_0 ?_
              exact r_zret L_111_220 RT_111 (Or.inl rfl) h
          · refine r_iconst L_111_206 kI_m1 ?_
            refine r_goto L_111_207 ?_
            refine r_icmpn L_111_212 rfl (i_mono h (fun c48 h => ?_) (fun c48 h => ?_))
            · refine r_iconst L_111_215 kI_1 ?_
              refine r_goto L_111_216 ?_
              exact r_zret L_111_220 RT_111 (Or.inr rfl) h
            · refine r_iconst L_111_219 kI_0 ?_
              exact r_zret L_111_220 RT_111 (Or.inl rfl) h
        · refine r_aload_n L_111_177 rfl ?_
          refine r_bipush L_111_178 kB_7 ?_
          refine r_iload L_111_180 rfl ?_
          refine r_imul L_111_182 ?_
          refine r_iconst L_111_183 kI_5 ?_
          refine r_iadd L_111_184 ?_
          obtain ⟨g49, h⟩ := h
          refine r_iald (N := 56) (j := ((7 * (iR x6 8)) + 5).toNatClampNeg) L_111_185 (by decide +kernel) rfl g49 rfl ?_
          refine r_aload_n L_111_186 rfl ?_
          refine r_iconst L_111_187 kI_0 ?_
          refine r_iald (N := 8) (j := 0) L_111_188 (by decide +kernel) rfl (by decide +kernel) (by decide +kernel) ?_
          refine r_icmp L_111_189 rfl (i_mono h (fun c50 h => ?_) (fun c50 h => ?_))
          · refine r_aload_n L_111_221 rfl ?_
            refine r_bipush L_111_222 kB_7 ?_
            refine r_iload L_111_224 rfl ?_
            refine r_imul L_111_226 ?_
            refine r_bipush L_111_227 kB_6 ?_
            refine r_iadd L_111_229 ?_
            refine r_iconst L_111_230 kI_1 ?_
            refine r_iast (N := 56) (j := ((7 * (iR x6 8)) + 6).toNatClampNeg) L_111_231 (by decide +kernel) rfl g42 rfl ?_
            refine r_nm fun m51 em51 => ?_
            have h := h m51 em51
            refine r_aload_n L_111_232 rfl ?_
            refine r_aload_n L_111_233 rfl ?_
            refine r_aload_n L_111_234 rfl ?_
            refine r_aload L_111_235 rfl ?_
            refine r_aload L_111_237 rfl ?_
            refine r_csv L_111_239 (by decide) rfl (Mv_mono h fun m52 h => ?_)
            refine r_aload_n L_111_242 rfl ?_
            refine r_iload L_111_243 rfl ?_
            refine r_cv L_111_245 rfl (Mi_mono h fun v54 m53 h => ?_)
            refine r_aload_n L_111_248 rfl ?_
            refine r_aload L_111_249 rfl ?_
            refine r_cs L_111_251 (by decide) rfl (Mi_mono h fun v56 m55 h => ?_)
            refine r_icmpn L_111_254 rfl (i_mono h (fun c57 h => ?_) (fun c57 h => ?_))
            · refine r_iconst L_111_257 kI_1 ?_
              refine r_goto L_111_258 ?_
              exact r_zret L_111_262 RT_111 (Or.inr rfl) h
            · refine r_iconst L_111_261 kI_0 ?_
              exact r_zret L_111_262 RT_111 (Or.inl rfl) h
          · refine r_aload_n L_111_192 rfl ?_
            refine r_iload L_111_193 rfl ?_
            refine r_cv L_111_195 rfl (Mi_mono h fun v59 m58 h => ?_)
            refine r_iload L_111_198 rfl ?_
            refine r_aload_n L_111_200 rfl ?_
            refine r_iconst L_111_201 kI_2 ?_
            refine r_iald (N := 8) (j := 2) L_111_202 (by decide +kernel) rfl (by decide +kernel) (by decide +kernel) ?_
            refine r_icmp L_111_203 rfl (i_mono h (fun c60 h => ?_) (fun c60 h => ?_))
            · refine r_bipush L_111_210 kB_m3 ?_
              refine r_icmpn L_111_212 rfl (i_mono h (fun c61 h => ?_) (fun c61 h => ?_))
              · refine r_iconst L_111_215 kI_1 ?_
                refine r_goto L_111_216 ?_
                exact r_zret L_111_220 RT_111 (Or.inr rfl) h
              · refine r_iconst L_111_219 kI_0 ?_
                exact r_zret L_111_220 RT_111 (Or.inl rfl) h
            · refine r_iconst L_111_206 kI_m1 ?_
              refine r_goto L_111_207 ?_
              refine r_icmpn L_111_212 rfl (i_mono h (fun c62 h => ?_) (fun c62 h => ?_))
              · refine r_iconst L_111_215 kI_1 ?_
                refine r_goto L_111_216 ?_
                exact r_zret L_111_220 RT_111 (Or.inr rfl) h
              · refine r_iconst L_111_219 kI_0 ?_
                exact r_zret L_111_220 RT_111 (Or.inl rfl) h
      · refine r_aload_n L_111_192 rfl ?_
        refine r_iload L_111_193 rfl ?_
        refine r_cv L_111_195 rfl (Mi_mono h fun v64 m63 h => ?_)
        refine r_iload L_111_198 rfl ?_
        refine r_aload_n L_111_200 rfl ?_
        refine r_iconst L_111_201 kI_2 ?_
        refine r_iald (N := 8) (j := 2) L_111_202 (by decide +kernel) rfl (by decide +kernel) (by decide +kernel) ?_
        refine r_icmp L_111_203 rfl (i_mono h (fun c65 h => ?_) (fun c65 h => ?_))
        · refine r_bipush L_111_210 kB_m3 ?_
          refine r_icmpn L_111_212 rfl (i_mono h (fun c66 h => ?_) (fun c66 h => ?_))
          · refine r_iconst L_111_215 kI_1 ?_
            refine r_goto L_111_216 ?_
            exact r_zret L_111_220 RT_111 (Or.inr rfl) h
          · refine r_iconst L_111_219 kI_0 ?_
            exact r_zret L_111_220 RT_111 (Or.inl rfl) h
        · refine r_iconst L_111_206 kI_m1 ?_
          refine r_goto L_111_207 ?_
          refine r_icmpn L_111_212 rfl (i_mono h (fun c67 h => ?_) (fun c67 h => ?_))
          · refine r_iconst L_111_215 kI_1 ?_
            refine r_goto L_111_216 ?_
            exact r_zret L_111_220 RT_111 (Or.inr rfl) h
          · refine r_iconst L_111_219 kI_0 ?_
            exact r_zret L_111_220 RT_111 (Or.inl rfl) h
    · refine r_iload L_111_263 rfl ?_
      refine r_iconst L_111_265 kI_3 ?_
      refine r_irem L_111_266 (by decide +kernel) ?_
      refine r_istore (ls1 := [some (.inr (27, 0)), some (.inr (34, 0)), some (.inr (35, 0)), some (.inr (36, 0)), some (.inr (37, 0)), some (.inr (38, 0)), some (.inl x6), some (.inl x7), some (.inl (iR x6 3)), none]) L_111_267 (Nat.le_of_ble_eq_true rfl) rfl ?_
      refine r_aload_n L_111_269 rfl ?_
      refine r_iconst L_111_270 kI_5 ?_
      refine r_iload L_111_271 rfl ?_
      refine r_iadd L_111_273 ?_
      obtain ⟨g68, h⟩ := h
      refine r_iald (N := 8) (j := (5 + (iR x6 3)).toNatClampNeg) L_111_274 (by decide +kernel) rfl g68 rfl ?_
      refine r_istore (ls1 := [some (.inr (27, 0)), some (.inr (34, 0)), some (.inr (35, 0)), some (.inr (36, 0)), some (.inr (37, 0)), some (.inr (38, 0)), some (.inl x6), some (.inl x7), some (.inl (iR x6 3)), some (.inl (m 34 0 (5 + (iR x6 3)).toNatClampNeg))]) L_111_275 (Nat.le_of_ble_eq_true rfl) rfl ?_
      refine r_aload_n L_111_277 rfl ?_
      refine r_iconst L_111_278 kI_5 ?_
      refine r_iload L_111_279 rfl ?_
      refine r_iadd L_111_281 ?_
      refine r_iload L_111_282 rfl ?_
      refine r_ifn L_111_284 rfl (i_mono h (fun c69 h => ?_) (fun c69 h => ?_))
      · refine r_iload L_111_287 rfl ?_
        refine r_iconst L_111_289 kI_3 ?_
        refine r_idiv L_111_290 (by decide +kernel) ?_
        refine r_bipush L_111_291 kB_101 ?_
        refine r_irem L_111_293 (by decide +kernel) ?_
        refine r_goto L_111_294 ?_
        refine r_iast (N := 8) (j := (5 + (iR x6 3)).toNatClampNeg) L_111_322 (by decide +kernel) rfl g68 rfl ?_
        refine r_nm fun m70 em70 => ?_
        have h := h m70 em70
        refine r_aload_n L_111_323 rfl ?_
        refine r_aload_n L_111_324 rfl ?_
        refine r_aload_n L_111_325 rfl ?_
        refine r_aload L_111_326 rfl ?_
        refine r_aload L_111_328 rfl ?_
        refine r_csv L_111_330 (by decide) rfl (Mv_mono h fun m71 h => ?_)
        refine r_aload_n L_111_333 rfl ?_
        refine r_iload L_111_334 rfl ?_
        refine r_aload_n L_111_336 rfl ?_
        refine r_iconst L_111_337 kI_5 ?_
        refine r_iload L_111_338 rfl ?_
        refine r_iadd L_111_340 ?_
        refine r_iald (N := 8) (j := (5 + (iR x6 3)).toNatClampNeg) L_111_341 (by decide +kernel) rfl g68 rfl ?_
        refine r_cv L_111_342 rfl (Mi_mono h fun v73 m72 h => ?_)
        refine r_iload L_111_345 rfl ?_
        refine r_icmpn L_111_347 rfl (i_mono h (fun c74 h => ?_) (fun c74 h => ?_))
        · refine r_iconst L_111_350 kI_1 ?_
          refine r_goto L_111_351 ?_
          exact r_zret L_111_355 RT_111 (Or.inr rfl) h
        · refine r_iconst L_111_354 kI_0 ?_
          exact r_zret L_111_355 RT_111 (Or.inl rfl) h
      · refine r_iload L_111_297 rfl ?_
        refine r_iconst L_111_299 kI_1 ?_
        refine r_icmpn L_111_300 rfl (i_mono h (fun c75 h => ?_) (fun c75 h => ?_))
        · refine r_iconst L_111_303 kI_1 ?_
          refine r_iload L_111_304 rfl ?_
          refine r_iconst L_111_306 kI_3 ?_
          refine r_idiv L_111_307 (by decide +kernel) ?_
          refine r_bipush L_111_308 kB_12 ?_
          refine r_irem L_111_310 (by decide +kernel) ?_
          refine r_iadd L_111_311 ?_
          refine r_goto L_111_312 ?_
          refine r_iast (N := 8) (j := (5 + (iR x6 3)).toNatClampNeg) L_111_322 (by decide +kernel) rfl g68 rfl ?_
          refine r_nm fun m76 em76 => ?_
          have h := h m76 em76
          refine r_aload_n L_111_323 rfl ?_
          refine r_aload_n L_111_324 rfl ?_
          refine r_aload_n L_111_325 rfl ?_
          refine r_aload L_111_326 rfl ?_
          refine r_aload L_111_328 rfl ?_
          refine r_csv L_111_330 (by decide) rfl (Mv_mono h fun m77 h => ?_)
          refine r_aload_n L_111_333 rfl ?_
          refine r_iload L_111_334 rfl ?_
          refine r_aload_n L_111_336 rfl ?_
          refine r_iconst L_111_337 kI_5 ?_
          refine r_iload L_111_338 rfl ?_
          refine r_iadd L_111_340 ?_
          refine r_iald (N := 8) (j := (5 + (iR x6 3)).toNatClampNeg) L_111_341 (by decide +kernel) rfl g68 rfl ?_
          refine r_cv L_111_342 rfl (Mi_mono h fun v79 m78 h => ?_)
          refine r_iload L_111_345 rfl ?_
          refine r_icmpn L_111_347 rfl (i_mono h (fun c80 h => ?_) (fun c80 h => ?_))
          · refine r_iconst L_111_350 kI_1 ?_
            refine r_goto L_111_351 ?_
            exact r_zret L_111_355 RT_111 (Or.inr rfl) h
          · refine r_iconst L_111_354 kI_0 ?_
            exact r_zret L_111_355 RT_111 (Or.inl rfl) h
        · refine r_iload L_111_315 rfl ?_
          refine r_iconst L_111_317 kI_3 ?_
          refine r_idiv L_111_318 (by decide +kernel) ?_
          refine r_bipush L_111_319 kB_6 ?_
          refine r_irem L_111_321 (by decide +kernel) ?_
          refine r_iast (N := 8) (j := (5 + (iR x6 3)).toNatClampNeg) L_111_322 (by decide +kernel) rfl g68 rfl ?_
          refine r_nm fun m81 em81 => ?_
          have h := h m81 em81
          refine r_aload_n L_111_323 rfl ?_
          refine r_aload_n L_111_324 rfl ?_
          refine r_aload_n L_111_325 rfl ?_
          refine r_aload L_111_326 rfl ?_
          refine r_aload L_111_328 rfl ?_
          refine r_csv L_111_330 (by decide) rfl (Mv_mono h fun m82 h => ?_)
          refine r_aload_n L_111_333 rfl ?_
          refine r_iload L_111_334 rfl ?_
          refine r_aload_n L_111_336 rfl ?_
          refine r_iconst L_111_337 kI_5 ?_
          refine r_iload L_111_338 rfl ?_
          refine r_iadd L_111_340 ?_
          refine r_iald (N := 8) (j := (5 + (iR x6 3)).toNatClampNeg) L_111_341 (by decide +kernel) rfl g68 rfl ?_
          refine r_cv L_111_342 rfl (Mi_mono h fun v84 m83 h => ?_)
          refine r_iload L_111_345 rfl ?_
          refine r_icmpn L_111_347 rfl (i_mono h (fun c85 h => ?_) (fun c85 h => ?_))
          · refine r_iconst L_111_350 kI_1 ?_
            refine r_goto L_111_351 ?_
            exact r_zret L_111_355 RT_111 (Or.inr rfl) h
          · refine r_iconst L_111_354 kI_0 ?_
            exact r_zret L_111_355 RT_111 (Or.inl rfl) h
def H_112_54 (x6 x7 x8 x9 x10 x11 x12 : Int32) (m : aM) (Q : Int32 → aM → Prop) : Prop := Rg 112 54 [some (.inr (27, 0)), some (.inr (34, 0)), some (.inr (35, 0)), some (.inr (36, 0)), some (.inr (37, 0)), some (.inr (38, 0)), some (.inl x6), some (.inl x7), some (.inl x8), some (.inl x9), some (.inl x10), some (.inl x11), some (.inl x12)] [] m (qI Q)
/-- Law.leased, the loop at 54 -/
theorem T_112_54 {x6 x7 x8 x9 x10 x11 x12 : Int32} {m : aM} {Q : Int32 → aM → Prop} (h :
   if x12 < 8 then
    (if x11 = 0 then
     (Mi 103 [.inr (34, 0), .inr (35, 0), .inr (36, 0), .inr (37, 0), .inl x8, .inl x12, .inl x10] m (fun v4 m3 =>
      if v4 = 0 then
       H_112_54 x6 x7 x8 x9 x10 0 (x12 + 1) m3 Q
      else
       H_112_54 x6 x7 x8 x9 x10 1 (x12 + 1) m3 Q))
    else
     H_112_54 x6 x7 x8 x9 x10 1 (x12 + 1) m Q)
   else
    Mi 104 [.inr (34, 0), .inr (35, 0), .inr (36, 0), .inr (37, 0), .inr (38, 0), .inl x8, .inl x10] m (fun v7 m6 =>
     a_in ((4 * x8) + 3) 64 = true ∧
      if (m6 37 0 ((4 * x8) + 3).toNatClampNeg) < 0 then
       (a_in ((4 * x8) + 2) 64 = true ∧
        if (m6 37 0 ((4 * x8) + 2).toNatClampNeg) < x10 then
         ((∀ m12, m12 = a_up m6 34 0 4 2 →
         if 0 < (m12 34 0 4) then
          (Mi 67 [.inr (27, 0), .inl x8, .inl x10, .inl x9] m12 (fun v15 m14 =>
           if v15 = (-5) then
            Q 1 m14
           else
            Q 0 m14))
         else
          (∀ m17, m17 = a_up m12 37 0 ((4 * x8) + 3).toNatClampNeg v7 →
          (a_in (3 * x8) 48 = true ∧
           (∀ m19, m19 = a_up m17 38 0 (3 * x8).toNatClampNeg x10 →
           (a_in ((3 * x8) + 1) 48 = true ∧
            (∀ m21, m21 = a_up m19 38 0 ((3 * x8) + 1).toNatClampNeg ((m19 34 0 0) + x9) →
            (a_in ((3 * x8) + 2) 48 = true ∧
             (∀ m23, m23 = a_up m21 38 0 ((3 * x8) + 2).toNatClampNeg (-6) →
             Mi 67 [.inr (27, 0), .inl x8, .inl x10, .inl x9] m23 (fun v25 m24 =>
              if v25 = v7 then
               Q 1 m24
              else
               Q 0 m24))))))))))
        else
         if x11 = 0 then
          ((∀ m28, m28 = a_up m6 34 0 4 3 →
          if 0 < (m28 34 0 4) then
           (Mi 67 [.inr (27, 0), .inl x8, .inl x10, .inl x9] m28 (fun v31 m30 =>
            if v31 = (-5) then
             Q 1 m30
            else
             Q 0 m30))
          else
           (∀ m33, m33 = a_up m28 37 0 ((4 * x8) + 3).toNatClampNeg v7 →
           (a_in (3 * x8) 48 = true ∧
            (∀ m35, m35 = a_up m33 38 0 (3 * x8).toNatClampNeg x10 →
            (a_in ((3 * x8) + 1) 48 = true ∧
             (∀ m37, m37 = a_up m35 38 0 ((3 * x8) + 1).toNatClampNeg ((m35 34 0 0) + x9) →
             (a_in ((3 * x8) + 2) 48 = true ∧
              (∀ m39, m39 = a_up m37 38 0 ((3 * x8) + 2).toNatClampNeg (-6) →
              Mi 67 [.inr (27, 0), .inl x8, .inl x10, .inl x9] m39 (fun v41 m40 =>
               if v41 = v7 then
                Q 1 m40
               else
                Q 0 m40))))))))))
         else
          if v7 < 0 then
           ((∀ m44, m44 = a_up m6 34 0 4 4 →
           if 0 < (m44 34 0 4) then
            (Mi 67 [.inr (27, 0), .inl x8, .inl x10, .inl x9] m44 (fun v47 m46 =>
             if v47 = (-5) then
              Q 1 m46
             else
              Q 0 m46))
           else
            (∀ m49, m49 = a_up m44 37 0 ((4 * x8) + 3).toNatClampNeg v7 →
            (a_in (3 * x8) 48 = true ∧
             (∀ m51, m51 = a_up m49 38 0 (3 * x8).toNatClampNeg x10 →
             (a_in ((3 * x8) + 1) 48 = true ∧
              (∀ m53, m53 = a_up m51 38 0 ((3 * x8) + 1).toNatClampNeg ((m51 34 0 0) + x9) →
              (a_in ((3 * x8) + 2) 48 = true ∧
               (∀ m55, m55 = a_up m53 38 0 ((3 * x8) + 2).toNatClampNeg (-6) →
               Mi 67 [.inr (27, 0), .inl x8, .inl x10, .inl x9] m55 (fun v57 m56 =>
                if v57 = v7 then
                 Q 1 m56
                else
                 Q 0 m56))))))))))
          else
           (∀ m59, m59 = a_up m6 34 0 4 0 →
           if 0 < (m59 34 0 4) then
            (Mi 67 [.inr (27, 0), .inl x8, .inl x10, .inl x9] m59 (fun v62 m61 =>
             if v62 = (-5) then
              Q 1 m61
             else
              Q 0 m61))
           else
            (∀ m64, m64 = a_up m59 37 0 ((4 * x8) + 3).toNatClampNeg v7 →
            (a_in (3 * x8) 48 = true ∧
             (∀ m66, m66 = a_up m64 38 0 (3 * x8).toNatClampNeg x10 →
             (a_in ((3 * x8) + 1) 48 = true ∧
              (∀ m68, m68 = a_up m66 38 0 ((3 * x8) + 1).toNatClampNeg ((m66 34 0 0) + x9) →
              (a_in ((3 * x8) + 2) 48 = true ∧
               (∀ m70, m70 = a_up m68 38 0 ((3 * x8) + 2).toNatClampNeg (-6) →
               Mi 67 [.inr (27, 0), .inl x8, .inl x10, .inl x9] m70 (fun v72 m71 =>
                if v72 = v7 then
                 Q 1 m71
                else
                 Q 0 m71))))))))))
      else
       (∀ m74, m74 = a_up m6 34 0 4 1 →
       if 0 < (m74 34 0 4) then
        (Mi 67 [.inr (27, 0), .inl x8, .inl x10, .inl x9] m74 (fun v77 m76 =>
         if v77 = (-5) then
          Q 1 m76
         else
          Q 0 m76))
       else
        (∀ m79, m79 = a_up m74 37 0 ((4 * x8) + 3).toNatClampNeg v7 →
        (a_in (3 * x8) 48 = true ∧
         (∀ m81, m81 = a_up m79 38 0 (3 * x8).toNatClampNeg x10 →
         (a_in ((3 * x8) + 1) 48 = true ∧
          (∀ m83, m83 = a_up m81 38 0 ((3 * x8) + 1).toNatClampNeg ((m81 34 0 0) + x9) →
          (a_in ((3 * x8) + 2) 48 = true ∧
           (∀ m85, m85 = a_up m83 38 0 ((3 * x8) + 2).toNatClampNeg (-6) →
           Mi 67 [.inr (27, 0), .inl x8, .inl x10, .inl x9] m85 (fun v87 m86 =>
            if v87 = v7 then
             Q 1 m86
            else
             Q 0 m86))))))))))
  ) : H_112_54 x6 x7 x8 x9 x10 x11 x12 m Q := by
  show Rg 112 54 [some (.inr (27, 0)), some (.inr (34, 0)), some (.inr (35, 0)), some (.inr (36, 0)), some (.inr (37, 0)), some (.inr (38, 0)), some (.inl x6), some (.inl x7), some (.inl x8), some (.inl x9), some (.inl x10), some (.inl x11), some (.inl x12)] [] m (qI Q)
  refine r_iload L_112_54 rfl ?_
  refine r_bipush L_112_56 kB_8 ?_
  refine r_icmpn L_112_58 cc_ge (i_mono h (fun c1 h => ?_) (fun c1 h => ?_))
  · refine r_iload L_112_61 rfl ?_
    refine r_ifn L_112_63 rfl (i_mono h (fun c2 h => ?_) (fun c2 h => ?_))
    · refine r_aload_n L_112_66 rfl ?_
      refine r_aload_n L_112_67 rfl ?_
      refine r_aload_n L_112_68 rfl ?_
      refine r_aload L_112_69 rfl ?_
      refine r_iload L_112_71 rfl ?_
      refine r_iload L_112_73 rfl ?_
      refine r_iload L_112_75 rfl ?_
      refine r_cs L_112_77 (by decide) rfl (Mi_mono h fun v4 m3 h => ?_)
      refine r_if L_112_80 rfl (i_mono h (fun c5 h => ?_) (fun c5 h => ?_))
      · refine r_iconst L_112_87 kI_0 ?_
        refine r_istore (ls1 := [some (.inr (27, 0)), some (.inr (34, 0)), some (.inr (35, 0)), some (.inr (36, 0)), some (.inr (37, 0)), some (.inr (38, 0)), some (.inl x6), some (.inl x7), some (.inl x8), some (.inl x9), some (.inl x10), some (.inl 0), some (.inl x12)]) L_112_88 (Nat.le_of_ble_eq_true rfl) rfl ?_
        refine r_iinc (ls1 := [some (.inr (27, 0)), some (.inr (34, 0)), some (.inr (35, 0)), some (.inr (36, 0)), some (.inr (37, 0)), some (.inr (38, 0)), some (.inl x6), some (.inl x7), some (.inl x8), some (.inl x9), some (.inl x10), some (.inl 0), some (.inl (x12 + 1))]) L_112_90 kI_1 rfl (Nat.le_of_ble_eq_true rfl) rfl ?_
        refine r_goto L_112_93 ?_
        exact h
      · refine r_iconst L_112_83 kI_1 ?_
        refine r_goto L_112_84 ?_
        refine r_istore (ls1 := [some (.inr (27, 0)), some (.inr (34, 0)), some (.inr (35, 0)), some (.inr (36, 0)), some (.inr (37, 0)), some (.inr (38, 0)), some (.inl x6), some (.inl x7), some (.inl x8), some (.inl x9), some (.inl x10), some (.inl 1), some (.inl x12)]) L_112_88 (Nat.le_of_ble_eq_true rfl) rfl ?_
        refine r_iinc (ls1 := [some (.inr (27, 0)), some (.inr (34, 0)), some (.inr (35, 0)), some (.inr (36, 0)), some (.inr (37, 0)), some (.inr (38, 0)), some (.inl x6), some (.inl x7), some (.inl x8), some (.inl x9), some (.inl x10), some (.inl 1), some (.inl (x12 + 1))]) L_112_90 kI_1 rfl (Nat.le_of_ble_eq_true rfl) rfl ?_
        refine r_goto L_112_93 ?_
        exact h
    · refine r_iconst L_112_83 kI_1 ?_
      refine r_goto L_112_84 ?_
      refine r_istore (ls1 := [some (.inr (27, 0)), some (.inr (34, 0)), some (.inr (35, 0)), some (.inr (36, 0)), some (.inr (37, 0)), some (.inr (38, 0)), some (.inl x6), some (.inl x7), some (.inl x8), some (.inl x9), some (.inl x10), some (.inl 1), some (.inl x12)]) L_112_88 (Nat.le_of_ble_eq_true rfl) rfl ?_
      refine r_iinc (ls1 := [some (.inr (27, 0)), some (.inr (34, 0)), some (.inr (35, 0)), some (.inr (36, 0)), some (.inr (37, 0)), some (.inr (38, 0)), some (.inl x6), some (.inl x7), some (.inl x8), some (.inl x9), some (.inl x10), some (.inl 1), some (.inl (x12 + 1))]) L_112_90 kI_1 rfl (Nat.le_of_ble_eq_true rfl) rfl ?_
      refine r_goto L_112_93 ?_
      exact h
  · refine r_aload_n L_112_96 rfl ?_
    refine r_aload_n L_112_97 rfl ?_
    refine r_aload_n L_112_98 rfl ?_
    refine r_aload L_112_99 rfl ?_
    refine r_aload L_112_101 rfl ?_
    refine r_iload L_112_103 rfl ?_
    refine r_iload L_112_105 rfl ?_
    refine r_cs L_112_107 (by decide) rfl (Mi_mono h fun v7 m6 h => ?_)
    refine r_istore (ls1 := [some (.inr (27, 0)), some (.inr (34, 0)), some (.inr (35, 0)), some (.inr (36, 0)), some (.inr (37, 0)), some (.inr (38, 0)), some (.inl x6), some (.inl x7), some (.inl x8), some (.inl x9), some (.inl x10), some (.inl x11), some (.inl v7)]) L_112_110 (Nat.le_of_ble_eq_true rfl) rfl ?_
    refine r_aload_n L_112_112 rfl ?_
    refine r_iconst L_112_113 kI_4 ?_
    refine r_aload L_112_114 rfl ?_
    refine r_iconst L_112_116 kI_4 ?_
    refine r_iload L_112_117 rfl ?_
    refine r_imul L_112_119 ?_
    refine r_iconst L_112_120 kI_3 ?_
    refine r_iadd L_112_121 ?_
    obtain ⟨g8, h⟩ := h
    refine r_iald (N := 64) (j := ((4 * x8) + 3).toNatClampNeg) L_112_122 (by decide +kernel) rfl g8 rfl ?_
    refine r_if L_112_123 rfl (i_mono h (fun c9 h => ?_) (fun c9 h => ?_))
    · refine r_iload L_112_130 rfl ?_
      refine r_aload L_112_132 rfl ?_
      refine r_iconst L_112_134 kI_4 ?_
      refine r_iload L_112_135 rfl ?_
      refine r_imul L_112_137 ?_
      refine r_iconst L_112_138 kI_2 ?_
      refine r_iadd L_112_139 ?_
      obtain ⟨g10, h⟩ := h
      refine r_iald (N := 64) (j := ((4 * x8) + 2).toNatClampNeg) L_112_140 (by decide +kernel) rfl g10 rfl ?_
      refine r_icmpn L_112_141 cc_le (i_mono h (fun c11 h => ?_) (fun c11 h => ?_))
      · refine r_iconst L_112_144 kI_2 ?_
        refine r_goto L_112_145 ?_
        refine r_iast (N := 8) (j := 4) L_112_167 (by decide +kernel) rfl (by decide +kernel) (by decide +kernel) ?_
        refine r_nm fun m12 em12 => ?_
        have h := h m12 em12
        refine r_aload_n L_112_168 rfl ?_
        refine r_iconst L_112_169 kI_4 ?_
        refine r_iald (N := 8) (j := 4) L_112_170 (by decide +kernel) rfl (by decide +kernel) (by decide +kernel) ?_
        refine r_ifn L_112_171 cc_le (i_mono h (fun c13 h => ?_) (fun c13 h => ?_))
        · refine r_aload_n L_112_174 rfl ?_
          refine r_iload L_112_175 rfl ?_
          refine r_iload L_112_177 rfl ?_
          refine r_iload L_112_179 rfl ?_
          refine r_cv L_112_181 rfl (Mi_mono h fun v15 m14 h => ?_)
          refine r_bipush L_112_184 kB_m5 ?_
          refine r_icmpn L_112_186 rfl (i_mono h (fun c16 h => ?_) (fun c16 h => ?_))
          · refine r_iconst L_112_189 kI_1 ?_
            refine r_goto L_112_190 ?_
            exact r_zret L_112_194 RT_112 (Or.inr rfl) h
          · refine r_iconst L_112_193 kI_0 ?_
            exact r_zret L_112_194 RT_112 (Or.inl rfl) h
        · refine r_aload L_112_195 rfl ?_
          refine r_iconst L_112_197 kI_4 ?_
          refine r_iload L_112_198 rfl ?_
          refine r_imul L_112_200 ?_
          refine r_iconst L_112_201 kI_3 ?_
          refine r_iadd L_112_202 ?_
          refine r_iload L_112_203 rfl ?_
          refine r_iast (N := 64) (j := ((4 * x8) + 3).toNatClampNeg) L_112_205 (by decide +kernel) rfl g8 rfl ?_
          refine r_nm fun m17 em17 => ?_
          have h := h m17 em17
          refine r_aload L_112_206 rfl ?_
          refine r_iconst L_112_208 kI_3 ?_
          refine r_iload L_112_209 rfl ?_
          refine r_imul L_112_211 ?_
          refine r_iload L_112_212 rfl ?_
          obtain ⟨g18, h⟩ := h
          refine r_iast (N := 48) (j := (3 * x8).toNatClampNeg) L_112_214 (by decide +kernel) rfl g18 rfl ?_
          refine r_nm fun m19 em19 => ?_
          have h := h m19 em19
          refine r_aload L_112_215 rfl ?_
          refine r_iconst L_112_217 kI_3 ?_
          refine r_iload L_112_218 rfl ?_
          refine r_imul L_112_220 ?_
          refine r_iconst L_112_221 kI_1 ?_
          refine r_iadd L_112_222 ?_
          refine r_aload_n L_112_223 rfl ?_
          refine r_iconst L_112_224 kI_0 ?_
          refine r_iald (N := 8) (j := 0) L_112_225 (by decide +kernel) rfl (by decide +kernel) (by decide +kernel) ?_
          refine r_iload L_112_226 rfl ?_
          refine r_iadd L_112_228 ?_
          obtain ⟨g20, h⟩ := h
          refine r_iast (N := 48) (j := ((3 * x8) + 1).toNatClampNeg) L_112_229 (by decide +kernel) rfl g20 rfl ?_
          refine r_nm fun m21 em21 => ?_
          have h := h m21 em21
          refine r_aload L_112_230 rfl ?_
          refine r_iconst L_112_232 kI_3 ?_
          refine r_iload L_112_233 rfl ?_
          refine r_imul L_112_235 ?_
          refine r_iconst L_112_236 kI_2 ?_
          refine r_iadd L_112_237 ?_
          refine r_bipush L_112_238 kB_m6 ?_
          obtain ⟨g22, h⟩ := h
          refine r_iast (N := 48) (j := ((3 * x8) + 2).toNatClampNeg) L_112_240 (by decide +kernel) rfl g22 rfl ?_
          refine r_nm fun m23 em23 => ?_
          have h := h m23 em23
          refine r_aload_n L_112_241 rfl ?_
          refine r_iload L_112_242 rfl ?_
          refine r_iload L_112_244 rfl ?_
          refine r_iload L_112_246 rfl ?_
          refine r_cv L_112_248 rfl (Mi_mono h fun v25 m24 h => ?_)
          refine r_iload L_112_251 rfl ?_
          refine r_icmpn L_112_253 rfl (i_mono h (fun c26 h => ?_) (fun c26 h => ?_))
          · refine r_iconst L_112_256 kI_1 ?_
            refine r_goto L_112_257 ?_
            exact r_zret L_112_261 RT_112 (Or.inr rfl) h
          · refine r_iconst L_112_260 kI_0 ?_
            exact r_zret L_112_261 RT_112 (Or.inl rfl) h
      · refine r_iload L_112_148 rfl ?_
        refine r_ifn L_112_150 rfl (i_mono h (fun c27 h => ?_) (fun c27 h => ?_))
        · refine r_iconst L_112_153 kI_3 ?_
          refine r_goto L_112_154 ?_
          refine r_iast (N := 8) (j := 4) L_112_167 (by decide +kernel) rfl (by decide +kernel) (by decide +kernel) ?_
          refine r_nm fun m28 em28 => ?_
          have h := h m28 em28
          refine r_aload_n L_112_168 rfl ?_
          refine r_iconst L_112_169 kI_4 ?_
          refine r_iald (N := 8) (j := 4) L_112_170 (by decide +kernel) rfl (by decide +kernel) (by decide +kernel) ?_
          refine r_ifn L_112_171 cc_le (i_mono h (fun c29 h => ?_) (fun c29 h => ?_))
          · refine r_aload_n L_112_174 rfl ?_
            refine r_iload L_112_175 rfl ?_
            refine r_iload L_112_177 rfl ?_
            refine r_iload L_112_179 rfl ?_
            refine r_cv L_112_181 rfl (Mi_mono h fun v31 m30 h => ?_)
            refine r_bipush L_112_184 kB_m5 ?_
            refine r_icmpn L_112_186 rfl (i_mono h (fun c32 h => ?_) (fun c32 h => ?_))
            · refine r_iconst L_112_189 kI_1 ?_
              refine r_goto L_112_190 ?_
              exact r_zret L_112_194 RT_112 (Or.inr rfl) h
            · refine r_iconst L_112_193 kI_0 ?_
              exact r_zret L_112_194 RT_112 (Or.inl rfl) h
          · refine r_aload L_112_195 rfl ?_
            refine r_iconst L_112_197 kI_4 ?_
            refine r_iload L_112_198 rfl ?_
            refine r_imul L_112_200 ?_
            refine r_iconst L_112_201 kI_3 ?_
            refine r_iadd L_112_202 ?_
            refine r_iload L_112_203 rfl ?_
            refine r_iast (N := 64) (j := ((4 * x8) + 3).toNatClampNeg) L_112_205 (by decide +kernel) rfl g8 rfl ?_
            refine r_nm fun m33 em33 => ?_
            have h := h m33 em33
            refine r_aload L_112_206 rfl ?_
            refine r_iconst L_112_208 kI_3 ?_
            refine r_iload L_112_209 rfl ?_
            refine r_imul L_112_211 ?_
            refine r_iload L_112_212 rfl ?_
            obtain ⟨g34, h⟩ := h
            refine r_iast (N := 48) (j := (3 * x8).toNatClampNeg) L_112_214 (by decide +kernel) rfl g34 rfl ?_
            refine r_nm fun m35 em35 => ?_
            have h := h m35 em35
            refine r_aload L_112_215 rfl ?_
            refine r_iconst L_112_217 kI_3 ?_
            refine r_iload L_112_218 rfl ?_
            refine r_imul L_112_220 ?_
            refine r_iconst L_112_221 kI_1 ?_
            refine r_iadd L_112_222 ?_
            refine r_aload_n L_112_223 rfl ?_
            refine r_iconst L_112_224 kI_0 ?_
            refine r_iald (N := 8) (j := 0) L_112_225 (by decide +kernel) rfl (by decide +kernel) (by decide +kernel) ?_
            refine r_iload L_112_226 rfl ?_
            refine r_iadd L_112_228 ?_
            obtain ⟨g36, h⟩ := h
            refine r_iast (N := 48) (j := ((3 * x8) + 1).toNatClampNeg) L_112_229 (by decide +kernel) rfl g36 rfl ?_
            refine r_nm fun m37 em37 => ?_
            have h := h m37 em37
            refine r_aload L_112_230 rfl ?_
            refine r_iconst L_112_232 kI_3 ?_
            refine r_iload L_112_233 rfl ?_
            refine r_imul L_112_235 ?_
            refine r_iconst L_112_236 kI_2 ?_
            refine r_iadd L_112_237 ?_
            refine r_bipush L_112_238 kB_m6 ?_
            obtain ⟨g38, h⟩ := h
            refine r_iast (N := 48) (j := ((3 * x8) + 2).toNatClampNeg) L_112_240 (by decide +kernel) rfl g38 rfl ?_
            refine r_nm fun m39 em39 => ?_
            have h := h m39 em39
            refine r_aload_n L_112_241 rfl ?_
            refine r_iload L_112_242 rfl ?_
            refine r_iload L_112_244 rfl ?_
            refine r_iload L_112_246 rfl ?_
            refine r_cv L_112_248 rfl (Mi_mono h fun v41 m40 h => ?_)
            refine r_iload L_112_251 rfl ?_
            refine r_icmpn L_112_253 rfl (i_mono h (fun c42 h => ?_) (fun c42 h => ?_))
            · refine r_iconst L_112_256 kI_1 ?_
              refine r_goto L_112_257 ?_
              exact r_zret L_112_261 RT_112 (Or.inr rfl) h
            · refine r_iconst L_112_260 kI_0 ?_
              exact r_zret L_112_261 RT_112 (Or.inl rfl) h
        · refine r_iload L_112_157 rfl ?_
          refine r_ifn L_112_159 cc_ge (i_mono h (fun c43 h => ?_) (fun c43 h => ?_))
          · refine r_iconst L_112_162 kI_4 ?_
            refine r_goto L_112_163 ?_
            refine r_iast (N := 8) (j := 4) L_112_167 (by decide +kernel) rfl (by decide +kernel) (by decide +kernel) ?_
            refine r_nm fun m44 em44 => ?_
            have h := h m44 em44
            refine r_aload_n L_112_168 rfl ?_
            refine r_iconst L_112_169 kI_4 ?_
            refine r_iald (N := 8) (j := 4) L_112_170 (by decide +kernel) rfl (by decide +kernel) (by decide +kernel) ?_
            refine r_ifn L_112_171 cc_le (i_mono h (fun c45 h => ?_) (fun c45 h => ?_))
            · refine r_aload_n L_112_174 rfl ?_
              refine r_iload L_112_175 rfl ?_
              refine r_iload L_112_177 rfl ?_
              refine r_iload L_112_179 rfl ?_
              refine r_cv L_112_181 rfl (Mi_mono h fun v47 m46 h => ?_)
              refine r_bipush L_112_184 kB_m5 ?_
              refine r_icmpn L_112_186 rfl (i_mono h (fun c48 h => ?_) (fun c48 h => ?_))
              · refine r_iconst L_112_189 kI_1 ?_
                refine r_goto L_112_190 ?_
                exact r_zret L_112_194 RT_112 (Or.inr rfl) h
              · refine r_iconst L_112_193 kI_0 ?_
                exact r_zret L_112_194 RT_112 (Or.inl rfl) h
            · refine r_aload L_112_195 rfl ?_
              refine r_iconst L_112_197 kI_4 ?_
              refine r_iload L_112_198 rfl ?_
              refine r_imul L_112_200 ?_
              refine r_iconst L_112_201 kI_3 ?_
              refine r_iadd L_112_202 ?_
              refine r_iload L_112_203 rfl ?_
              refine r_iast (N := 64) (j := ((4 * x8) + 3).toNatClampNeg) L_112_205 (by decide +kernel) rfl g8 rfl ?_
              refine r_nm fun m49 em49 => ?_
              have h := h m49 em49
              refine r_aload L_112_206 rfl ?_
              refine r_iconst L_112_208 kI_3 ?_
              refine r_iload L_112_209 rfl ?_
              refine r_imul L_112_211 ?_
              refine r_iload L_112_212 rfl ?_
              obtain ⟨g50, h⟩ := h
              refine r_iast (N := 48) (j := (3 * x8).toNatClampNeg) L_112_214 (by decide +kernel) rfl g50 rfl ?_
              refine r_nm fun m51 em51 => ?_
              have h := h m51 em51
              refine r_aload L_112_215 rfl ?_
              refine r_iconst L_112_217 kI_3 ?_
              refine r_iload L_112_218 rfl ?_
              refine r_imul L_112_220 ?_
              refine r_iconst L_112_221 kI_1 ?_
              refine r_iadd L_112_222 ?_
              refine r_aload_n L_112_223 rfl ?_
              refine r_iconst L_112_224 kI_0 ?_
              refine r_iald (N := 8) (j := 0) L_112_225 (by decide +kernel) rfl (by decide +kernel) (by decide +kernel) ?_
              refine r_iload L_112_226 rfl ?_
              refine r_iadd L_112_228 ?_
              obtain ⟨g52, h⟩ := h
              refine r_iast (N := 48) (j := ((3 * x8) + 1).toNatClampNeg) L_112_229 (by decide +kernel) rfl g52 rfl ?_
              refine r_nm fun m53 em53 => ?_
              have h := h m53 em53
              refine r_aload L_112_230 rfl ?_
              refine r_iconst L_112_232 kI_3 ?_
              refine r_iload L_112_233 rfl ?_
              refine r_imul L_112_235 ?_
              refine r_iconst L_112_236 kI_2 ?_
              refine r_iadd L_112_237 ?_
              refine r_bipush L_112_238 kB_m6 ?_
              obtain ⟨g54, h⟩ := h
              refine r_iast (N := 48) (j := ((3 * x8) + 2).toNatClampNeg) L_112_240 (by decide +kernel) rfl g54 rfl ?_
              refine r_nm fun m55 em55 => ?_
              have h := h m55 em55
              refine r_aload_n L_112_241 rfl ?_
              refine r_iload L_112_242 rfl ?_
              refine r_iload L_112_244 rfl ?_
              refine r_iload L_112_246 rfl ?_
              refine r_cv L_112_248 rfl (Mi_mono h fun v57 m56 h => ?_)
              refine r_iload L_112_251 rfl ?_
              refine r_icmpn L_112_253 rfl (i_mono h (fun c58 h => ?_) (fun c58 h => ?_))
              · refine r_iconst L_112_256 kI_1 ?_
                refine r_goto L_112_257 ?_
                exact r_zret L_112_261 RT_112 (Or.inr rfl) h
              · refine r_iconst L_112_260 kI_0 ?_
                exact r_zret L_112_261 RT_112 (Or.inl rfl) h
          · refine r_iconst L_112_166 kI_0 ?_
            refine r_iast (N := 8) (j := 4) L_112_167 (by decide +kernel) rfl (by decide +kernel) (by decide +kernel) ?_
            refine r_nm fun m59 em59 => ?_
            have h := h m59 em59
            refine r_aload_n L_112_168 rfl ?_
            refine r_iconst L_112_169 kI_4 ?_
            refine r_iald (N := 8) (j := 4) L_112_170 (by decide +kernel) rfl (by decide +kernel) (by decide +kernel) ?_
            refine r_ifn L_112_171 cc_le (i_mono h (fun c60 h => ?_) (fun c60 h => ?_))
            · refine r_aload_n L_112_174 rfl ?_
              refine r_iload L_112_175 rfl ?_
              refine r_iload L_112_177 rfl ?_
              refine r_iload L_112_179 rfl ?_
              refine r_cv L_112_181 rfl (Mi_mono h fun v62 m61 h => ?_)
              refine r_bipush L_112_184 kB_m5 ?_
              refine r_icmpn L_112_186 rfl (i_mono h (fun c63 h => ?_) (fun c63 h => ?_))
              · refine r_iconst L_112_189 kI_1 ?_
                refine r_goto L_112_190 ?_
                exact r_zret L_112_194 RT_112 (Or.inr rfl) h
              · refine r_iconst L_112_193 kI_0 ?_
                exact r_zret L_112_194 RT_112 (Or.inl rfl) h
            · refine r_aload L_112_195 rfl ?_
              refine r_iconst L_112_197 kI_4 ?_
              refine r_iload L_112_198 rfl ?_
              refine r_imul L_112_200 ?_
              refine r_iconst L_112_201 kI_3 ?_
              refine r_iadd L_112_202 ?_
              refine r_iload L_112_203 rfl ?_
              refine r_iast (N := 64) (j := ((4 * x8) + 3).toNatClampNeg) L_112_205 (by decide +kernel) rfl g8 rfl ?_
              refine r_nm fun m64 em64 => ?_
              have h := h m64 em64
              refine r_aload L_112_206 rfl ?_
              refine r_iconst L_112_208 kI_3 ?_
              refine r_iload L_112_209 rfl ?_
              refine r_imul L_112_211 ?_
              refine r_iload L_112_212 rfl ?_
              obtain ⟨g65, h⟩ := h
              refine r_iast (N := 48) (j := (3 * x8).toNatClampNeg) L_112_214 (by decide +kernel) rfl g65 rfl ?_
              refine r_nm fun m66 em66 => ?_
              have h := h m66 em66
              refine r_aload L_112_215 rfl ?_
              refine r_iconst L_112_217 kI_3 ?_
              refine r_iload L_112_218 rfl ?_
              refine r_imul L_112_220 ?_
              refine r_iconst L_112_221 kI_1 ?_
              refine r_iadd L_112_222 ?_
              refine r_aload_n L_112_223 rfl ?_
              refine r_iconst L_112_224 kI_0 ?_
              refine r_iald (N := 8) (j := 0) L_112_225 (by decide +kernel) rfl (by decide +kernel) (by decide +kernel) ?_
              refine r_iload L_112_226 rfl ?_
              refine r_iadd L_112_228 ?_
              obtain ⟨g67, h⟩ := h
              refine r_iast (N := 48) (j := ((3 * x8) + 1).toNatClampNeg) L_112_229 (by decide +kernel) rfl g67 rfl ?_
              refine r_nm fun m68 em68 => ?_
              have h := h m68 em68
              refine r_aload L_112_230 rfl ?_
              refine r_iconst L_112_232 kI_3 ?_
              refine r_iload L_112_233 rfl ?_
              refine r_imul L_112_235 ?_
              refine r_iconst L_112_236 kI_2 ?_
              refine r_iadd L_112_237 ?_
              refine r_bipush L_112_238 kB_m6 ?_
              obtain ⟨g69, h⟩ := h
              refine r_iast (N := 48) (j := ((3 * x8) + 2).toNatClampNeg) L_112_240 (by decide +kernel) rfl g69 rfl ?_
              refine r_nm fun m70 em70 => ?_
              have h := h m70 em70
              refine r_aload_n L_112_241 rfl ?_
              refine r_iload L_112_242 rfl ?_
              refine r_iload L_112_244 rfl ?_
              refine r_iload L_112_246 rfl ?_
              refine r_cv L_112_248 rfl (Mi_mono h fun v72 m71 h => ?_)
              refine r_iload L_112_251 rfl ?_
              refine r_icmpn L_112_253 rfl (i_mono h (fun c73 h => ?_) (fun c73 h => ?_))
              · refine r_iconst L_112_256 kI_1 ?_
                refine r_goto L_112_257 ?_
                exact r_zret L_112_261 RT_112 (Or.inr rfl) h
              · refine r_iconst L_112_260 kI_0 ?_
                exact r_zret L_112_261 RT_112 (Or.inl rfl) h
    · refine r_iconst L_112_126 kI_1 ?_
      refine r_goto L_112_127 ?_
      refine r_iast (N := 8) (j := 4) L_112_167 (by decide +kernel) rfl (by decide +kernel) (by decide +kernel) ?_
      refine r_nm fun m74 em74 => ?_
      have h := h m74 em74
      refine r_aload_n L_112_168 rfl ?_
      refine r_iconst L_112_169 kI_4 ?_
      refine r_iald (N := 8) (j := 4) L_112_170 (by decide +kernel) rfl (by decide +kernel) (by decide +kernel) ?_
      refine r_ifn L_112_171 cc_le (i_mono h (fun c75 h => ?_) (fun c75 h => ?_))
      · refine r_aload_n L_112_174 rfl ?_
        refine r_iload L_112_175 rfl ?_
        refine r_iload L_112_177 rfl ?_
        refine r_iload L_112_179 rfl ?_
        refine r_cv L_112_181 rfl (Mi_mono h fun v77 m76 h => ?_)
        refine r_bipush L_112_184 kB_m5 ?_
        refine r_icmpn L_112_186 rfl (i_mono h (fun c78 h => ?_) (fun c78 h => ?_))
        · refine r_iconst L_112_189 kI_1 ?_
          refine r_goto L_112_190 ?_
          exact r_zret L_112_194 RT_112 (Or.inr rfl) h
        · refine r_iconst L_112_193 kI_0 ?_
          exact r_zret L_112_194 RT_112 (Or.inl rfl) h
      · refine r_aload L_112_195 rfl ?_
        refine r_iconst L_112_197 kI_4 ?_
        refine r_iload L_112_198 rfl ?_
        refine r_imul L_112_200 ?_
        refine r_iconst L_112_201 kI_3 ?_
        refine r_iadd L_112_202 ?_
        refine r_iload L_112_203 rfl ?_
        refine r_iast (N := 64) (j := ((4 * x8) + 3).toNatClampNeg) L_112_205 (by decide +kernel) rfl g8 rfl ?_
        refine r_nm fun m79 em79 => ?_
        have h := h m79 em79
        refine r_aload L_112_206 rfl ?_
        refine r_iconst L_112_208 kI_3 ?_
        refine r_iload L_112_209 rfl ?_
        refine r_imul L_112_211 ?_
        refine r_iload L_112_212 rfl ?_
        obtain ⟨g80, h⟩ := h
        refine r_iast (N := 48) (j := (3 * x8).toNatClampNeg) L_112_214 (by decide +kernel) rfl g80 rfl ?_
        refine r_nm fun m81 em81 => ?_
        have h := h m81 em81
        refine r_aload L_112_215 rfl ?_
        refine r_iconst L_112_217 kI_3 ?_
        refine r_iload L_112_218 rfl ?_
        refine r_imul L_112_220 ?_
        refine r_iconst L_112_221 kI_1 ?_
        refine r_iadd L_112_222 ?_
        refine r_aload_n L_112_223 rfl ?_
        refine r_iconst L_112_224 kI_0 ?_
        refine r_iald (N := 8) (j := 0) L_112_225 (by decide +kernel) rfl (by decide +kernel) (by decide +kernel) ?_
        refine r_iload L_112_226 rfl ?_
        refine r_iadd L_112_228 ?_
        obtain ⟨g82, h⟩ := h
        refine r_iast (N := 48) (j := ((3 * x8) + 1).toNatClampNeg) L_112_229 (by decide +kernel) rfl g82 rfl ?_
        refine r_nm fun m83 em83 => ?_
        have h := h m83 em83
        refine r_aload L_112_230 rfl ?_
        refine r_iconst L_112_232 kI_3 ?_
        refine r_iload L_112_233 rfl ?_
        refine r_imul L_112_235 ?_
        refine r_iconst L_112_236 kI_2 ?_
        refine r_iadd L_112_237 ?_
        refine r_bipush L_112_238 kB_m6 ?_
        obtain ⟨g84, h⟩ := h
        refine r_iast (N := 48) (j := ((3 * x8) + 2).toNatClampNeg) L_112_240 (by decide +kernel) rfl g84 rfl ?_
        refine r_nm fun m85 em85 => ?_
        have h := h m85 em85
        refine r_aload_n L_112_241 rfl ?_
        refine r_iload L_112_242 rfl ?_
        refine r_iload L_112_244 rfl ?_
        refine r_iload L_112_246 rfl ?_
        refine r_cv L_112_248 rfl (Mi_mono h fun v87 m86 h => ?_)
        refine r_iload L_112_251 rfl ?_
        refine r_icmpn L_112_253 rfl (i_mono h (fun c88 h => ?_) (fun c88 h => ?_))
        · refine r_iconst L_112_256 kI_1 ?_
          refine r_goto L_112_257 ?_
          exact r_zret L_112_261 RT_112 (Or.inr rfl) h
        · refine r_iconst L_112_260 kI_0 ?_
          exact r_zret L_112_261 RT_112 (Or.inl rfl) h
/-- Law.leased -/
theorem T_112 {x6 x7 : Int32} {m : aM} {Q : Int32 → aM → Prop} (h :
   ¬ (m 34 0 3) = 0 ∧
    if (iR x6 5) = 0 then
     (if x7 < 5 then
      H_112_54 x6 x7 (iR x6 (m 34 0 3)) (1 + (iR (x6 / 16) 99)) (iR (x6 / 320) 4) 0 0 m Q
     else
      a_in ((4 * (iR x6 (m 34 0 3))) + 3) 64 = true ∧
       if (m 37 0 ((4 * (iR x6 (m 34 0 3))) + 3).toNatClampNeg) < 0 then
        (Mi 68 [.inr (27, 0), .inl (iR x6 (m 34 0 3)), .inl (1 + (iR (x6 / 16) 99))] m (fun v7 m6 =>
         if v7 = (-3) then
          (Mi 69 [.inr (27, 0), .inl (iR x6 (m 34 0 3))] m6 (fun v10 m9 =>
           if v10 = (-3) then
            Q 1 m9
           else
            Q 0 m9))
         else
          Q 0 m6))
       else
        if x7 = 5 then
         (a_in ((3 * (iR x6 (m 34 0 3))) + 2) 48 = true ∧
          if (m 38 0 ((3 * (iR x6 (m 34 0 3))) + 2).toNatClampNeg) < 0 then
           ((∀ m15, m15 = a_up m 34 0 4 0 →
           if (m15 34 0 4) = 5 then
            (a_in ((3 * (iR x6 (m 34 0 3))) + 1) 48 = true ∧
             (∀ m18, m18 = a_up m15 38 0 ((3 * (iR x6 (m 34 0 3))) + 1).toNatClampNeg (m15 38 0 ((3 * (iR x6 (m 34 0 3))) + 1).toNatClampNeg) →
             Mi 68 [.inr (27, 0), .inl (iR x6 (m 34 0 3)), .inl (1 + (iR (x6 / 16) 99))] m18 (fun v20 m19 =>
              if (m19 34 0 4) = 5 then
               (if v20 = (-5) then
                Q 1 m19
               else
                Q 0 m19)
              else
               if v20 = ((m19 34 0 0) + (1 + (iR (x6 / 16) 99))) then
                Q 1 m19
               else
                Q 0 m19)))
           else
            (a_in ((3 * (iR x6 (m 34 0 3))) + 1) 48 = true ∧
             (∀ m25, m25 = a_up m15 38 0 ((3 * (iR x6 (m 34 0 3))) + 1).toNatClampNeg ((m15 34 0 0) + (1 + (iR (x6 / 16) 99))) →
             Mi 68 [.inr (27, 0), .inl (iR x6 (m 34 0 3)), .inl (1 + (iR (x6 / 16) 99))] m25 (fun v27 m26 =>
              if (m26 34 0 4) = 5 then
               (if v27 = (-5) then
                Q 1 m26
               else
                Q 0 m26)
              else
               if v27 = ((m26 34 0 0) + (1 + (iR (x6 / 16) 99))) then
                Q 1 m26
               else
                Q 0 m26)))))
          else
           (∀ m31, m31 = a_up m 34 0 4 5 →
           if (m31 34 0 4) = 5 then
            (a_in ((3 * (iR x6 (m 34 0 3))) + 1) 48 = true ∧
             (∀ m34, m34 = a_up m31 38 0 ((3 * (iR x6 (m 34 0 3))) + 1).toNatClampNeg (m31 38 0 ((3 * (iR x6 (m 34 0 3))) + 1).toNatClampNeg) →
             Mi 68 [.inr (27, 0), .inl (iR x6 (m 34 0 3)), .inl (1 + (iR (x6 / 16) 99))] m34 (fun v36 m35 =>
              if (m35 34 0 4) = 5 then
               (if v36 = (-5) then
                Q 1 m35
               else
                Q 0 m35)
              else
               if v36 = ((m35 34 0 0) + (1 + (iR (x6 / 16) 99))) then
                Q 1 m35
               else
                Q 0 m35)))
           else
            (a_in ((3 * (iR x6 (m 34 0 3))) + 1) 48 = true ∧
             (∀ m41, m41 = a_up m31 38 0 ((3 * (iR x6 (m 34 0 3))) + 1).toNatClampNeg ((m31 34 0 0) + (1 + (iR (x6 / 16) 99))) →
             Mi 68 [.inr (27, 0), .inl (iR x6 (m 34 0 3)), .inl (1 + (iR (x6 / 16) 99))] m41 (fun v43 m42 =>
              if (m42 34 0 4) = 5 then
               (if v43 = (-5) then
                Q 1 m42
               else
                Q 0 m42)
              else
               if v43 = ((m42 34 0 0) + (1 + (iR (x6 / 16) 99))) then
                Q 1 m42
               else
                Q 0 m42)))))
        else
         Mv 106 [.inr (37, 0), .inr (38, 0), .inl (iR x6 (m 34 0 3))] m (fun m47 =>
          Mi 69 [.inr (27, 0), .inl (iR x6 (m 34 0 3))] m47 (fun v49 m48 =>
           Mi 108 [.inr (34, 0), .inr (37, 0)] m48 (fun v51 m50 =>
            if v49 = v51 then
             Q 1 m50
            else
             Q 0 m50))))
    else
     if x7 < 5 then
      H_112_54 x6 x7 (iR x6 (m 34 0 3)) (1 + (iR (x6 / 16) 20)) (iR (x6 / 320) 4) 0 0 m Q
     else
      a_in ((4 * (iR x6 (m 34 0 3))) + 3) 64 = true ∧
       if (m 37 0 ((4 * (iR x6 (m 34 0 3))) + 3).toNatClampNeg) < 0 then
        (Mi 68 [.inr (27, 0), .inl (iR x6 (m 34 0 3)), .inl (1 + (iR (x6 / 16) 20))] m (fun v57 m56 =>
         if v57 = (-3) then
          (Mi 69 [.inr (27, 0), .inl (iR x6 (m 34 0 3))] m56 (fun v60 m59 =>
           if v60 = (-3) then
            Q 1 m59
           else
            Q 0 m59))
         else
          Q 0 m56))
       else
        if x7 = 5 then
         (a_in ((3 * (iR x6 (m 34 0 3))) + 2) 48 = true ∧
          if (m 38 0 ((3 * (iR x6 (m 34 0 3))) + 2).toNatClampNeg) < 0 then
           ((∀ m65, m65 = a_up m 34 0 4 0 →
           if (m65 34 0 4) = 5 then
            (a_in ((3 * (iR x6 (m 34 0 3))) + 1) 48 = true ∧
             (∀ m68, m68 = a_up m65 38 0 ((3 * (iR x6 (m 34 0 3))) + 1).toNatClampNeg (m65 38 0 ((3 * (iR x6 (m 34 0 3))) + 1).toNatClampNeg) →
             Mi 68 [.inr (27, 0), .inl (iR x6 (m 34 0 3)), .inl (1 + (iR (x6 / 16) 20))] m68 (fun v70 m69 =>
              if (m69 34 0 4) = 5 then
               (if v70 = (-5) then
                Q 1 m69
               else
                Q 0 m69)
              else
               if v70 = ((m69 34 0 0) + (1 + (iR (x6 / 16) 20))) then
                Q 1 m69
               else
                Q 0 m69)))
           else
            (a_in ((3 * (iR x6 (m 34 0 3))) + 1) 48 = true ∧
             (∀ m75, m75 = a_up m65 38 0 ((3 * (iR x6 (m 34 0 3))) + 1).toNatClampNeg ((m65 34 0 0) + (1 + (iR (x6 / 16) 20))) →
             Mi 68 [.inr (27, 0), .inl (iR x6 (m 34 0 3)), .inl (1 + (iR (x6 / 16) 20))] m75 (fun v77 m76 =>
              if (m76 34 0 4) = 5 then
               (if v77 = (-5) then
                Q 1 m76
               else
                Q 0 m76)
              else
               if v77 = ((m76 34 0 0) + (1 + (iR (x6 / 16) 20))) then
                Q 1 m76
               else
                Q 0 m76)))))
          else
           (∀ m81, m81 = a_up m 34 0 4 5 →
           if (m81 34 0 4) = 5 then
            (a_in ((3 * (iR x6 (m 34 0 3))) + 1) 48 = true ∧
             (∀ m84, m84 = a_up m81 38 0 ((3 * (iR x6 (m 34 0 3))) + 1).toNatClampNeg (m81 38 0 ((3 * (iR x6 (m 34 0 3))) + 1).toNatClampNeg) →
             Mi 68 [.inr (27, 0), .inl (iR x6 (m 34 0 3)), .inl (1 + (iR (x6 / 16) 20))] m84 (fun v86 m85 =>
              if (m85 34 0 4) = 5 then
               (if v86 = (-5) then
                Q 1 m85
               else
                Q 0 m85)
              else
               if v86 = ((m85 34 0 0) + (1 + (iR (x6 / 16) 20))) then
                Q 1 m85
               else
                Q 0 m85)))
           else
            (a_in ((3 * (iR x6 (m 34 0 3))) + 1) 48 = true ∧
             (∀ m91, m91 = a_up m81 38 0 ((3 * (iR x6 (m 34 0 3))) + 1).toNatClampNeg ((m81 34 0 0) + (1 + (iR (x6 / 16) 20))) →
             Mi 68 [.inr (27, 0), .inl (iR x6 (m 34 0 3)), .inl (1 + (iR (x6 / 16) 20))] m91 (fun v93 m92 =>
              if (m92 34 0 4) = 5 then
               (if v93 = (-5) then
                Q 1 m92
               else
                Q 0 m92)
              else
               if v93 = ((m92 34 0 0) + (1 + (iR (x6 / 16) 20))) then
                Q 1 m92
               else
                Q 0 m92)))))
        else
         Mv 106 [.inr (37, 0), .inr (38, 0), .inl (iR x6 (m 34 0 3))] m (fun m97 =>
          Mi 69 [.inr (27, 0), .inl (iR x6 (m 34 0 3))] m97 (fun v99 m98 =>
           Mi 108 [.inr (34, 0), .inr (37, 0)] m98 (fun v101 m100 =>
            if v99 = v101 then
             Q 1 m100
            else
             Q 0 m100)))
  ) : Mi 112 [.inr (27, 0), .inr (34, 0), .inr (35, 0), .inr (36, 0), .inr (37, 0), .inr (38, 0), .inl x6, .inl x7] m Q := by
  refine Mi_in ML_112 (show Rg 112 0 [some (.inr (27, 0)), some (.inr (34, 0)), some (.inr (35, 0)), some (.inr (36, 0)), some (.inr (37, 0)), some (.inr (38, 0)), some (.inl x6), some (.inl x7), none, none, none, none, none] [] m (qI Q) from ?_)
  refine r_iload L_112_0 rfl ?_
  refine r_aload_n L_112_2 rfl ?_
  refine r_iconst L_112_3 kI_3 ?_
  refine r_iald (N := 8) (j := 3) L_112_4 (by decide +kernel) rfl (by decide +kernel) (by decide +kernel) ?_
  obtain ⟨g1, h⟩ := h
  refine r_irem L_112_5 g1 ?_
  refine r_istore (ls1 := [some (.inr (27, 0)), some (.inr (34, 0)), some (.inr (35, 0)), some (.inr (36, 0)), some (.inr (37, 0)), some (.inr (38, 0)), some (.inl x6), some (.inl x7), some (.inl (iR x6 (m 34 0 3))), none, none, none, none]) L_112_6 (Nat.le_of_ble_eq_true rfl) rfl ?_
  refine r_iconst L_112_8 kI_1 ?_
  refine r_iload L_112_9 rfl ?_
  refine r_bipush L_112_11 kB_16 ?_
  refine r_idiv L_112_13 (by decide +kernel) ?_
  refine r_iload L_112_14 rfl ?_
  refine r_iconst L_112_16 kI_5 ?_
  refine r_irem L_112_17 (by decide +kernel) ?_
  refine r_ifn L_112_18 rfl (i_mono h (fun c2 h => ?_) (fun c2 h => ?_))
  · refine r_bipush L_112_21 kB_99 ?_
    refine r_goto L_112_23 ?_
    refine r_irem L_112_28 (by decide +kernel) ?_
    refine r_iadd L_112_29 ?_
    refine r_istore (ls1 := [some (.inr (27, 0)), some (.inr (34, 0)), some (.inr (35, 0)), some (.inr (36, 0)), some (.inr (37, 0)), some (.inr (38, 0)), some (.inl x6), some (.inl x7), some (.inl (iR x6 (m 34 0 3))), some (.inl (1 + (iR (x6 / 16) 99))), none, none, none]) L_112_30 (Nat.le_of_ble_eq_true rfl) rfl ?_
    refine r_iload L_112_32 rfl ?_
    refine r_iconst L_112_34 kI_5 ?_
    refine r_icmpn L_112_35 cc_ge (i_mono h (fun c3 h => ?_) (fun c3 h => ?_))
    · refine r_iload L_112_38 rfl ?_
      refine r_sipush L_112_40 kS_320 ?_
      refine r_idiv L_112_43 (by decide +kernel) ?_
      refine r_iconst L_112_44 kI_4 ?_
      refine r_irem L_112_45 (by decide +kernel) ?_
      refine r_istore (ls1 := [some (.inr (27, 0)), some (.inr (34, 0)), some (.inr (35, 0)), some (.inr (36, 0)), some (.inr (37, 0)), some (.inr (38, 0)), some (.inl x6), some (.inl x7), some (.inl (iR x6 (m 34 0 3))), some (.inl (1 + (iR (x6 / 16) 99))), some (.inl (iR (x6 / 320) 4)), none, none]) L_112_46 (Nat.le_of_ble_eq_true rfl) rfl ?_
      refine r_iconst L_112_48 kI_0 ?_
      refine r_istore (ls1 := [some (.inr (27, 0)), some (.inr (34, 0)), some (.inr (35, 0)), some (.inr (36, 0)), some (.inr (37, 0)), some (.inr (38, 0)), some (.inl x6), some (.inl x7), some (.inl (iR x6 (m 34 0 3))), some (.inl (1 + (iR (x6 / 16) 99))), some (.inl (iR (x6 / 320) 4)), some (.inl 0), none]) L_112_49 (Nat.le_of_ble_eq_true rfl) rfl ?_
      refine r_iconst L_112_51 kI_0 ?_
      refine r_istore (ls1 := [some (.inr (27, 0)), some (.inr (34, 0)), some (.inr (35, 0)), some (.inr (36, 0)), some (.inr (37, 0)), some (.inr (38, 0)), some (.inl x6), some (.inl x7), some (.inl (iR x6 (m 34 0 3))), some (.inl (1 + (iR (x6 / 16) 99))), some (.inl (iR (x6 / 320) 4)), some (.inl 0), some (.inl 0)]) L_112_52 (Nat.le_of_ble_eq_true rfl) rfl ?_
      exact h
    · refine r_aload L_112_262 rfl ?_
      refine r_iconst L_112_264 kI_4 ?_
      refine r_iload L_112_265 rfl ?_
      refine r_imul L_112_267 ?_
      refine r_iconst L_112_268 kI_3 ?_
      refine r_iadd L_112_269 ?_
      obtain ⟨g4, h⟩ := h
      refine r_iald (N := 64) (j := ((4 * (iR x6 (m 34 0 3))) + 3).toNatClampNeg) L_112_270 (by decide +kernel) rfl g4 rfl ?_
      refine r_ifn L_112_271 cc_ge (i_mono h (fun c5 h => ?_) (fun c5 h => ?_))
      · refine r_aload_n L_112_274 rfl ?_
        refine r_iload L_112_275 rfl ?_
        refine r_iload L_112_277 rfl ?_
        refine r_cv L_112_279 rfl (Mi_mono h fun v7 m6 h => ?_)
        refine r_bipush L_112_282 kB_m3 ?_
        refine r_icmpn L_112_284 rfl (i_mono h (fun c8 h => ?_) (fun c8 h => ?_))
        · refine r_aload_n L_112_287 rfl ?_
          refine r_iload L_112_288 rfl ?_
          refine r_cv L_112_290 rfl (Mi_mono h fun v10 m9 h => ?_)
          refine r_bipush L_112_293 kB_m3 ?_
          refine r_icmpn L_112_295 rfl (i_mono h (fun c11 h => ?_) (fun c11 h => ?_))
          · refine r_iconst L_112_298 kI_1 ?_
            refine r_goto L_112_299 ?_
            exact r_zret L_112_303 RT_112 (Or.inr rfl) h
          · refine r_iconst L_112_302 kI_0 ?_
            exact r_zret L_112_303 RT_112 (Or.inl rfl) h
        · refine r_iconst L_112_302 kI_0 ?_
          exact r_zret L_112_303 RT_112 (Or.inl rfl) h
      · refine r_iload L_112_304 rfl ?_
        refine r_iconst L_112_306 kI_5 ?_
        refine r_icmpn L_112_307 rfl (i_mono h (fun c12 h => ?_) (fun c12 h => ?_))
        · refine r_aload_n L_112_310 rfl ?_
          refine r_iconst L_112_311 kI_4 ?_
          refine r_aload L_112_312 rfl ?_
          refine r_iconst L_112_314 kI_3 ?_
          refine r_iload L_112_315 rfl ?_
          refine r_imul L_112_317 ?_
          refine r_iconst L_112_318 kI_2 ?_
          refine r_iadd L_112_319 ?_
          obtain ⟨g13, h⟩ := h
          refine r_iald (N := 48) (j := ((3 * (iR x6 (m 34 0 3))) + 2).toNatClampNeg) L_112_320 (by decide +kernel) rfl g13 rfl ?_
          refine r_if L_112_321 rfl (i_mono h (fun c14 h => ?_) (fun c14 h => ?_))
          · refine r_iconst L_112_328 kI_0 ?_
            refine r_iast (N := 8) (j := 4) L_112_329 (by decide +kernel) rfl (by decide +kernel) (by decide +kernel) ?_
            refine r_nm fun m15 em15 => ?_
            have h := h m15 em15
            refine r_aload L_112_330 rfl ?_
            refine r_iconst L_112_332 kI_3 ?_
            refine r_iload L_112_333 rfl ?_
            refine r_imul L_112_335 ?_
            refine r_iconst L_112_336 kI_1 ?_
            refine r_iadd L_112_337 ?_
            refine r_aload_n L_112_338 rfl ?_
            refine r_iconst L_112_339 kI_4 ?_
            refine r_iald (N := 8) (j := 4) L_112_340 (by decide +kernel) rfl (by decide +kernel) (by decide +kernel) ?_
            refine r_iconst L_112_341 kI_5 ?_
            refine r_icmpn L_112_342 rfl (i_mono h (fun c16 h => ?_) (fun c16 h => ?_))
            · refine r_aload L_112_345 rfl ?_
              refine r_iconst L_112_347 kI_3 ?_
              refine r_iload L_112_348 rfl ?_
              refine r_imul L_112_350 ?_
              refine r_iconst L_112_351 kI_1 ?_
              refine r_iadd L_112_352 ?_
              obtain ⟨g17, h⟩ := h
              refine r_iald (N := 48) (j := ((3 * (iR x6 (m 34 0 3))) + 1).toNatClampNeg) L_112_353 (by decide +kernel) rfl g17 rfl ?_
              refine r_goto L_112_354 ?_
              refine r_iast (N := 48) (j := ((3 * (iR x6 (m 34 0 3))) + 1).toNatClampNeg) L_112_363 (by decide +kernel) rfl g17 rfl ?_
              refine r_nm fun m18 em18 => ?_
              have h := h m18 em18
              refine r_aload_n L_112_364 rfl ?_
              refine r_iload L_112_365 rfl ?_
              refine r_iload L_112_367 rfl ?_
              refine r_cv L_112_369 rfl (Mi_mono h fun v20 m19 h => ?_)
              refine r_aload_n L_112_372 rfl ?_
              refine r_iconst L_112_373 kI_4 ?_
              refine r_iald (N := 8) (j := 4) L_112_374 (by decide +kernel) rfl (by decide +kernel) (by decide +kernel) ?_
              refine r_iconst L_112_375 kI_5 ?_
              refine r_icmpn L_112_376 rfl (i_mono h (fun c21 h => ?_) (fun c21 h => ?_))
              · refine r_bipush L_112_379 kB_m5 ?_
                refine r_goto L_112_381 ?_
                refine r_icmpn L_112_390 rfl (i_mono h (fun c22 h => ?_) (fun c22 h => ?_))
                · refine r_iconst L_112_393 kI_1 ?_
                  refine r_goto L_112_394 ?_
                  exact r_zret L_112_398 RT_112 (Or.inr rfl) h
                · refine r_iconst L_112_397 kI_0 ?_
                  exact r_zret L_112_398 RT_112 (Or.inl rfl) h
              · refine r_aload_n L_112_384 rfl ?_
                refine r_iconst L_112_385 kI_0 ?_
                refine r_iald (N := 8) (j := 0) L_112_386 (by decide +kernel) rfl (by decide +kernel) (by decide +kernel) ?_
                refine r_iload L_112_387 rfl ?_
                refine r_iadd L_112_389 ?_
                refine r_icmpn L_112_390 rfl (i_mono h (fun c23 h => ?_) (fun c23 h => ?_))
                · refine r_iconst L_112_393 kI_1 ?_
                  refine r_goto L_112_394 ?_
                  exact r_zret L_112_398 RT_112 (Or.inr rfl) h
                · refine r_iconst L_112_397 kI_0 ?_
                  exact r_zret L_112_398 RT_112 (Or.inl rfl) h
            · refine r_aload_n L_112_357 rfl ?_
              refine r_iconst L_112_358 kI_0 ?_
              refine r_iald (N := 8) (j := 0) L_112_359 (by decide +kernel) rfl (by decide +kernel) (by decide +kernel) ?_
              refine r_iload L_112_360 rfl ?_
              refine r_iadd L_112_362 ?_
              obtain ⟨g24, h⟩ := h
              refine r_iast (N := 48) (j := ((3 * (iR x6 (m 34 0 3))) + 1).toNatClampNeg) L_112_363 (by decide +kernel) rfl g24 rfl ?_
              refine r_nm fun m25 em25 => ?_
              have h := h m25 em25
              refine r_aload_n L_112_364 rfl ?_
              refine r_iload L_112_365 rfl ?_
              refine r_iload L_112_367 rfl ?_
              refine r_cv L_112_369 rfl (Mi_mono h fun v27 m26 h => ?_)
              refine r_aload_n L_112_372 rfl ?_
              refine r_iconst L_112_373 kI_4 ?_
              refine r_iald (N := 8) (j := 4) L_112_374 (by decide +kernel) rfl (by decide +kernel) (by decide +kernel) ?_
              refine r_iconst L_112_375 kI_5 ?_
              refine r_icmpn L_112_376 rfl (i_mono h (fun c28 h => ?_) (fun c28 h => ?_))
              · refine r_bipush L_112_379 kB_m5 ?_
                refine r_goto L_112_381 ?_
                refine r_icmpn L_112_390 rfl (i_mono h (fun c29 h => ?_) (fun c29 h => ?_))
                · refine r_iconst L_112_393 kI_1 ?_
                  refine r_goto L_112_394 ?_
                  exact r_zret L_112_398 RT_112 (Or.inr rfl) h
                · refine r_iconst L_112_397 kI_0 ?_
                  exact r_zret L_112_398 RT_112 (Or.inl rfl) h
              · refine r_aload_n L_112_384 rfl ?_
                refine r_iconst L_112_385 kI_0 ?_
                refine r_iald (N := 8) (j := 0) L_112_386 (by decide +kernel) rfl (by decide +kernel) (by decide +kernel) ?_
                refine r_iload L_112_387 rfl ?_
                refine r_iadd L_112_389 ?_
                refine r_icmpn L_112_390 rfl (i_mono h (fun c30 h => ?_) (fun c30 h => ?_))
                · refine r_iconst L_112_393 kI_1 ?_
                  refine r_goto L_112_394 ?_
                  exact r_zret L_112_398 RT_112 (Or.inr rfl) h
                · refine r_iconst L_112_397 kI_0 ?_
                  exact r_zret L_112_398 RT_112 (Or.inl rfl) h
          · refine r_iconst L_112_324 kI_5 ?_
            refine r_goto L_112_325 ?_
            refine r_iast (N := 8) (j := 4) L_112_329 (by decide +kernel) rfl (by decide +kernel) (by decide +kernel) ?_
            refine r_nm fun m31 em31 => ?_
            have h := h m31 em31
            refine r_aload L_112_330 rfl ?_
            refine r_iconst L_112_332 kI_3 ?_
            refine r_iload L_112_333 rfl ?_
            refine r_imul L_112_335 ?_
            refine r_iconst L_112_336 kI_1 ?_
            refine r_iadd L_112_337 ?_
            refine r_aload_n L_112_338 rfl ?_
            refine r_iconst L_112_339 kI_4 ?_
            refine r_iald (N := 8) (j := 4) L_112_340 (by decide +kernel) rfl (by decide +kernel) (by decide +kernel) ?_
            refine r_iconst L_112_341 kI_5 ?_
            refine r_icmpn L_112_342 rfl (i_mono h (fun c32 h => ?_) (fun c32 h => ?_))
            · refine r_aload L_112_345 rfl ?_
              refine r_iconst L_112_347 kI_3 ?_
              refine r_iload L_112_348 rfl ?_
              refine r_imul L_112_350 ?_
              refine r_iconst L_112_351 kI_1 ?_
              refine r_iadd L_112_352 ?_
              obtain ⟨g33, h⟩ := h
              refine r_iald (N := 48) (j := ((3 * (iR x6 (m 34 0 3))) + 1).toNatClampNeg) L_112_353 (by decide +kernel) rfl g33 rfl ?_
              refine r_goto L_112_354 ?_
              refine r_iast (N := 48) (j := ((3 * (iR x6 (m 34 0 3))) + 1).toNatClampNeg) L_112_363 (by decide +kernel) rfl g33 rfl ?_
              refine r_nm fun m34 em34 => ?_
              have h := h m34 em34
              refine r_aload_n L_112_364 rfl ?_
              refine r_iload L_112_365 rfl ?_
              refine r_iload L_112_367 rfl ?_
              refine r_cv L_112_369 rfl (Mi_mono h fun v36 m35 h => ?_)
              refine r_aload_n L_112_372 rfl ?_
              refine r_iconst L_112_373 kI_4 ?_
              refine r_iald (N := 8) (j := 4) L_112_374 (by decide +kernel) rfl (by decide +kernel) (by decide +kernel) ?_
              refine r_iconst L_112_375 kI_5 ?_
              refine r_icmpn L_112_376 rfl (i_mono h (fun c37 h => ?_) (fun c37 h => ?_))
              · refine r_bipush L_112_379 kB_m5 ?_
                refine r_goto L_112_381 ?_
                refine r_icmpn L_112_390 rfl (i_mono h (fun c38 h => ?_) (fun c38 h => ?_))
                · refine r_iconst L_112_393 kI_1 ?_
                  refine r_goto L_112_394 ?_
                  exact r_zret L_112_398 RT_112 (Or.inr rfl) h
                · refine r_iconst L_112_397 kI_0 ?_
                  exact r_zret L_112_398 RT_112 (Or.inl rfl) h
              · refine r_aload_n L_112_384 rfl ?_
                refine r_iconst L_112_385 kI_0 ?_
                refine r_iald (N := 8) (j := 0) L_112_386 (by decide +kernel) rfl (by decide +kernel) (by decide +kernel) ?_
                refine r_iload L_112_387 rfl ?_
                refine r_iadd L_112_389 ?_
                refine r_icmpn L_112_390 rfl (i_mono h (fun c39 h => ?_) (fun c39 h => ?_))
                · refine r_iconst L_112_393 kI_1 ?_
                  refine r_goto L_112_394 ?_
                  exact r_zret L_112_398 RT_112 (Or.inr rfl) h
                · refine r_iconst L_112_397 kI_0 ?_
                  exact r_zret L_112_398 RT_112 (Or.inl rfl) h
            · refine r_aload_n L_112_357 rfl ?_
              refine r_iconst L_112_358 kI_0 ?_
              refine r_iald (N := 8) (j := 0) L_112_359 (by decide +kernel) rfl (by decide +kernel) (by decide +kernel) ?_
              refine r_iload L_112_360 rfl ?_
              refine r_iadd L_112_362 ?_
              obtain ⟨g40, h⟩ := h
              refine r_iast (N := 48) (j := ((3 * (iR x6 (m 34 0 3))) + 1).toNatClampNeg) L_112_363 (by decide +kernel) rfl g40 rfl ?_
              refine r_nm fun m41 em41 => ?_
              have h := h m41 em41
              refine r_aload_n L_112_364 rfl ?_
              refine r_iload L_112_365 rfl ?_
              refine r_iload L_112_367 rfl ?_
              refine r_cv L_112_369 rfl (Mi_mono h fun v43 m42 h => ?_)
              refine r_aload_n L_112_372 rfl ?_
              refine r_iconst L_112_373 kI_4 ?_
              refine r_iald (N := 8) (j := 4) L_112_374 (by decide +kernel) rfl (by decide +kernel) (by decide +kernel) ?_
              refine r_iconst L_112_375 kI_5 ?_
              refine r_icmpn L_112_376 rfl (i_mono h (fun c44 h => ?_) (fun c44 h => ?_))
              · refine r_bipush L_112_379 kB_m5 ?_
                refine r_goto L_112_381 ?_
                refine r_icmpn L_112_390 rfl (i_mono h (fun c45 h => ?_) (fun c45 h => ?_))
                · refine r_iconst L_112_393 kI_1 ?_
                  refine r_goto L_112_394 ?_
                  exact r_zret L_112_398 RT_112 (Or.inr rfl) h
                · refine r_iconst L_112_397 kI_0 ?_
                  exact r_zret L_112_398 RT_112 (Or.inl rfl) h
              · refine r_aload_n L_112_384 rfl ?_
                refine r_iconst L_112_385 kI_0 ?_
                refine r_iald (N := 8) (j := 0) L_112_386 (by decide +kernel) rfl (by decide +kernel) (by decide +kernel) ?_
                refine r_iload L_112_387 rfl ?_
                refine r_iadd L_112_389 ?_
                refine r_icmpn L_112_390 rfl (i_mono h (fun c46 h => ?_) (fun c46 h => ?_))
                · refine r_iconst L_112_393 kI_1 ?_
                  refine r_goto L_112_394 ?_
                  exact r_zret L_112_398 RT_112 (Or.inr rfl) h
                · refine r_iconst L_112_397 kI_0 ?_
                  exact r_zret L_112_398 RT_112 (Or.inl rfl) h
        · refine r_aload L_112_399 rfl ?_
          refine r_aload L_112_401 rfl ?_
          refine r_iload L_112_403 rfl ?_
          refine r_csv L_112_405 (by decide) rfl (Mv_mono h fun m47 h => ?_)
          refine r_aload_n L_112_408 rfl ?_
          refine r_iload L_112_409 rfl ?_
          refine r_cv L_112_411 rfl (Mi_mono h fun v49 m48 h => ?_)
          refine r_aload_n L_112_414 rfl ?_
          refine r_aload L_112_415 rfl ?_
          refine r_cs L_112_417 (by decide) rfl (Mi_mono h fun v51 m50 h => ?_)
          refine r_icmpn L_112_420 rfl (i_mono h (fun c52 h => ?_) (fun c52 h => ?_))
          · refine r_iconst L_112_423 kI_1 ?_
            refine r_goto L_112_424 ?_
            exact r_zret L_112_428 RT_112 (Or.inr rfl) h
          · refine r_iconst L_112_427 kI_0 ?_
            exact r_zret L_112_428 RT_112 (Or.inl rfl) h
  · refine r_bipush L_112_26 kB_20 ?_
    refine r_irem L_112_28 (by decide +kernel) ?_
    refine r_iadd L_112_29 ?_
    refine r_istore (ls1 := [some (.inr (27, 0)), some (.inr (34, 0)), some (.inr (35, 0)), some (.inr (36, 0)), some (.inr (37, 0)), some (.inr (38, 0)), some (.inl x6), some (.inl x7), some (.inl (iR x6 (m 34 0 3))), some (.inl (1 + (iR (x6 / 16) 20))), none, none, none]) L_112_30 (Nat.le_of_ble_eq_true rfl) rfl ?_
    refine r_iload L_112_32 rfl ?_
    refine r_iconst L_112_34 kI_5 ?_
    refine r_icmpn L_112_35 cc_ge (i_mono h (fun c53 h => ?_) (fun c53 h => ?_))
    · refine r_iload L_112_38 rfl ?_
      refine r_sipush L_112_40 kS_320 ?_
      refine r_idiv L_112_43 (by decide +kernel) ?_
      refine r_iconst L_112_44 kI_4 ?_
      refine r_irem L_112_45 (by decide +kernel) ?_
      refine r_istore (ls1 := [some (.inr (27, 0)), some (.inr (34, 0)), some (.inr (35, 0)), some (.inr (36, 0)), some (.inr (37, 0)), some (.inr (38, 0)), some (.inl x6), some (.inl x7), some (.inl (iR x6 (m 34 0 3))), some (.inl (1 + (iR (x6 / 16) 20))), some (.inl (iR (x6 / 320) 4)), none, none]) L_112_46 (Nat.le_of_ble_eq_true rfl) rfl ?_
      refine r_iconst L_112_48 kI_0 ?_
      refine r_istore (ls1 := [some (.inr (27, 0)), some (.inr (34, 0)), some (.inr (35, 0)), some (.inr (36, 0)), some (.inr (37, 0)), some (.inr (38, 0)), some (.inl x6), some (.inl x7), some (.inl (iR x6 (m 34 0 3))), some (.inl (1 + (iR (x6 / 16) 20))), some (.inl (iR (x6 / 320) 4)), some (.inl 0), none]) L_112_49 (Nat.le_of_ble_eq_true rfl) rfl ?_
      refine r_iconst L_112_51 kI_0 ?_
      refine r_istore (ls1 := [some (.inr (27, 0)), some (.inr (34, 0)), some (.inr (35, 0)), some (.inr (36, 0)), some (.inr (37, 0)), some (.inr (38, 0)), some (.inl x6), some (.inl x7), some (.inl (iR x6 (m 34 0 3))), some (.inl (1 + (iR (x6 / 16) 20))), some (.inl (iR (x6 / 320) 4)), some (.inl 0), some (.inl 0)]) L_112_52 (Nat.le_of_ble_eq_true rfl) rfl ?_
      exact h
    · refine r_aload L_112_262 rfl ?_
      refine r_iconst L_112_264 kI_4 ?_
      refine r_iload L_112_265 rfl ?_
      refine r_imul L_112_267 ?_
      refine r_iconst L_112_268 kI_3 ?_
      refine r_iadd L_112_269 ?_
      obtain ⟨g54, h⟩ := h
      refine r_iald (N := 64) (j := ((4 * (iR x6 (m 34 0 3))) + 3).toNatClampNeg) L_112_270 (by decide +kernel) rfl g54 rfl ?_
      refine r_ifn L_112_271 cc_ge (i_mono h (fun c55 h => ?_) (fun c55 h => ?_))
      · refine r_aload_n L_112_274 rfl ?_
        refine r_iload L_112_275 rfl ?_
        refine r_iload L_112_277 rfl ?_
        refine r_cv L_112_279 rfl (Mi_mono h fun v57 m56 h => ?_)
        refine r_bipush L_112_282 kB_m3 ?_
        refine r_icmpn L_112_284 rfl (i_mono h (fun c58 h => ?_) (fun c58 h => ?_))
        · refine r_aload_n L_112_287 rfl ?_
          refine r_iload L_112_288 rfl ?_
          refine r_cv L_112_290 rfl (Mi_mono h fun v60 m59 h => ?_)
          refine r_bipush L_112_293 kB_m3 ?_
          refine r_icmpn L_112_295 rfl (i_mono h (fun c61 h => ?_) (fun c61 h => ?_))
          · refine r_iconst L_112_298 kI_1 ?_
            refine r_goto L_112_299 ?_
            exact r_zret L_112_303 RT_112 (Or.inr rfl) h
          · refine r_iconst L_112_302 kI_0 ?_
            exact r_zret L_112_303 RT_112 (Or.inl rfl) h
        · refine r_iconst L_112_302 kI_0 ?_
          exact r_zret L_112_303 RT_112 (Or.inl rfl) h
      · refine r_iload L_112_304 rfl ?_
        refine r_iconst L_112_306 kI_5 ?_
        refine r_icmpn L_112_307 rfl (i_mono h (fun c62 h => ?_) (fun c62 h => ?_))
        · refine r_aload_n L_112_310 rfl ?_
          refine r_iconst L_112_311 kI_4 ?_
          refine r_aload L_112_312 rfl ?_
          refine r_iconst L_112_314 kI_3 ?_
          refine r_iload L_112_315 rfl ?_
          refine r_imul L_112_317 ?_
          refine r_iconst L_112_318 kI_2 ?_
          refine r_iadd L_112_319 ?_
          obtain ⟨g63, h⟩ := h
          refine r_iald (N := 48) (j := ((3 * (iR x6 (m 34 0 3))) + 2).toNatClampNeg) L_112_320 (by decide +kernel) rfl g63 rfl ?_
          refine r_if L_112_321 rfl (i_mono h (fun c64 h => ?_) (fun c64 h => ?_))
          · refine r_iconst L_112_328 kI_0 ?_
            refine r_iast (N := 8) (j := 4) L_112_329 (by decide +kernel) rfl (by decide +kernel) (by decide +kernel) ?_
            refine r_nm fun m65 em65 => ?_
            have h := h m65 em65
            refine r_aload L_112_330 rfl ?_
            refine r_iconst L_112_332 kI_3 ?_
            refine r_iload L_112_333 rfl ?_
            refine r_imul L_112_335 ?_
            refine r_iconst L_112_336 kI_1 ?_
            refine r_iadd L_112_337 ?_
            refine r_aload_n L_112_338 rfl ?_
            refine r_iconst L_112_339 kI_4 ?_
            refine r_iald (N := 8) (j := 4) L_112_340 (by decide +kernel) rfl (by decide +kernel) (by decide +kernel) ?_
            refine r_iconst L_112_341 kI_5 ?_
            refine r_icmpn L_112_342 rfl (i_mono h (fun c66 h => ?_) (fun c66 h => ?_))
            · refine r_aload L_112_345 rfl ?_
              refine r_iconst L_112_347 kI_3 ?_
              refine r_iload L_112_348 rfl ?_
              refine r_imul L_112_350 ?_
              refine r_iconst L_112_351 kI_1 ?_
              refine r_iadd L_112_352 ?_
              obtain ⟨g67, h⟩ := h
              refine r_iald (N := 48) (j := ((3 * (iR x6 (m 34 0 3))) + 1).toNatClampNeg) L_112_353 (by decide +kernel) rfl g67 rfl ?_
              refine r_goto L_112_354 ?_
              refine r_iast (N := 48) (j := ((3 * (iR x6 (m 34 0 3))) + 1).toNatClampNeg) L_112_363 (by decide +kernel) rfl g67 rfl ?_
              refine r_nm fun m68 em68 => ?_
              have h := h m68 em68
              refine r_aload_n L_112_364 rfl ?_
              refine r_iload L_112_365 rfl ?_
              refine r_iload L_112_367 rfl ?_
              refine r_cv L_112_369 rfl (Mi_mono h fun v70 m69 h => ?_)
              refine r_aload_n L_112_372 rfl ?_
              refine r_iconst L_112_373 kI_4 ?_
              refine r_iald (N := 8) (j := 4) L_112_374 (by decide +kernel) rfl (by decide +kernel) (by decide +kernel) ?_
              refine r_iconst L_112_375 kI_5 ?_
              refine r_icmpn L_112_376 rfl (i_mono h (fun c71 h => ?_) (fun c71 h => ?_))
              · refine r_bipush L_112_379 kB_m5 ?_
                refine r_goto L_112_381 ?_
                refine r_icmpn L_112_390 rfl (i_mono h (fun c72 h => ?_) (fun c72 h => ?_))
                · refine r_iconst L_112_393 kI_1 ?_
                  refine r_goto L_112_394 ?_
                  exact r_zret L_112_398 RT_112 (Or.inr rfl) h
                · refine r_iconst L_112_397 kI_0 ?_
                  exact r_zret L_112_398 RT_112 (Or.inl rfl) h
              · refine r_aload_n L_112_384 rfl ?_
                refine r_iconst L_112_385 kI_0 ?_
                refine r_iald (N := 8) (j := 0) L_112_386 (by decide +kernel) rfl (by decide +kernel) (by decide +kernel) ?_
                refine r_iload L_112_387 rfl ?_
                refine r_iadd L_112_389 ?_
                refine r_icmpn L_112_390 rfl (i_mono h (fun c73 h => ?_) (fun c73 h => ?_))
                · refine r_iconst L_112_393 kI_1 ?_
                  refine r_goto L_112_394 ?_
                  exact r_zret L_112_398 RT_112 (Or.inr rfl) h
                · refine r_iconst L_112_397 kI_0 ?_
                  exact r_zret L_112_398 RT_112 (Or.inl rfl) h
            · refine r_aload_n L_112_357 rfl ?_
              refine r_iconst L_112_358 kI_0 ?_
              refine r_iald (N := 8) (j := 0) L_112_359 (by decide +kernel) rfl (by decide +kernel) (by decide +kernel) ?_
              refine r_iload L_112_360 rfl ?_
              refine r_iadd L_112_362 ?_
              obtain ⟨g74, h⟩ := h
              refine r_iast (N := 48) (j := ((3 * (iR x6 (m 34 0 3))) + 1).toNatClampNeg) L_112_363 (by decide +kernel) rfl g74 rfl ?_
              refine r_nm fun m75 em75 => ?_
              have h := h m75 em75
              refine r_aload_n L_112_364 rfl ?_
              refine r_iload L_112_365 rfl ?_
              refine r_iload L_112_367 rfl ?_
              refine r_cv L_112_369 rfl (Mi_mono h fun v77 m76 h => ?_)
              refine r_aload_n L_112_372 rfl ?_
              refine r_iconst L_112_373 kI_4 ?_
              refine r_iald (N := 8) (j := 4) L_112_374 (by decide +kernel) rfl (by decide +kernel) (by decide +kernel) ?_
              refine r_iconst L_112_375 kI_5 ?_
              refine r_icmpn L_112_376 rfl (i_mono h (fun c78 h => ?_) (fun c78 h => ?_))
              · refine r_bipush L_112_379 kB_m5 ?_
                refine r_goto L_112_381 ?_
                refine r_icmpn L_112_390 rfl (i_mono h (fun c79 h => ?_) (fun c79 h => ?_))
                · refine r_iconst L_112_393 kI_1 ?_
                  refine r_goto L_112_394 ?_
                  exact r_zret L_112_398 RT_112 (Or.inr rfl) h
                · refine r_iconst L_112_397 kI_0 ?_
                  exact r_zret L_112_398 RT_112 (Or.inl rfl) h
              · refine r_aload_n L_112_384 rfl ?_
                refine r_iconst L_112_385 kI_0 ?_
                refine r_iald (N := 8) (j := 0) L_112_386 (by decide +kernel) rfl (by decide +kernel) (by decide +kernel) ?_
                refine r_iload L_112_387 rfl ?_
                refine r_iadd L_112_389 ?_
                refine r_icmpn L_112_390 rfl (i_mono h (fun c80 h => ?_) (fun c80 h => ?_))
                · refine r_iconst L_112_393 kI_1 ?_
                  refine r_goto L_112_394 ?_
                  exact r_zret L_112_398 RT_112 (Or.inr rfl) h
                · refine r_iconst L_112_397 kI_0 ?_
                  exact r_zret L_112_398 RT_112 (Or.inl rfl) h
          · refine r_iconst L_112_324 kI_5 ?_
            refine r_goto L_112_325 ?_
            refine r_iast (N := 8) (j := 4) L_112_329 (by decide +kernel) rfl (by decide +kernel) (by decide +kernel) ?_
            refine r_nm fun m81 em81 => ?_
            have h := h m81 em81
            refine r_aload L_112_330 rfl ?_
            refine r_iconst L_112_332 kI_3 ?_
            refine r_iload L_112_333 rfl ?_
            refine r_imul L_112_335 ?_
            refine r_iconst L_112_336 kI_1 ?_
            refine r_iadd L_112_337 ?_
            refine r_aload_n L_112_338 rfl ?_
            refine r_iconst L_112_339 kI_4 ?_
            refine r_iald (N := 8) (j := 4) L_112_340 (by decide +kernel) rfl (by decide +kernel) (by decide +kernel) ?_
            refine r_iconst L_112_341 kI_5 ?_
            refine r_icmpn L_112_342 rfl (i_mono h (fun c82 h => ?_) (fun c82 h => ?_))
            · refine r_aload L_112_345 rfl ?_
              refine r_iconst L_112_347 kI_3 ?_
              refine r_iload L_112_348 rfl ?_
              refine r_imul L_112_350 ?_
              refine r_iconst L_112_351 kI_1 ?_
              refine r_iadd L_112_352 ?_
              obtain ⟨g83, h⟩ := h
              refine r_iald (N := 48) (j := ((3 * (iR x6 (m 34 0 3))) + 1).toNatClampNeg) L_112_353 (by decide +kernel) rfl g83 rfl ?_
              refine r_goto L_112_354 ?_
              refine r_iast (N := 48) (j := ((3 * (iR x6 (m 34 0 3))) + 1).toNatClampNeg) L_112_363 (by decide +kernel) rfl g83 rfl ?_
              refine r_nm fun m84 em84 => ?_
              have h := h m84 em84
              refine r_aload_n L_112_364 rfl ?_
              refine r_iload L_112_365 rfl ?_
              refine r_iload L_112_367 rfl ?_
              refine r_cv L_112_369 rfl (Mi_mono h fun v86 m85 h => ?_)
              refine r_aload_n L_112_372 rfl ?_
              refine r_iconst L_112_373 kI_4 ?_
              refine r_iald (N := 8) (j := 4) L_112_374 (by decide +kernel) rfl (by decide +kernel) (by decide +kernel) ?_
              refine r_iconst L_112_375 kI_5 ?_
              refine r_icmpn L_112_376 rfl (i_mono h (fun c87 h => ?_) (fun c87 h => ?_))
              · refine r_bipush L_112_379 kB_m5 ?_
                refine r_goto L_112_381 ?_
                refine r_icmpn L_112_390 rfl (i_mono h (fun c88 h => ?_) (fun c88 h => ?_))
                · refine r_iconst L_112_393 kI_1 ?_
                  refine r_goto L_112_394 ?_
                  exact r_zret L_112_398 RT_112 (Or.inr rfl) h
                · refine r_iconst L_112_397 kI_0 ?_
                  exact r_zret L_112_398 RT_112 (Or.inl rfl) h
              · refine r_aload_n L_112_384 rfl ?_
                refine r_iconst L_112_385 kI_0 ?_
                refine r_iald (N := 8) (j := 0) L_112_386 (by decide +kernel) rfl (by decide +kernel) (by decide +kernel) ?_
                refine r_iload L_112_387 rfl ?_
                refine r_iadd L_112_389 ?_
                refine r_icmpn L_112_390 rfl (i_mono h (fun c89 h => ?_) (fun c89 h => ?_))
                · refine r_iconst L_112_393 kI_1 ?_
                  refine r_goto L_112_394 ?_
                  exact r_zret L_112_398 RT_112 (Or.inr rfl) h
                · refine r_iconst L_112_397 kI_0 ?_
                  exact r_zret L_112_398 RT_112 (Or.inl rfl) h
            · refine r_aload_n L_112_357 rfl ?_
              refine r_iconst L_112_358 kI_0 ?_
              refine r_iald (N := 8) (j := 0) L_112_359 (by decide +kernel) rfl (by decide +kernel) (by decide +kernel) ?_
              refine r_iload L_112_360 rfl ?_
              refine r_iadd L_112_362 ?_
              obtain ⟨g90, h⟩ := h
              refine r_iast (N := 48) (j := ((3 * (iR x6 (m 34 0 3))) + 1).toNatClampNeg) L_112_363 (by decide +kernel) rfl g90 rfl ?_
              refine r_nm fun m91 em91 => ?_
              have h := h m91 em91
              refine r_aload_n L_112_364 rfl ?_
              refine r_iload L_112_365 rfl ?_
              refine r_iload L_112_367 rfl ?_
              refine r_cv L_112_369 rfl (Mi_mono h fun v93 m92 h => ?_)
              refine r_aload_n L_112_372 rfl ?_
              refine r_iconst L_112_373 kI_4 ?_
              refine r_iald (N := 8) (j := 4) L_112_374 (by decide +kernel) rfl (by decide +kernel) (by decide +kernel) ?_
              refine r_iconst L_112_375 kI_5 ?_
              refine r_icmpn L_112_376 rfl (i_mono h (fun c94 h => ?_) (fun c94 h => ?_))
              · refine r_bipush L_112_379 kB_m5 ?_
                refine r_goto L_112_381 ?_
                refine r_icmpn L_112_390 rfl (i_mono h (fun c95 h => ?_) (fun c95 h => ?_))
                · refine r_iconst L_112_393 kI_1 ?_
                  refine r_goto L_112_394 ?_
                  exact r_zret L_112_398 RT_112 (Or.inr rfl) h
                · refine r_iconst L_112_397 kI_0 ?_
                  exact r_zret L_112_398 RT_112 (Or.inl rfl) h
              · refine r_aload_n L_112_384 rfl ?_
                refine r_iconst L_112_385 kI_0 ?_
                refine r_iald (N := 8) (j := 0) L_112_386 (by decide +kernel) rfl (by decide +kernel) (by decide +kernel) ?_
                refine r_iload L_112_387 rfl ?_
                refine r_iadd L_112_389 ?_
                refine r_icmpn L_112_390 rfl (i_mono h (fun c96 h => ?_) (fun c96 h => ?_))
                · refine r_iconst L_112_393 kI_1 ?_
                  refine r_goto L_112_394 ?_
                  exact r_zret L_112_398 RT_112 (Or.inr rfl) h
                · refine r_iconst L_112_397 kI_0 ?_
                  exact r_zret L_112_398 RT_112 (Or.inl rfl) h
        · refine r_aload L_112_399 rfl ?_
          refine r_aload L_112_401 rfl ?_
          refine r_iload L_112_403 rfl ?_
          refine r_csv L_112_405 (by decide) rfl (Mv_mono h fun m97 h => ?_)
          refine r_aload_n L_112_408 rfl ?_
          refine r_iload L_112_409 rfl ?_
          refine r_cv L_112_411 rfl (Mi_mono h fun v99 m98 h => ?_)
          refine r_aload_n L_112_414 rfl ?_
          refine r_aload L_112_415 rfl ?_
          refine r_cs L_112_417 (by decide) rfl (Mi_mono h fun v101 m100 h => ?_)
          refine r_icmpn L_112_420 rfl (i_mono h (fun c102 h => ?_) (fun c102 h => ?_))
          · refine r_iconst L_112_423 kI_1 ?_
            refine r_goto L_112_424 ?_
            exact r_zret L_112_428 RT_112 (Or.inr rfl) h
          · refine r_iconst L_112_427 kI_0 ?_
            exact r_zret L_112_428 RT_112 (Or.inl rfl) h
def H_113_197 (x7 x8 x9 x10 x11 x12 : Int32) (m : aM) (Q : Int32 → aM → Prop) : Prop := Rg 113 197 [some (.inr (27, 0)), some (.inr (34, 0)), some (.inr (35, 0)), some (.inr (36, 0)), some (.inr (37, 0)), some (.inr (38, 0)), some (.inr (39, 0)), some (.inl x7), some (.inl x8), some (.inl x9), some (.inl x10), some (.inl x11), some (.inl x12)] [] m (qI Q)
/-- Law.acts, the loop at 197 -/
theorem T_113_197 {x7 x8 x9 x10 x11 x12 : Int32} {m : aM} {Q : Int32 → aM → Prop} (h :
   if x12 < x10 then
    (Mi 109 [.inr (34, 0), .inr (35, 0), .inr (36, 0), .inr (37, 0), .inr (38, 0), .inr (39, 0)] m (fun v3 m2 =>
     H_113_197 x7 x8 x9 x10 (x11 + v3) (x12 + 1) m2 Q))
   else
    Mi 70 [.inr (27, 0), .inl x10] m (fun v5 m4 =>
     if v5 = x11 then
      Q 1 m4
     else
      Q 0 m4)
  ) : H_113_197 x7 x8 x9 x10 x11 x12 m Q := by
  show Rg 113 197 [some (.inr (27, 0)), some (.inr (34, 0)), some (.inr (35, 0)), some (.inr (36, 0)), some (.inr (37, 0)), some (.inr (38, 0)), some (.inr (39, 0)), some (.inl x7), some (.inl x8), some (.inl x9), some (.inl x10), some (.inl x11), some (.inl x12)] [] m (qI Q)
  refine r_iload L_113_197 rfl ?_
  refine r_iload L_113_199 rfl ?_
  refine r_icmpn L_113_201 cc_ge (i_mono h (fun c1 h => ?_) (fun c1 h => ?_))
  · refine r_iload L_113_204 rfl ?_
    refine r_aload_n L_113_206 rfl ?_
    refine r_aload_n L_113_207 rfl ?_
    refine r_aload_n L_113_208 rfl ?_
    refine r_aload L_113_209 rfl ?_
    refine r_aload L_113_211 rfl ?_
    refine r_aload L_113_213 rfl ?_
    refine r_cs L_113_215 (by decide) rfl (Mi_mono h fun v3 m2 h => ?_)
    refine r_iadd L_113_218 ?_
    refine r_istore (ls1 := [some (.inr (27, 0)), some (.inr (34, 0)), some (.inr (35, 0)), some (.inr (36, 0)), some (.inr (37, 0)), some (.inr (38, 0)), some (.inr (39, 0)), some (.inl x7), some (.inl x8), some (.inl x9), some (.inl x10), some (.inl (x11 + v3)), some (.inl x12)]) L_113_219 (Nat.le_of_ble_eq_true rfl) rfl ?_
    refine r_iinc (ls1 := [some (.inr (27, 0)), some (.inr (34, 0)), some (.inr (35, 0)), some (.inr (36, 0)), some (.inr (37, 0)), some (.inr (38, 0)), some (.inr (39, 0)), some (.inl x7), some (.inl x8), some (.inl x9), some (.inl x10), some (.inl (x11 + v3)), some (.inl (x12 + 1))]) L_113_221 kI_1 rfl (Nat.le_of_ble_eq_true rfl) rfl ?_
    refine r_goto L_113_224 ?_
    exact h
  · refine r_aload_n L_113_227 rfl ?_
    refine r_iload L_113_228 rfl ?_
    refine r_cv L_113_230 rfl (Mi_mono h fun v5 m4 h => ?_)
    refine r_iload L_113_233 rfl ?_
    refine r_icmpn L_113_235 rfl (i_mono h (fun c6 h => ?_) (fun c6 h => ?_))
    · refine r_iconst L_113_238 kI_1 ?_
      refine r_goto L_113_239 ?_
      exact r_zret L_113_243 RT_113 (Or.inr rfl) h
    · refine r_iconst L_113_242 kI_0 ?_
      exact r_zret L_113_243 RT_113 (Or.inl rfl) h
/-- Law.acts -/
theorem T_113 {x7 : Int32} {m : aM} {Q : Int32 → aM → Prop} (h :
   (¬ (10000000 : Int32) = 0) ∧
    (¬ (25 : Int32) = 0) ∧
     if (lowI x7 25) < 6 then
      (if (lowI x7 25) < 2 then
       (Mi 110 [.inr (27, 0), .inr (34, 0), .inr (35, 0), .inr (36, 0), .inr (37, 0), .inr (38, 0), .inr (39, 0), .inl (lowI (x7 >>> ((5 : Int32) &&& 31)) 10000000), .inl 0] m (fun v6 m5 =>
        (v6 = 0 ∨ v6 = 1) ∧
         Q v6 m5))
      else
       if (lowI x7 25) = 2 then
        (Mi 110 [.inr (27, 0), .inr (34, 0), .inr (35, 0), .inr (36, 0), .inr (37, 0), .inr (38, 0), .inr (39, 0), .inl (lowI (x7 >>> ((5 : Int32) &&& 31)) 10000000), .inl 1] m (fun v9 m8 =>
         (v9 = 0 ∨ v9 = 1) ∧
          Q v9 m8))
       else
        Mi 110 [.inr (27, 0), .inr (34, 0), .inr (35, 0), .inr (36, 0), .inr (37, 0), .inr (38, 0), .inr (39, 0), .inl (lowI (x7 >>> ((5 : Int32) &&& 31)) 10000000), .inl 2] m (fun v11 m10 =>
         (v11 = 0 ∨ v11 = 1) ∧
          Q v11 m10))
     else
      if (lowI x7 25) < 12 then
       (if (lowI x7 25) < 10 then
        (Mi 111 [.inr (27, 0), .inr (34, 0), .inr (35, 0), .inr (36, 0), .inr (37, 0), .inr (38, 0), .inl (lowI (x7 >>> ((5 : Int32) &&& 31)) 10000000), .inl 0] m (fun v15 m14 =>
         (v15 = 0 ∨ v15 = 1) ∧
          Q v15 m14))
       else
        Mi 111 [.inr (27, 0), .inr (34, 0), .inr (35, 0), .inr (36, 0), .inr (37, 0), .inr (38, 0), .inl (lowI (x7 >>> ((5 : Int32) &&& 31)) 10000000), .inl ((lowI x7 25) - 9)] m (fun v17 m16 =>
         (v17 = 0 ∨ v17 = 1) ∧
          Q v17 m16))
      else
       if (lowI x7 25) < 20 then
        (if (m 34 0 3) = 0 then
         (Mi 67 [.inr (27, 0), .inl 0, .inl 0, .inl 1] m (fun v21 m20 =>
          if v21 = (-1) then
           (Mi 68 [.inr (27, 0), .inl 0, .inl 1] m20 (fun v24 m23 =>
            if v24 = (-1) then
             (Mi 69 [.inr (27, 0), .inl 0] m23 (fun v27 m26 =>
              if v27 = (-1) then
               Q 1 m26
              else
               Q 0 m26))
            else
             Q 0 m23))
          else
           Q 0 m20))
        else
         Mi 112 [.inr (27, 0), .inr (34, 0), .inr (35, 0), .inr (36, 0), .inr (37, 0), .inr (38, 0), .inl (lowI (x7 >>> ((5 : Int32) &&& 31)) 10000000), .inl ((lowI x7 25) - 12)] m (fun v30 m29 =>
          (v30 = 0 ∨ v30 = 1) ∧
           Q v30 m29))
       else
        if (iR (lowI (x7 >>> ((5 : Int32) &&& 31)) 10000000) 4) = 0 then
         H_113_197 x7 (lowI (x7 >>> ((5 : Int32) &&& 31)) 10000000) (lowI x7 25) (1 + (iR (lowI (x7 >>> ((5 : Int32) &&& 31)) 10000000) 12)) 0 0 m Q
        else
         H_113_197 x7 (lowI (x7 >>> ((5 : Int32) &&& 31)) 10000000) (lowI x7 25) (1 + (iR (lowI (x7 >>> ((5 : Int32) &&& 31)) 10000000) 3)) 0 0 m Q
  ) : Mi 113 [.inr (27, 0), .inr (34, 0), .inr (35, 0), .inr (36, 0), .inr (37, 0), .inr (38, 0), .inr (39, 0), .inl x7] m Q := by
  refine Mi_in ML_113 (show Rg 113 0 [some (.inr (27, 0)), some (.inr (34, 0)), some (.inr (35, 0)), some (.inr (36, 0)), some (.inr (37, 0)), some (.inr (38, 0)), some (.inr (39, 0)), some (.inl x7), none, none, none, none, none] [] m (qI Q) from ?_)
  refine r_iload L_113_0 rfl ?_
  refine r_iconst L_113_2 kI_5 ?_
  refine r_ishr L_113_3 ?_
  refine r_ldc L_113_4 kN_10000000 ?_
  obtain ⟨g1, h⟩ := h
  refine r_cs L_113_6 (by decide) rfl (V_98 g1 ?_)
  refine r_istore (ls1 := [some (.inr (27, 0)), some (.inr (34, 0)), some (.inr (35, 0)), some (.inr (36, 0)), some (.inr (37, 0)), some (.inr (38, 0)), some (.inr (39, 0)), some (.inl x7), some (.inl (lowI (x7 >>> ((5 : Int32) &&& 31)) 10000000)), none, none, none, none]) L_113_9 (Nat.le_of_ble_eq_true rfl) rfl ?_
  refine r_iload L_113_11 rfl ?_
  refine r_bipush L_113_13 kB_25 ?_
  obtain ⟨g2, h⟩ := h
  refine r_cs L_113_15 (by decide) rfl (V_98 g2 ?_)
  refine r_istore (ls1 := [some (.inr (27, 0)), some (.inr (34, 0)), some (.inr (35, 0)), some (.inr (36, 0)), some (.inr (37, 0)), some (.inr (38, 0)), some (.inr (39, 0)), some (.inl x7), some (.inl (lowI (x7 >>> ((5 : Int32) &&& 31)) 10000000)), some (.inl (lowI x7 25)), none, none, none]) L_113_18 (Nat.le_of_ble_eq_true rfl) rfl ?_
  refine r_iload L_113_20 rfl ?_
  refine r_bipush L_113_22 kB_6 ?_
  refine r_icmpn L_113_24 cc_ge (i_mono h (fun c3 h => ?_) (fun c3 h => ?_))
  · refine r_aload_n L_113_27 rfl ?_
    refine r_aload_n L_113_28 rfl ?_
    refine r_aload_n L_113_29 rfl ?_
    refine r_aload_n L_113_30 rfl ?_
    refine r_aload L_113_31 rfl ?_
    refine r_aload L_113_33 rfl ?_
    refine r_aload L_113_35 rfl ?_
    refine r_iload L_113_37 rfl ?_
    refine r_iload L_113_39 rfl ?_
    refine r_iconst L_113_41 kI_2 ?_
    refine r_icmpn L_113_42 cc_ge (i_mono h (fun c4 h => ?_) (fun c4 h => ?_))
    · refine r_iconst L_113_45 kI_0 ?_
      refine r_goto L_113_46 ?_
      refine r_cs L_113_60 (by decide) rfl (Mi_mono h fun v6 m5 h => ?_)
      exact r_zret L_113_63 RT_113 h.1 h.2
    · refine r_iload L_113_49 rfl ?_
      refine r_iconst L_113_51 kI_2 ?_
      refine r_icmpn L_113_52 rfl (i_mono h (fun c7 h => ?_) (fun c7 h => ?_))
      · refine r_iconst L_113_55 kI_1 ?_
        refine r_goto L_113_56 ?_
        refine r_cs L_113_60 (by decide) rfl (Mi_mono h fun v9 m8 h => ?_)
        exact r_zret L_113_63 RT_113 h.1 h.2
      · refine r_iconst L_113_59 kI_2 ?_
        refine r_cs L_113_60 (by decide) rfl (Mi_mono h fun v11 m10 h => ?_)
        exact r_zret L_113_63 RT_113 h.1 h.2
  · refine r_iload L_113_64 rfl ?_
    refine r_bipush L_113_66 kB_12 ?_
    refine r_icmpn L_113_68 cc_ge (i_mono h (fun c12 h => ?_) (fun c12 h => ?_))
    · refine r_aload_n L_113_71 rfl ?_
      refine r_aload_n L_113_72 rfl ?_
      refine r_aload_n L_113_73 rfl ?_
      refine r_aload_n L_113_74 rfl ?_
      refine r_aload L_113_75 rfl ?_
      refine r_aload L_113_77 rfl ?_
      refine r_iload L_113_79 rfl ?_
      refine r_iload L_113_81 rfl ?_
      refine r_bipush L_113_83 kB_10 ?_
      refine r_icmpn L_113_85 cc_ge (i_mono h (fun c13 h => ?_) (fun c13 h => ?_))
      · refine r_iconst L_113_88 kI_0 ?_
        refine r_goto L_113_89 ?_
        refine r_cs L_113_97 (by decide) rfl (Mi_mono h fun v15 m14 h => ?_)
        exact r_zret L_113_100 RT_113 h.1 h.2
      · refine r_iload L_113_92 rfl ?_
        refine r_bipush L_113_94 kB_9 ?_
        refine r_isub L_113_96 ?_
        refine r_cs L_113_97 (by decide) rfl (Mi_mono h fun v17 m16 h => ?_)
        exact r_zret L_113_100 RT_113 h.1 h.2
    · refine r_iload L_113_101 rfl ?_
      refine r_bipush L_113_103 kB_20 ?_
      refine r_icmpn L_113_105 cc_ge (i_mono h (fun c18 h => ?_) (fun c18 h => ?_))
      · refine r_aload_n L_113_108 rfl ?_
        refine r_iconst L_113_109 kI_3 ?_
        refine r_iald (N := 8) (j := 3) L_113_110 (by decide +kernel) rfl (by decide +kernel) (by decide +kernel) ?_
        refine r_ifn L_113_111 rfl (i_mono h (fun c19 h => ?_) (fun c19 h => ?_))
        · refine r_aload_n L_113_114 rfl ?_
          refine r_iconst L_113_115 kI_0 ?_
          refine r_iconst L_113_116 kI_0 ?_
          refine r_iconst L_113_117 kI_1 ?_
          refine r_cv L_113_118 rfl (Mi_mono h fun v21 m20 h => ?_)
          refine r_iconst L_113_121 kI_m1 ?_
          refine r_icmpn L_113_122 rfl (i_mono h (fun c22 h => ?_) (fun c22 h => ?_))
          · refine r_aload_n L_113_125 rfl ?_
            refine r_iconst L_113_126 kI_0 ?_
            refine r_iconst L_113_127 kI_1 ?_
            refine r_cv L_113_128 rfl (Mi_mono h fun v24 m23 h => ?_)
            refine r_iconst L_113_131 kI_m1 ?_
            refine r_icmpn L_113_132 rfl (i_mono h (fun c25 h => ?_) (fun c25 h => ?_))
            · refine r_aload_n L_113_135 rfl ?_
              refine r_iconst L_113_136 kI_0 ?_
              refine r_cv L_113_137 rfl (Mi_mono h fun v27 m26 h => ?_)
              refine r_iconst L_113_140 kI_m1 ?_
              refine r_icmpn L_113_141 rfl (i_mono h (fun c28 h => ?_) (fun c28 h => ?_))
              · refine r_iconst L_113_144 kI_1 ?_
                refine r_goto L_113_145 ?_
                exact r_zret L_113_170 RT_113 (Or.inr rfl) h
              · refine r_iconst L_113_148 kI_0 ?_
                refine r_goto L_113_149 ?_
                exact r_zret L_113_170 RT_113 (Or.inl rfl) h
            · refine r_iconst L_113_148 kI_0 ?_
              refine r_goto L_113_149 ?_
              exact r_zret L_113_170 RT_113 (Or.inl rfl) h
          · refine r_iconst L_113_148 kI_0 ?_
            refine r_goto L_113_149 ?_
            exact r_zret L_113_170 RT_113 (Or.inl rfl) h
        · refine r_aload_n L_113_152 rfl ?_
          refine r_aload_n L_113_153 rfl ?_
          refine r_aload_n L_113_154 rfl ?_
          refine r_aload_n L_113_155 rfl ?_
          refine r_aload L_113_156 rfl ?_
          refine r_aload L_113_158 rfl ?_
          refine r_iload L_113_160 rfl ?_
          refine r_iload L_113_162 rfl ?_
          refine r_bipush L_113_164 kB_12 ?_
          refine r_isub L_113_166 ?_
          refine r_cs L_113_167 (by decide) rfl (Mi_mono h fun v30 m29 h => ?_)
          exact r_zret L_113_170 RT_113 h.1 h.2
      · refine r_iconst L_113_171 kI_1 ?_
        refine r_iload L_113_172 rfl ?_
        refine r_iload L_113_174 rfl ?_
        refine r_iconst L_113_176 kI_4 ?_
        refine r_irem L_113_177 (by decide +kernel) ?_
        refine r_ifn L_113_178 rfl (i_mono h (fun c31 h => ?_) (fun c31 h => ?_))
        · refine r_bipush L_113_181 kB_12 ?_
          refine r_goto L_113_183 ?_
          refine r_irem L_113_187 (by decide +kernel) ?_
          refine r_iadd L_113_188 ?_
          refine r_istore (ls1 := [some (.inr (27, 0)), some (.inr (34, 0)), some (.inr (35, 0)), some (.inr (36, 0)), some (.inr (37, 0)), some (.inr (38, 0)), some (.inr (39, 0)), some (.inl x7), some (.inl (lowI (x7 >>> ((5 : Int32) &&& 31)) 10000000)), some (.inl (lowI x7 25)), some (.inl (1 + (iR (lowI (x7 >>> ((5 : Int32) &&& 31)) 10000000) 12))), none, none]) L_113_189 (Nat.le_of_ble_eq_true rfl) rfl ?_
          refine r_iconst L_113_191 kI_0 ?_
          refine r_istore (ls1 := [some (.inr (27, 0)), some (.inr (34, 0)), some (.inr (35, 0)), some (.inr (36, 0)), some (.inr (37, 0)), some (.inr (38, 0)), some (.inr (39, 0)), some (.inl x7), some (.inl (lowI (x7 >>> ((5 : Int32) &&& 31)) 10000000)), some (.inl (lowI x7 25)), some (.inl (1 + (iR (lowI (x7 >>> ((5 : Int32) &&& 31)) 10000000) 12))), some (.inl 0), none]) L_113_192 (Nat.le_of_ble_eq_true rfl) rfl ?_
          refine r_iconst L_113_194 kI_0 ?_
          refine r_istore (ls1 := [some (.inr (27, 0)), some (.inr (34, 0)), some (.inr (35, 0)), some (.inr (36, 0)), some (.inr (37, 0)), some (.inr (38, 0)), some (.inr (39, 0)), some (.inl x7), some (.inl (lowI (x7 >>> ((5 : Int32) &&& 31)) 10000000)), some (.inl (lowI x7 25)), some (.inl (1 + (iR (lowI (x7 >>> ((5 : Int32) &&& 31)) 10000000) 12))), some (.inl 0), some (.inl 0)]) L_113_195 (Nat.le_of_ble_eq_true rfl) rfl ?_
          exact h
        · refine r_iconst L_113_186 kI_3 ?_
          refine r_irem L_113_187 (by decide +kernel) ?_
          refine r_iadd L_113_188 ?_
          refine r_istore (ls1 := [some (.inr (27, 0)), some (.inr (34, 0)), some (.inr (35, 0)), some (.inr (36, 0)), some (.inr (37, 0)), some (.inr (38, 0)), some (.inr (39, 0)), some (.inl x7), some (.inl (lowI (x7 >>> ((5 : Int32) &&& 31)) 10000000)), some (.inl (lowI x7 25)), some (.inl (1 + (iR (lowI (x7 >>> ((5 : Int32) &&& 31)) 10000000) 3))), none, none]) L_113_189 (Nat.le_of_ble_eq_true rfl) rfl ?_
          refine r_iconst L_113_191 kI_0 ?_
          refine r_istore (ls1 := [some (.inr (27, 0)), some (.inr (34, 0)), some (.inr (35, 0)), some (.inr (36, 0)), some (.inr (37, 0)), some (.inr (38, 0)), some (.inr (39, 0)), some (.inl x7), some (.inl (lowI (x7 >>> ((5 : Int32) &&& 31)) 10000000)), some (.inl (lowI x7 25)), some (.inl (1 + (iR (lowI (x7 >>> ((5 : Int32) &&& 31)) 10000000) 3))), some (.inl 0), none]) L_113_192 (Nat.le_of_ble_eq_true rfl) rfl ?_
          refine r_iconst L_113_194 kI_0 ?_
          refine r_istore (ls1 := [some (.inr (27, 0)), some (.inr (34, 0)), some (.inr (35, 0)), some (.inr (36, 0)), some (.inr (37, 0)), some (.inr (38, 0)), some (.inr (39, 0)), some (.inl x7), some (.inl (lowI (x7 >>> ((5 : Int32) &&& 31)) 10000000)), some (.inl (lowI x7 25)), some (.inl (1 + (iR (lowI (x7 >>> ((5 : Int32) &&& 31)) 10000000) 3))), some (.inl 0), some (.inl 0)]) L_113_195 (Nat.le_of_ble_eq_true rfl) rfl ?_
          exact h
