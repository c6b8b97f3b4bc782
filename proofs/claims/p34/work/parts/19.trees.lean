/-! trees: what is left of a method when its rows are walked; by program (wip/p34/gen9.py) -/
def H_114_18 (x7 x8 x9 x10 x11 x12 : Int32) (m : aM) (Q : Int32 → aM → Prop) : Prop := ∀ d13 d14 d15 : Option aV, Rg 114 18 [some (.inr (27, 0)), some (.inr (34, 0)), some (.inr (35, 0)), some (.inr (36, 0)), some (.inr (37, 0)), some (.inr (38, 0)), some (.inr (39, 0)), some (.inl x7), some (.inl x8), some (.inl x9), some (.inl x10), some (.inl x11), some (.inl x12), d13, d14, d15] [] m (qI Q)
def H_114_43 (x7 x8 x9 x10 x11 x12 x13 x14 x15 : Int32) (m : aM) (Q : Int32 → aM → Prop) : Prop := Rg 114 43 [some (.inr (27, 0)), some (.inr (34, 0)), some (.inr (35, 0)), some (.inr (36, 0)), some (.inr (37, 0)), some (.inr (38, 0)), some (.inr (39, 0)), some (.inl x7), some (.inl x8), some (.inl x9), some (.inl x10), some (.inl x11), some (.inl x12), some (.inl x13), some (.inl x14), some (.inl x15)] [] m (qI Q)
def H_114_311 (x7 x8 x9 x10 x11 x12 : Int32) (m : aM) (Q : Int32 → aM → Prop) : Prop := ∀ d13 d14 d15 : Option aV, Rg 114 311 [some (.inr (27, 0)), some (.inr (34, 0)), some (.inr (35, 0)), some (.inr (36, 0)), some (.inr (37, 0)), some (.inr (38, 0)), some (.inr (39, 0)), some (.inl x7), some (.inl x8), some (.inl x9), some (.inl x10), some (.inl x11), some (.inl x12), d13, d14, d15] [] m (qI Q)
def H_114_444 (x7 x8 x9 x10 x11 x12 : Int32) (m : aM) (Q : Int32 → aM → Prop) : Prop := ∀ d13 d14 d15 : Option aV, Rg 114 444 [some (.inr (27, 0)), some (.inr (34, 0)), some (.inr (35, 0)), some (.inr (36, 0)), some (.inr (37, 0)), some (.inr (38, 0)), some (.inr (39, 0)), some (.inl x7), some (.inl x8), some (.inl x9), some (.inl x10), some (.inl x11), some (.inl x12), d13, d14, d15] [] m (qI Q)
def H_114_464 (x7 x8 x9 x10 x11 x12 x13 : Int32) (m : aM) (Q : Int32 → aM → Prop) : Prop := ∀ d14 d15 : Option aV, Rg 114 464 [some (.inr (27, 0)), some (.inr (34, 0)), some (.inr (35, 0)), some (.inr (36, 0)), some (.inr (37, 0)), some (.inr (38, 0)), some (.inr (39, 0)), some (.inl x7), some (.inl x8), some (.inl x9), some (.inl x10), some (.inl x11), some (.inl x12), some (.inl x13), d14, d15] [] m (qI Q)
def H_114_826 (x7 x8 x9 x10 x11 x12 x13 : Int32) (m : aM) (Q : Int32 → aM → Prop) : Prop := ∀ d14 d15 : Option aV, Rg 114 826 [some (.inr (27, 0)), some (.inr (34, 0)), some (.inr (35, 0)), some (.inr (36, 0)), some (.inr (37, 0)), some (.inr (38, 0)), some (.inr (39, 0)), some (.inl x7), some (.inl x8), some (.inl x9), some (.inl x10), some (.inl x11), some (.inl x12), some (.inl x13), d14, d15] [] m (qI Q)
def H_114_844 (x7 x8 x9 x10 x11 x12 x13 x14 x15 : Int32) (m : aM) (Q : Int32 → aM → Prop) : Prop := Rg 114 844 [some (.inr (27, 0)), some (.inr (34, 0)), some (.inr (35, 0)), some (.inr (36, 0)), some (.inr (37, 0)), some (.inr (38, 0)), some (.inr (39, 0)), some (.inl x7), some (.inl x8), some (.inl x9), some (.inl x10), some (.inl x11), some (.inl x12), some (.inl x13), some (.inl x14), some (.inl x15)] [] m (qI Q)
/-- Law.isSo, the loop at 844 -/
theorem T_114_844 {x7 x8 x9 x10 x11 x12 x13 x14 x15 : Int32} {m : aM} {Q : Int32 → aM → Prop} (h :
   if x15 < (m 34 0 3) then
    (a_in ((4 * x15) + 3) 64 = true ∧
     if (m 37 0 ((4 * x15) + 3).toNatClampNeg) = x13 then
      H_114_844 x7 x8 x9 x10 x11 x12 x13 (x14 + 1) (x15 + 1) m Q
     else
      H_114_844 x7 x8 x9 x10 x11 x12 x13 (x14 + 0) (x15 + 1) m Q)
   else
    Mi 84 [.inr (27, 0), .inl x13] m (fun v5 m4 =>
     if v5 = x14 then
      H_114_826 x7 x8 x9 x10 1 (x12 + x14) (x13 + 1) m4 Q
     else
      H_114_826 x7 x8 x9 x10 0 (x12 + x14) (x13 + 1) m4 Q)
  ) : H_114_844 x7 x8 x9 x10 x11 x12 x13 x14 x15 m Q := by
  show Rg 114 844 [some (.inr (27, 0)), some (.inr (34, 0)), some (.inr (35, 0)), some (.inr (36, 0)), some (.inr (37, 0)), some (.inr (38, 0)), some (.inr (39, 0)), some (.inl x7), some (.inl x8), some (.inl x9), some (.inl x10), some (.inl x11), some (.inl x12), some (.inl x13), some (.inl x14), some (.inl x15)] [] m (qI Q)
  refine r_iload L_114_844 rfl ?_
  refine r_aload_n L_114_846 rfl ?_
  refine r_iconst L_114_847 kI_3 ?_
  refine r_iald (N := 8) (j := 3) L_114_848 (by decide +kernel) rfl (by decide +kernel) (by decide +kernel) ?_
  refine r_icmpn L_114_849 cc_ge (i_mono h (fun c1 h => ?_) (fun c1 h => ?_))
  · refine r_iload L_114_852 rfl ?_
    refine r_aload L_114_854 rfl ?_
    refine r_iconst L_114_856 kI_4 ?_
    refine r_iload L_114_857 rfl ?_
    refine r_imul L_114_859 ?_
    refine r_iconst L_114_860 kI_3 ?_
    refine r_iadd L_114_861 ?_
    obtain ⟨g2, h⟩ := h
    refine r_iald (N := 64) (j := ((4 * x15) + 3).toNatClampNeg) L_114_862 (by decide +kernel) rfl g2 rfl ?_
    refine r_iload L_114_863 rfl ?_
    refine r_icmpn L_114_865 rfl (i_mono h (fun c3 h => ?_) (fun c3 h => ?_))
    · refine r_iconst L_114_868 kI_1 ?_
      refine r_goto L_114_869 ?_
      refine r_iadd L_114_873 ?_
      refine r_istore (ls1 := [some (.inr (27, 0)), some (.inr (34, 0)), some (.inr (35, 0)), some (.inr (36, 0)), some (.inr (37, 0)), some (.inr (38, 0)), some (.inr (39, 0)), some (.inl x7), some (.inl x8), some (.inl x9), some (.inl x10), some (.inl x11), some (.inl x12), some (.inl x13), some (.inl (x14 + 1)), some (.inl x15)]) L_114_874 (Nat.le_of_ble_eq_true rfl) rfl ?_
      refine r_iinc (ls1 := [some (.inr (27, 0)), some (.inr (34, 0)), some (.inr (35, 0)), some (.inr (36, 0)), some (.inr (37, 0)), some (.inr (38, 0)), some (.inr (39, 0)), some (.inl x7), some (.inl x8), some (.inl x9), some (.inl x10), some (.inl x11), some (.inl x12), some (.inl x13), some (.inl (x14 + 1)), some (.inl (x15 + 1))]) L_114_876 kI_1 rfl (Nat.le_of_ble_eq_true rfl) rfl ?_
      refine r_goto L_114_879 ?_
      exact h
    · refine r_iconst L_114_872 kI_0 ?_
      refine r_iadd L_114_873 ?_
      refine r_istore (ls1 := [some (.inr (27, 0)), some (.inr (34, 0)), some (.inr (35, 0)), some (.inr (36, 0)), some (.inr (37, 0)), some (.inr (38, 0)), some (.inr (39, 0)), some (.inl x7), some (.inl x8), some (.inl x9), some (.inl x10), some (.inl x11), some (.inl x12), some (.inl x13), some (.inl (x14 + 0)), some (.inl x15)]) L_114_874 (Nat.le_of_ble_eq_true rfl) rfl ?_
      refine r_iinc (ls1 := [some (.inr (27, 0)), some (.inr (34, 0)), some (.inr (35, 0)), some (.inr (36, 0)), some (.inr (37, 0)), some (.inr (38, 0)), some (.inr (39, 0)), some (.inl x7), some (.inl x8), some (.inl x9), some (.inl x10), some (.inl x11), some (.inl x12), some (.inl x13), some (.inl (x14 + 0)), some (.inl (x15 + 1))]) L_114_876 kI_1 rfl (Nat.le_of_ble_eq_true rfl) rfl ?_
      refine r_goto L_114_879 ?_
      exact h
  · refine r_iload L_114_882 rfl ?_
    refine r_iload L_114_884 rfl ?_
    refine r_iadd L_114_886 ?_
    refine r_istore (ls1 := [some (.inr (27, 0)), some (.inr (34, 0)), some (.inr (35, 0)), some (.inr (36, 0)), some (.inr (37, 0)), some (.inr (38, 0)), some (.inr (39, 0)), some (.inl x7), some (.inl x8), some (.inl x9), some (.inl x10), some (.inl x11), some (.inl (x12 + x14)), some (.inl x13), some (.inl x14), some (.inl x15)]) L_114_887 (Nat.le_of_ble_eq_true rfl) rfl ?_
    refine r_aload_n L_114_889 rfl ?_
    refine r_iload L_114_890 rfl ?_
    refine r_cv L_114_892 rfl (Mi_mono h fun v5 m4 h => ?_)
    refine r_iload L_114_895 rfl ?_
    refine r_icmpn L_114_897 rfl (i_mono h (fun c6 h => ?_) (fun c6 h => ?_))
    · refine r_iconst L_114_900 kI_1 ?_
      refine r_goto L_114_901 ?_
      refine r_istore (ls1 := [some (.inr (27, 0)), some (.inr (34, 0)), some (.inr (35, 0)), some (.inr (36, 0)), some (.inr (37, 0)), some (.inr (38, 0)), some (.inr (39, 0)), some (.inl x7), some (.inl x8), some (.inl x9), some (.inl x10), some (.inl 1), some (.inl (x12 + x14)), some (.inl x13), some (.inl x14), some (.inl x15)]) L_114_905 (Nat.le_of_ble_eq_true rfl) rfl ?_
      refine r_iinc (ls1 := [some (.inr (27, 0)), some (.inr (34, 0)), some (.inr (35, 0)), some (.inr (36, 0)), some (.inr (37, 0)), some (.inr (38, 0)), some (.inr (39, 0)), some (.inl x7), some (.inl x8), some (.inl x9), some (.inl x10), some (.inl 1), some (.inl (x12 + x14)), some (.inl (x13 + 1)), some (.inl x14), some (.inl x15)]) L_114_907 kI_1 rfl (Nat.le_of_ble_eq_true rfl) rfl ?_
      refine r_goto L_114_910 ?_
      exact h _ _
    · refine r_iconst L_114_904 kI_0 ?_
      refine r_istore (ls1 := [some (.inr (27, 0)), some (.inr (34, 0)), some (.inr (35, 0)), some (.inr (36, 0)), some (.inr (37, 0)), some (.inr (38, 0)), some (.inr (39, 0)), some (.inl x7), some (.inl x8), some (.inl x9), some (.inl x10), some (.inl 0), some (.inl (x12 + x14)), some (.inl x13), some (.inl x14), some (.inl x15)]) L_114_905 (Nat.le_of_ble_eq_true rfl) rfl ?_
      refine r_iinc (ls1 := [some (.inr (27, 0)), some (.inr (34, 0)), some (.inr (35, 0)), some (.inr (36, 0)), some (.inr (37, 0)), some (.inr (38, 0)), some (.inr (39, 0)), some (.inl x7), some (.inl x8), some (.inl x9), some (.inl x10), some (.inl 0), some (.inl (x12 + x14)), some (.inl (x13 + 1)), some (.inl x14), some (.inl x15)]) L_114_907 kI_1 rfl (Nat.le_of_ble_eq_true rfl) rfl ?_
      refine r_goto L_114_910 ?_
      exact h _ _
/-- Law.isSo, the loop at 826 -/
theorem T_114_826 {x7 x8 x9 x10 x11 x12 x13 : Int32} {m : aM} {Q : Int32 → aM → Prop} (h :
   if x13 < 8 then
    (if x11 = 0 then
     Q 0 m
    else
     H_114_844 x7 x8 x9 x10 x11 x12 x13 0 0 m Q)
   else
    if x11 = 0 then
     Q 0 m
    else
     Mi 108 [.inr (34, 0), .inr (37, 0)] m (fun v5 m4 =>
      if x12 = v5 then
       (Mi 85 [.inr (27, 0), .inl 0] m4 (fun v8 m7 =>
        if v8 = (m7 34 0 0) then
         (Mi 85 [.inr (27, 0), .inl 1] m7 (fun v11 m10 =>
          if v11 = (m10 34 0 1) then
           (Mi 85 [.inr (27, 0), .inl 2] m10 (fun v14 m13 =>
            if v14 = (m13 34 0 2) then
             (Mi 85 [.inr (27, 0), .inl 3] m13 (fun v17 m16 =>
              if v17 = (m16 34 0 3) then
               (Mi 85 [.inr (27, 0), .inl 4] m16 (fun v20 m19 =>
                if v20 = x7 then
                 (Mi 85 [.inr (27, 0), .inl 5] m19 (fun v23 m22 =>
                  if v23 = x12 then
                   (Mi 85 [.inr (27, 0), .inl 6] m22 (fun v26 m25 =>
                    Mi 107 [.inr (34, 0), .inr (38, 0)] m25 (fun v28 m27 =>
                     if v26 = v28 then
                      (Mi 85 [.inr (27, 0), .inl 7] m27 (fun v31 m30 =>
                       if v31 = x8 then
                        (Mi 85 [.inr (27, 0), .inl 8] m30 (fun v34 m33 =>
                         if v34 = x9 then
                          (Mi 85 [.inr (27, 0), .inl 9] m33 (fun v37 m36 =>
                           if v37 = x10 then
                            (Mi 85 [.inr (27, 0), .inl 10] m36 (fun v40 m39 =>
                             if v40 = (m39 34 0 4) then
                              (Mi 85 [.inr (27, 0), .inl 12] m39 (fun v43 m42 =>
                               if v43 = 0 then
                                (Mi 85 [.inr (27, 0), .inl 13] m42 (fun v46 m45 =>
                                 if v46 = (m45 34 0 5) then
                                  (Mi 85 [.inr (27, 0), .inl 14] m45 (fun v49 m48 =>
                                   if v49 = (m48 34 0 6) then
                                    (Mi 85 [.inr (27, 0), .inl 15] m48 (fun v52 m51 =>
                                     if v52 = (m51 34 0 7) then
                                      Q 1 m51
                                     else
                                      Q 0 m51))
                                   else
                                    Q 0 m48))
                                 else
                                  Q 0 m45))
                               else
                                Q 0 m42))
                             else
                              Q 0 m39))
                           else
                            Q 0 m36))
                         else
                          Q 0 m33))
                       else
                        Q 0 m30))
                     else
                      Q 0 m27)))
                  else
                   Q 0 m22))
                else
                 Q 0 m19))
              else
               Q 0 m16))
            else
             Q 0 m13))
          else
           Q 0 m10))
        else
         Q 0 m7))
      else
       Q 0 m4)
  ) : H_114_826 x7 x8 x9 x10 x11 x12 x13 m Q := by
  intro d14 d15
  show Rg 114 826 [some (.inr (27, 0)), some (.inr (34, 0)), some (.inr (35, 0)), some (.inr (36, 0)), some (.inr (37, 0)), some (.inr (38, 0)), some (.inr (39, 0)), some (.inl x7), some (.inl x8), some (.inl x9), some (.inl x10), some (.inl x11), some (.inl x12), some (.inl x13), d14, d15] [] m (qI Q)
  refine r_iload L_114_826 rfl ?_
  refine r_bipush L_114_828 kB_8 ?_
  refine r_icmpn L_114_830 cc_ge (i_mono h (fun c1 h => ?_) (fun c1 h => ?_))
  · refine r_iload L_114_833 rfl ?_
    refine r_if L_114_835 rfl (i_mono h (fun c2 h => ?_) (fun c2 h => ?_))
    · refine r_iload L_114_913 rfl ?_
      refine r_if L_114_915 rfl (i_pos c2 ?_)
      refine r_iconst L_114_1012 kI_0 ?_
      refine r_istore (ls1 := [some (.inr (27, 0)), some (.inr (34, 0)), some (.inr (35, 0)), some (.inr (36, 0)), some (.inr (37, 0)), some (.inr (38, 0)), some (.inr (39, 0)), some (.inl x7), some (.inl x8), some (.inl x9), some (.inl x10), some (.inl 0), some (.inl x12), some (.inl x13), d14, d15]) L_114_1013 (Nat.le_of_ble_eq_true rfl) rfl ?_
      refine r_iload L_114_1015 rfl ?_
      refine r_if (p := ((0 : Int32) = 0)) L_114_1017 rfl (i_pos (by decide +kernel) ?_)
      refine r_iconst L_114_1116 kI_0 ?_
      exact r_zret L_114_1117 RT_114 (Or.inl rfl) h
    · refine r_iconst L_114_838 kI_0 ?_
      refine r_istore (ls1 := [some (.inr (27, 0)), some (.inr (34, 0)), some (.inr (35, 0)), some (.inr (36, 0)), some (.inr (37, 0)), some (.inr (38, 0)), some (.inr (39, 0)), some (.inl x7), some (.inl x8), some (.inl x9), some (.inl x10), some (.inl x11), some (.inl x12), some (.inl x13), some (.inl 0), d15]) L_114_839 (Nat.le_of_ble_eq_true rfl) rfl ?_
      refine r_iconst L_114_841 kI_0 ?_
      refine r_istore (ls1 := [some (.inr (27, 0)), some (.inr (34, 0)), some (.inr (35, 0)), some (.inr (36, 0)), some (.inr (37, 0)), some (.inr (38, 0)), some (.inr (39, 0)), some (.inl x7), some (.inl x8), some (.inl x9), some (.inl x10), some (.inl x11), some (.inl x12), some (.inl x13), some (.inl 0), some (.inl 0)]) L_114_842 (Nat.le_of_ble_eq_true rfl) rfl ?_
      exact h
  · refine r_iload L_114_913 rfl ?_
    refine r_if L_114_915 rfl (i_mono h (fun c3 h => ?_) (fun c3 h => ?_))
    · refine r_iconst L_114_1012 kI_0 ?_
      refine r_istore (ls1 := [some (.inr (27, 0)), some (.inr (34, 0)), some (.inr (35, 0)), some (.inr (36, 0)), some (.inr (37, 0)), some (.inr (38, 0)), some (.inr (39, 0)), some (.inl x7), some (.inl x8), some (.inl x9), some (.inl x10), some (.inl 0), some (.inl x12), some (.inl x13), d14, d15]) L_114_1013 (Nat.le_of_ble_eq_true rfl) rfl ?_
      refine r_iload L_114_1015 rfl ?_
      refine r_if (p := ((0 : Int32) = 0)) L_114_1017 rfl (i_pos (by decide +kernel) ?_)
      refine r_iconst L_114_1116 kI_0 ?_
      exact r_zret L_114_1117 RT_114 (Or.inl rfl) h
    · refine r_iload L_114_918 rfl ?_
      refine r_aload_n L_114_920 rfl ?_
      refine r_aload L_114_921 rfl ?_
      refine r_cs L_114_923 (by decide) rfl (Mi_mono h fun v5 m4 h => ?_)
      refine r_icmpn L_114_926 rfl (i_mono h (fun c6 h => ?_) (fun c6 h => ?_))
      · refine r_aload_n L_114_929 rfl ?_
        refine r_iconst L_114_930 kI_0 ?_
        refine r_cv L_114_931 rfl (Mi_mono h fun v8 m7 h => ?_)
        refine r_aload_n L_114_934 rfl ?_
        refine r_iconst L_114_935 kI_0 ?_
        refine r_iald (N := 8) (j := 0) L_114_936 (by decide +kernel) rfl (by decide +kernel) (by decide +kernel) ?_
        refine r_icmpn L_114_937 rfl (i_mono h (fun c9 h => ?_) (fun c9 h => ?_))
        · refine r_aload_n L_114_940 rfl ?_
          refine r_iconst L_114_941 kI_1 ?_
          refine r_cv L_114_942 rfl (Mi_mono h fun v11 m10 h => ?_)
          refine r_aload_n L_114_945 rfl ?_
          refine r_iconst L_114_946 kI_1 ?_
          refine r_iald (N := 8) (j := 1) L_114_947 (by decide +kernel) rfl (by decide +kernel) (by decide +kernel) ?_
          refine r_icmpn L_114_948 rfl (i_mono h (fun c12 h => ?_) (fun c12 h => ?_))
          · refine r_aload_n L_114_951 rfl ?_
            refine r_iconst L_114_952 kI_2 ?_
            refine r_cv L_114_953 rfl (Mi_mono h fun v14 m13 h => ?_)
            refine r_aload_n L_114_956 rfl ?_
            refine r_iconst L_114_957 kI_2 ?_
            refine r_iald (N := 8) (j := 2) L_114_958 (by decide +kernel) rfl (by decide +kernel) (by decide +kernel) ?_
            refine r_icmpn L_114_959 rfl (i_mono h (fun c15 h => ?_) (fun c15 h => ?_))
            · refine r_aload_n L_114_962 rfl ?_
              refine r_iconst L_114_963 kI_3 ?_
              refine r_cv L_114_964 rfl (Mi_mono h fun v17 m16 h => ?_)
              refine r_aload_n L_114_967 rfl ?_
              refine r_iconst L_114_968 kI_3 ?_
              refine r_iald (N := 8) (j := 3) L_114_969 (by decide +kernel) rfl (by decide +kernel) (by decide +kernel) ?_
              refine r_icmpn L_114_970 rfl (i_mono h (fun c18 h => ?_) (fun c18 h => ?_))
              · refine r_aload_n L_114_973 rfl ?_
                refine r_iconst L_114_974 kI_4 ?_
                refine r_cv L_114_975 rfl (Mi_mono h fun v20 m19 h => ?_)
                refine r_iload L_114_978 rfl ?_
                refine r_icmpn L_114_980 rfl (i_mono h (fun c21 h => ?_) (fun c21 h => ?_))
                · refine r_aload_n L_114_983 rfl ?_
                  refine r_iconst L_114_984 kI_5 ?_
                  refine r_cv L_114_985 rfl (Mi_mono h fun v23 m22 h => ?_)
                  refine r_iload L_114_988 rfl ?_
                  refine r_icmpn L_114_990 rfl (i_mono h (fun c24 h => ?_) (fun c24 h => ?_))
                  · refine r_aload_n L_114_993 rfl ?_
                    refine r_bipush L_114_994 kB_6 ?_
                    refine r_cv L_114_996 rfl (Mi_mono h fun v26 m25 h => ?_)
                    refine r_aload_n L_114_999 rfl ?_
                    refine r_aload L_114_1000 rfl ?_
                    refine r_cs L_114_1002 (by decide) rfl (Mi_mono h fun v28 m27 h => ?_)
                    refine r_icmpn L_114_1005 rfl (i_mono h (fun c29 h => ?_) (fun c29 h => ?_))
                    · refine r_iconst L_114_1008 kI_1 ?_
                      refine r_goto L_114_1009 ?_
                      refine r_istore (ls1 := [some (.inr (27, 0)), some (.inr (34, 0)), some (.inr (35, 0)), some (.inr (36, 0)), some (.inr (37, 0)), some (.inr (38, 0)), some (.inr (39, 0)), some (.inl x7), some (.inl x8), some (.inl x9), some (.inl x10), some (.inl 1), some (.inl x12), some (.inl x13), d14, d15]) L_114_1013 (Nat.le_of_ble_eq_true rfl) rfl ?_
                      refine r_iload L_114_1015 rfl ?_
                      refine r_if (p := ((1 : Int32) = 0)) L_114_1017 rfl (i_neg (by decide +kernel) ?_)
                      refine r_aload_n L_114_1020 rfl ?_
                      refine r_bipush L_114_1021 kB_7 ?_
                      refine r_cv L_114_1023 rfl (Mi_mono h fun v31 m30 h => ?_)
                      refine r_iload L_114_1026 rfl ?_
                      refine r_icmpn L_114_1028 rfl (i_mono h (fun c32 h => ?_) (fun c32 h => ?_))
                      · refine r_aload_n L_114_1031 rfl ?_
                        refine r_bipush L_114_1032 kB_8 ?_
                        refine r_cv L_114_1034 rfl (Mi_mono h fun v34 m33 h => ?_)
                        refine r_iload L_114_1037 rfl ?_
                        refine r_icmpn L_114_1039 rfl (i_mono h (fun c35 h => ?_) (fun c35 h => ?_))
                        · refine r_aload_n L_114_1042 rfl ?_
                          refine r_bipush L_114_1043 kB_9 ?_
                          refine r_cv L_114_1045 rfl (Mi_mono h fun v37 m36 h => ?_)
                          refine r_iload L_114_1048 rfl ?_
                          refine r_icmpn L_114_1050 rfl (i_mono h (fun c38 h => ?_) (fun c38 h => ?_))
                          · refine r_aload_n L_114_1053 rfl ?_
                            refine r_bipush L_114_1054 kB_10 ?_
                            refine r_cv L_114_1056 rfl (Mi_mono h fun v40 m39 h => ?_)
                            refine r_aload_n L_114_1059 rfl ?_
                            refine r_iconst L_114_1060 kI_4 ?_
                            refine r_iald (N := 8) (j := 4) L_114_1061 (by decide +kernel) rfl (by decide +kernel) (by decide +kernel) ?_
                            refine r_icmpn L_114_1062 rfl (i_mono h (fun c41 h => ?_) (fun c41 h => ?_))
                            · refine r_aload_n L_114_1065 rfl ?_
                              refine r_bipush L_114_1066 kB_12 ?_
                              refine r_cv L_114_1068 rfl (Mi_mono h fun v43 m42 h => ?_)
                              refine r_ifn L_114_1071 rfl (i_mono h (fun c44 h => ?_) (fun c44 h => ?_))
                              · refine r_aload_n L_114_1074 rfl ?_
                                refine r_bipush L_114_1075 kB_13 ?_
                                refine r_cv L_114_1077 rfl (Mi_mono h fun v46 m45 h => ?_)
                                refine r_aload_n L_114_1080 rfl ?_
                                refine r_iconst L_114_1081 kI_5 ?_
                                refine r_iald (N := 8) (j := 5) L_114_1082 (by decide +kernel) rfl (by decide +kernel) (by decide +kernel) ?_
                                refine r_icmpn L_114_1083 rfl (i_mono h (fun c47 h => ?_) (fun c47 h => ?_))
                                · refine r_aload_n L_114_1086 rfl ?_
                                  refine r_bipush L_114_1087 kB_14 ?_
                                  refine r_cv L_114_1089 rfl (Mi_mono h fun v49 m48 h => ?_)
                                  refine r_aload_n L_114_1092 rfl ?_
                                  refine r_bipush L_114_1093 kB_6 ?_
                                  refine r_iald (N := 8) (j := 6) L_114_1095 (by decide +kernel) rfl (by decide +kernel) (by decide +kernel) ?_
                                  refine r_icmpn L_114_1096 rfl (i_mono h (fun c50 h => ?_) (fun c50 h => ?_))
                                  · refine r_aload_n L_114_1099 rfl ?_
                                    refine r_bipush L_114_1100 kB_15 ?_
                                    refine r_cv L_114_1102 rfl (Mi_mono h fun v52 m51 h => ?_)
                                    refine r_aload_n L_114_1105 rfl ?_
                                    refine r_bipush L_114_1106 kB_7 ?_
                                    refine r_iald (N := 8) (j := 7) L_114_1108 (by decide +kernel) rfl (by decide +kernel) (by decide +kernel) ?_
                                    refine r_icmpn L_114_1109 rfl (i_mono h (fun c53 h => ?_) (fun c53 h => ?_))
                                    · refine r_iconst L_114_1112 kI_1 ?_
                                      refine r_goto L_114_1113 ?_
                                      exact r_zret L_114_1117 RT_114 (Or.inr rfl) h
                                    · refine r_iconst L_114_1116 kI_0 ?_
                                      exact r_zret L_114_1117 RT_114 (Or.inl rfl) h
                                  · refine r_iconst L_114_1116 kI_0 ?_
                                    exact r_zret L_114_1117 RT_114 (Or.inl rfl) h
                                · refine r_iconst L_114_1116 kI_0 ?_
                                  exact r_zret L_114_1117 RT_114 (Or.inl rfl) h
                              · refine r_iconst L_114_1116 kI_0 ?_
                                exact r_zret L_114_1117 RT_114 (Or.inl rfl) h
                            · refine r_iconst L_114_1116 kI_0 ?_
                              exact r_zret L_114_1117 RT_114 (Or.inl rfl) h
                          · refine r_iconst L_114_1116 kI_0 ?_
                            exact r_zret L_114_1117 RT_114 (Or.inl rfl) h
                        · refine r_iconst L_114_1116 kI_0 ?_
                          exact r_zret L_114_1117 RT_114 (Or.inl rfl) h
                      · refine r_iconst L_114_1116 kI_0 ?_
                        exact r_zret L_114_1117 RT_114 (Or.inl rfl) h
                    · refine r_iconst L_114_1012 kI_0 ?_
                      refine r_istore (ls1 := [some (.inr (27, 0)), some (.inr (34, 0)), some (.inr (35, 0)), some (.inr (36, 0)), some (.inr (37, 0)), some (.inr (38, 0)), some (.inr (39, 0)), some (.inl x7), some (.inl x8), some (.inl x9), some (.inl x10), some (.inl 0), some (.inl x12), some (.inl x13), d14, d15]) L_114_1013 (Nat.le_of_ble_eq_true rfl) rfl ?_
                      refine r_iload L_114_1015 rfl ?_
                      refine r_if (p := ((0 : Int32) = 0)) L_114_1017 rfl (i_pos (by decide +kernel) ?_)
                      refine r_iconst L_114_1116 kI_0 ?_
                      exact r_zret L_114_1117 RT_114 (Or.inl rfl) h
                  · refine r_iconst L_114_1012 kI_0 ?_
                    refine r_istore (ls1 := [some (.inr (27, 0)), some (.inr (34, 0)), some (.inr (35, 0)), some (.inr (36, 0)), some (.inr (37, 0)), some (.inr (38, 0)), some (.inr (39, 0)), some (.inl x7), some (.inl x8), some (.inl x9), some (.inl x10), some (.inl 0), some (.inl x12), some (.inl x13), d14, d15]) L_114_1013 (Nat.le_of_ble_eq_true rfl) rfl ?_
                    refine r_iload L_114_1015 rfl ?_
                    refine r_if (p := ((0 : Int32) = 0)) L_114_1017 rfl (i_pos (by decide +kernel) ?_)
                    refine r_iconst L_114_1116 kI_0 ?_
                    exact r_zret L_114_1117 RT_114 (Or.inl rfl) h
                · refine r_iconst L_114_1012 kI_0 ?_
                  refine r_istore (ls1 := [some (.inr (27, 0)), some (.inr (34, 0)), some (.inr (35, 0)), some (.inr (36, 0)), some (.inr (37, 0)), some (.inr (38, 0)), some (.inr (39, 0)), some (.inl x7), some (.inl x8), some (.inl x9), some (.inl x10), some (.inl 0), some (.inl x12), some (.inl x13), d14, d15]) L_114_1013 (Nat.le_of_ble_eq_true rfl) rfl ?_
                  refine r_iload L_114_1015 rfl ?_
                  refine r_if (p := ((0 : Int32) = 0)) L_114_1017 rfl (i_pos (by decide +kernel) ?_)
                  refine r_iconst L_114_1116 kI_0 ?_
                  exact r_zret L_114_1117 RT_114 (Or.inl rfl) h
              · refine r_iconst L_114_1012 kI_0 ?_
                refine r_istore (ls1 := [some (.inr (27, 0)), some (.inr (34, 0)), some (.inr (35, 0)), some (.inr (36, 0)), some (.inr (37, 0)), some (.inr (38, 0)), some (.inr (39, 0)), some (.inl x7), some (.inl x8), some (.inl x9), some (.inl x10), some (.inl 0), some (.inl x12), some (.inl x13), d14, d15]) L_114_1013 (Nat.le_of_ble_eq_true rfl) rfl ?_
                refine r_iload L_114_1015 rfl ?_
                refine r_if (p := ((0 : Int32) = 0)) L_114_1017 rfl (i_pos (by decide +kernel) ?_)
                refine r_iconst L_114_1116 kI_0 ?_
                exact r_zret L_114_1117 RT_114 (Or.inl rfl) h
            · refine r_iconst L_114_1012 kI_0 ?_
              refine r_istore (ls1 := [some (.inr (27, 0)), some (.inr (34, 0)), some (.inr (35, 0)), some (.inr (36, 0)), some (.inr (37, 0)), some (.inr (38, 0)), some (.inr (39, 0)), some (.inl x7), some (.inl x8), some (.inl x9), some (.inl x10), some (.inl 0), some (.inl x12), some (.inl x13), d14, d15]) L_114_1013 (Nat.le_of_ble_eq_true rfl) rfl ?_
              refine r_iload L_114_1015 rfl ?_
              refine r_if (p := ((0 : Int32) = 0)) L_114_1017 rfl (i_pos (by decide +kernel) ?_)
              refine r_iconst L_114_1116 kI_0 ?_
              exact r_zret L_114_1117 RT_114 (Or.inl rfl) h
          · refine r_iconst L_114_1012 kI_0 ?_
            refine r_istore (ls1 := [some (.inr (27, 0)), some (.inr (34, 0)), some (.inr (35, 0)), some (.inr (36, 0)), some (.inr (37, 0)), some (.inr (38, 0)), some (.inr (39, 0)), some (.inl x7), some (.inl x8), some (.inl x9), some (.inl x10), some (.inl 0), some (.inl x12), some (.inl x13), d14, d15]) L_114_1013 (Nat.le_of_ble_eq_true rfl) rfl ?_
            refine r_iload L_114_1015 rfl ?_
            refine r_if (p := ((0 : Int32) = 0)) L_114_1017 rfl (i_pos (by decide +kernel) ?_)
            refine r_iconst L_114_1116 kI_0 ?_
            exact r_zret L_114_1117 RT_114 (Or.inl rfl) h
        · refine r_iconst L_114_1012 kI_0 ?_
          refine r_istore (ls1 := [some (.inr (27, 0)), some (.inr (34, 0)), some (.inr (35, 0)), some (.inr (36, 0)), some (.inr (37, 0)), some (.inr (38, 0)), some (.inr (39, 0)), some (.inl x7), some (.inl x8), some (.inl x9), some (.inl x10), some (.inl 0), some (.inl x12), some (.inl x13), d14, d15]) L_114_1013 (Nat.le_of_ble_eq_true rfl) rfl ?_
          refine r_iload L_114_1015 rfl ?_
          refine r_if (p := ((0 : Int32) = 0)) L_114_1017 rfl (i_pos (by decide +kernel) ?_)
          refine r_iconst L_114_1116 kI_0 ?_
          exact r_zret L_114_1117 RT_114 (Or.inl rfl) h
      · refine r_iconst L_114_1012 kI_0 ?_
        refine r_istore (ls1 := [some (.inr (27, 0)), some (.inr (34, 0)), some (.inr (35, 0)), some (.inr (36, 0)), some (.inr (37, 0)), some (.inr (38, 0)), some (.inr (39, 0)), some (.inl x7), some (.inl x8), some (.inl x9), some (.inl x10), some (.inl 0), some (.inl x12), some (.inl x13), d14, d15]) L_114_1013 (Nat.le_of_ble_eq_true rfl) rfl ?_
        refine r_iload L_114_1015 rfl ?_
        refine r_if (p := ((0 : Int32) = 0)) L_114_1017 rfl (i_pos (by decide +kernel) ?_)
        refine r_iconst L_114_1116 kI_0 ?_
        exact r_zret L_114_1117 RT_114 (Or.inl rfl) h
/-- Law.isSo, the loop at 464 -/
theorem T_114_464 {x7 x8 x9 x10 x11 x12 x13 : Int32} {m : aM} {Q : Int32 → aM → Prop} (h :
   ¬ (m 34 0 6) = 0 ∧
    if 0 < (iR (x13 + x12) (m 34 0 6)) then
     H_114_464 x7 x8 x9 x10 x11 x12 (x13 + 1) m Q
    else
     a_in (3 * x12) 48 = true ∧
      a_in ((3 * x12) + 1) 48 = true ∧
       a_in ((3 * x12) + 2) 48 = true ∧
        Mi 80 [.inr (27, 0), .inl x12, .inl 0] m (fun v7 m6 =>
         a_in (4 * x12) 64 = true ∧
          if v7 = (m6 37 0 (4 * x12).toNatClampNeg) then
           (Mi 80 [.inr (27, 0), .inl x12, .inl 1] m6 (fun v11 m10 =>
            a_in ((4 * x12) + 1) 64 = true ∧
             if v11 = (m10 37 0 ((4 * x12) + 1).toNatClampNeg) then
              (Mi 80 [.inr (27, 0), .inl x12, .inl 2] m10 (fun v15 m14 =>
               a_in ((4 * x12) + 2) 64 = true ∧
                if v15 = (m14 37 0 ((4 * x12) + 2).toNatClampNeg) then
                 (Mi 80 [.inr (27, 0), .inl x12, .inl 3] m14 (fun v19 m18 =>
                  a_in ((4 * x12) + 3) 64 = true ∧
                   if v19 = (m18 37 0 ((4 * x12) + 3).toNatClampNeg) then
                    (Mi 80 [.inr (27, 0), .inl x12, .inl 4] m18 (fun v23 m22 =>
                     if v23 = (m22 38 0 (3 * x12).toNatClampNeg) then
                      (Mi 80 [.inr (27, 0), .inl x12, .inl 5] m22 (fun v26 m25 =>
                       if v26 = (m25 38 0 ((3 * x12) + 1).toNatClampNeg) then
                        (Mi 80 [.inr (27, 0), .inl x12, .inl 6] m25 (fun v29 m28 =>
                         if v29 = (m28 38 0 ((3 * x12) + 2).toNatClampNeg) then
                          (Mi 80 [.inr (27, 0), .inl x12, .inl 7] m28 (fun v32 m31 =>
                           if v32 = (m31 39 0 (3 * x12).toNatClampNeg) then
                            (Mi 80 [.inr (27, 0), .inl x12, .inl 8] m31 (fun v35 m34 =>
                             if v35 = (m34 39 0 ((3 * x12) + 1).toNatClampNeg) then
                              (Mi 80 [.inr (27, 0), .inl x12, .inl 9] m34 (fun v38 m37 =>
                               if v38 = (m37 39 0 ((3 * x12) + 2).toNatClampNeg) then
                                (Mi 80 [.inr (27, 0), .inl x12, .inl 10] m37 (fun v41 m40 =>
                                 if v41 = x13 then
                                  (Mi 80 [.inr (27, 0), .inl x12, .inl 11] m40 (fun v44 m43 =>
                                   if v44 = (-2) then
                                    (if (m43 37 0 ((4 * x12) + 3).toNatClampNeg) < 0 then
                                     H_114_444 x7 (x8 + (m 39 0 (3 * x12).toNatClampNeg)) (x9 + (m 39 0 ((3 * x12) + 1).toNatClampNeg)) (x10 + (m 39 0 ((3 * x12) + 2).toNatClampNeg)) 1 (x12 + 1) m43 Q
                                    else
                                     Mi 103 [.inr (34, 0), .inr (35, 0), .inr (36, 0), .inr (37, 0), .inl x12, .inl (m43 37 0 ((4 * x12) + 3).toNatClampNeg), .inl (m43 38 0 (3 * x12).toNatClampNeg)] m43 (fun v48 m47 =>
                                      if (m47 38 0 ((3 * x12) + 2).toNatClampNeg) < 0 then
                                       (if v48 = 1 then
                                        H_114_444 x7 (x8 + (m 39 0 (3 * x12).toNatClampNeg)) (x9 + (m 39 0 ((3 * x12) + 1).toNatClampNeg)) (x10 + (m 39 0 ((3 * x12) + 2).toNatClampNeg)) 1 (x12 + 1) m47 Q
                                       else
                                        H_114_444 x7 (x8 + (m 39 0 (3 * x12).toNatClampNeg)) (x9 + (m 39 0 ((3 * x12) + 1).toNatClampNeg)) (x10 + (m 39 0 ((3 * x12) + 2).toNatClampNeg)) 0 (x12 + 1) m47 Q)
                                      else
                                       if v48 = 0 then
                                        H_114_444 x7 (x8 + (m 39 0 (3 * x12).toNatClampNeg)) (x9 + (m 39 0 ((3 * x12) + 1).toNatClampNeg)) (x10 + (m 39 0 ((3 * x12) + 2).toNatClampNeg)) 1 (x12 + 1) m47 Q
                                       else
                                        H_114_444 x7 (x8 + (m 39 0 (3 * x12).toNatClampNeg)) (x9 + (m 39 0 ((3 * x12) + 1).toNatClampNeg)) (x10 + (m 39 0 ((3 * x12) + 2).toNatClampNeg)) 0 (x12 + 1) m47 Q))
                                   else
                                    H_114_444 x7 (x8 + (m 39 0 (3 * x12).toNatClampNeg)) (x9 + (m 39 0 ((3 * x12) + 1).toNatClampNeg)) (x10 + (m 39 0 ((3 * x12) + 2).toNatClampNeg)) 0 (x12 + 1) m43 Q))
                                 else
                                  H_114_444 x7 (x8 + (m 39 0 (3 * x12).toNatClampNeg)) (x9 + (m 39 0 ((3 * x12) + 1).toNatClampNeg)) (x10 + (m 39 0 ((3 * x12) + 2).toNatClampNeg)) 0 (x12 + 1) m40 Q))
                               else
                                H_114_444 x7 (x8 + (m 39 0 (3 * x12).toNatClampNeg)) (x9 + (m 39 0 ((3 * x12) + 1).toNatClampNeg)) (x10 + (m 39 0 ((3 * x12) + 2).toNatClampNeg)) 0 (x12 + 1) m37 Q))
                             else
                              H_114_444 x7 (x8 + (m 39 0 (3 * x12).toNatClampNeg)) (x9 + (m 39 0 ((3 * x12) + 1).toNatClampNeg)) (x10 + (m 39 0 ((3 * x12) + 2).toNatClampNeg)) 0 (x12 + 1) m34 Q))
                           else
                            H_114_444 x7 (x8 + (m 39 0 (3 * x12).toNatClampNeg)) (x9 + (m 39 0 ((3 * x12) + 1).toNatClampNeg)) (x10 + (m 39 0 ((3 * x12) + 2).toNatClampNeg)) 0 (x12 + 1) m31 Q))
                         else
                          H_114_444 x7 (x8 + (m 39 0 (3 * x12).toNatClampNeg)) (x9 + (m 39 0 ((3 * x12) + 1).toNatClampNeg)) (x10 + (m 39 0 ((3 * x12) + 2).toNatClampNeg)) 0 (x12 + 1) m28 Q))
                       else
                        H_114_444 x7 (x8 + (m 39 0 (3 * x12).toNatClampNeg)) (x9 + (m 39 0 ((3 * x12) + 1).toNatClampNeg)) (x10 + (m 39 0 ((3 * x12) + 2).toNatClampNeg)) 0 (x12 + 1) m25 Q))
                     else
                      H_114_444 x7 (x8 + (m 39 0 (3 * x12).toNatClampNeg)) (x9 + (m 39 0 ((3 * x12) + 1).toNatClampNeg)) (x10 + (m 39 0 ((3 * x12) + 2).toNatClampNeg)) 0 (x12 + 1) m22 Q))
                   else
                    H_114_444 x7 (x8 + (m 39 0 (3 * x12).toNatClampNeg)) (x9 + (m 39 0 ((3 * x12) + 1).toNatClampNeg)) (x10 + (m 39 0 ((3 * x12) + 2).toNatClampNeg)) 0 (x12 + 1) m18 Q))
                else
                 H_114_444 x7 (x8 + (m 39 0 (3 * x12).toNatClampNeg)) (x9 + (m 39 0 ((3 * x12) + 1).toNatClampNeg)) (x10 + (m 39 0 ((3 * x12) + 2).toNatClampNeg)) 0 (x12 + 1) m14 Q))
             else
              H_114_444 x7 (x8 + (m 39 0 (3 * x12).toNatClampNeg)) (x9 + (m 39 0 ((3 * x12) + 1).toNatClampNeg)) (x10 + (m 39 0 ((3 * x12) + 2).toNatClampNeg)) 0 (x12 + 1) m10 Q))
          else
           H_114_444 x7 (x8 + (m 39 0 (3 * x12).toNatClampNeg)) (x9 + (m 39 0 ((3 * x12) + 1).toNatClampNeg)) (x10 + (m 39 0 ((3 * x12) + 2).toNatClampNeg)) 0 (x12 + 1) m6 Q)
  ) : H_114_464 x7 x8 x9 x10 x11 x12 x13 m Q := by
  intro d14 d15
  show Rg 114 464 [some (.inr (27, 0)), some (.inr (34, 0)), some (.inr (35, 0)), some (.inr (36, 0)), some (.inr (37, 0)), some (.inr (38, 0)), some (.inr (39, 0)), some (.inl x7), some (.inl x8), some (.inl x9), some (.inl x10), some (.inl x11), some (.inl x12), some (.inl x13), d14, d15] [] m (qI Q)
  refine r_iload L_114_464 rfl ?_
  refine r_iload L_114_466 rfl ?_
  refine r_iadd L_114_468 ?_
  refine r_aload_n L_114_469 rfl ?_
  refine r_bipush L_114_470 kB_6 ?_
  refine r_iald (N := 8) (j := 6) L_114_472 (by decide +kernel) rfl (by decide +kernel) (by decide +kernel) ?_
  obtain ⟨g1, h⟩ := h
  refine r_irem L_114_473 g1 ?_
  refine r_ifn L_114_474 cc_le (i_mono h (fun c2 h => ?_) (fun c2 h => ?_))
  · refine r_iinc (ls1 := [some (.inr (27, 0)), some (.inr (34, 0)), some (.inr (35, 0)), some (.inr (36, 0)), some (.inr (37, 0)), some (.inr (38, 0)), some (.inr (39, 0)), some (.inl x7), some (.inl x8), some (.inl x9), some (.inl x10), some (.inl x11), some (.inl x12), some (.inl (x13 + 1)), d14, d15]) L_114_477 kI_1 rfl (Nat.le_of_ble_eq_true rfl) rfl ?_
    refine r_goto L_114_480 ?_
    exact h _ _
  · refine r_iload L_114_483 rfl ?_
    refine r_aload L_114_485 rfl ?_
    refine r_iconst L_114_487 kI_3 ?_
    refine r_iload L_114_488 rfl ?_
    refine r_imul L_114_490 ?_
    obtain ⟨g3, h⟩ := h
    refine r_iald (N := 48) (j := (3 * x12).toNatClampNeg) L_114_491 (by decide +kernel) rfl g3 rfl ?_
    refine r_iadd L_114_492 ?_
    refine r_istore (ls1 := [some (.inr (27, 0)), some (.inr (34, 0)), some (.inr (35, 0)), some (.inr (36, 0)), some (.inr (37, 0)), some (.inr (38, 0)), some (.inr (39, 0)), some (.inl x7), some (.inl (x8 + (m 39 0 (3 * x12).toNatClampNeg))), some (.inl x9), some (.inl x10), some (.inl x11), some (.inl x12), some (.inl x13), d14, d15]) L_114_493 (Nat.le_of_ble_eq_true rfl) rfl ?_
    refine r_iload L_114_495 rfl ?_
    refine r_aload L_114_497 rfl ?_
    refine r_iconst L_114_499 kI_3 ?_
    refine r_iload L_114_500 rfl ?_
    refine r_imul L_114_502 ?_
    refine r_iconst L_114_503 kI_1 ?_
    refine r_iadd L_114_504 ?_
    obtain ⟨g4, h⟩ := h
    refine r_iald (N := 48) (j := ((3 * x12) + 1).toNatClampNeg) L_114_505 (by decide +kernel) rfl g4 rfl ?_
    refine r_iadd L_114_506 ?_
    refine r_istore (ls1 := [some (.inr (27, 0)), some (.inr (34, 0)), some (.inr (35, 0)), some (.inr (36, 0)), some (.inr (37, 0)), some (.inr (38, 0)), some (.inr (39, 0)), some (.inl x7), some (.inl (x8 + (m 39 0 (3 * x12).toNatClampNeg))), some (.inl (x9 + (m 39 0 ((3 * x12) + 1).toNatClampNeg))), some (.inl x10), some (.inl x11), some (.inl x12), some (.inl x13), d14, d15]) L_114_507 (Nat.le_of_ble_eq_true rfl) rfl ?_
    refine r_iload L_114_509 rfl ?_
    refine r_aload L_114_511 rfl ?_
    refine r_iconst L_114_513 kI_3 ?_
    refine r_iload L_114_514 rfl ?_
    refine r_imul L_114_516 ?_
    refine r_iconst L_114_517 kI_2 ?_
    refine r_iadd L_114_518 ?_
    obtain ⟨g5, h⟩ := h
    refine r_iald (N := 48) (j := ((3 * x12) + 2).toNatClampNeg) L_114_519 (by decide +kernel) rfl g5 rfl ?_
    refine r_iadd L_114_520 ?_
    refine r_istore (ls1 := [some (.inr (27, 0)), some (.inr (34, 0)), some (.inr (35, 0)), some (.inr (36, 0)), some (.inr (37, 0)), some (.inr (38, 0)), some (.inr (39, 0)), some (.inl x7), some (.inl (x8 + (m 39 0 (3 * x12).toNatClampNeg))), some (.inl (x9 + (m 39 0 ((3 * x12) + 1).toNatClampNeg))), some (.inl (x10 + (m 39 0 ((3 * x12) + 2).toNatClampNeg))), some (.inl x11), some (.inl x12), some (.inl x13), d14, d15]) L_114_521 (Nat.le_of_ble_eq_true rfl) rfl ?_
    refine r_aload_n L_114_523 rfl ?_
    refine r_iload L_114_524 rfl ?_
    refine r_iconst L_114_526 kI_0 ?_
    refine r_cv L_114_527 rfl (Mi_mono h fun v7 m6 h => ?_)
    refine r_aload L_114_530 rfl ?_
    refine r_iconst L_114_532 kI_4 ?_
    refine r_iload L_114_533 rfl ?_
    refine r_imul L_114_535 ?_
    obtain ⟨g8, h⟩ := h
    refine r_iald (N := 64) (j := (4 * x12).toNatClampNeg) L_114_536 (by decide +kernel) rfl g8 rfl ?_
    refine r_icmpn L_114_537 rfl (i_mono h (fun c9 h => ?_) (fun c9 h => ?_))
    · refine r_aload_n L_114_540 rfl ?_
      refine r_iload L_114_541 rfl ?_
      refine r_iconst L_114_543 kI_1 ?_
      refine r_cv L_114_544 rfl (Mi_mono h fun v11 m10 h => ?_)
      refine r_aload L_114_547 rfl ?_
      refine r_iconst L_114_549 kI_4 ?_
      refine r_iload L_114_550 rfl ?_
      refine r_imul L_114_552 ?_
      refine r_iconst L_114_553 kI_1 ?_
      refine r_iadd L_114_554 ?_
      obtain ⟨g12, h⟩ := h
      refine r_iald (N := 64) (j := ((4 * x12) + 1).toNatClampNeg) L_114_555 (by decide +kernel) rfl g12 rfl ?_
      refine r_icmpn L_114_556 rfl (i_mono h (fun c13 h => ?_) (fun c13 h => ?_))
      · refine r_aload_n L_114_559 rfl ?_
        refine r_iload L_114_560 rfl ?_
        refine r_iconst L_114_562 kI_2 ?_
        refine r_cv L_114_563 rfl (Mi_mono h fun v15 m14 h => ?_)
        refine r_aload L_114_566 rfl ?_
        refine r_iconst L_114_568 kI_4 ?_
        refine r_iload L_114_569 rfl ?_
        refine r_imul L_114_571 ?_
        refine r_iconst L_114_572 kI_2 ?_
        refine r_iadd L_114_573 ?_
        obtain ⟨g16, h⟩ := h
        refine r_iald (N := 64) (j := ((4 * x12) + 2).toNatClampNeg) L_114_574 (by decide +kernel) rfl g16 rfl ?_
        refine r_icmpn L_114_575 rfl (i_mono h (fun c17 h => ?_) (fun c17 h => ?_))
        · refine r_aload_n L_114_578 rfl ?_
          refine r_iload L_114_579 rfl ?_
          refine r_iconst L_114_581 kI_3 ?_
          refine r_cv L_114_582 rfl (Mi_mono h fun v19 m18 h => ?_)
          refine r_aload L_114_585 rfl ?_
          refine r_iconst L_114_587 kI_4 ?_
          refine r_iload L_114_588 rfl ?_
          refine r_imul L_114_590 ?_
          refine r_iconst L_114_591 kI_3 ?_
          refine r_iadd L_114_592 ?_
          obtain ⟨g20, h⟩ := h
          refine r_iald (N := 64) (j := ((4 * x12) + 3).toNatClampNeg) L_114_593 (by decide +kernel) rfl g20 rfl ?_
          refine r_icmpn L_114_594 rfl (i_mono h (fun c21 h => ?_) (fun c21 h => ?_))
          · refine r_aload_n L_114_597 rfl ?_
            refine r_iload L_114_598 rfl ?_
            refine r_iconst L_114_600 kI_4 ?_
            refine r_cv L_114_601 rfl (Mi_mono h fun v23 m22 h => ?_)
            refine r_aload L_114_604 rfl ?_
            refine r_iconst L_114_606 kI_3 ?_
            refine r_iload L_114_607 rfl ?_
            refine r_imul L_114_609 ?_
            refine r_iald (N := 48) (j := (3 * x12).toNatClampNeg) L_114_610 (by decide +kernel) rfl g3 rfl ?_
            refine r_icmpn L_114_611 rfl (i_mono h (fun c24 h => ?_) (fun c24 h => ?_))
            · refine r_aload_n L_114_614 rfl ?_
              refine r_iload L_114_615 rfl ?_
              refine r_iconst L_114_617 kI_5 ?_
              refine r_cv L_114_618 rfl (Mi_mono h fun v26 m25 h => ?_)
              refine r_aload L_114_621 rfl ?_
              refine r_iconst L_114_623 kI_3 ?_
              refine r_iload L_114_624 rfl ?_
              refine r_imul L_114_626 ?_
              refine r_iconst L_114_627 kI_1 ?_
              refine r_iadd L_114_628 ?_
              refine r_iald (N := 48) (j := ((3 * x12) + 1).toNatClampNeg) L_114_629 (by decide +kernel) rfl g4 rfl ?_
              refine r_icmpn L_114_630 rfl (i_mono h (fun c27 h => ?_) (fun c27 h => ?_))
              · refine r_aload_n L_114_633 rfl ?_
                refine r_iload L_114_634 rfl ?_
                refine r_bipush L_114_636 kB_6 ?_
                refine r_cv L_114_638 rfl (Mi_mono h fun v29 m28 h => ?_)
                refine r_aload L_114_641 rfl ?_
                refine r_iconst L_114_643 kI_3 ?_
                refine r_iload L_114_644 rfl ?_
                refine r_imul L_114_646 ?_
                refine r_iconst L_114_647 kI_2 ?_
                refine r_iadd L_114_648 ?_
                refine r_iald (N := 48) (j := ((3 * x12) + 2).toNatClampNeg) L_114_649 (by decide +kernel) rfl g5 rfl ?_
                refine r_icmpn L_114_650 rfl (i_mono h (fun c30 h => ?_) (fun c30 h => ?_))
                · refine r_aload_n L_114_653 rfl ?_
                  refine r_iload L_114_654 rfl ?_
                  refine r_bipush L_114_656 kB_7 ?_
                  refine r_cv L_114_658 rfl (Mi_mono h fun v32 m31 h => ?_)
                  refine r_aload L_114_661 rfl ?_
                  refine r_iconst L_114_663 kI_3 ?_
                  refine r_iload L_114_664 rfl ?_
                  refine r_imul L_114_666 ?_
                  refine r_iald (N := 48) (j := (3 * x12).toNatClampNeg) L_114_667 (by decide +kernel) rfl g3 rfl ?_
                  refine r_icmpn L_114_668 rfl (i_mono h (fun c33 h => ?_) (fun c33 h => ?_))
                  · refine r_aload_n L_114_671 rfl ?_
                    refine r_iload L_114_672 rfl ?_
                    refine r_bipush L_114_674 kB_8 ?_
                    refine r_cv L_114_676 rfl (Mi_mono h fun v35 m34 h => ?_)
                    refine r_aload L_114_679 rfl ?_
                    refine r_iconst L_114_681 kI_3 ?_
                    refine r_iload L_114_682 rfl ?_
                    refine r_imul L_114_684 ?_
                    refine r_iconst L_114_685 kI_1 ?_
                    refine r_iadd L_114_686 ?_
                    refine r_iald (N := 48) (j := ((3 * x12) + 1).toNatClampNeg) L_114_687 (by decide +kernel) rfl g4 rfl ?_
                    refine r_icmpn L_114_688 rfl (i_mono h (fun c36 h => ?_) (fun c36 h => ?_))
                    · refine r_aload_n L_114_691 rfl ?_
                      refine r_iload L_114_692 rfl ?_
                      refine r_bipush L_114_694 kB_9 ?_
                      refine r_cv L_114_696 rfl (Mi_mono h fun v38 m37 h => ?_)
                      refine r_aload L_114_699 rfl ?_
                      refine r_iconst L_114_701 kI_3 ?_
                      refine r_iload L_114_702 rfl ?_
                      refine r_imul L_114_704 ?_
                      refine r_iconst L_114_705 kI_2 ?_
                      refine r_iadd L_114_706 ?_
                      refine r_iald (N := 48) (j := ((3 * x12) + 2).toNatClampNeg) L_114_707 (by decide +kernel) rfl g5 rfl ?_
                      refine r_icmpn L_114_708 rfl (i_mono h (fun c39 h => ?_) (fun c39 h => ?_))
                      · refine r_aload_n L_114_711 rfl ?_
                        refine r_iload L_114_712 rfl ?_
                        refine r_bipush L_114_714 kB_10 ?_
                        refine r_cv L_114_716 rfl (Mi_mono h fun v41 m40 h => ?_)
                        refine r_iload L_114_719 rfl ?_
                        refine r_icmpn L_114_721 rfl (i_mono h (fun c42 h => ?_) (fun c42 h => ?_))
                        · refine r_aload_n L_114_724 rfl ?_
                          refine r_iload L_114_725 rfl ?_
                          refine r_bipush L_114_727 kB_11 ?_
                          refine r_cv L_114_729 rfl (Mi_mono h fun v44 m43 h => ?_)
                          refine r_bipush L_114_732 kB_m2 ?_
                          refine r_icmpn L_114_734 rfl (i_mono h (fun c45 h => ?_) (fun c45 h => ?_))
                          · refine r_iconst L_114_737 kI_1 ?_
                            refine r_goto L_114_738 ?_
                            refine r_istore (ls1 := [some (.inr (27, 0)), some (.inr (34, 0)), some (.inr (35, 0)), some (.inr (36, 0)), some (.inr (37, 0)), some (.inr (38, 0)), some (.inr (39, 0)), some (.inl x7), some (.inl (x8 + (m 39 0 (3 * x12).toNatClampNeg))), some (.inl (x9 + (m 39 0 ((3 * x12) + 1).toNatClampNeg))), some (.inl (x10 + (m 39 0 ((3 * x12) + 2).toNatClampNeg))), some (.inl 1), some (.inl x12), some (.inl x13), d14, d15]) L_114_742 (Nat.le_of_ble_eq_true rfl) rfl ?_
                            refine r_iload L_114_744 rfl ?_
                            refine r_if (p := ((1 : Int32) = 0)) L_114_746 rfl (i_neg (by decide +kernel) ?_)
                            refine r_aload L_114_749 rfl ?_
                            refine r_iconst L_114_751 kI_4 ?_
                            refine r_iload L_114_752 rfl ?_
                            refine r_imul L_114_754 ?_
                            refine r_iconst L_114_755 kI_3 ?_
                            refine r_iadd L_114_756 ?_
                            refine r_iald (N := 64) (j := ((4 * x12) + 3).toNatClampNeg) L_114_757 (by decide +kernel) rfl g20 rfl ?_
                            refine r_if L_114_758 rfl (i_mono h (fun c46 h => ?_) (fun c46 h => ?_))
                            · refine r_iconst L_114_807 kI_1 ?_
                              refine r_goto L_114_808 ?_
                              refine r_istore (ls1 := [some (.inr (27, 0)), some (.inr (34, 0)), some (.inr (35, 0)), some (.inr (36, 0)), some (.inr (37, 0)), some (.inr (38, 0)), some (.inr (39, 0)), some (.inl x7), some (.inl (x8 + (m 39 0 (3 * x12).toNatClampNeg))), some (.inl (x9 + (m 39 0 ((3 * x12) + 1).toNatClampNeg))), some (.inl (x10 + (m 39 0 ((3 * x12) + 2).toNatClampNeg))), some (.inl 1), some (.inl x12), some (.inl x13), d14, d15]) L_114_812 (Nat.le_of_ble_eq_true rfl) rfl ?_
                              refine r_iinc (ls1 := [some (.inr (27, 0)), some (.inr (34, 0)), some (.inr (35, 0)), some (.inr (36, 0)), some (.inr (37, 0)), some (.inr (38, 0)), some (.inr (39, 0)), some (.inl x7), some (.inl (x8 + (m 39 0 (3 * x12).toNatClampNeg))), some (.inl (x9 + (m 39 0 ((3 * x12) + 1).toNatClampNeg))), some (.inl (x10 + (m 39 0 ((3 * x12) + 2).toNatClampNeg))), some (.inl 1), some (.inl (x12 + 1)), some (.inl x13), d14, d15]) L_114_814 kI_1 rfl (Nat.le_of_ble_eq_true rfl) rfl ?_
                              refine r_goto L_114_817 ?_
                              exact h _ _ _
                            · refine r_aload_n L_114_761 rfl ?_
                              refine r_aload_n L_114_762 rfl ?_
                              refine r_aload_n L_114_763 rfl ?_
                              refine r_aload L_114_764 rfl ?_
                              refine r_iload L_114_766 rfl ?_
                              refine r_aload L_114_768 rfl ?_
                              refine r_iconst L_114_770 kI_4 ?_
                              refine r_iload L_114_771 rfl ?_
                              refine r_imul L_114_773 ?_
                              refine r_iconst L_114_774 kI_3 ?_
                              refine r_iadd L_114_775 ?_
                              refine r_iald (N := 64) (j := ((4 * x12) + 3).toNatClampNeg) L_114_776 (by decide +kernel) rfl g20 rfl ?_
                              refine r_aload L_114_777 rfl ?_
                              refine r_iconst L_114_779 kI_3 ?_
                              refine r_iload L_114_780 rfl ?_
                              refine r_imul L_114_782 ?_
                              refine r_iald (N := 48) (j := (3 * x12).toNatClampNeg) L_114_783 (by decide +kernel) rfl g3 rfl ?_
                              refine r_cs L_114_784 (by decide) rfl (Mi_mono h fun v48 m47 h => ?_)
                              refine r_aload L_114_787 rfl ?_
                              refine r_iconst L_114_789 kI_3 ?_
                              refine r_iload L_114_790 rfl ?_
                              refine r_imul L_114_792 ?_
                              refine r_iconst L_114_793 kI_2 ?_
                              refine r_iadd L_114_794 ?_
                              refine r_iald (N := 48) (j := ((3 * x12) + 2).toNatClampNeg) L_114_795 (by decide +kernel) rfl g5 rfl ?_
                              refine r_ifn L_114_796 cc_ge (i_mono h (fun c49 h => ?_) (fun c49 h => ?_))
                              · refine r_iconst L_114_799 kI_1 ?_
                                refine r_goto L_114_800 ?_
                                refine r_icmpn L_114_804 rfl (i_mono h (fun c50 h => ?_) (fun c50 h => ?_))
                                · refine r_iconst L_114_807 kI_1 ?_
                                  refine r_goto L_114_808 ?_
                                  refine r_istore (ls1 := [some (.inr (27, 0)), some (.inr (34, 0)), some (.inr (35, 0)), some (.inr (36, 0)), some (.inr (37, 0)), some (.inr (38, 0)), some (.inr (39, 0)), some (.inl x7), some (.inl (x8 + (m 39 0 (3 * x12).toNatClampNeg))), some (.inl (x9 + (m 39 0 ((3 * x12) + 1).toNatClampNeg))), some (.inl (x10 + (m 39 0 ((3 * x12) + 2).toNatClampNeg))), some (.inl 1), some (.inl x12), some (.inl x13), d14, d15]) L_114_812 (Nat.le_of_ble_eq_true rfl) rfl ?_
                                  refine r_iinc (ls1 := [some (.inr (27, 0)), some (.inr (34, 0)), some (.inr (35, 0)), some (.inr (36, 0)), some (.inr (37, 0)), some (.inr (38, 0)), some (.inr (39, 0)), some (.inl x7), some (.inl (x8 + (m 39 0 (3 * x12).toNatClampNeg))), some (.inl (x9 + (m 39 0 ((3 * x12) + 1).toNatClampNeg))), some (.inl (x10 + (m 39 0 ((3 * x12) + 2).toNatClampNeg))), some (.inl 1), some (.inl (x12 + 1)), some (.inl x13), d14, d15]) L_114_814 kI_1 rfl (Nat.le_of_ble_eq_true rfl) rfl ?_
                                  refine r_goto L_114_817 ?_
                                  exact h _ _ _
                                · refine r_iconst L_114_811 kI_0 ?_
                                  refine r_istore (ls1 := [some (.inr (27, 0)), some (.inr (34, 0)), some (.inr (35, 0)), some (.inr (36, 0)), some (.inr (37, 0)), some (.inr (38, 0)), some (.inr (39, 0)), some (.inl x7), some (.inl (x8 + (m 39 0 (3 * x12).toNatClampNeg))), some (.inl (x9 + (m 39 0 ((3 * x12) + 1).toNatClampNeg))), some (.inl (x10 + (m 39 0 ((3 * x12) + 2).toNatClampNeg))), some (.inl 0), some (.inl x12), some (.inl x13), d14, d15]) L_114_812 (Nat.le_of_ble_eq_true rfl) rfl ?_
                                  refine r_iinc (ls1 := [some (.inr (27, 0)), some (.inr (34, 0)), some (.inr (35, 0)), some (.inr (36, 0)), some (.inr (37, 0)), some (.inr (38, 0)), some (.inr (39, 0)), some (.inl x7), some (.inl (x8 + (m 39 0 (3 * x12).toNatClampNeg))), some (.inl (x9 + (m 39 0 ((3 * x12) + 1).toNatClampNeg))), some (.inl (x10 + (m 39 0 ((3 * x12) + 2).toNatClampNeg))), some (.inl 0), some (.inl (x12 + 1)), some (.inl x13), d14, d15]) L_114_814 kI_1 rfl (Nat.le_of_ble_eq_true rfl) rfl ?_
                                  refine r_goto L_114_817 ?_
                                  exact h _ _ _
                              · refine r_iconst L_114_803 kI_0 ?_
                                refine r_icmpn L_114_804 rfl (i_mono h (fun c51 h => ?_) (fun c51 h => ?_))
                                · refine r_iconst L_114_807 kI_1 ?_
                                  refine r_goto L_114_808 ?_
                                  refine r_istore (ls1 := [some (.inr (27, 0)), some (.inr (34, 0)), some (.inr (35, 0)), some (.inr (36, 0)), some (.inr (37, 0)), some (.inr (38, 0)), some (.inr (39, 0)), some (.inl x7), some (.inl (x8 + (m 39 0 (3 * x12).toNatClampNeg))), some (.inl (x9 + (m 39 0 ((3 * x12) + 1).toNatClampNeg))), some (.inl (x10 + (m 39 0 ((3 * x12) + 2).toNatClampNeg))), some (.inl 1), some (.inl x12), some (.inl x13), d14, d15]) L_114_812 (Nat.le_of_ble_eq_true rfl) rfl ?_
                                  refine r_iinc (ls1 := [some (.inr (27, 0)), some (.inr (34, 0)), some (.inr (35, 0)), some (.inr (36, 0)), some (.inr (37, 0)), some (.inr (38, 0)), some (.inr (39, 0)), some (.inl x7), some (.inl (x8 + (m 39 0 (3 * x12).toNatClampNeg))), some (.inl (x9 + (m 39 0 ((3 * x12) + 1).toNatClampNeg))), some (.inl (x10 + (m 39 0 ((3 * x12) + 2).toNatClampNeg))), some (.inl 1), some (.inl (x12 + 1)), some (.inl x13), d14, d15]) L_114_814 kI_1 rfl (Nat.le_of_ble_eq_true rfl) rfl ?_
                                  refine r_goto L_114_817 ?_
                                  exact h _ _ _
                                · refine r_iconst L_114_811 kI_0 ?_
                                  refine r_istore (ls1 := [some (.inr (27, 0)), some (.inr (34, 0)), some (.inr (35, 0)), some (.inr (36, 0)), some (.inr (37, 0)), some (.inr (38, 0)), some (.inr (39, 0)), some (.inl x7), some (.inl (x8 + (m 39 0 (3 * x12).toNatClampNeg))), some (.inl (x9 + (m 39 0 ((3 * x12) + 1).toNatClampNeg))), some (.inl (x10 + (m 39 0 ((3 * x12) + 2).toNatClampNeg))), some (.inl 0), some (.inl x12), some (.inl x13), d14, d15]) L_114_812 (Nat.le_of_ble_eq_true rfl) rfl ?_
                                  refine r_iinc (ls1 := [some (.inr (27, 0)), some (.inr (34, 0)), some (.inr (35, 0)), some (.inr (36, 0)), some (.inr (37, 0)), some (.inr (38, 0)), some (.inr (39, 0)), some (.inl x7), some (.inl (x8 + (m 39 0 (3 * x12).toNatClampNeg))), some (.inl (x9 + (m 39 0 ((3 * x12) + 1).toNatClampNeg))), some (.inl (x10 + (m 39 0 ((3 * x12) + 2).toNatClampNeg))), some (.inl 0), some (.inl (x12 + 1)), some (.inl x13), d14, d15]) L_114_814 kI_1 rfl (Nat.le_of_ble_eq_true rfl) rfl ?_
                                  refine r_goto L_114_817 ?_
                                  exact h _ _ _
                          · refine r_iconst L_114_741 kI_0 ?_
                            refine r_istore (ls1 := [some (.inr (27, 0)), some (.inr (34, 0)), some (.inr (35, 0)), some (.inr (36, 0)), some (.inr (37, 0)), some (.inr (38, 0)), some (.inr (39, 0)), some (.inl x7), some (.inl (x8 + (m 39 0 (3 * x12).toNatClampNeg))), some (.inl (x9 + (m 39 0 ((3 * x12) + 1).toNatClampNeg))), some (.inl (x10 + (m 39 0 ((3 * x12) + 2).toNatClampNeg))), some (.inl 0), some (.inl x12), some (.inl x13), d14, d15]) L_114_742 (Nat.le_of_ble_eq_true rfl) rfl ?_
                            refine r_iload L_114_744 rfl ?_
                            refine r_if (p := ((0 : Int32) = 0)) L_114_746 rfl (i_pos (by decide +kernel) ?_)
                            refine r_iconst L_114_811 kI_0 ?_
                            refine r_istore (ls1 := [some (.inr (27, 0)), some (.inr (34, 0)), some (.inr (35, 0)), some (.inr (36, 0)), some (.inr (37, 0)), some (.inr (38, 0)), some (.inr (39, 0)), some (.inl x7), some (.inl (x8 + (m 39 0 (3 * x12).toNatClampNeg))), some (.inl (x9 + (m 39 0 ((3 * x12) + 1).toNatClampNeg))), some (.inl (x10 + (m 39 0 ((3 * x12) + 2).toNatClampNeg))), some (.inl 0), some (.inl x12), some (.inl x13), d14, d15]) L_114_812 (Nat.le_of_ble_eq_true rfl) rfl ?_
                            refine r_iinc (ls1 := [some (.inr (27, 0)), some (.inr (34, 0)), some (.inr (35, 0)), some (.inr (36, 0)), some (.inr (37, 0)), some (.inr (38, 0)), some (.inr (39, 0)), some (.inl x7), some (.inl (x8 + (m 39 0 (3 * x12).toNatClampNeg))), some (.inl (x9 + (m 39 0 ((3 * x12) + 1).toNatClampNeg))), some (.inl (x10 + (m 39 0 ((3 * x12) + 2).toNatClampNeg))), some (.inl 0), some (.inl (x12 + 1)), some (.inl x13), d14, d15]) L_114_814 kI_1 rfl (Nat.le_of_ble_eq_true rfl) rfl ?_
                            refine r_goto L_114_817 ?_
                            exact h _ _ _
                        · refine r_iconst L_114_741 kI_0 ?_
                          refine r_istore (ls1 := [some (.inr (27, 0)), some (.inr (34, 0)), some (.inr (35, 0)), some (.inr (36, 0)), some (.inr (37, 0)), some (.inr (38, 0)), some (.inr (39, 0)), some (.inl x7), some (.inl (x8 + (m 39 0 (3 * x12).toNatClampNeg))), some (.inl (x9 + (m 39 0 ((3 * x12) + 1).toNatClampNeg))), some (.inl (x10 + (m 39 0 ((3 * x12) + 2).toNatClampNeg))), some (.inl 0), some (.inl x12), some (.inl x13), d14, d15]) L_114_742 (Nat.le_of_ble_eq_true rfl) rfl ?_
                          refine r_iload L_114_744 rfl ?_
                          refine r_if (p := ((0 : Int32) = 0)) L_114_746 rfl (i_pos (by decide +kernel) ?_)
                          refine r_iconst L_114_811 kI_0 ?_
                          refine r_istore (ls1 := [some (.inr (27, 0)), some (.inr (34, 0)), some (.inr (35, 0)), some (.inr (36, 0)), some (.inr (37, 0)), some (.inr (38, 0)), some (.inr (39, 0)), some (.inl x7), some (.inl (x8 + (m 39 0 (3 * x12).toNatClampNeg))), some (.inl (x9 + (m 39 0 ((3 * x12) + 1).toNatClampNeg))), some (.inl (x10 + (m 39 0 ((3 * x12) + 2).toNatClampNeg))), some (.inl 0), some (.inl x12), some (.inl x13), d14, d15]) L_114_812 (Nat.le_of_ble_eq_true rfl) rfl ?_
                          refine r_iinc (ls1 := [some (.inr (27, 0)), some (.inr (34, 0)), some (.inr (35, 0)), some (.inr (36, 0)), some (.inr (37, 0)), some (.inr (38, 0)), some (.inr (39, 0)), some (.inl x7), some (.inl (x8 + (m 39 0 (3 * x12).toNatClampNeg))), some (.inl (x9 + (m 39 0 ((3 * x12) + 1).toNatClampNeg))), some (.inl (x10 + (m 39 0 ((3 * x12) + 2).toNatClampNeg))), some (.inl 0), some (.inl (x12 + 1)), some (.inl x13), d14, d15]) L_114_814 kI_1 rfl (Nat.le_of_ble_eq_true rfl) rfl ?_
                          refine r_goto L_114_817 ?_
                          exact h _ _ _
                      · refine r_iconst L_114_741 kI_0 ?_
                        refine r_istore (ls1 := [some (.inr (27, 0)), some (.inr (34, 0)), some (.inr (35, 0)), some (.inr (36, 0)), some (.inr (37, 0)), some (.inr (38, 0)), some (.inr (39, 0)), some (.inl x7), some (.inl (x8 + (m 39 0 (3 * x12).toNatClampNeg))), some (.inl (x9 + (m 39 0 ((3 * x12) + 1).toNatClampNeg))), some (.inl (x10 + (m 39 0 ((3 * x12) + 2).toNatClampNeg))), some (.inl 0), some (.inl x12), some (.inl x13), d14, d15]) L_114_742 (Nat.le_of_ble_eq_true rfl) rfl ?_
                        refine r_iload L_114_744 rfl ?_
                        refine r_if (p := ((0 : Int32) = 0)) L_114_746 rfl (i_pos (by decide +kernel) ?_)
                        refine r_iconst L_114_811 kI_0 ?_
                        refine r_istore (ls1 := [some (.inr (27, 0)), some (.inr (34, 0)), some (.inr (35, 0)), some (.inr (36, 0)), some (.inr (37, 0)), some (.inr (38, 0)), some (.inr (39, 0)), some (.inl x7), some (.inl (x8 + (m 39 0 (3 * x12).toNatClampNeg))), some (.inl (x9 + (m 39 0 ((3 * x12) + 1).toNatClampNeg))), some (.inl (x10 + (m 39 0 ((3 * x12) + 2).toNatClampNeg))), some (.inl 0), some (.inl x12), some (.inl x13), d14, d15]) L_114_812 (Nat.le_of_ble_eq_true rfl) rfl ?_
                        refine r_iinc (ls1 := [some (.inr (27, 0)), some (.inr (34, 0)), some (.inr (35, 0)), some (.inr (36, 0)), some (.inr (37, 0)), some (.inr (38, 0)), some (.inr (39, 0)), some (.inl x7), some (.inl (x8 + (m 39 0 (3 * x12).toNatClampNeg))), some (.inl (x9 + (m 39 0 ((3 * x12) + 1).toNatClampNeg))), some (.inl (x10 + (m 39 0 ((3 * x12) + 2).toNatClampNeg))), some (.inl 0), some (.inl (x12 + 1)), some (.inl x13), d14, d15]) L_114_814 kI_1 rfl (Nat.le_of_ble_eq_true rfl) rfl ?_
                        refine r_goto L_114_817 ?_
                        exact h _ _ _
                    · refine r_iconst L_114_741 kI_0 ?_
                      refine r_istore (ls1 := [some (.inr (27, 0)), some (.inr (34, 0)), some (.inr (35, 0)), some (.inr (36, 0)), some (.inr (37, 0)), some (.inr (38, 0)), some (.inr (39, 0)), some (.inl x7), some (.inl (x8 + (m 39 0 (3 * x12).toNatClampNeg))), some (.inl (x9 + (m 39 0 ((3 * x12) + 1).toNatClampNeg))), some (.inl (x10 + (m 39 0 ((3 * x12) + 2).toNatClampNeg))), some (.inl 0), some (.inl x12), some (.inl x13), d14, d15]) L_114_742 (Nat.le_of_ble_eq_true rfl) rfl ?_
                      refine r_iload L_114_744 rfl ?_
                      refine r_if (p := ((0 : Int32) = 0)) L_114_746 rfl (i_pos (by decide +kernel) ?_)
                      refine r_iconst L_114_811 kI_0 ?_
                      refine r_istore (ls1 := [some (.inr (27, 0)), some (.inr (34, 0)), some (.inr (35, 0)), some (.inr (36, 0)), some (.inr (37, 0)), some (.inr (38, 0)), some (.inr (39, 0)), some (.inl x7), some (.inl (x8 + (m 39 0 (3 * x12).toNatClampNeg))), some (.inl (x9 + (m 39 0 ((3 * x12) + 1).toNatClampNeg))), some (.inl (x10 + (m 39 0 ((3 * x12) + 2).toNatClampNeg))), some (.inl 0), some (.inl x12), some (.inl x13), d14, d15]) L_114_812 (Nat.le_of_ble_eq_true rfl) rfl ?_
                      refine r_iinc (ls1 := [some (.inr (27, 0)), some (.inr (34, 0)), some (.inr (35, 0)), some (.inr (36, 0)), some (.inr (37, 0)), some (.inr (38, 0)), some (.inr (39, 0)), some (.inl x7), some (.inl (x8 + (m 39 0 (3 * x12).toNatClampNeg))), some (.inl (x9 + (m 39 0 ((3 * x12) + 1).toNatClampNeg))), some (.inl (x10 + (m 39 0 ((3 * x12) + 2).toNatClampNeg))), some (.inl 0), some (.inl (x12 + 1)), some (.inl x13), d14, d15]) L_114_814 kI_1 rfl (Nat.le_of_ble_eq_true rfl) rfl ?_
                      refine r_goto L_114_817 ?_
                      exact h _ _ _
                  · refine r_iconst L_114_741 kI_0 ?_
                    refine r_istore (ls1 := [some (.inr (27, 0)), some (.inr (34, 0)), some (.inr (35, 0)), some (.inr (36, 0)), some (.inr (37, 0)), some (.inr (38, 0)), some (.inr (39, 0)), some (.inl x7), some (.inl (x8 + (m 39 0 (3 * x12).toNatClampNeg))), some (.inl (x9 + (m 39 0 ((3 * x12) + 1).toNatClampNeg))), some (.inl (x10 + (m 39 0 ((3 * x12) + 2).toNatClampNeg))), some (.inl 0), some (.inl x12), some (.inl x13), d14, d15]) L_114_742 (Nat.le_of_ble_eq_true rfl) rfl ?_
                    refine r_iload L_114_744 rfl ?_
                    refine r_if (p := ((0 : Int32) = 0)) L_114_746 rfl (i_pos (by decide +kernel) ?_)
                    refine r_iconst L_114_811 kI_0 ?_
                    refine r_istore (ls1 := [some (.inr (27, 0)), some (.inr (34, 0)), some (.inr (35, 0)), some (.inr (36, 0)), some (.inr (37, 0)), some (.inr (38, 0)), some (.inr (39, 0)), some (.inl x7), some (.inl (x8 + (m 39 0 (3 * x12).toNatClampNeg))), some (.inl (x9 + (m 39 0 ((3 * x12) + 1).toNatClampNeg))), some (.inl (x10 + (m 39 0 ((3 * x12) + 2).toNatClampNeg))), some (.inl 0), some (.inl x12), some (.inl x13), d14, d15]) L_114_812 (Nat.le_of_ble_eq_true rfl) rfl ?_
                    refine r_iinc (ls1 := [some (.inr (27, 0)), some (.inr (34, 0)), some (.inr (35, 0)), some (.inr (36, 0)), some (.inr (37, 0)), some (.inr (38, 0)), some (.inr (39, 0)), some (.inl x7), some (.inl (x8 + (m 39 0 (3 * x12).toNatClampNeg))), some (.inl (x9 + (m 39 0 ((3 * x12) + 1).toNatClampNeg))), some (.inl (x10 + (m 39 0 ((3 * x12) + 2).toNatClampNeg))), some (.inl 0), some (.inl (x12 + 1)), some (.inl x13), d14, d15]) L_114_814 kI_1 rfl (Nat.le_of_ble_eq_true rfl) rfl ?_
                    refine r_goto L_114_817 ?_
                    exact h _ _ _
                · refine r_iconst L_114_741 kI_0 ?_
                  refine r_istore (ls1 := [some (.inr (27, 0)), some (.inr (34, 0)), some (.inr (35, 0)), some (.inr (36, 0)), some (.inr (37, 0)), some (.inr (38, 0)), some (.inr (39, 0)), some (.inl x7), some (.inl (x8 + (m 39 0 (3 * x12).toNatClampNeg))), some (.inl (x9 + (m 39 0 ((3 * x12) + 1).toNatClampNeg))), some (.inl (x10 + (m 39 0 ((3 * x12) + 2).toNatClampNeg))), some (.inl 0), some (.inl x12), some (.inl x13), d14, d15]) L_114_742 (Nat.le_of_ble_eq_true rfl) rfl ?_
                  refine r_iload L_114_744 rfl ?_
                  refine r_if (p := ((0 : Int32) = 0)) L_114_746 rfl (i_pos (by decide +kernel) ?_)
                  refine r_iconst L_114_811 kI_0 ?_
                  refine r_istore (ls1 := [some (.inr (27, 0)), some (.inr (34, 0)), some (.inr (35, 0)), some (.inr (36, 0)), some (.inr (37, 0)), some (.inr (38, 0)), some (.inr (39, 0)), some (.inl x7), some (.inl (x8 + (m 39 0 (3 * x12).toNatClampNeg))), some (.inl (x9 + (m 39 0 ((3 * x12) + 1).toNatClampNeg))), some (.inl (x10 + (m 39 0 ((3 * x12) + 2).toNatClampNeg))), some (.inl 0), some (.inl x12), some (.inl x13), d14, d15]) L_114_812 (Nat.le_of_ble_eq_true rfl) rfl ?_
                  refine r_iinc (ls1 := [some (.inr (27, 0)), some (.inr (34, 0)), some (.inr (35, 0)), some (.inr (36, 0)), some (.inr (37, 0)), some (.inr (38, 0)), some (.inr (39, 0)), some (.inl x7), some (.inl (x8 + (m 39 0 (3 * x12).toNatClampNeg))), some (.inl (x9 + (m 39 0 ((3 * x12) + 1).toNatClampNeg))), some (.inl (x10 + (m 39 0 ((3 * x12) + 2).toNatClampNeg))), some (.inl 0), some (.inl (x12 + 1)), some (.inl x13), d14, d15]) L_114_814 kI_1 rfl (Nat.le_of_ble_eq_true rfl) rfl ?_
                  refine r_goto L_114_817 ?_
                  exact h _ _ _
              · refine r_iconst L_114_741 kI_0 ?_
                refine r_istore (ls1 := [some (.inr (27, 0)), some (.inr (34, 0)), some (.inr (35, 0)), some (.inr (36, 0)), some (.inr (37, 0)), some (.inr (38, 0)), some (.inr (39, 0)), some (.inl x7), some (.inl (x8 + (m 39 0 (3 * x12).toNatClampNeg))), some (.inl (x9 + (m 39 0 ((3 * x12) + 1).toNatClampNeg))), some (.inl (x10 + (m 39 0 ((3 * x12) + 2).toNatClampNeg))), some (.inl 0), some (.inl x12), some (.inl x13), d14, d15]) L_114_742 (Nat.le_of_ble_eq_true rfl) rfl ?_
                refine r_iload L_114_744 rfl ?_
                refine r_if (p := ((0 : Int32) = 0)) L_114_746 rfl (i_pos (by decide +kernel) ?_)
                refine r_iconst L_114_811 kI_0 ?_
                refine r_istore (ls1 := [some (.inr (27, 0)), some (.inr (34, 0)), some (.inr (35, 0)), some (.inr (36, 0)), some (.inr (37, 0)), some (.inr (38, 0)), some (.inr (39, 0)), some (.inl x7), some (.inl (x8 + (m 39 0 (3 * x12).toNatClampNeg))), some (.inl (x9 + (m 39 0 ((3 * x12) + 1).toNatClampNeg))), some (.inl (x10 + (m 39 0 ((3 * x12) + 2).toNatClampNeg))), some (.inl 0), some (.inl x12), some (.inl x13), d14, d15]) L_114_812 (Nat.le_of_ble_eq_true rfl) rfl ?_
                refine r_iinc (ls1 := [some (.inr (27, 0)), some (.inr (34, 0)), some (.inr (35, 0)), some (.inr (36, 0)), some (.inr (37, 0)), some (.inr (38, 0)), some (.inr (39, 0)), some (.inl x7), some (.inl (x8 + (m 39 0 (3 * x12).toNatClampNeg))), some (.inl (x9 + (m 39 0 ((3 * x12) + 1).toNatClampNeg))), some (.inl (x10 + (m 39 0 ((3 * x12) + 2).toNatClampNeg))), some (.inl 0), some (.inl (x12 + 1)), some (.inl x13), d14, d15]) L_114_814 kI_1 rfl (Nat.le_of_ble_eq_true rfl) rfl ?_
                refine r_goto L_114_817 ?_
                exact h _ _ _
            · refine r_iconst L_114_741 kI_0 ?_
              refine r_istore (ls1 := [some (.inr (27, 0)), some (.inr (34, 0)), some (.inr (35, 0)), some (.inr (36, 0)), some (.inr (37, 0)), some (.inr (38, 0)), some (.inr (39, 0)), some (.inl x7), some (.inl (x8 + (m 39 0 (3 * x12).toNatClampNeg))), some (.inl (x9 + (m 39 0 ((3 * x12) + 1).toNatClampNeg))), some (.inl (x10 + (m 39 0 ((3 * x12) + 2).toNatClampNeg))), some (.inl 0), some (.inl x12), some (.inl x13), d14, d15]) L_114_742 (Nat.le_of_ble_eq_true rfl) rfl ?_
              refine r_iload L_114_744 rfl ?_
              refine r_if (p := ((0 : Int32) = 0)) L_114_746 rfl (i_pos (by decide +kernel) ?_)
              refine r_iconst L_114_811 kI_0 ?_
              refine r_istore (ls1 := [some (.inr (27, 0)), some (.inr (34, 0)), some (.inr (35, 0)), some (.inr (36, 0)), some (.inr (37, 0)), some (.inr (38, 0)), some (.inr (39, 0)), some (.inl x7), some (.inl (x8 + (m 39 0 (3 * x12).toNatClampNeg))), some (.inl (x9 + (m 39 0 ((3 * x12) + 1).toNatClampNeg))), some (.inl (x10 + (m 39 0 ((3 * x12) + 2).toNatClampNeg))), some (.inl 0), some (.inl x12), some (.inl x13), d14, d15]) L_114_812 (Nat.le_of_ble_eq_true rfl) rfl ?_
              refine r_iinc (ls1 := [some (.inr (27, 0)), some (.inr (34, 0)), some (.inr (35, 0)), some (.inr (36, 0)), some (.inr (37, 0)), some (.inr (38, 0)), some (.inr (39, 0)), some (.inl x7), some (.inl (x8 + (m 39 0 (3 * x12).toNatClampNeg))), some (.inl (x9 + (m 39 0 ((3 * x12) + 1).toNatClampNeg))), some (.inl (x10 + (m 39 0 ((3 * x12) + 2).toNatClampNeg))), some (.inl 0), some (.inl (x12 + 1)), some (.inl x13), d14, d15]) L_114_814 kI_1 rfl (Nat.le_of_ble_eq_true rfl) rfl ?_
              refine r_goto L_114_817 ?_
              exact h _ _ _
          · refine r_iconst L_114_741 kI_0 ?_
            refine r_istore (ls1 := [some (.inr (27, 0)), some (.inr (34, 0)), some (.inr (35, 0)), some (.inr (36, 0)), some (.inr (37, 0)), some (.inr (38, 0)), some (.inr (39, 0)), some (.inl x7), some (.inl (x8 + (m 39 0 (3 * x12).toNatClampNeg))), some (.inl (x9 + (m 39 0 ((3 * x12) + 1).toNatClampNeg))), some (.inl (x10 + (m 39 0 ((3 * x12) + 2).toNatClampNeg))), some (.inl 0), some (.inl x12), some (.inl x13), d14, d15]) L_114_742 (Nat.le_of_ble_eq_true rfl) rfl ?_
            refine r_iload L_114_744 rfl ?_
            refine r_if (p := ((0 : Int32) = 0)) L_114_746 rfl (i_pos (by decide +kernel) ?_)
            refine r_iconst L_114_811 kI_0 ?_
            refine r_istore (ls1 := [some (.inr (27, 0)), some (.inr (34, 0)), some (.inr (35, 0)), some (.inr (36, 0)), some (.inr (37, 0)), some (.inr (38, 0)), some (.inr (39, 0)), some (.inl x7), some (.inl (x8 + (m 39 0 (3 * x12).toNatClampNeg))), some (.inl (x9 + (m 39 0 ((3 * x12) + 1).toNatClampNeg))), some (.inl (x10 + (m 39 0 ((3 * x12) + 2).toNatClampNeg))), some (.inl 0), some (.inl x12), some (.inl x13), d14, d15]) L_114_812 (Nat.le_of_ble_eq_true rfl) rfl ?_
            refine r_iinc (ls1 := [some (.inr (27, 0)), some (.inr (34, 0)), some (.inr (35, 0)), some (.inr (36, 0)), some (.inr (37, 0)), some (.inr (38, 0)), some (.inr (39, 0)), some (.inl x7), some (.inl (x8 + (m 39 0 (3 * x12).toNatClampNeg))), some (.inl (x9 + (m 39 0 ((3 * x12) + 1).toNatClampNeg))), some (.inl (x10 + (m 39 0 ((3 * x12) + 2).toNatClampNeg))), some (.inl 0), some (.inl (x12 + 1)), some (.inl x13), d14, d15]) L_114_814 kI_1 rfl (Nat.le_of_ble_eq_true rfl) rfl ?_
            refine r_goto L_114_817 ?_
            exact h _ _ _
        · refine r_iconst L_114_741 kI_0 ?_
          refine r_istore (ls1 := [some (.inr (27, 0)), some (.inr (34, 0)), some (.inr (35, 0)), some (.inr (36, 0)), some (.inr (37, 0)), some (.inr (38, 0)), some (.inr (39, 0)), some (.inl x7), some (.inl (x8 + (m 39 0 (3 * x12).toNatClampNeg))), some (.inl (x9 + (m 39 0 ((3 * x12) + 1).toNatClampNeg))), some (.inl (x10 + (m 39 0 ((3 * x12) + 2).toNatClampNeg))), some (.inl 0), some (.inl x12), some (.inl x13), d14, d15]) L_114_742 (Nat.le_of_ble_eq_true rfl) rfl ?_
          refine r_iload L_114_744 rfl ?_
          refine r_if (p := ((0 : Int32) = 0)) L_114_746 rfl (i_pos (by decide +kernel) ?_)
          refine r_iconst L_114_811 kI_0 ?_
          refine r_istore (ls1 := [some (.inr (27, 0)), some (.inr (34, 0)), some (.inr (35, 0)), some (.inr (36, 0)), some (.inr (37, 0)), some (.inr (38, 0)), some (.inr (39, 0)), some (.inl x7), some (.inl (x8 + (m 39 0 (3 * x12).toNatClampNeg))), some (.inl (x9 + (m 39 0 ((3 * x12) + 1).toNatClampNeg))), some (.inl (x10 + (m 39 0 ((3 * x12) + 2).toNatClampNeg))), some (.inl 0), some (.inl x12), some (.inl x13), d14, d15]) L_114_812 (Nat.le_of_ble_eq_true rfl) rfl ?_
          refine r_iinc (ls1 := [some (.inr (27, 0)), some (.inr (34, 0)), some (.inr (35, 0)), some (.inr (36, 0)), some (.inr (37, 0)), some (.inr (38, 0)), some (.inr (39, 0)), some (.inl x7), some (.inl (x8 + (m 39 0 (3 * x12).toNatClampNeg))), some (.inl (x9 + (m 39 0 ((3 * x12) + 1).toNatClampNeg))), some (.inl (x10 + (m 39 0 ((3 * x12) + 2).toNatClampNeg))), some (.inl 0), some (.inl (x12 + 1)), some (.inl x13), d14, d15]) L_114_814 kI_1 rfl (Nat.le_of_ble_eq_true rfl) rfl ?_
          refine r_goto L_114_817 ?_
          exact h _ _ _
      · refine r_iconst L_114_741 kI_0 ?_
        refine r_istore (ls1 := [some (.inr (27, 0)), some (.inr (34, 0)), some (.inr (35, 0)), some (.inr (36, 0)), some (.inr (37, 0)), some (.inr (38, 0)), some (.inr (39, 0)), some (.inl x7), some (.inl (x8 + (m 39 0 (3 * x12).toNatClampNeg))), some (.inl (x9 + (m 39 0 ((3 * x12) + 1).toNatClampNeg))), some (.inl (x10 + (m 39 0 ((3 * x12) + 2).toNatClampNeg))), some (.inl 0), some (.inl x12), some (.inl x13), d14, d15]) L_114_742 (Nat.le_of_ble_eq_true rfl) rfl ?_
        refine r_iload L_114_744 rfl ?_
        refine r_if (p := ((0 : Int32) = 0)) L_114_746 rfl (i_pos (by decide +kernel) ?_)
        refine r_iconst L_114_811 kI_0 ?_
        refine r_istore (ls1 := [some (.inr (27, 0)), some (.inr (34, 0)), some (.inr (35, 0)), some (.inr (36, 0)), some (.inr (37, 0)), some (.inr (38, 0)), some (.inr (39, 0)), some (.inl x7), some (.inl (x8 + (m 39 0 (3 * x12).toNatClampNeg))), some (.inl (x9 + (m 39 0 ((3 * x12) + 1).toNatClampNeg))), some (.inl (x10 + (m 39 0 ((3 * x12) + 2).toNatClampNeg))), some (.inl 0), some (.inl x12), some (.inl x13), d14, d15]) L_114_812 (Nat.le_of_ble_eq_true rfl) rfl ?_
        refine r_iinc (ls1 := [some (.inr (27, 0)), some (.inr (34, 0)), some (.inr (35, 0)), some (.inr (36, 0)), some (.inr (37, 0)), some (.inr (38, 0)), some (.inr (39, 0)), some (.inl x7), some (.inl (x8 + (m 39 0 (3 * x12).toNatClampNeg))), some (.inl (x9 + (m 39 0 ((3 * x12) + 1).toNatClampNeg))), some (.inl (x10 + (m 39 0 ((3 * x12) + 2).toNatClampNeg))), some (.inl 0), some (.inl (x12 + 1)), some (.inl x13), d14, d15]) L_114_814 kI_1 rfl (Nat.le_of_ble_eq_true rfl) rfl ?_
        refine r_goto L_114_817 ?_
        exact h _ _ _
    · refine r_iconst L_114_741 kI_0 ?_
      refine r_istore (ls1 := [some (.inr (27, 0)), some (.inr (34, 0)), some (.inr (35, 0)), some (.inr (36, 0)), some (.inr (37, 0)), some (.inr (38, 0)), some (.inr (39, 0)), some (.inl x7), some (.inl (x8 + (m 39 0 (3 * x12).toNatClampNeg))), some (.inl (x9 + (m 39 0 ((3 * x12) + 1).toNatClampNeg))), some (.inl (x10 + (m 39 0 ((3 * x12) + 2).toNatClampNeg))), some (.inl 0), some (.inl x12), some (.inl x13), d14, d15]) L_114_742 (Nat.le_of_ble_eq_true rfl) rfl ?_
      refine r_iload L_114_744 rfl ?_
      refine r_if (p := ((0 : Int32) = 0)) L_114_746 rfl (i_pos (by decide +kernel) ?_)
      refine r_iconst L_114_811 kI_0 ?_
      refine r_istore (ls1 := [some (.inr (27, 0)), some (.inr (34, 0)), some (.inr (35, 0)), some (.inr (36, 0)), some (.inr (37, 0)), some (.inr (38, 0)), some (.inr (39, 0)), some (.inl x7), some (.inl (x8 + (m 39 0 (3 * x12).toNatClampNeg))), some (.inl (x9 + (m 39 0 ((3 * x12) + 1).toNatClampNeg))), some (.inl (x10 + (m 39 0 ((3 * x12) + 2).toNatClampNeg))), some (.inl 0), some (.inl x12), some (.inl x13), d14, d15]) L_114_812 (Nat.le_of_ble_eq_true rfl) rfl ?_
      refine r_iinc (ls1 := [some (.inr (27, 0)), some (.inr (34, 0)), some (.inr (35, 0)), some (.inr (36, 0)), some (.inr (37, 0)), some (.inr (38, 0)), some (.inr (39, 0)), some (.inl x7), some (.inl (x8 + (m 39 0 (3 * x12).toNatClampNeg))), some (.inl (x9 + (m 39 0 ((3 * x12) + 1).toNatClampNeg))), some (.inl (x10 + (m 39 0 ((3 * x12) + 2).toNatClampNeg))), some (.inl 0), some (.inl (x12 + 1)), some (.inl x13), d14, d15]) L_114_814 kI_1 rfl (Nat.le_of_ble_eq_true rfl) rfl ?_
      refine r_goto L_114_817 ?_
      exact h _ _ _
/-- Law.isSo, the loop at 444 -/
theorem T_114_444 {x7 x8 x9 x10 x11 x12 : Int32} {m : aM} {Q : Int32 → aM → Prop} (h :
   if x12 < (m 34 0 3) then
    (if x11 = 0 then
     H_114_826 x7 x8 x9 x10 x11 0 0 m Q
    else
     H_114_464 x7 x8 x9 x10 x11 x12 ((m 34 0 0) + 1) m Q)
   else
    H_114_826 x7 x8 x9 x10 x11 0 0 m Q
  ) : H_114_444 x7 x8 x9 x10 x11 x12 m Q := by
  intro d13 d14 d15
  show Rg 114 444 [some (.inr (27, 0)), some (.inr (34, 0)), some (.inr (35, 0)), some (.inr (36, 0)), some (.inr (37, 0)), some (.inr (38, 0)), some (.inr (39, 0)), some (.inl x7), some (.inl x8), some (.inl x9), some (.inl x10), some (.inl x11), some (.inl x12), d13, d14, d15] [] m (qI Q)
  refine r_iload L_114_444 rfl ?_
  refine r_aload_n L_114_446 rfl ?_
  refine r_iconst L_114_447 kI_3 ?_
  refine r_iald (N := 8) (j := 3) L_114_448 (by decide +kernel) rfl (by decide +kernel) (by decide +kernel) ?_
  refine r_icmpn L_114_449 cc_ge (i_mono h (fun c1 h => ?_) (fun c1 h => ?_))
  · refine r_iload L_114_452 rfl ?_
    refine r_if L_114_454 rfl (i_mono h (fun c2 h => ?_) (fun c2 h => ?_))
    · refine r_iconst L_114_820 kI_0 ?_
      refine r_istore (ls1 := [some (.inr (27, 0)), some (.inr (34, 0)), some (.inr (35, 0)), some (.inr (36, 0)), some (.inr (37, 0)), some (.inr (38, 0)), some (.inr (39, 0)), some (.inl x7), some (.inl x8), some (.inl x9), some (.inl x10), some (.inl x11), some (.inl 0), d13, d14, d15]) L_114_821 (Nat.le_of_ble_eq_true rfl) rfl ?_
      refine r_iconst L_114_823 kI_0 ?_
      refine r_istore (ls1 := [some (.inr (27, 0)), some (.inr (34, 0)), some (.inr (35, 0)), some (.inr (36, 0)), some (.inr (37, 0)), some (.inr (38, 0)), some (.inr (39, 0)), some (.inl x7), some (.inl x8), some (.inl x9), some (.inl x10), some (.inl x11), some (.inl 0), some (.inl 0), d14, d15]) L_114_824 (Nat.le_of_ble_eq_true rfl) rfl ?_
      exact h _ _
    · refine r_aload_n L_114_457 rfl ?_
      refine r_iconst L_114_458 kI_0 ?_
      refine r_iald (N := 8) (j := 0) L_114_459 (by decide +kernel) rfl (by decide +kernel) (by decide +kernel) ?_
      refine r_iconst L_114_460 kI_1 ?_
      refine r_iadd L_114_461 ?_
      refine r_istore (ls1 := [some (.inr (27, 0)), some (.inr (34, 0)), some (.inr (35, 0)), some (.inr (36, 0)), some (.inr (37, 0)), some (.inr (38, 0)), some (.inr (39, 0)), some (.inl x7), some (.inl x8), some (.inl x9), some (.inl x10), some (.inl x11), some (.inl x12), some (.inl ((m 34 0 0) + 1)), d14, d15]) L_114_462 (Nat.le_of_ble_eq_true rfl) rfl ?_
      exact h _ _
  · refine r_iconst L_114_820 kI_0 ?_
    refine r_istore (ls1 := [some (.inr (27, 0)), some (.inr (34, 0)), some (.inr (35, 0)), some (.inr (36, 0)), some (.inr (37, 0)), some (.inr (38, 0)), some (.inr (39, 0)), some (.inl x7), some (.inl x8), some (.inl x9), some (.inl x10), some (.inl x11), some (.inl 0), d13, d14, d15]) L_114_821 (Nat.le_of_ble_eq_true rfl) rfl ?_
    refine r_iconst L_114_823 kI_0 ?_
    refine r_istore (ls1 := [some (.inr (27, 0)), some (.inr (34, 0)), some (.inr (35, 0)), some (.inr (36, 0)), some (.inr (37, 0)), some (.inr (38, 0)), some (.inr (39, 0)), some (.inl x7), some (.inl x8), some (.inl x9), some (.inl x10), some (.inl x11), some (.inl 0), some (.inl 0), d14, d15]) L_114_824 (Nat.le_of_ble_eq_true rfl) rfl ?_
    exact h _ _
/-- Law.isSo, the loop at 311 -/
theorem T_114_311 {x7 x8 x9 x10 x11 x12 : Int32} {m : aM} {Q : Int32 → aM → Prop} (h :
   if x12 < (8 * (m 34 0 2)) then
    (if x11 = 0 then
     H_114_444 x7 x8 x9 x10 x11 0 m Q
    else
     a_in ((7 * (x12 / 8)) + 6) 56 = true ∧
      if (m 36 0 ((7 * (x12 / 8)) + 6).toNatClampNeg) = 0 then
       (a_in ((7 * (x12 / 8)) + 4) 56 = true ∧
        if (m 34 0 0) < (m 36 0 ((7 * (x12 / 8)) + 4).toNatClampNeg) then
         (Mi 79 [.inr (27, 0), .inl (x12 / 8), .inl (iR x12 8)] m (fun v8 m7 =>
          if (iR x12 8) = 7 then
           (if v8 = 0 then
            H_114_311 x7 x8 x9 x10 1 (x12 + 1) m7 Q
           else
            H_114_311 x7 x8 x9 x10 0 (x12 + 1) m7 Q)
          else
           a_in ((7 * (x12 / 8)) + (iR x12 8)) 56 = true ∧
            if v8 = (m7 36 0 ((7 * (x12 / 8)) + (iR x12 8)).toNatClampNeg) then
             H_114_311 x7 x8 x9 x10 1 (x12 + 1) m7 Q
            else
             H_114_311 x7 x8 x9 x10 0 (x12 + 1) m7 Q))
        else
         a_in ((7 * (x12 / 8)) + 5) 56 = true ∧
          if (m 34 0 0) < (m 36 0 ((7 * (x12 / 8)) + 5).toNatClampNeg) then
           (Mi 79 [.inr (27, 0), .inl (x12 / 8), .inl (iR x12 8)] m (fun v16 m15 =>
            if (iR x12 8) = 7 then
             (if v16 = 1 then
              H_114_311 x7 x8 x9 x10 1 (x12 + 1) m15 Q
             else
              H_114_311 x7 x8 x9 x10 0 (x12 + 1) m15 Q)
            else
             a_in ((7 * (x12 / 8)) + (iR x12 8)) 56 = true ∧
              if v16 = (m15 36 0 ((7 * (x12 / 8)) + (iR x12 8)).toNatClampNeg) then
               H_114_311 x7 x8 x9 x10 1 (x12 + 1) m15 Q
              else
               H_114_311 x7 x8 x9 x10 0 (x12 + 1) m15 Q))
          else
           Mi 79 [.inr (27, 0), .inl (x12 / 8), .inl (iR x12 8)] m (fun v22 m21 =>
            if (iR x12 8) = 7 then
             (if v22 = 0 then
              H_114_311 x7 x8 x9 x10 1 (x12 + 1) m21 Q
             else
              H_114_311 x7 x8 x9 x10 0 (x12 + 1) m21 Q)
            else
             a_in ((7 * (x12 / 8)) + (iR x12 8)) 56 = true ∧
              if v22 = (m21 36 0 ((7 * (x12 / 8)) + (iR x12 8)).toNatClampNeg) then
               H_114_311 x7 x8 x9 x10 1 (x12 + 1) m21 Q
              else
               H_114_311 x7 x8 x9 x10 0 (x12 + 1) m21 Q))
      else
       Mi 79 [.inr (27, 0), .inl (x12 / 8), .inl (iR x12 8)] m (fun v28 m27 =>
        if (iR x12 8) = 7 then
         (if v28 = 0 then
          H_114_311 x7 x8 x9 x10 1 (x12 + 1) m27 Q
         else
          H_114_311 x7 x8 x9 x10 0 (x12 + 1) m27 Q)
        else
         a_in ((7 * (x12 / 8)) + (iR x12 8)) 56 = true ∧
          if v28 = (m27 36 0 ((7 * (x12 / 8)) + (iR x12 8)).toNatClampNeg) then
           H_114_311 x7 x8 x9 x10 1 (x12 + 1) m27 Q
          else
           H_114_311 x7 x8 x9 x10 0 (x12 + 1) m27 Q))
   else
    H_114_444 x7 x8 x9 x10 x11 0 m Q
  ) : H_114_311 x7 x8 x9 x10 x11 x12 m Q := by
  intro d13 d14 d15
  show Rg 114 311 [some (.inr (27, 0)), some (.inr (34, 0)), some (.inr (35, 0)), some (.inr (36, 0)), some (.inr (37, 0)), some (.inr (38, 0)), some (.inr (39, 0)), some (.inl x7), some (.inl x8), some (.inl x9), some (.inl x10), some (.inl x11), some (.inl x12), d13, d14, d15] [] m (qI Q)
  refine r_iload L_114_311 rfl ?_
  refine r_bipush L_114_313 kB_8 ?_
  refine r_aload_n L_114_315 rfl ?_
  refine r_iconst L_114_316 kI_2 ?_
  refine r_iald (N := 8) (j := 2) L_114_317 (by decide +kernel) rfl (by decide +kernel) (by decide +kernel) ?_
  refine r_imul L_114_318 ?_
  refine r_icmpn L_114_319 cc_ge (i_mono h (fun c1 h => ?_) (fun c1 h => ?_))
  · refine r_iload L_114_322 rfl ?_
    refine r_if L_114_324 rfl (i_mono h (fun c2 h => ?_) (fun c2 h => ?_))
    · refine r_iconst L_114_441 kI_0 ?_
      refine r_istore (ls1 := [some (.inr (27, 0)), some (.inr (34, 0)), some (.inr (35, 0)), some (.inr (36, 0)), some (.inr (37, 0)), some (.inr (38, 0)), some (.inr (39, 0)), some (.inl x7), some (.inl x8), some (.inl x9), some (.inl x10), some (.inl x11), some (.inl 0), d13, d14, d15]) L_114_442 (Nat.le_of_ble_eq_true rfl) rfl ?_
      exact h _ _ _
    · refine r_bipush L_114_327 kB_7 ?_
      refine r_iload L_114_329 rfl ?_
      refine r_bipush L_114_331 kB_8 ?_
      refine r_idiv L_114_333 (by decide +kernel) ?_
      refine r_imul L_114_334 ?_
      refine r_istore (ls1 := [some (.inr (27, 0)), some (.inr (34, 0)), some (.inr (35, 0)), some (.inr (36, 0)), some (.inr (37, 0)), some (.inr (38, 0)), some (.inr (39, 0)), some (.inl x7), some (.inl x8), some (.inl x9), some (.inl x10), some (.inl x11), some (.inl x12), some (.inl (7 * (x12 / 8))), d14, d15]) L_114_335 (Nat.le_of_ble_eq_true rfl) rfl ?_
      refine r_aload_n L_114_337 rfl ?_
      refine r_iload L_114_338 rfl ?_
      refine r_bipush L_114_340 kB_6 ?_
      refine r_iadd L_114_342 ?_
      obtain ⟨g3, h⟩ := h
      refine r_iald (N := 56) (j := ((7 * (x12 / 8)) + 6).toNatClampNeg) L_114_343 (by decide +kernel) rfl g3 rfl ?_
      refine r_ifn L_114_344 rfl (i_mono h (fun c4 h => ?_) (fun c4 h => ?_))
      · refine r_aload_n L_114_347 rfl ?_
        refine r_iload L_114_348 rfl ?_
        refine r_iconst L_114_350 kI_4 ?_
        refine r_iadd L_114_351 ?_
        obtain ⟨g5, h⟩ := h
        refine r_iald (N := 56) (j := ((7 * (x12 / 8)) + 4).toNatClampNeg) L_114_352 (by decide +kernel) rfl g5 rfl ?_
        refine r_aload_n L_114_353 rfl ?_
        refine r_iconst L_114_354 kI_0 ?_
        refine r_iald (N := 8) (j := 0) L_114_355 (by decide +kernel) rfl (by decide +kernel) (by decide +kernel) ?_
        refine r_icmp L_114_356 rfl (i_mono h (fun c6 h => ?_) (fun c6 h => ?_))
        · refine r_iconst L_114_375 kI_0 ?_
          refine r_istore (ls1 := [some (.inr (27, 0)), some (.inr (34, 0)), some (.inr (35, 0)), some (.inr (36, 0)), some (.inr (37, 0)), some (.inr (38, 0)), some (.inr (39, 0)), some (.inl x7), some (.inl x8), some (.inl x9), some (.inl x10), some (.inl x11), some (.inl x12), some (.inl (7 * (x12 / 8))), some (.inl 0), d15]) L_114_376 (Nat.le_of_ble_eq_true rfl) rfl ?_
          refine r_aload_n L_114_378 rfl ?_
          refine r_iload L_114_379 rfl ?_
          refine r_bipush L_114_381 kB_8 ?_
          refine r_idiv L_114_383 (by decide +kernel) ?_
          refine r_iload L_114_384 rfl ?_
          refine r_bipush L_114_386 kB_8 ?_
          refine r_irem L_114_388 (by decide +kernel) ?_
          refine r_cv L_114_389 rfl (Mi_mono h fun v8 m7 h => ?_)
          refine r_iload L_114_392 rfl ?_
          refine r_bipush L_114_394 kB_8 ?_
          refine r_irem L_114_396 (by decide +kernel) ?_
          refine r_bipush L_114_397 kB_7 ?_
          refine r_icmpn L_114_399 rfl (i_mono h (fun c9 h => ?_) (fun c9 h => ?_))
          · refine r_iload L_114_402 rfl ?_
            refine r_if (p := ((0 : Int32) = 0)) L_114_404 rfl (i_pos (by decide +kernel) ?_)
            refine r_iconst L_114_411 kI_0 ?_
            refine r_goto L_114_412 ?_
            refine r_icmpn L_114_425 rfl (i_mono h (fun c10 h => ?_) (fun c10 h => ?_))
            · refine r_iconst L_114_428 kI_1 ?_
              refine r_goto L_114_429 ?_
              refine r_istore (ls1 := [some (.inr (27, 0)), some (.inr (34, 0)), some (.inr (35, 0)), some (.inr (36, 0)), some (.inr (37, 0)), some (.inr (38, 0)), some (.inr (39, 0)), some (.inl x7), some (.inl x8), some (.inl x9), some (.inl x10), some (.inl 1), some (.inl x12), some (.inl (7 * (x12 / 8))), some (.inl 0), d15]) L_114_433 (Nat.le_of_ble_eq_true rfl) rfl ?_
              refine r_iinc (ls1 := [some (.inr (27, 0)), some (.inr (34, 0)), some (.inr (35, 0)), some (.inr (36, 0)), some (.inr (37, 0)), some (.inr (38, 0)), some (.inr (39, 0)), some (.inl x7), some (.inl x8), some (.inl x9), some (.inl x10), some (.inl 1), some (.inl (x12 + 1)), some (.inl (7 * (x12 / 8))), some (.inl 0), d15]) L_114_435 kI_1 rfl (Nat.le_of_ble_eq_true rfl) rfl ?_
              refine r_goto L_114_438 ?_
              exact h _ _ _
            · refine r_iconst L_114_432 kI_0 ?_
              refine r_istore (ls1 := [some (.inr (27, 0)), some (.inr (34, 0)), some (.inr (35, 0)), some (.inr (36, 0)), some (.inr (37, 0)), some (.inr (38, 0)), some (.inr (39, 0)), some (.inl x7), some (.inl x8), some (.inl x9), some (.inl x10), some (.inl 0), some (.inl x12), some (.inl (7 * (x12 / 8))), some (.inl 0), d15]) L_114_433 (Nat.le_of_ble_eq_true rfl) rfl ?_
              refine r_iinc (ls1 := [some (.inr (27, 0)), some (.inr (34, 0)), some (.inr (35, 0)), some (.inr (36, 0)), some (.inr (37, 0)), some (.inr (38, 0)), some (.inr (39, 0)), some (.inl x7), some (.inl x8), some (.inl x9), some (.inl x10), some (.inl 0), some (.inl (x12 + 1)), some (.inl (7 * (x12 / 8))), some (.inl 0), d15]) L_114_435 kI_1 rfl (Nat.le_of_ble_eq_true rfl) rfl ?_
              refine r_goto L_114_438 ?_
              exact h _ _ _
          · refine r_aload_n L_114_415 rfl ?_
            refine r_iload L_114_416 rfl ?_
            refine r_iload L_114_418 rfl ?_
            refine r_bipush L_114_420 kB_8 ?_
            refine r_irem L_114_422 (by decide +kernel) ?_
            refine r_iadd L_114_423 ?_
            obtain ⟨g11, h⟩ := h
            refine r_iald (N := 56) (j := ((7 * (x12 / 8)) + (iR x12 8)).toNatClampNeg) L_114_424 (by decide +kernel) rfl g11 rfl ?_
            refine r_icmpn L_114_425 rfl (i_mono h (fun c12 h => ?_) (fun c12 h => ?_))
            · refine r_iconst L_114_428 kI_1 ?_
              refine r_goto L_114_429 ?_
              refine r_istore (ls1 := [some (.inr (27, 0)), some (.inr (34, 0)), some (.inr (35, 0)), some (.inr (36, 0)), some (.inr (37, 0)), some (.inr (38, 0)), some (.inr (39, 0)), some (.inl x7), some (.inl x8), some (.inl x9), some (.inl x10), some (.inl 1), some (.inl x12), some (.inl (7 * (x12 / 8))), some (.inl 0), d15]) L_114_433 (Nat.le_of_ble_eq_true rfl) rfl ?_
              refine r_iinc (ls1 := [some (.inr (27, 0)), some (.inr (34, 0)), some (.inr (35, 0)), some (.inr (36, 0)), some (.inr (37, 0)), some (.inr (38, 0)), some (.inr (39, 0)), some (.inl x7), some (.inl x8), some (.inl x9), some (.inl x10), some (.inl 1), some (.inl (x12 + 1)), some (.inl (7 * (x12 / 8))), some (.inl 0), d15]) L_114_435 kI_1 rfl (Nat.le_of_ble_eq_true rfl) rfl ?_
              refine r_goto L_114_438 ?_
              exact h _ _ _
            · refine r_iconst L_114_432 kI_0 ?_
              refine r_istore (ls1 := [some (.inr (27, 0)), some (.inr (34, 0)), some (.inr (35, 0)), some (.inr (36, 0)), some (.inr (37, 0)), some (.inr (38, 0)), some (.inr (39, 0)), some (.inl x7), some (.inl x8), some (.inl x9), some (.inl x10), some (.inl 0), some (.inl x12), some (.inl (7 * (x12 / 8))), some (.inl 0), d15]) L_114_433 (Nat.le_of_ble_eq_true rfl) rfl ?_
              refine r_iinc (ls1 := [some (.inr (27, 0)), some (.inr (34, 0)), some (.inr (35, 0)), some (.inr (36, 0)), some (.inr (37, 0)), some (.inr (38, 0)), some (.inr (39, 0)), some (.inl x7), some (.inl x8), some (.inl x9), some (.inl x10), some (.inl 0), some (.inl (x12 + 1)), some (.inl (7 * (x12 / 8))), some (.inl 0), d15]) L_114_435 kI_1 rfl (Nat.le_of_ble_eq_true rfl) rfl ?_
              refine r_goto L_114_438 ?_
              exact h _ _ _
        · refine r_aload_n L_114_359 rfl ?_
          refine r_iconst L_114_360 kI_0 ?_
          refine r_iald (N := 8) (j := 0) L_114_361 (by decide +kernel) rfl (by decide +kernel) (by decide +kernel) ?_
          refine r_aload_n L_114_362 rfl ?_
          refine r_iload L_114_363 rfl ?_
          refine r_iconst L_114_365 kI_5 ?_
          refine r_iadd L_114_366 ?_
          obtain ⟨g13, h⟩ := h
          refine r_iald (N := 56) (j := ((7 * (x12 / 8)) + 5).toNatClampNeg) L_114_367 (by decide +kernel) rfl g13 rfl ?_
          refine r_icmpn L_114_368 cc_ge (i_mono h (fun c14 h => ?_) (fun c14 h => ?_))
          · refine r_iconst L_114_371 kI_1 ?_
            refine r_goto L_114_372 ?_
            refine r_istore (ls1 := [some (.inr (27, 0)), some (.inr (34, 0)), some (.inr (35, 0)), some (.inr (36, 0)), some (.inr (37, 0)), some (.inr (38, 0)), some (.inr (39, 0)), some (.inl x7), some (.inl x8), some (.inl x9), some (.inl x10), some (.inl x11), some (.inl x12), some (.inl (7 * (x12 / 8))), some (.inl 1), d15]) L_114_376 (Nat.le_of_ble_eq_true rfl) rfl ?_
            refine r_aload_n L_114_378 rfl ?_
            refine r_iload L_114_379 rfl ?_
            refine r_bipush L_114_381 kB_8 ?_
            refine r_idiv L_114_383 (by decide +kernel) ?_
            refine r_iload L_114_384 rfl ?_
            refine r_bipush L_114_386 kB_8 ?_
            refine r_irem L_114_388 (by decide +kernel) ?_
            refine r_cv L_114_389 rfl (Mi_mono h fun v16 m15 h => ?_)
            refine r_iload L_114_392 rfl ?_
            refine r_bipush L_114_394 kB_8 ?_
            refine r_irem L_114_396 (by decide +kernel) ?_
            refine r_bipush L_114_397 kB_7 ?_
            refine r_icmpn L_114_399 rfl (i_mono h (fun c17 h => ?_) (fun c17 h => ?_))
            · refine r_iload L_114_402 rfl ?_
              refine r_if (p := ((1 : Int32) = 0)) L_114_404 rfl (i_neg (by decide +kernel) ?_)
              refine r_iconst L_114_407 kI_1 ?_
              refine r_goto L_114_408 ?_
              refine r_icmpn L_114_425 rfl (i_mono h (fun c18 h => ?_) (fun c18 h => ?_))
              · refine r_iconst L_114_428 kI_1 ?_
                refine r_goto L_114_429 ?_
                refine r_istore (ls1 := [some (.inr (27, 0)), some (.inr (34, 0)), some (.inr (35, 0)), some (.inr (36, 0)), some (.inr (37, 0)), some (.inr (38, 0)), some (.inr (39, 0)), some (.inl x7), some (.inl x8), some (.inl x9), some (.inl x10), some (.inl 1), some (.inl x12), some (.inl (7 * (x12 / 8))), some (.inl 1), d15]) L_114_433 (Nat.le_of_ble_eq_true rfl) rfl ?_
                refine r_iinc (ls1 := [some (.inr (27, 0)), some (.inr (34, 0)), some (.inr (35, 0)), some (.inr (36, 0)), some (.inr (37, 0)), some (.inr (38, 0)), some (.inr (39, 0)), some (.inl x7), some (.inl x8), some (.inl x9), some (.inl x10), some (.inl 1), some (.inl (x12 + 1)), some (.inl (7 * (x12 / 8))), some (.inl 1), d15]) L_114_435 kI_1 rfl (Nat.le_of_ble_eq_true rfl) rfl ?_
                refine r_goto L_114_438 ?_
                exact h _ _ _
              · refine r_iconst L_114_432 kI_0 ?_
                refine r_istore (ls1 := [some (.inr (27, 0)), some (.inr (34, 0)), some (.inr (35, 0)), some (.inr (36, 0)), some (.inr (37, 0)), some (.inr (38, 0)), some (.inr (39, 0)), some (.inl x7), some (.inl x8), some (.inl x9), some (.inl x10), some (.inl 0), some (.inl x12), some (.inl (7 * (x12 / 8))), some (.inl 1), d15]) L_114_433 (Nat.le_of_ble_eq_true rfl) rfl ?_
                refine r_iinc (ls1 := [some (.inr (27, 0)), some (.inr (34, 0)), some (.inr (35, 0)), some (.inr (36, 0)), some (.inr (37, 0)), some (.inr (38, 0)), some (.inr (39, 0)), some (.inl x7), some (.inl x8), some (.inl x9), some (.inl x10), some (.inl 0), some (.inl (x12 + 1)), some (.inl (7 * (x12 / 8))), some (.inl 1), d15]) L_114_435 kI_1 rfl (Nat.le_of_ble_eq_true rfl) rfl ?_
                refine r_goto L_114_438 ?_
                exact h _ _ _
            · refine r_aload_n L_114_415 rfl ?_
              refine r_iload L_114_416 rfl ?_
              refine r_iload L_114_418 rfl ?_
              refine r_bipush L_114_420 kB_8 ?_
              refine r_irem L_114_422 (by decide +kernel) ?_
              refine r_iadd L_114_423 ?_
              obtain ⟨g19, h⟩ := h
              refine r_iald (N := 56) (j := ((7 * (x12 / 8)) + (iR x12 8)).toNatClampNeg) L_114_424 (by decide +kernel) rfl g19 rfl ?_
              refine r_icmpn L_114_425 rfl (i_mono h (fun c20 h => ?_) (fun c20 h => ?_))
              · refine r_iconst L_114_428 kI_1 ?_
                refine r_goto L_114_429 ?_
                refine r_istore (ls1 := [some (.inr (27, 0)), some (.inr (34, 0)), some (.inr (35, 0)), some (.inr (36, 0)), some (.inr (37, 0)), some (.inr (38, 0)), some (.inr (39, 0)), some (.inl x7), some (.inl x8), some (.inl x9), some (.inl x10), some (.inl 1), some (.inl x12), some (.inl (7 * (x12 / 8))), some (.inl 1), d15]) L_114_433 (Nat.le_of_ble_eq_true rfl) rfl ?_
                refine r_iinc (ls1 := [some (.inr (27, 0)), some (.inr (34, 0)), some (.inr (35, 0)), some (.inr (36, 0)), some (.inr (37, 0)), some (.inr (38, 0)), some (.inr (39, 0)), some (.inl x7), some (.inl x8), some (.inl x9), some (.inl x10), some (.inl 1), some (.inl (x12 + 1)), some (.inl (7 * (x12 / 8))), some (.inl 1), d15]) L_114_435 kI_1 rfl (Nat.le_of_ble_eq_true rfl) rfl ?_
                refine r_goto L_114_438 ?_
                exact h _ _ _
              · refine r_iconst L_114_432 kI_0 ?_
                refine r_istore (ls1 := [some (.inr (27, 0)), some (.inr (34, 0)), some (.inr (35, 0)), some (.inr (36, 0)), some (.inr (37, 0)), some (.inr (38, 0)), some (.inr (39, 0)), some (.inl x7), some (.inl x8), some (.inl x9), some (.inl x10), some (.inl 0), some (.inl x12), some (.inl (7 * (x12 / 8))), some (.inl 1), d15]) L_114_433 (Nat.le_of_ble_eq_true rfl) rfl ?_
                refine r_iinc (ls1 := [some (.inr (27, 0)), some (.inr (34, 0)), some (.inr (35, 0)), some (.inr (36, 0)), some (.inr (37, 0)), some (.inr (38, 0)), some (.inr (39, 0)), some (.inl x7), some (.inl x8), some (.inl x9), some (.inl x10), some (.inl 0), some (.inl (x12 + 1)), some (.inl (7 * (x12 / 8))), some (.inl 1), d15]) L_114_435 kI_1 rfl (Nat.le_of_ble_eq_true rfl) rfl ?_
                refine r_goto L_114_438 ?_
                exact h _ _ _
          · refine r_iconst L_114_375 kI_0 ?_
            refine r_istore (ls1 := [some (.inr (27, 0)), some (.inr (34, 0)), some (.inr (35, 0)), some (.inr (36, 0)), some (.inr (37, 0)), some (.inr (38, 0)), some (.inr (39, 0)), some (.inl x7), some (.inl x8), some (.inl x9), some (.inl x10), some (.inl x11), some (.inl x12), some (.inl (7 * (x12 / 8))), some (.inl 0), d15]) L_114_376 (Nat.le_of_ble_eq_true rfl) rfl ?_
            refine r_aload_n L_114_378 rfl ?_
            refine r_iload L_114_379 rfl ?_
            refine r_bipush L_114_381 kB_8 ?_
            refine r_idiv L_114_383 (by decide +kernel) ?_
            refine r_iload L_114_384 rfl ?_
            refine r_bipush L_114_386 kB_8 ?_
            refine r_irem L_114_388 (by decide +kernel) ?_
            refine r_cv L_114_389 rfl (Mi_mono h fun v22 m21 h => ?_)
            refine r_iload L_114_392 rfl ?_
            refine r_bipush L_114_394 kB_8 ?_
            refine r_irem L_114_396 (by decide +kernel) ?_
            refine r_bipush L_114_397 kB_7 ?_
            refine r_icmpn L_114_399 rfl (i_mono h (fun c23 h => ?_) (fun c23 h => ?_))
            · refine r_iload L_114_402 rfl ?_
              refine r_if (p := ((0 : Int32) = 0)) L_114_404 rfl (i_pos (by decide +kernel) ?_)
              refine r_iconst L_114_411 kI_0 ?_
              refine r_goto L_114_412 ?_
              refine r_icmpn L_114_425 rfl (i_mono h (fun c24 h => ?_) (fun c24 h => ?_))
              · refine r_iconst L_114_428 kI_1 ?_
                refine r_goto L_114_429 ?_
                refine r_istore (ls1 := [some (.inr (27, 0)), some (.inr (34, 0)), some (.inr (35, 0)), some (.inr (36, 0)), some (.inr (37, 0)), some (.inr (38, 0)), some (.inr (39, 0)), some (.inl x7), some (.inl x8), some (.inl x9), some (.inl x10), some (.inl 1), some (.inl x12), some (.inl (7 * (x12 / 8))), some (.inl 0), d15]) L_114_433 (Nat.le_of_ble_eq_true rfl) rfl ?_
                refine r_iinc (ls1 := [some (.inr (27, 0)), some (.inr (34, 0)), some (.inr (35, 0)), some (.inr (36, 0)), some (.inr (37, 0)), some (.inr (38, 0)), some (.inr (39, 0)), some (.inl x7), some (.inl x8), some (.inl x9), some (.inl x10), some (.inl 1), some (.inl (x12 + 1)), some (.inl (7 * (x12 / 8))), some (.inl 0), d15]) L_114_435 kI_1 rfl (Nat.le_of_ble_eq_true rfl) rfl ?_
                refine r_goto L_114_438 ?_
                exact h _ _ _
              · refine r_iconst L_114_432 kI_0 ?_
                refine r_istore (ls1 := [some (.inr (27, 0)), some (.inr (34, 0)), some (.inr (35, 0)), some (.inr (36, 0)), some (.inr (37, 0)), some (.inr (38, 0)), some (.inr (39, 0)), some (.inl x7), some (.inl x8), some (.inl x9), some (.inl x10), some (.inl 0), some (.inl x12), some (.inl (7 * (x12 / 8))), some (.inl 0), d15]) L_114_433 (Nat.le_of_ble_eq_true rfl) rfl ?_
                refine r_iinc (ls1 := [some (.inr (27, 0)), some (.inr (34, 0)), some (.inr (35, 0)), some (.inr (36, 0)), some (.inr (37, 0)), some (.inr (38, 0)), some (.inr (39, 0)), some (.inl x7), some (.inl x8), some (.inl x9), some (.inl x10), some (.inl 0), some (.inl (x12 + 1)), some (.inl (7 * (x12 / 8))), some (.inl 0), d15]) L_114_435 kI_1 rfl (Nat.le_of_ble_eq_true rfl) rfl ?_
                refine r_goto L_114_438 ?_
                exact h _ _ _
            · refine r_aload_n L_114_415 rfl ?_
              refine r_iload L_114_416 rfl ?_
              refine r_iload L_114_418 rfl ?_
              refine r_bipush L_114_420 kB_8 ?_
              refine r_irem L_114_422 (by decide +kernel) ?_
              refine r_iadd L_114_423 ?_
              obtain ⟨g25, h⟩ := h
              refine r_iald (N := 56) (j := ((7 * (x12 / 8)) + (iR x12 8)).toNatClampNeg) L_114_424 (by decide +kernel) rfl g25 rfl ?_
              refine r_icmpn L_114_425 rfl (i_mono h (fun c26 h => ?_) (fun c26 h => ?_))
              · refine r_iconst L_114_428 kI_1 ?_
                refine r_goto L_114_429 ?_
                refine r_istore (ls1 := [some (.inr (27, 0)), some (.inr (34, 0)), some (.inr (35, 0)), some (.inr (36, 0)), some (.inr (37, 0)), some (.inr (38, 0)), some (.inr (39, 0)), some (.inl x7), some (.inl x8), some (.inl x9), some (.inl x10), some (.inl 1), some (.inl x12), some (.inl (7 * (x12 / 8))), some (.inl 0), d15]) L_114_433 (Nat.le_of_ble_eq_true rfl) rfl ?_
                refine r_iinc (ls1 := [some (.inr (27, 0)), some (.inr (34, 0)), some (.inr (35, 0)), some (.inr (36, 0)), some (.inr (37, 0)), some (.inr (38, 0)), some (.inr (39, 0)), some (.inl x7), some (.inl x8), some (.inl x9), some (.inl x10), some (.inl 1), some (.inl (x12 + 1)), some (.inl (7 * (x12 / 8))), some (.inl 0), d15]) L_114_435 kI_1 rfl (Nat.le_of_ble_eq_true rfl) rfl ?_
                refine r_goto L_114_438 ?_
                exact h _ _ _
              · refine r_iconst L_114_432 kI_0 ?_
                refine r_istore (ls1 := [some (.inr (27, 0)), some (.inr (34, 0)), some (.inr (35, 0)), some (.inr (36, 0)), some (.inr (37, 0)), some (.inr (38, 0)), some (.inr (39, 0)), some (.inl x7), some (.inl x8), some (.inl x9), some (.inl x10), some (.inl 0), some (.inl x12), some (.inl (7 * (x12 / 8))), some (.inl 0), d15]) L_114_433 (Nat.le_of_ble_eq_true rfl) rfl ?_
                refine r_iinc (ls1 := [some (.inr (27, 0)), some (.inr (34, 0)), some (.inr (35, 0)), some (.inr (36, 0)), some (.inr (37, 0)), some (.inr (38, 0)), some (.inr (39, 0)), some (.inl x7), some (.inl x8), some (.inl x9), some (.inl x10), some (.inl 0), some (.inl (x12 + 1)), some (.inl (7 * (x12 / 8))), some (.inl 0), d15]) L_114_435 kI_1 rfl (Nat.le_of_ble_eq_true rfl) rfl ?_
                refine r_goto L_114_438 ?_
                exact h _ _ _
      · refine r_iconst L_114_375 kI_0 ?_
        refine r_istore (ls1 := [some (.inr (27, 0)), some (.inr (34, 0)), some (.inr (35, 0)), some (.inr (36, 0)), some (.inr (37, 0)), some (.inr (38, 0)), some (.inr (39, 0)), some (.inl x7), some (.inl x8), some (.inl x9), some (.inl x10), some (.inl x11), some (.inl x12), some (.inl (7 * (x12 / 8))), some (.inl 0), d15]) L_114_376 (Nat.le_of_ble_eq_true rfl) rfl ?_
        refine r_aload_n L_114_378 rfl ?_
        refine r_iload L_114_379 rfl ?_
        refine r_bipush L_114_381 kB_8 ?_
        refine r_idiv L_114_383 (by decide +kernel) ?_
        refine r_iload L_114_384 rfl ?_
        refine r_bipush L_114_386 kB_8 ?_
        refine r_irem L_114_388 (by decide +kernel) ?_
        refine r_cv L_114_389 rfl (Mi_mono h fun v28 m27 h => ?_)
        refine r_iload L_114_392 rfl ?_
        refine r_bipush L_114_394 kB_8 ?_
        refine r_irem L_114_396 (by decide +kernel) ?_
        refine r_bipush L_114_397 kB_7 ?_
        refine r_icmpn L_114_399 rfl (i_mono h (fun c29 h => ?_) (fun c29 h => ?_))
        · refine r_iload L_114_402 rfl ?_
          refine r_if (p := ((0 : Int32) = 0)) L_114_404 rfl (i_pos (by decide +kernel) ?_)
          refine r_iconst L_114_411 kI_0 ?_
          refine r_goto L_114_412 ?_
          refine r_icmpn L_114_425 rfl (i_mono h (fun c30 h => ?_) (fun c30 h => ?_))
          · refine r_iconst L_114_428 kI_1 ?_
            refine r_goto L_114_429 ?_
            refine r_istore (ls1 := [some (.inr (27, 0)), some (.inr (34, 0)), some (.inr (35, 0)), some (.inr (36, 0)), some (.inr (37, 0)), some (.inr (38, 0)), some (.inr (39, 0)), some (.inl x7), some (.inl x8), some (.inl x9), some (.inl x10), some (.inl 1), some (.inl x12), some (.inl (7 * (x12 / 8))), some (.inl 0), d15]) L_114_433 (Nat.le_of_ble_eq_true rfl) rfl ?_
            refine r_iinc (ls1 := [some (.inr (27, 0)), some (.inr (34, 0)), some (.inr (35, 0)), some (.inr (36, 0)), some (.inr (37, 0)), some (.inr (38, 0)), some (.inr (39, 0)), some (.inl x7), some (.inl x8), some (.inl x9), some (.inl x10), some (.inl 1), some (.inl (x12 + 1)), some (.inl (7 * (x12 / 8))), some (.inl 0), d15]) L_114_435 kI_1 rfl (Nat.le_of_ble_eq_true rfl) rfl ?_
            refine r_goto L_114_438 ?_
            exact h _ _ _
          · refine r_iconst L_114_432 kI_0 ?_
            refine r_istore (ls1 := [some (.inr (27, 0)), some (.inr (34, 0)), some (.inr (35, 0)), some (.inr (36, 0)), some (.inr (37, 0)), some (.inr (38, 0)), some (.inr (39, 0)), some (.inl x7), some (.inl x8), some (.inl x9), some (.inl x10), some (.inl 0), some (.inl x12), some (.inl (7 * (x12 / 8))), some (.inl 0), d15]) L_114_433 (Nat.le_of_ble_eq_true rfl) rfl ?_
            refine r_iinc (ls1 := [some (.inr (27, 0)), some (.inr (34, 0)), some (.inr (35, 0)), some (.inr (36, 0)), some (.inr (37, 0)), some (.inr (38, 0)), some (.inr (39, 0)), some (.inl x7), some (.inl x8), some (.inl x9), some (.inl x10), some (.inl 0), some (.inl (x12 + 1)), some (.inl (7 * (x12 / 8))), some (.inl 0), d15]) L_114_435 kI_1 rfl (Nat.le_of_ble_eq_true rfl) rfl ?_
            refine r_goto L_114_438 ?_
            exact h _ _ _
        · refine r_aload_n L_114_415 rfl ?_
          refine r_iload L_114_416 rfl ?_
          refine r_iload L_114_418 rfl ?_
          refine r_bipush L_114_420 kB_8 ?_
          refine r_irem L_114_422 (by decide +kernel) ?_
          refine r_iadd L_114_423 ?_
          obtain ⟨g31, h⟩ := h
          refine r_iald (N := 56) (j := ((7 * (x12 / 8)) + (iR x12 8)).toNatClampNeg) L_114_424 (by decide +kernel) rfl g31 rfl ?_
          refine r_icmpn L_114_425 rfl (i_mono h (fun c32 h => ?_) (fun c32 h => ?_))
          · refine r_iconst L_114_428 kI_1 ?_
            refine r_goto L_114_429 ?_
            refine r_istore (ls1 := [some (.inr (27, 0)), some (.inr (34, 0)), some (.inr (35, 0)), some (.inr (36, 0)), some (.inr (37, 0)), some (.inr (38, 0)), some (.inr (39, 0)), some (.inl x7), some (.inl x8), some (.inl x9), some (.inl x10), some (.inl 1), some (.inl x12), some (.inl (7 * (x12 / 8))), some (.inl 0), d15]) L_114_433 (Nat.le_of_ble_eq_true rfl) rfl ?_
            refine r_iinc (ls1 := [some (.inr (27, 0)), some (.inr (34, 0)), some (.inr (35, 0)), some (.inr (36, 0)), some (.inr (37, 0)), some (.inr (38, 0)), some (.inr (39, 0)), some (.inl x7), some (.inl x8), some (.inl x9), some (.inl x10), some (.inl 1), some (.inl (x12 + 1)), some (.inl (7 * (x12 / 8))), some (.inl 0), d15]) L_114_435 kI_1 rfl (Nat.le_of_ble_eq_true rfl) rfl ?_
            refine r_goto L_114_438 ?_
            exact h _ _ _
          · refine r_iconst L_114_432 kI_0 ?_
            refine r_istore (ls1 := [some (.inr (27, 0)), some (.inr (34, 0)), some (.inr (35, 0)), some (.inr (36, 0)), some (.inr (37, 0)), some (.inr (38, 0)), some (.inr (39, 0)), some (.inl x7), some (.inl x8), some (.inl x9), some (.inl x10), some (.inl 0), some (.inl x12), some (.inl (7 * (x12 / 8))), some (.inl 0), d15]) L_114_433 (Nat.le_of_ble_eq_true rfl) rfl ?_
            refine r_iinc (ls1 := [some (.inr (27, 0)), some (.inr (34, 0)), some (.inr (35, 0)), some (.inr (36, 0)), some (.inr (37, 0)), some (.inr (38, 0)), some (.inr (39, 0)), some (.inl x7), some (.inl x8), some (.inl x9), some (.inl x10), some (.inl 0), some (.inl (x12 + 1)), some (.inl (7 * (x12 / 8))), some (.inl 0), d15]) L_114_435 kI_1 rfl (Nat.le_of_ble_eq_true rfl) rfl ?_
            refine r_goto L_114_438 ?_
            exact h _ _ _
  · refine r_iconst L_114_441 kI_0 ?_
    refine r_istore (ls1 := [some (.inr (27, 0)), some (.inr (34, 0)), some (.inr (35, 0)), some (.inr (36, 0)), some (.inr (37, 0)), some (.inr (38, 0)), some (.inr (39, 0)), some (.inl x7), some (.inl x8), some (.inl x9), some (.inl x10), some (.inl x11), some (.inl 0), d13, d14, d15]) L_114_442 (Nat.le_of_ble_eq_true rfl) rfl ?_
    exact h _ _ _
/-- Law.isSo, the loop at 43 -/
theorem T_114_43 {x7 x8 x9 x10 x11 x12 x13 x14 x15 : Int32} {m : aM} {Q : Int32 → aM → Prop} (h :
   if x15 < (m 34 0 3) then
    (a_in (x13 + 4) 40 = true ∧
     if (m 35 0 (x13 + 4).toNatClampNeg) = 1 then
      (a_in ((4 * x15) + 3) 64 = true ∧
       if (m 37 0 ((4 * x15) + 3).toNatClampNeg) < 0 then
        H_114_43 x7 x8 x9 x10 x11 x12 x13 x14 (x15 + 1) m Q
       else
        a_in (3 * x15) 48 = true ∧
         Mi 103 [.inr (34, 0), .inr (35, 0), .inr (36, 0), .inr (37, 0), .inl x15, .inl (m 37 0 ((4 * x15) + 3).toNatClampNeg), .inl (m 38 0 (3 * x15).toNatClampNeg)] m (fun v8 m7 =>
          if v8 = 0 then
           ((∀ m10, m10 = a_up m7 35 0 (x13 + 4).toNatClampNeg 0 →
           Mi 103 [.inr (34, 0), .inr (35, 0), .inr (36, 0), .inr (37, 0), .inl x15, .inl (m10 37 0 ((4 * x15) + 3).toNatClampNeg), .inl (m10 38 0 (3 * x15).toNatClampNeg)] m10 (fun v12 m11 =>
            if v12 = 0 then
             ((∀ m14, m14 = a_up m11 35 0 (x13 + 4).toNatClampNeg 1 →
             H_114_43 x7 x8 x9 x10 x11 x12 x13 (x14 + 0) (x15 + 1) m14 Q))
            else
             (∀ m15, m15 = a_up m11 35 0 (x13 + 4).toNatClampNeg 1 →
             H_114_43 x7 x8 x9 x10 x11 x12 x13 (x14 + 1) (x15 + 1) m15 Q))))
          else
           H_114_43 x7 x8 x9 x10 x11 x12 x13 x14 (x15 + 1) m7 Q))
     else
      Mi 78 [.inr (27, 0), .inl x12, .inl 0] m (fun v17 m16 =>
       a_in x13 40 = true ∧
        if v17 = (m16 35 0 x13.toNatClampNeg) then
         (Mi 78 [.inr (27, 0), .inl x12, .inl 1] m16 (fun v21 m20 =>
          a_in (x13 + 1) 40 = true ∧
           if v21 = (m20 35 0 (x13 + 1).toNatClampNeg) then
            (Mi 78 [.inr (27, 0), .inl x12, .inl 2] m20 (fun v25 m24 =>
             a_in (x13 + 2) 40 = true ∧
              if v25 = (m24 35 0 (x13 + 2).toNatClampNeg) then
               (Mi 78 [.inr (27, 0), .inl x12, .inl 3] m24 (fun v29 m28 =>
                a_in (x13 + 3) 40 = true ∧
                 if v29 = (m28 35 0 (x13 + 3).toNatClampNeg) then
                  (Mi 78 [.inr (27, 0), .inl x12, .inl 4] m28 (fun v33 m32 =>
                   if v33 = (radL (m32 35 0 (x13 + 3).toNatClampNeg)) then
                    (Mi 78 [.inr (27, 0), .inl x12, .inl 5] m32 (fun v36 m35 =>
                     if v36 = (m35 35 0 (x13 + 4).toNatClampNeg) then
                      (Mi 78 [.inr (27, 0), .inl x12, .inl 6] m35 (fun v39 m38 =>
                       if v39 = x14 then
                        (Mi 78 [.inr (27, 0), .inl x12, .inl 7] m38 (fun v42 m41 =>
                         if v42 = (-2) then
                          H_114_18 (x7 + (m 35 0 (x13 + 4).toNatClampNeg)) x8 x9 x10 1 (x12 + 1) m41 Q
                         else
                          H_114_18 (x7 + (m 35 0 (x13 + 4).toNatClampNeg)) x8 x9 x10 0 (x12 + 1) m41 Q))
                       else
                        H_114_18 (x7 + (m 35 0 (x13 + 4).toNatClampNeg)) x8 x9 x10 0 (x12 + 1) m38 Q))
                     else
                      H_114_18 (x7 + (m 35 0 (x13 + 4).toNatClampNeg)) x8 x9 x10 0 (x12 + 1) m35 Q))
                   else
                    H_114_18 (x7 + (m 35 0 (x13 + 4).toNatClampNeg)) x8 x9 x10 0 (x12 + 1) m32 Q))
                 else
                  H_114_18 (x7 + (m 35 0 (x13 + 4).toNatClampNeg)) x8 x9 x10 0 (x12 + 1) m28 Q))
              else
               H_114_18 (x7 + (m 35 0 (x13 + 4).toNatClampNeg)) x8 x9 x10 0 (x12 + 1) m24 Q))
           else
            H_114_18 (x7 + (m 35 0 (x13 + 4).toNatClampNeg)) x8 x9 x10 0 (x12 + 1) m20 Q))
        else
         H_114_18 (x7 + (m 35 0 (x13 + 4).toNatClampNeg)) x8 x9 x10 0 (x12 + 1) m16 Q))
   else
    a_in (x13 + 4) 40 = true ∧
     Mi 78 [.inr (27, 0), .inl x12, .inl 0] m (fun v46 m45 =>
      a_in x13 40 = true ∧
       if v46 = (m45 35 0 x13.toNatClampNeg) then
        (Mi 78 [.inr (27, 0), .inl x12, .inl 1] m45 (fun v50 m49 =>
         a_in (x13 + 1) 40 = true ∧
          if v50 = (m49 35 0 (x13 + 1).toNatClampNeg) then
           (Mi 78 [.inr (27, 0), .inl x12, .inl 2] m49 (fun v54 m53 =>
            a_in (x13 + 2) 40 = true ∧
             if v54 = (m53 35 0 (x13 + 2).toNatClampNeg) then
              (Mi 78 [.inr (27, 0), .inl x12, .inl 3] m53 (fun v58 m57 =>
               a_in (x13 + 3) 40 = true ∧
                if v58 = (m57 35 0 (x13 + 3).toNatClampNeg) then
                 (Mi 78 [.inr (27, 0), .inl x12, .inl 4] m57 (fun v62 m61 =>
                  if v62 = (radL (m61 35 0 (x13 + 3).toNatClampNeg)) then
                   (Mi 78 [.inr (27, 0), .inl x12, .inl 5] m61 (fun v65 m64 =>
                    if v65 = (m64 35 0 (x13 + 4).toNatClampNeg) then
                     (Mi 78 [.inr (27, 0), .inl x12, .inl 6] m64 (fun v68 m67 =>
                      if v68 = x14 then
                       (Mi 78 [.inr (27, 0), .inl x12, .inl 7] m67 (fun v71 m70 =>
                        if v71 = (-2) then
                         H_114_18 (x7 + (m 35 0 (x13 + 4).toNatClampNeg)) x8 x9 x10 1 (x12 + 1) m70 Q
                        else
                         H_114_18 (x7 + (m 35 0 (x13 + 4).toNatClampNeg)) x8 x9 x10 0 (x12 + 1) m70 Q))
                      else
                       H_114_18 (x7 + (m 35 0 (x13 + 4).toNatClampNeg)) x8 x9 x10 0 (x12 + 1) m67 Q))
                    else
                     H_114_18 (x7 + (m 35 0 (x13 + 4).toNatClampNeg)) x8 x9 x10 0 (x12 + 1) m64 Q))
                  else
                   H_114_18 (x7 + (m 35 0 (x13 + 4).toNatClampNeg)) x8 x9 x10 0 (x12 + 1) m61 Q))
                else
                 H_114_18 (x7 + (m 35 0 (x13 + 4).toNatClampNeg)) x8 x9 x10 0 (x12 + 1) m57 Q))
             else
              H_114_18 (x7 + (m 35 0 (x13 + 4).toNatClampNeg)) x8 x9 x10 0 (x12 + 1) m53 Q))
          else
           H_114_18 (x7 + (m 35 0 (x13 + 4).toNatClampNeg)) x8 x9 x10 0 (x12 + 1) m49 Q))
       else
        H_114_18 (x7 + (m 35 0 (x13 + 4).toNatClampNeg)) x8 x9 x10 0 (x12 + 1) m45 Q)
  ) : H_114_43 x7 x8 x9 x10 x11 x12 x13 x14 x15 m Q := by
  show Rg 114 43 [some (.inr (27, 0)), some (.inr (34, 0)), some (.inr (35, 0)), some (.inr (36, 0)), some (.inr (37, 0)), some (.inr (38, 0)), some (.inr (39, 0)), some (.inl x7), some (.inl x8), some (.inl x9), some (.inl x10), some (.inl x11), some (.inl x12), some (.inl x13), some (.inl x14), some (.inl x15)] [] m (qI Q)
  refine r_iload L_114_43 rfl ?_
  refine r_aload_n L_114_45 rfl ?_
  refine r_iconst L_114_46 kI_3 ?_
  refine r_iald (N := 8) (j := 3) L_114_47 (by decide +kernel) rfl (by decide +kernel) (by decide +kernel) ?_
  refine r_icmpn L_114_48 cc_ge (i_mono h (fun c1 h => ?_) (fun c1 h => ?_))
  · refine r_aload_n L_114_51 rfl ?_
    refine r_iload L_114_52 rfl ?_
    refine r_iconst L_114_54 kI_4 ?_
    refine r_iadd L_114_55 ?_
    obtain ⟨g2, h⟩ := h
    refine r_iald (N := 40) (j := (x13 + 4).toNatClampNeg) L_114_56 (by decide +kernel) rfl g2 rfl ?_
    refine r_iconst L_114_57 kI_1 ?_
    refine r_icmpn L_114_58 rfl (i_mono h (fun c3 h => ?_) (fun c3 h => ?_))
    · refine r_aload L_114_61 rfl ?_
      refine r_iconst L_114_63 kI_4 ?_
      refine r_iload L_114_64 rfl ?_
      refine r_imul L_114_66 ?_
      refine r_iconst L_114_67 kI_3 ?_
      refine r_iadd L_114_68 ?_
      obtain ⟨g4, h⟩ := h
      refine r_iald (N := 64) (j := ((4 * x15) + 3).toNatClampNeg) L_114_69 (by decide +kernel) rfl g4 rfl ?_
      refine r_if L_114_70 rfl (i_mono h (fun c5 h => ?_) (fun c5 h => ?_))
      · refine r_iinc (ls1 := [some (.inr (27, 0)), some (.inr (34, 0)), some (.inr (35, 0)), some (.inr (36, 0)), some (.inr (37, 0)), some (.inr (38, 0)), some (.inr (39, 0)), some (.inl x7), some (.inl x8), some (.inl x9), some (.inl x10), some (.inl x11), some (.inl x12), some (.inl x13), some (.inl x14), some (.inl (x15 + 1))]) L_114_155 kI_1 rfl (Nat.le_of_ble_eq_true rfl) rfl ?_
        refine r_goto L_114_158 ?_
        exact h
      · refine r_aload_n L_114_73 rfl ?_
        refine r_aload_n L_114_74 rfl ?_
        refine r_aload_n L_114_75 rfl ?_
        refine r_aload L_114_76 rfl ?_
        refine r_iload L_114_78 rfl ?_
        refine r_aload L_114_80 rfl ?_
        refine r_iconst L_114_82 kI_4 ?_
        refine r_iload L_114_83 rfl ?_
        refine r_imul L_114_85 ?_
        refine r_iconst L_114_86 kI_3 ?_
        refine r_iadd L_114_87 ?_
        refine r_iald (N := 64) (j := ((4 * x15) + 3).toNatClampNeg) L_114_88 (by decide +kernel) rfl g4 rfl ?_
        refine r_aload L_114_89 rfl ?_
        refine r_iconst L_114_91 kI_3 ?_
        refine r_iload L_114_92 rfl ?_
        refine r_imul L_114_94 ?_
        obtain ⟨g6, h⟩ := h
        refine r_iald (N := 48) (j := (3 * x15).toNatClampNeg) L_114_95 (by decide +kernel) rfl g6 rfl ?_
        refine r_cs L_114_96 (by decide) rfl (Mi_mono h fun v8 m7 h => ?_)
        refine r_ifn L_114_99 rfl (i_mono h (fun c9 h => ?_) (fun c9 h => ?_))
        · refine r_aload_n L_114_102 rfl ?_
          refine r_iload L_114_103 rfl ?_
          refine r_iconst L_114_105 kI_4 ?_
          refine r_iadd L_114_106 ?_
          refine r_iconst L_114_107 kI_0 ?_
          refine r_iast (N := 40) (j := (x13 + 4).toNatClampNeg) L_114_108 (by decide +kernel) rfl g2 rfl ?_
          refine r_nm fun m10 em10 => ?_
          have h := h m10 em10
          refine r_iload L_114_109 rfl ?_
          refine r_aload_n L_114_111 rfl ?_
          refine r_aload_n L_114_112 rfl ?_
          refine r_aload_n L_114_113 rfl ?_
          refine r_aload L_114_114 rfl ?_
          refine r_iload L_114_116 rfl ?_
          refine r_aload L_114_118 rfl ?_
          refine r_iconst L_114_120 kI_4 ?_
          refine r_iload L_114_121 rfl ?_
          refine r_imul L_114_123 ?_
          refine r_iconst L_114_124 kI_3 ?_
          refine r_iadd L_114_125 ?_
          refine r_iald (N := 64) (j := ((4 * x15) + 3).toNatClampNeg) L_114_126 (by decide +kernel) rfl g4 rfl ?_
          refine r_aload L_114_127 rfl ?_
          refine r_iconst L_114_129 kI_3 ?_
          refine r_iload L_114_130 rfl ?_
          refine r_imul L_114_132 ?_
          refine r_iald (N := 48) (j := (3 * x15).toNatClampNeg) L_114_133 (by decide +kernel) rfl g6 rfl ?_
          refine r_cs L_114_134 (by decide) rfl (Mi_mono h fun v12 m11 h => ?_)
          refine r_if L_114_137 rfl (i_mono h (fun c13 h => ?_) (fun c13 h => ?_))
          · refine r_iconst L_114_144 kI_0 ?_
            refine r_iadd L_114_145 ?_
            refine r_istore (ls1 := [some (.inr (27, 0)), some (.inr (34, 0)), some (.inr (35, 0)), some (.inr (36, 0)), some (.inr (37, 0)), some (.inr (38, 0)), some (.inr (39, 0)), some (.inl x7), some (.inl x8), some (.inl x9), some (.inl x10), some (.inl x11), some (.inl x12), some (.inl x13), some (.inl (x14 + 0)), some (.inl x15)]) L_114_146 (Nat.le_of_ble_eq_true rfl) rfl ?_
            refine r_aload_n L_114_148 rfl ?_
            refine r_iload L_114_149 rfl ?_
            refine r_iconst L_114_151 kI_4 ?_
            refine r_iadd L_114_152 ?_
            refine r_iconst L_114_153 kI_1 ?_
            refine r_iast (N := 40) (j := (x13 + 4).toNatClampNeg) L_114_154 (by decide +kernel) rfl g2 rfl ?_
            refine r_nm fun m14 em14 => ?_
            have h := h m14 em14
            refine r_iinc (ls1 := [some (.inr (27, 0)), some (.inr (34, 0)), some (.inr (35, 0)), some (.inr (36, 0)), some (.inr (37, 0)), some (.inr (38, 0)), some (.inr (39, 0)), some (.inl x7), some (.inl x8), some (.inl x9), some (.inl x10), some (.inl x11), some (.inl x12), some (.inl x13), some (.inl (x14 + 0)), some (.inl (x15 + 1))]) L_114_155 kI_1 rfl (Nat.le_of_ble_eq_true rfl) rfl ?_
            refine r_goto L_114_158 ?_
            exact h
          · refine r_iconst L_114_140 kI_1 ?_
            refine r_goto L_114_141 ?_
            refine r_iadd L_114_145 ?_
            refine r_istore (ls1 := [some (.inr (27, 0)), some (.inr (34, 0)), some (.inr (35, 0)), some (.inr (36, 0)), some (.inr (37, 0)), some (.inr (38, 0)), some (.inr (39, 0)), some (.inl x7), some (.inl x8), some (.inl x9), some (.inl x10), some (.inl x11), some (.inl x12), some (.inl x13), some (.inl (x14 + 1)), some (.inl x15)]) L_114_146 (Nat.le_of_ble_eq_true rfl) rfl ?_
            refine r_aload_n L_114_148 rfl ?_
            refine r_iload L_114_149 rfl ?_
            refine r_iconst L_114_151 kI_4 ?_
            refine r_iadd L_114_152 ?_
            refine r_iconst L_114_153 kI_1 ?_
            refine r_iast (N := 40) (j := (x13 + 4).toNatClampNeg) L_114_154 (by decide +kernel) rfl g2 rfl ?_
            refine r_nm fun m15 em15 => ?_
            have h := h m15 em15
            refine r_iinc (ls1 := [some (.inr (27, 0)), some (.inr (34, 0)), some (.inr (35, 0)), some (.inr (36, 0)), some (.inr (37, 0)), some (.inr (38, 0)), some (.inr (39, 0)), some (.inl x7), some (.inl x8), some (.inl x9), some (.inl x10), some (.inl x11), some (.inl x12), some (.inl x13), some (.inl (x14 + 1)), some (.inl (x15 + 1))]) L_114_155 kI_1 rfl (Nat.le_of_ble_eq_true rfl) rfl ?_
            refine r_goto L_114_158 ?_
            exact h
        · refine r_iinc (ls1 := [some (.inr (27, 0)), some (.inr (34, 0)), some (.inr (35, 0)), some (.inr (36, 0)), some (.inr (37, 0)), some (.inr (38, 0)), some (.inr (39, 0)), some (.inl x7), some (.inl x8), some (.inl x9), some (.inl x10), some (.inl x11), some (.inl x12), some (.inl x13), some (.inl x14), some (.inl (x15 + 1))]) L_114_155 kI_1 rfl (Nat.le_of_ble_eq_true rfl) rfl ?_
          refine r_goto L_114_158 ?_
          exact h
    · refine r_iload L_114_161 rfl ?_
      refine r_aload_n L_114_163 rfl ?_
      refine r_iload L_114_164 rfl ?_
      refine r_iconst L_114_166 kI_4 ?_
      refine r_iadd L_114_167 ?_
      refine r_iald (N := 40) (j := (x13 + 4).toNatClampNeg) L_114_168 (by decide +kernel) rfl g2 rfl ?_
      refine r_iadd L_114_169 ?_
      refine r_istore (ls1 := [some (.inr (27, 0)), some (.inr (34, 0)), some (.inr (35, 0)), some (.inr (36, 0)), some (.inr (37, 0)), some (.inr (38, 0)), some (.inr (39, 0)), some (.inl (x7 + (m 35 0 (x13 + 4).toNatClampNeg))), some (.inl x8), some (.inl x9), some (.inl x10), some (.inl x11), some (.inl x12), some (.inl x13), some (.inl x14), some (.inl x15)]) L_114_170 (Nat.le_of_ble_eq_true rfl) rfl ?_
      refine r_aload_n L_114_172 rfl ?_
      refine r_iload L_114_173 rfl ?_
      refine r_iconst L_114_175 kI_0 ?_
      refine r_cv L_114_176 rfl (Mi_mono h fun v17 m16 h => ?_)
      refine r_aload_n L_114_179 rfl ?_
      refine r_iload L_114_180 rfl ?_
      obtain ⟨g18, h⟩ := h
      refine r_iald (N := 40) (j := x13.toNatClampNeg) L_114_182 (by decide +kernel) rfl g18 rfl ?_
      refine r_icmpn L_114_183 rfl (i_mono h (fun c19 h => ?_) (fun c19 h => ?_))
      · refine r_aload_n L_114_186 rfl ?_
        refine r_iload L_114_187 rfl ?_
        refine r_iconst L_114_189 kI_1 ?_
        refine r_cv L_114_190 rfl (Mi_mono h fun v21 m20 h => ?_)
        refine r_aload_n L_114_193 rfl ?_
        refine r_iload L_114_194 rfl ?_
        refine r_iconst L_114_196 kI_1 ?_
        refine r_iadd L_114_197 ?_
        obtain ⟨g22, h⟩ := h
        refine r_iald (N := 40) (j := (x13 + 1).toNatClampNeg) L_114_198 (by decide +kernel) rfl g22 rfl ?_
        refine r_icmpn L_114_199 rfl (i_mono h (fun c23 h => ?_) (fun c23 h => ?_))
        · refine r_aload_n L_114_202 rfl ?_
          refine r_iload L_114_203 rfl ?_
          refine r_iconst L_114_205 kI_2 ?_
          refine r_cv L_114_206 rfl (Mi_mono h fun v25 m24 h => ?_)
          refine r_aload_n L_114_209 rfl ?_
          refine r_iload L_114_210 rfl ?_
          refine r_iconst L_114_212 kI_2 ?_
          refine r_iadd L_114_213 ?_
          obtain ⟨g26, h⟩ := h
          refine r_iald (N := 40) (j := (x13 + 2).toNatClampNeg) L_114_214 (by decide +kernel) rfl g26 rfl ?_
          refine r_icmpn L_114_215 rfl (i_mono h (fun c27 h => ?_) (fun c27 h => ?_))
          · refine r_aload_n L_114_218 rfl ?_
            refine r_iload L_114_219 rfl ?_
            refine r_iconst L_114_221 kI_3 ?_
            refine r_cv L_114_222 rfl (Mi_mono h fun v29 m28 h => ?_)
            refine r_aload_n L_114_225 rfl ?_
            refine r_iload L_114_226 rfl ?_
            refine r_iconst L_114_228 kI_3 ?_
            refine r_iadd L_114_229 ?_
            obtain ⟨g30, h⟩ := h
            refine r_iald (N := 40) (j := (x13 + 3).toNatClampNeg) L_114_230 (by decide +kernel) rfl g30 rfl ?_
            refine r_icmpn L_114_231 rfl (i_mono h (fun c31 h => ?_) (fun c31 h => ?_))
            · refine r_aload_n L_114_234 rfl ?_
              refine r_iload L_114_235 rfl ?_
              refine r_iconst L_114_237 kI_4 ?_
              refine r_cv L_114_238 rfl (Mi_mono h fun v33 m32 h => ?_)
              refine r_aload_n L_114_241 rfl ?_
              refine r_iload L_114_242 rfl ?_
              refine r_iconst L_114_244 kI_3 ?_
              refine r_iadd L_114_245 ?_
              refine r_iald (N := 40) (j := (x13 + 3).toNatClampNeg) L_114_246 (by decide +kernel) rfl g30 rfl ?_
              refine r_cs L_114_247 (by decide) rfl (V_100 ?_)
              refine r_icmpn L_114_250 rfl (i_mono h (fun c34 h => ?_) (fun c34 h => ?_))
              · refine r_aload_n L_114_253 rfl ?_
                refine r_iload L_114_254 rfl ?_
                refine r_iconst L_114_256 kI_5 ?_
                refine r_cv L_114_257 rfl (Mi_mono h fun v36 m35 h => ?_)
                refine r_aload_n L_114_260 rfl ?_
                refine r_iload L_114_261 rfl ?_
                refine r_iconst L_114_263 kI_4 ?_
                refine r_iadd L_114_264 ?_
                refine r_iald (N := 40) (j := (x13 + 4).toNatClampNeg) L_114_265 (by decide +kernel) rfl g2 rfl ?_
                refine r_icmpn L_114_266 rfl (i_mono h (fun c37 h => ?_) (fun c37 h => ?_))
                · refine r_aload_n L_114_269 rfl ?_
                  refine r_iload L_114_270 rfl ?_
                  refine r_bipush L_114_272 kB_6 ?_
                  refine r_cv L_114_274 rfl (Mi_mono h fun v39 m38 h => ?_)
                  refine r_iload L_114_277 rfl ?_
                  refine r_icmpn L_114_279 rfl (i_mono h (fun c40 h => ?_) (fun c40 h => ?_))
                  · refine r_aload_n L_114_282 rfl ?_
                    refine r_iload L_114_283 rfl ?_
                    refine r_bipush L_114_285 kB_7 ?_
                    refine r_cv L_114_287 rfl (Mi_mono h fun v42 m41 h => ?_)
                    refine r_bipush L_114_290 kB_m2 ?_
                    refine r_icmpn L_114_292 rfl (i_mono h (fun c43 h => ?_) (fun c43 h => ?_))
                    · refine r_iconst L_114_295 kI_1 ?_
                      refine r_goto L_114_296 ?_
                      refine r_istore (ls1 := [some (.inr (27, 0)), some (.inr (34, 0)), some (.inr (35, 0)), some (.inr (36, 0)), some (.inr (37, 0)), some (.inr (38, 0)), some (.inr (39, 0)), some (.inl (x7 + (m 35 0 (x13 + 4).toNatClampNeg))), some (.inl x8), some (.inl x9), some (.inl x10), some (.inl 1), some (.inl x12), some (.inl x13), some (.inl x14), some (.inl x15)]) L_114_300 (Nat.le_of_ble_eq_true rfl) rfl ?_
                      refine r_iinc (ls1 := [some (.inr (27, 0)), some (.inr (34, 0)), some (.inr (35, 0)), some (.inr (36, 0)), some (.inr (37, 0)), some (.inr (38, 0)), some (.inr (39, 0)), some (.inl (x7 + (m 35 0 (x13 + 4).toNatClampNeg))), some (.inl x8), some (.inl x9), some (.inl x10), some (.inl 1), some (.inl (x12 + 1)), some (.inl x13), some (.inl x14), some (.inl x15)]) L_114_302 kI_1 rfl (Nat.le_of_ble_eq_true rfl) rfl ?_
                      refine r_goto L_114_305 ?_
                      exact h _ _ _
                    · refine r_iconst L_114_299 kI_0 ?_
                      refine r_istore (ls1 := [some (.inr (27, 0)), some (.inr (34, 0)), some (.inr (35, 0)), some (.inr (36, 0)), some (.inr (37, 0)), some (.inr (38, 0)), some (.inr (39, 0)), some (.inl (x7 + (m 35 0 (x13 + 4).toNatClampNeg))), some (.inl x8), some (.inl x9), some (.inl x10), some (.inl 0), some (.inl x12), some (.inl x13), some (.inl x14), some (.inl x15)]) L_114_300 (Nat.le_of_ble_eq_true rfl) rfl ?_
                      refine r_iinc (ls1 := [some (.inr (27, 0)), some (.inr (34, 0)), some (.inr (35, 0)), some (.inr (36, 0)), some (.inr (37, 0)), some (.inr (38, 0)), some (.inr (39, 0)), some (.inl (x7 + (m 35 0 (x13 + 4).toNatClampNeg))), some (.inl x8), some (.inl x9), some (.inl x10), some (.inl 0), some (.inl (x12 + 1)), some (.inl x13), some (.inl x14), some (.inl x15)]) L_114_302 kI_1 rfl (Nat.le_of_ble_eq_true rfl) rfl ?_
                      refine r_goto L_114_305 ?_
                      exact h _ _ _
                  · refine r_iconst L_114_299 kI_0 ?_
                    refine r_istore (ls1 := [some (.inr (27, 0)), some (.inr (34, 0)), some (.inr (35, 0)), some (.inr (36, 0)), some (.inr (37, 0)), some (.inr (38, 0)), some (.inr (39, 0)), some (.inl (x7 + (m 35 0 (x13 + 4).toNatClampNeg))), some (.inl x8), some (.inl x9), some (.inl x10), some (.inl 0), some (.inl x12), some (.inl x13), some (.inl x14), some (.inl x15)]) L_114_300 (Nat.le_of_ble_eq_true rfl) rfl ?_
                    refine r_iinc (ls1 := [some (.inr (27, 0)), some (.inr (34, 0)), some (.inr (35, 0)), some (.inr (36, 0)), some (.inr (37, 0)), some (.inr (38, 0)), some (.inr (39, 0)), some (.inl (x7 + (m 35 0 (x13 + 4).toNatClampNeg))), some (.inl x8), some (.inl x9), some (.inl x10), some (.inl 0), some (.inl (x12 + 1)), some (.inl x13), some (.inl x14), some (.inl x15)]) L_114_302 kI_1 rfl (Nat.le_of_ble_eq_true rfl) rfl ?_
                    refine r_goto L_114_305 ?_
                    exact h _ _ _
                · refine r_iconst L_114_299 kI_0 ?_
                  refine r_istore (ls1 := [some (.inr (27, 0)), some (.inr (34, 0)), some (.inr (35, 0)), some (.inr (36, 0)), some (.inr (37, 0)), some (.inr (38, 0)), some (.inr (39, 0)), some (.inl (x7 + (m 35 0 (x13 + 4).toNatClampNeg))), some (.inl x8), some (.inl x9), some (.inl x10), some (.inl 0), some (.inl x12), some (.inl x13), some (.inl x14), some (.inl x15)]) L_114_300 (Nat.le_of_ble_eq_true rfl) rfl ?_
                  refine r_iinc (ls1 := [some (.inr (27, 0)), some (.inr (34, 0)), some (.inr (35, 0)), some (.inr (36, 0)), some (.inr (37, 0)), some (.inr (38, 0)), some (.inr (39, 0)), some (.inl (x7 + (m 35 0 (x13 + 4).toNatClampNeg))), some (.inl x8), some (.inl x9), some (.inl x10), some (.inl 0), some (.inl (x12 + 1)), some (.inl x13), some (.inl x14), some (.inl x15)]) L_114_302 kI_1 rfl (Nat.le_of_ble_eq_true rfl) rfl ?_
                  refine r_goto L_114_305 ?_
                  exact h _ _ _
              · refine r_iconst L_114_299 kI_0 ?_
                refine r_istore (ls1 := [some (.inr (27, 0)), some (.inr (34, 0)), some (.inr (35, 0)), some (.inr (36, 0)), some (.inr (37, 0)), some (.inr (38, 0)), some (.inr (39, 0)), some (.inl (x7 + (m 35 0 (x13 + 4).toNatClampNeg))), some (.inl x8), some (.inl x9), some (.inl x10), some (.inl 0), some (.inl x12), some (.inl x13), some (.inl x14), some (.inl x15)]) L_114_300 (Nat.le_of_ble_eq_true rfl) rfl ?_
                refine r_iinc (ls1 := [some (.inr (27, 0)), some (.inr (34, 0)), some (.inr (35, 0)), some (.inr (36, 0)), some (.inr (37, 0)), some (.inr (38, 0)), some (.inr (39, 0)), some (.inl (x7 + (m 35 0 (x13 + 4).toNatClampNeg))), some (.inl x8), some (.inl x9), some (.inl x10), some (.inl 0), some (.inl (x12 + 1)), some (.inl x13), some (.inl x14), some (.inl x15)]) L_114_302 kI_1 rfl (Nat.le_of_ble_eq_true rfl) rfl ?_
                refine r_goto L_114_305 ?_
                exact h _ _ _
            · refine r_iconst L_114_299 kI_0 ?_
              refine r_istore (ls1 := [some (.inr (27, 0)), some (.inr (34, 0)), some (.inr (35, 0)), some (.inr (36, 0)), some (.inr (37, 0)), some (.inr (38, 0)), some (.inr (39, 0)), some (.inl (x7 + (m 35 0 (x13 + 4).toNatClampNeg))), some (.inl x8), some (.inl x9), some (.inl x10), some (.inl 0), some (.inl x12), some (.inl x13), some (.inl x14), some (.inl x15)]) L_114_300 (Nat.le_of_ble_eq_true rfl) rfl ?_
              refine r_iinc (ls1 := [some (.inr (27, 0)), some (.inr (34, 0)), some (.inr (35, 0)), some (.inr (36, 0)), some (.inr (37, 0)), some (.inr (38, 0)), some (.inr (39, 0)), some (.inl (x7 + (m 35 0 (x13 + 4).toNatClampNeg))), some (.inl x8), some (.inl x9), some (.inl x10), some (.inl 0), some (.inl (x12 + 1)), some (.inl x13), some (.inl x14), some (.inl x15)]) L_114_302 kI_1 rfl (Nat.le_of_ble_eq_true rfl) rfl ?_
              refine r_goto L_114_305 ?_
              exact h _ _ _
          · refine r_iconst L_114_299 kI_0 ?_
            refine r_istore (ls1 := [some (.inr (27, 0)), some (.inr (34, 0)), some (.inr (35, 0)), some (.inr (36, 0)), some (.inr (37, 0)), some (.inr (38, 0)), some (.inr (39, 0)), some (.inl (x7 + (m 35 0 (x13 + 4).toNatClampNeg))), some (.inl x8), some (.inl x9), some (.inl x10), some (.inl 0), some (.inl x12), some (.inl x13), some (.inl x14), some (.inl x15)]) L_114_300 (Nat.le_of_ble_eq_true rfl) rfl ?_
            refine r_iinc (ls1 := [some (.inr (27, 0)), some (.inr (34, 0)), some (.inr (35, 0)), some (.inr (36, 0)), some (.inr (37, 0)), some (.inr (38, 0)), some (.inr (39, 0)), some (.inl (x7 + (m 35 0 (x13 + 4).toNatClampNeg))), some (.inl x8), some (.inl x9), some (.inl x10), some (.inl 0), some (.inl (x12 + 1)), some (.inl x13), some (.inl x14), some (.inl x15)]) L_114_302 kI_1 rfl (Nat.le_of_ble_eq_true rfl) rfl ?_
            refine r_goto L_114_305 ?_
            exact h _ _ _
        · refine r_iconst L_114_299 kI_0 ?_
          refine r_istore (ls1 := [some (.inr (27, 0)), some (.inr (34, 0)), some (.inr (35, 0)), some (.inr (36, 0)), some (.inr (37, 0)), some (.inr (38, 0)), some (.inr (39, 0)), some (.inl (x7 + (m 35 0 (x13 + 4).toNatClampNeg))), some (.inl x8), some (.inl x9), some (.inl x10), some (.inl 0), some (.inl x12), some (.inl x13), some (.inl x14), some (.inl x15)]) L_114_300 (Nat.le_of_ble_eq_true rfl) rfl ?_
          refine r_iinc (ls1 := [some (.inr (27, 0)), some (.inr (34, 0)), some (.inr (35, 0)), some (.inr (36, 0)), some (.inr (37, 0)), some (.inr (38, 0)), some (.inr (39, 0)), some (.inl (x7 + (m 35 0 (x13 + 4).toNatClampNeg))), some (.inl x8), some (.inl x9), some (.inl x10), some (.inl 0), some (.inl (x12 + 1)), some (.inl x13), some (.inl x14), some (.inl x15)]) L_114_302 kI_1 rfl (Nat.le_of_ble_eq_true rfl) rfl ?_
          refine r_goto L_114_305 ?_
          exact h _ _ _
      · refine r_iconst L_114_299 kI_0 ?_
        refine r_istore (ls1 := [some (.inr (27, 0)), some (.inr (34, 0)), some (.inr (35, 0)), some (.inr (36, 0)), some (.inr (37, 0)), some (.inr (38, 0)), some (.inr (39, 0)), some (.inl (x7 + (m 35 0 (x13 + 4).toNatClampNeg))), some (.inl x8), some (.inl x9), some (.inl x10), some (.inl 0), some (.inl x12), some (.inl x13), some (.inl x14), some (.inl x15)]) L_114_300 (Nat.le_of_ble_eq_true rfl) rfl ?_
        refine r_iinc (ls1 := [some (.inr (27, 0)), some (.inr (34, 0)), some (.inr (35, 0)), some (.inr (36, 0)), some (.inr (37, 0)), some (.inr (38, 0)), some (.inr (39, 0)), some (.inl (x7 + (m 35 0 (x13 + 4).toNatClampNeg))), some (.inl x8), some (.inl x9), some (.inl x10), some (.inl 0), some (.inl (x12 + 1)), some (.inl x13), some (.inl x14), some (.inl x15)]) L_114_302 kI_1 rfl (Nat.le_of_ble_eq_true rfl) rfl ?_
        refine r_goto L_114_305 ?_
        exact h _ _ _
  · refine r_iload L_114_161 rfl ?_
    refine r_aload_n L_114_163 rfl ?_
    refine r_iload L_114_164 rfl ?_
    refine r_iconst L_114_166 kI_4 ?_
    refine r_iadd L_114_167 ?_
    obtain ⟨g44, h⟩ := h
    refine r_iald (N := 40) (j := (x13 + 4).toNatClampNeg) L_114_168 (by decide +kernel) rfl g44 rfl ?_
    refine r_iadd L_114_169 ?_
    refine r_istore (ls1 := [some (.inr (27, 0)), some (.inr (34, 0)), some (.inr (35, 0)), some (.inr (36, 0)), some (.inr (37, 0)), some (.inr (38, 0)), some (.inr (39, 0)), some (.inl (x7 + (m 35 0 (x13 + 4).toNatClampNeg))), some (.inl x8), some (.inl x9), some (.inl x10), some (.inl x11), some (.inl x12), some (.inl x13), some (.inl x14), some (.inl x15)]) L_114_170 (Nat.le_of_ble_eq_true rfl) rfl ?_
    refine r_aload_n L_114_172 rfl ?_
    refine r_iload L_114_173 rfl ?_
    refine r_iconst L_114_175 kI_0 ?_
    refine r_cv L_114_176 rfl (Mi_mono h fun v46 m45 h => ?_)
    refine r_aload_n L_114_179 rfl ?_
    refine r_iload L_114_180 rfl ?_
    obtain ⟨g47, h⟩ := h
    refine r_iald (N := 40) (j := x13.toNatClampNeg) L_114_182 (by decide +kernel) rfl g47 rfl ?_
    refine r_icmpn L_114_183 rfl (i_mono h (fun c48 h => ?_) (fun c48 h => ?_))
    · refine r_aload_n L_114_186 rfl ?_
      refine r_iload L_114_187 rfl ?_
      refine r_iconst L_114_189 kI_1 ?_
      refine r_cv L_114_190 rfl (Mi_mono h fun v50 m49 h => ?_)
      refine r_aload_n L_114_193 rfl ?_
      refine r_iload L_114_194 rfl ?_
      refine r_iconst L_114_196 kI_1 ?_
      refine r_iadd L_114_197 ?_
      obtain ⟨g51, h⟩ := h
      refine r_iald (N := 40) (j := (x13 + 1).toNatClampNeg) L_114_198 (by decide +kernel) rfl g51 rfl ?_
      refine r_icmpn L_114_199 rfl (i_mono h (fun c52 h => ?_) (fun c52 h => ?_))
      · refine r_aload_n L_114_202 rfl ?_
        refine r_iload L_114_203 rfl ?_
        refine r_iconst L_114_205 kI_2 ?_
        refine r_cv L_114_206 rfl (Mi_mono h fun v54 m53 h => ?_)
        refine r_aload_n L_114_209 rfl ?_
        refine r_iload L_114_210 rfl ?_
        refine r_iconst L_114_212 kI_2 ?_
        refine r_iadd L_114_213 ?_
        obtain ⟨g55, h⟩ := h
        refine r_iald (N := 40) (j := (x13 + 2).toNatClampNeg) L_114_214 (by decide +kernel) rfl g55 rfl ?_
        refine r_icmpn L_114_215 rfl (i_mono h (fun c56 h => ?_) (fun c56 h => ?_))
        · refine r_aload_n L_114_218 rfl ?_
          refine r_iload L_114_219 rfl ?_
          refine r_iconst L_114_221 kI_3 ?_
          refine r_cv L_114_222 rfl (Mi_mono h fun v58 m57 h => ?_)
          refine r_aload_n L_114_225 rfl ?_
          refine r_iload L_114_226 rfl ?_
          refine r_iconst L_114_228 kI_3 ?_
          refine r_iadd L_114_229 ?_
          obtain ⟨g59, h⟩ := h
          refine r_iald (N := 40) (j := (x13 + 3).toNatClampNeg) L_114_230 (by decide +kernel) rfl g59 rfl ?_
          refine r_icmpn L_114_231 rfl (i_mono h (fun c60 h => ?_) (fun c60 h => ?_))
          · refine r_aload_n L_114_234 rfl ?_
            refine r_iload L_114_235 rfl ?_
            refine r_iconst L_114_237 kI_4 ?_
            refine r_cv L_114_238 rfl (Mi_mono h fun v62 m61 h => ?_)
            refine r_aload_n L_114_241 rfl ?_
            refine r_iload L_114_242 rfl ?_
            refine r_iconst L_114_244 kI_3 ?_
            refine r_iadd L_114_245 ?_
            refine r_iald (N := 40) (j := (x13 + 3).toNatClampNeg) L_114_246 (by decide +kernel) rfl g59 rfl ?_
            refine r_cs L_114_247 (by decide) rfl (V_100 ?_)
            refine r_icmpn L_114_250 rfl (i_mono h (fun c63 h => ?_) (fun c63 h => ?_))
            · refine r_aload_n L_114_253 rfl ?_
              refine r_iload L_114_254 rfl ?_
              refine r_iconst L_114_256 kI_5 ?_
              refine r_cv L_114_257 rfl (Mi_mono h fun v65 m64 h => ?_)
              refine r_aload_n L_114_260 rfl ?_
              refine r_iload L_114_261 rfl ?_
              refine r_iconst L_114_263 kI_4 ?_
              refine r_iadd L_114_264 ?_
              refine r_iald (N := 40) (j := (x13 + 4).toNatClampNeg) L_114_265 (by decide +kernel) rfl g44 rfl ?_
              refine r_icmpn L_114_266 rfl (i_mono h (fun c66 h => ?_) (fun c66 h => ?_))
              · refine r_aload_n L_114_269 rfl ?_
                refine r_iload L_114_270 rfl ?_
                refine r_bipush L_114_272 kB_6 ?_
                refine r_cv L_114_274 rfl (Mi_mono h fun v68 m67 h => ?_)
                refine r_iload L_114_277 rfl ?_
                refine r_icmpn L_114_279 rfl (i_mono h (fun c69 h => ?_) (fun c69 h => ?_))
                · refine r_aload_n L_114_282 rfl ?_
                  refine r_iload L_114_283 rfl ?_
                  refine r_bipush L_114_285 kB_7 ?_
                  refine r_cv L_114_287 rfl (Mi_mono h fun v71 m70 h => ?_)
                  refine r_bipush L_114_290 kB_m2 ?_
                  refine r_icmpn L_114_292 rfl (i_mono h (fun c72 h => ?_) (fun c72 h => ?_))
                  · refine r_iconst L_114_295 kI_1 ?_
                    refine r_goto L_114_296 ?_
                    refine r_istore (ls1 := [some (.inr (27, 0)), some (.inr (34, 0)), some (.inr (35, 0)), some (.inr (36, 0)), some (.inr (37, 0)), some (.inr (38, 0)), some (.inr (39, 0)), some (.inl (x7 + (m 35 0 (x13 + 4).toNatClampNeg))), some (.inl x8), some (.inl x9), some (.inl x10), some (.inl 1), some (.inl x12), some (.inl x13), some (.inl x14), some (.inl x15)]) L_114_300 (Nat.le_of_ble_eq_true rfl) rfl ?_
                    refine r_iinc (ls1 := [some (.inr (27, 0)), some (.inr (34, 0)), some (.inr (35, 0)), some (.inr (36, 0)), some (.inr (37, 0)), some (.inr (38, 0)), some (.inr (39, 0)), some (.inl (x7 + (m 35 0 (x13 + 4).toNatClampNeg))), some (.inl x8), some (.inl x9), some (.inl x10), some (.inl 1), some (.inl (x12 + 1)), some (.inl x13), some (.inl x14), some (.inl x15)]) L_114_302 kI_1 rfl (Nat.le_of_ble_eq_true rfl) rfl ?_
                    refine r_goto L_114_305 ?_
                    exact h _ _ _
                  · refine r_iconst L_114_299 kI_0 ?_
                    refine r_istore (ls1 := [some (.inr (27, 0)), some (.inr (34, 0)), some (.inr (35, 0)), some (.inr (36, 0)), some (.inr (37, 0)), some (.inr (38, 0)), some (.inr (39, 0)), some (.inl (x7 + (m 35 0 (x13 + 4).toNatClampNeg))), some (.inl x8), some (.inl x9), some (.inl x10), some (.inl 0), some (.inl x12), some (.inl x13), some (.inl x14), some (.inl x15)]) L_114_300 (Nat.le_of_ble_eq_true rfl) rfl ?_
                    refine r_iinc (ls1 := [some (.inr (27, 0)), some (.inr (34, 0)), some (.inr (35, 0)), some (.inr (36, 0)), some (.inr (37, 0)), some (.inr (38, 0)), some (.inr (39, 0)), some (.inl (x7 + (m 35 0 (x13 + 4).toNatClampNeg))), some (.inl x8), some (.inl x9), some (.inl x10), some (.inl 0), some (.inl (x12 + 1)), some (.inl x13), some (.inl x14), some (.inl x15)]) L_114_302 kI_1 rfl (Nat.le_of_ble_eq_true rfl) rfl ?_
                    refine r_goto L_114_305 ?_
                    exact h _ _ _
                · refine r_iconst L_114_299 kI_0 ?_
                  refine r_istore (ls1 := [some (.inr (27, 0)), some (.inr (34, 0)), some (.inr (35, 0)), some (.inr (36, 0)), some (.inr (37, 0)), some (.inr (38, 0)), some (.inr (39, 0)), some (.inl (x7 + (m 35 0 (x13 + 4).toNatClampNeg))), some (.inl x8), some (.inl x9), some (.inl x10), some (.inl 0), some (.inl x12), some (.inl x13), some (.inl x14), some (.inl x15)]) L_114_300 (Nat.le_of_ble_eq_true rfl) rfl ?_
                  refine r_iinc (ls1 := [some (.inr (27, 0)), some (.inr (34, 0)), some (.inr (35, 0)), some (.inr (36, 0)), some (.inr (37, 0)), some (.inr (38, 0)), some (.inr (39, 0)), some (.inl (x7 + (m 35 0 (x13 + 4).toNatClampNeg))), some (.inl x8), some (.inl x9), some (.inl x10), some (.inl 0), some (.inl (x12 + 1)), some (.inl x13), some (.inl x14), some (.inl x15)]) L_114_302 kI_1 rfl (Nat.le_of_ble_eq_true rfl) rfl ?_
                  refine r_goto L_114_305 ?_
                  exact h _ _ _
              · refine r_iconst L_114_299 kI_0 ?_
                refine r_istore (ls1 := [some (.inr (27, 0)), some (.inr (34, 0)), some (.inr (35, 0)), some (.inr (36, 0)), some (.inr (37, 0)), some (.inr (38, 0)), some (.inr (39, 0)), some (.inl (x7 + (m 35 0 (x13 + 4).toNatClampNeg))), some (.inl x8), some (.inl x9), some (.inl x10), some (.inl 0), some (.inl x12), some (.inl x13), some (.inl x14), some (.inl x15)]) L_114_300 (Nat.le_of_ble_eq_true rfl) rfl ?_
                refine r_iinc (ls1 := [some (.inr (27, 0)), some (.inr (34, 0)), some (.inr (35, 0)), some (.inr (36, 0)), some (.inr (37, 0)), some (.inr (38, 0)), some (.inr (39, 0)), some (.inl (x7 + (m 35 0 (x13 + 4).toNatClampNeg))), some (.inl x8), some (.inl x9), some (.inl x10), some (.inl 0), some (.inl (x12 + 1)), some (.inl x13), some (.inl x14), some (.inl x15)]) L_114_302 kI_1 rfl (Nat.le_of_ble_eq_true rfl) rfl ?_
                refine r_goto L_114_305 ?_
                exact h _ _ _
            · refine r_iconst L_114_299 kI_0 ?_
              refine r_istore (ls1 := [some (.inr (27, 0)), some (.inr (34, 0)), some (.inr (35, 0)), some (.inr (36, 0)), some (.inr (37, 0)), some (.inr (38, 0)), some (.inr (39, 0)), some (.inl (x7 + (m 35 0 (x13 + 4).toNatClampNeg))), some (.inl x8), some (.inl x9), some (.inl x10), some (.inl 0), some (.inl x12), some (.inl x13), some (.inl x14), some (.inl x15)]) L_114_300 (Nat.le_of_ble_eq_true rfl) rfl ?_
              refine r_iinc (ls1 := [some (.inr (27, 0)), some (.inr (34, 0)), some (.inr (35, 0)), some (.inr (36, 0)), some (.inr (37, 0)), some (.inr (38, 0)), some (.inr (39, 0)), some (.inl (x7 + (m 35 0 (x13 + 4).toNatClampNeg))), some (.inl x8), some (.inl x9), some (.inl x10), some (.inl 0), some (.inl (x12 + 1)), some (.inl x13), some (.inl x14), some (.inl x15)]) L_114_302 kI_1 rfl (Nat.le_of_ble_eq_true rfl) rfl ?_
              refine r_goto L_114_305 ?_
              exact h _ _ _
          · refine r_iconst L_114_299 kI_0 ?_
            refine r_istore (ls1 := [some (.inr (27, 0)), some (.inr (34, 0)), some (.inr (35, 0)), some (.inr (36, 0)), some (.inr (37, 0)), some (.inr (38, 0)), some (.inr (39, 0)), some (.inl (x7 + (m 35 0 (x13 + 4).toNatClampNeg))), some (.inl x8), some (.inl x9), some (.inl x10), some (.inl 0), some (.inl x12), some (.inl x13), some (.inl x14), some (.inl x15)]) L_114_300 (Nat.le_of_ble_eq_true rfl) rfl ?_
            refine r_iinc (ls1 := [some (.inr (27, 0)), some (.inr (34, 0)), some (.inr (35, 0)), some (.inr (36, 0)), some (.inr (37, 0)), some (.inr (38, 0)), some (.inr (39, 0)), some (.inl (x7 + (m 35 0 (x13 + 4).toNatClampNeg))), some (.inl x8), some (.inl x9), some (.inl x10), some (.inl 0), some (.inl (x12 + 1)), some (.inl x13), some (.inl x14), some (.inl x15)]) L_114_302 kI_1 rfl (Nat.le_of_ble_eq_true rfl) rfl ?_
            refine r_goto L_114_305 ?_
            exact h _ _ _
        · refine r_iconst L_114_299 kI_0 ?_
          refine r_istore (ls1 := [some (.inr (27, 0)), some (.inr (34, 0)), some (.inr (35, 0)), some (.inr (36, 0)), some (.inr (37, 0)), some (.inr (38, 0)), some (.inr (39, 0)), some (.inl (x7 + (m 35 0 (x13 + 4).toNatClampNeg))), some (.inl x8), some (.inl x9), some (.inl x10), some (.inl 0), some (.inl x12), some (.inl x13), some (.inl x14), some (.inl x15)]) L_114_300 (Nat.le_of_ble_eq_true rfl) rfl ?_
          refine r_iinc (ls1 := [some (.inr (27, 0)), some (.inr (34, 0)), some (.inr (35, 0)), some (.inr (36, 0)), some (.inr (37, 0)), some (.inr (38, 0)), some (.inr (39, 0)), some (.inl (x7 + (m 35 0 (x13 + 4).toNatClampNeg))), some (.inl x8), some (.inl x9), some (.inl x10), some (.inl 0), some (.inl (x12 + 1)), some (.inl x13), some (.inl x14), some (.inl x15)]) L_114_302 kI_1 rfl (Nat.le_of_ble_eq_true rfl) rfl ?_
          refine r_goto L_114_305 ?_
          exact h _ _ _
      · refine r_iconst L_114_299 kI_0 ?_
        refine r_istore (ls1 := [some (.inr (27, 0)), some (.inr (34, 0)), some (.inr (35, 0)), some (.inr (36, 0)), some (.inr (37, 0)), some (.inr (38, 0)), some (.inr (39, 0)), some (.inl (x7 + (m 35 0 (x13 + 4).toNatClampNeg))), some (.inl x8), some (.inl x9), some (.inl x10), some (.inl 0), some (.inl x12), some (.inl x13), some (.inl x14), some (.inl x15)]) L_114_300 (Nat.le_of_ble_eq_true rfl) rfl ?_
        refine r_iinc (ls1 := [some (.inr (27, 0)), some (.inr (34, 0)), some (.inr (35, 0)), some (.inr (36, 0)), some (.inr (37, 0)), some (.inr (38, 0)), some (.inr (39, 0)), some (.inl (x7 + (m 35 0 (x13 + 4).toNatClampNeg))), some (.inl x8), some (.inl x9), some (.inl x10), some (.inl 0), some (.inl (x12 + 1)), some (.inl x13), some (.inl x14), some (.inl x15)]) L_114_302 kI_1 rfl (Nat.le_of_ble_eq_true rfl) rfl ?_
        refine r_goto L_114_305 ?_
        exact h _ _ _
    · refine r_iconst L_114_299 kI_0 ?_
      refine r_istore (ls1 := [some (.inr (27, 0)), some (.inr (34, 0)), some (.inr (35, 0)), some (.inr (36, 0)), some (.inr (37, 0)), some (.inr (38, 0)), some (.inr (39, 0)), some (.inl (x7 + (m 35 0 (x13 + 4).toNatClampNeg))), some (.inl x8), some (.inl x9), some (.inl x10), some (.inl 0), some (.inl x12), some (.inl x13), some (.inl x14), some (.inl x15)]) L_114_300 (Nat.le_of_ble_eq_true rfl) rfl ?_
      refine r_iinc (ls1 := [some (.inr (27, 0)), some (.inr (34, 0)), some (.inr (35, 0)), some (.inr (36, 0)), some (.inr (37, 0)), some (.inr (38, 0)), some (.inr (39, 0)), some (.inl (x7 + (m 35 0 (x13 + 4).toNatClampNeg))), some (.inl x8), some (.inl x9), some (.inl x10), some (.inl 0), some (.inl (x12 + 1)), some (.inl x13), some (.inl x14), some (.inl x15)]) L_114_302 kI_1 rfl (Nat.le_of_ble_eq_true rfl) rfl ?_
      refine r_goto L_114_305 ?_
      exact h _ _ _
/-- Law.isSo, the loop at 18 -/
theorem T_114_18 {x7 x8 x9 x10 x11 x12 : Int32} {m : aM} {Q : Int32 → aM → Prop} (h :
   if x12 < (m 34 0 1) then
    (if x11 = 0 then
     H_114_311 x7 x8 x9 x10 x11 0 m Q
    else
     H_114_43 x7 x8 x9 x10 x11 x12 (5 * x12) 0 0 m Q)
   else
    H_114_311 x7 x8 x9 x10 x11 0 m Q
  ) : H_114_18 x7 x8 x9 x10 x11 x12 m Q := by
  intro d13 d14 d15
  show Rg 114 18 [some (.inr (27, 0)), some (.inr (34, 0)), some (.inr (35, 0)), some (.inr (36, 0)), some (.inr (37, 0)), some (.inr (38, 0)), some (.inr (39, 0)), some (.inl x7), some (.inl x8), some (.inl x9), some (.inl x10), some (.inl x11), some (.inl x12), d13, d14, d15] [] m (qI Q)
  refine r_iload L_114_18 rfl ?_
  refine r_aload_n L_114_20 rfl ?_
  refine r_iconst L_114_21 kI_1 ?_
  refine r_iald (N := 8) (j := 1) L_114_22 (by decide +kernel) rfl (by decide +kernel) (by decide +kernel) ?_
  refine r_icmpn L_114_23 cc_ge (i_mono h (fun c1 h => ?_) (fun c1 h => ?_))
  · refine r_iload L_114_26 rfl ?_
    refine r_if L_114_28 rfl (i_mono h (fun c2 h => ?_) (fun c2 h => ?_))
    · refine r_iconst L_114_308 kI_0 ?_
      refine r_istore (ls1 := [some (.inr (27, 0)), some (.inr (34, 0)), some (.inr (35, 0)), some (.inr (36, 0)), some (.inr (37, 0)), some (.inr (38, 0)), some (.inr (39, 0)), some (.inl x7), some (.inl x8), some (.inl x9), some (.inl x10), some (.inl x11), some (.inl 0), d13, d14, d15]) L_114_309 (Nat.le_of_ble_eq_true rfl) rfl ?_
      exact h _ _ _
    · refine r_iconst L_114_31 kI_5 ?_
      refine r_iload L_114_32 rfl ?_
      refine r_imul L_114_34 ?_
      refine r_istore (ls1 := [some (.inr (27, 0)), some (.inr (34, 0)), some (.inr (35, 0)), some (.inr (36, 0)), some (.inr (37, 0)), some (.inr (38, 0)), some (.inr (39, 0)), some (.inl x7), some (.inl x8), some (.inl x9), some (.inl x10), some (.inl x11), some (.inl x12), some (.inl (5 * x12)), d14, d15]) L_114_35 (Nat.le_of_ble_eq_true rfl) rfl ?_
      refine r_iconst L_114_37 kI_0 ?_
      refine r_istore (ls1 := [some (.inr (27, 0)), some (.inr (34, 0)), some (.inr (35, 0)), some (.inr (36, 0)), some (.inr (37, 0)), some (.inr (38, 0)), some (.inr (39, 0)), some (.inl x7), some (.inl x8), some (.inl x9), some (.inl x10), some (.inl x11), some (.inl x12), some (.inl (5 * x12)), some (.inl 0), d15]) L_114_38 (Nat.le_of_ble_eq_true rfl) rfl ?_
      refine r_iconst L_114_40 kI_0 ?_
      refine r_istore (ls1 := [some (.inr (27, 0)), some (.inr (34, 0)), some (.inr (35, 0)), some (.inr (36, 0)), some (.inr (37, 0)), some (.inr (38, 0)), some (.inr (39, 0)), some (.inl x7), some (.inl x8), some (.inl x9), some (.inl x10), some (.inl x11), some (.inl x12), some (.inl (5 * x12)), some (.inl 0), some (.inl 0)]) L_114_41 (Nat.le_of_ble_eq_true rfl) rfl ?_
      exact h
  · refine r_iconst L_114_308 kI_0 ?_
    refine r_istore (ls1 := [some (.inr (27, 0)), some (.inr (34, 0)), some (.inr (35, 0)), some (.inr (36, 0)), some (.inr (37, 0)), some (.inr (38, 0)), some (.inr (39, 0)), some (.inl x7), some (.inl x8), some (.inl x9), some (.inl x10), some (.inl x11), some (.inl 0), d13, d14, d15]) L_114_309 (Nat.le_of_ble_eq_true rfl) rfl ?_
    exact h _ _ _
/-- Law.isSo -/
theorem T_114 {m : aM} {Q : Int32 → aM → Prop} (h :
   H_114_18 0 0 0 0 1 0 m Q
  ) : Mi 114 [.inr (27, 0), .inr (34, 0), .inr (35, 0), .inr (36, 0), .inr (37, 0), .inr (38, 0), .inr (39, 0)] m Q := by
  refine Mi_in ML_114 (show Rg 114 0 [some (.inr (27, 0)), some (.inr (34, 0)), some (.inr (35, 0)), some (.inr (36, 0)), some (.inr (37, 0)), some (.inr (38, 0)), some (.inr (39, 0)), none, none, none, none, none, none, none, none, none] [] m (qI Q) from ?_)
  refine r_iconst L_114_0 kI_0 ?_
  refine r_istore (ls1 := [some (.inr (27, 0)), some (.inr (34, 0)), some (.inr (35, 0)), some (.inr (36, 0)), some (.inr (37, 0)), some (.inr (38, 0)), some (.inr (39, 0)), some (.inl 0), none, none, none, none, none, none, none, none]) L_114_1 (Nat.le_of_ble_eq_true rfl) rfl ?_
  refine r_iconst L_114_3 kI_0 ?_
  refine r_istore (ls1 := [some (.inr (27, 0)), some (.inr (34, 0)), some (.inr (35, 0)), some (.inr (36, 0)), some (.inr (37, 0)), some (.inr (38, 0)), some (.inr (39, 0)), some (.inl 0), some (.inl 0), none, none, none, none, none, none, none]) L_114_4 (Nat.le_of_ble_eq_true rfl) rfl ?_
  refine r_iconst L_114_6 kI_0 ?_
  refine r_istore (ls1 := [some (.inr (27, 0)), some (.inr (34, 0)), some (.inr (35, 0)), some (.inr (36, 0)), some (.inr (37, 0)), some (.inr (38, 0)), some (.inr (39, 0)), some (.inl 0), some (.inl 0), some (.inl 0), none, none, none, none, none, none]) L_114_7 (Nat.le_of_ble_eq_true rfl) rfl ?_
  refine r_iconst L_114_9 kI_0 ?_
  refine r_istore (ls1 := [some (.inr (27, 0)), some (.inr (34, 0)), some (.inr (35, 0)), some (.inr (36, 0)), some (.inr (37, 0)), some (.inr (38, 0)), some (.inr (39, 0)), some (.inl 0), some (.inl 0), some (.inl 0), some (.inl 0), none, none, none, none, none]) L_114_10 (Nat.le_of_ble_eq_true rfl) rfl ?_
  refine r_iconst L_114_12 kI_1 ?_
  refine r_istore (ls1 := [some (.inr (27, 0)), some (.inr (34, 0)), some (.inr (35, 0)), some (.inr (36, 0)), some (.inr (37, 0)), some (.inr (38, 0)), some (.inr (39, 0)), some (.inl 0), some (.inl 0), some (.inl 0), some (.inl 0), some (.inl 1), none, none, none, none]) L_114_13 (Nat.le_of_ble_eq_true rfl) rfl ?_
  refine r_iconst L_114_15 kI_0 ?_
  refine r_istore (ls1 := [some (.inr (27, 0)), some (.inr (34, 0)), some (.inr (35, 0)), some (.inr (36, 0)), some (.inr (37, 0)), some (.inr (38, 0)), some (.inr (39, 0)), some (.inl 0), some (.inl 0), some (.inl 0), some (.inl 0), some (.inl 1), some (.inl 0), none, none, none]) L_114_16 (Nat.le_of_ble_eq_true rfl) rfl ?_
  exact h _ _ _
