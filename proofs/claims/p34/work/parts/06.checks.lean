/-! every row of code is as the checker wants it -/
theorem a_k0 : (a_c0.all fun e => a_chk a_m0 e.1 e.2) = true := by decide +kernel
theorem a_k1 : (a_c1.all fun e => a_chk a_m1 e.1 e.2) = true := by decide +kernel
theorem a_k2 : (a_c2.all fun e => a_chk a_m2 e.1 e.2) = true := by decide +kernel
theorem a_k3 : (a_c3.all fun e => a_chk a_m3 e.1 e.2) = true := by decide +kernel
theorem a_k4 : (a_c4.all fun e => a_chk a_m4 e.1 e.2) = true := by decide +kernel
theorem a_k5 : (a_c5.all fun e => a_chk a_m5 e.1 e.2) = true := by decide +kernel
theorem a_k6 : (a_c6.all fun e => a_chk a_m6 e.1 e.2) = true := by decide +kernel
theorem a_k7 : (a_c7.all fun e => a_chk a_m7 e.1 e.2) = true := by decide +kernel
theorem a_k8 : (a_c8.all fun e => a_chk a_m8 e.1 e.2) = true := by decide +kernel
theorem a_k9 : (a_c9.all fun e => a_chk a_m9 e.1 e.2) = true := by decide +kernel
theorem a_k10 : (a_c10.all fun e => a_chk a_m10 e.1 e.2) = true := by decide +kernel
theorem a_k11 : (a_c11.all fun e => a_chk a_m11 e.1 e.2) = true := by decide +kernel
theorem a_k12 : (a_c12.all fun e => a_chk a_m12 e.1 e.2) = true := by decide +kernel
theorem a_k13 : (a_c13.all fun e => a_chk a_m13 e.1 e.2) = true := by decide +kernel
theorem a_k14_0 : (a_c14_0.all fun e => a_chk a_m14 e.1 e.2) = true := by decide +kernel
theorem a_k14_1 : (a_c14_1.all fun e => a_chk a_m14 e.1 e.2) = true := by decide +kernel
theorem a_k14 : (a_c14.all fun e => a_chk a_m14 e.1 e.2) = true := by
  unfold a_c14
  exact (by
  rw [List.all_append, Bool.and_eq_true]
  exact ⟨a_k14_0, a_k14_1⟩)
theorem a_k15 : (a_c15.all fun e => a_chk a_m15 e.1 e.2) = true := by decide +kernel
theorem a_k16 : (a_c16.all fun e => a_chk a_m16 e.1 e.2) = true := by decide +kernel
theorem a_k17 : (a_c17.all fun e => a_chk a_m17 e.1 e.2) = true := by decide +kernel
theorem a_k18 : (a_c18.all fun e => a_chk a_m18 e.1 e.2) = true := by decide +kernel
theorem a_k19 : (a_c19.all fun e => a_chk a_m19 e.1 e.2) = true := by decide +kernel
theorem a_k20 : (a_c20.all fun e => a_chk a_m20 e.1 e.2) = true := by decide +kernel
theorem a_k21 : (a_c21.all fun e => a_chk a_m21 e.1 e.2) = true := by decide +kernel
theorem a_k22_0 : (a_c22_0.all fun e => a_chk a_m22 e.1 e.2) = true := by decide +kernel
theorem a_k22_1 : (a_c22_1.all fun e => a_chk a_m22 e.1 e.2) = true := by decide +kernel
theorem a_k22 : (a_c22.all fun e => a_chk a_m22 e.1 e.2) = true := by
  unfold a_c22
  exact (by
  rw [List.all_append, Bool.and_eq_true]
  exact ⟨a_k22_0, a_k22_1⟩)
theorem a_k23 : (a_c23.all fun e => a_chk a_m23 e.1 e.2) = true := by decide +kernel
theorem a_k24 : (a_c24.all fun e => a_chk a_m24 e.1 e.2) = true := by decide +kernel
theorem a_k25_0 : (a_c25_0.all fun e => a_chk a_m25 e.1 e.2) = true := by decide +kernel
theorem a_k25_1 : (a_c25_1.all fun e => a_chk a_m25 e.1 e.2) = true := by decide +kernel
theorem a_k25 : (a_c25.all fun e => a_chk a_m25 e.1 e.2) = true := by
  unfold a_c25
  exact (by
  rw [List.all_append, Bool.and_eq_true]
  exact ⟨a_k25_0, a_k25_1⟩)
theorem a_k26 : (a_c26.all fun e => a_chk a_m26 e.1 e.2) = true := by decide +kernel
theorem a_k27 : (a_c27.all fun e => a_chk a_m27 e.1 e.2) = true := by decide +kernel
theorem a_k28 : (a_c28.all fun e => a_chk a_m28 e.1 e.2) = true := by decide +kernel
theorem a_k29 : (a_c29.all fun e => a_chk a_m29 e.1 e.2) = true := by decide +kernel
theorem a_k30 : (a_c30.all fun e => a_chk a_m30 e.1 e.2) = true := by decide +kernel
theorem a_k31_0 : (a_c31_0.all fun e => a_chk a_m31 e.1 e.2) = true := by decide +kernel
theorem a_k31_1 : (a_c31_1.all fun e => a_chk a_m31 e.1 e.2) = true := by decide +kernel
theorem a_k31 : (a_c31.all fun e => a_chk a_m31 e.1 e.2) = true := by
  unfold a_c31
  exact (by
  rw [List.all_append, Bool.and_eq_true]
  exact ⟨a_k31_0, a_k31_1⟩)
theorem a_k32_0 : (a_c32_0.all fun e => a_chk a_m32 e.1 e.2) = true := by decide +kernel
theorem a_k32_1 : (a_c32_1.all fun e => a_chk a_m32 e.1 e.2) = true := by decide +kernel
theorem a_k32_2 : (a_c32_2.all fun e => a_chk a_m32 e.1 e.2) = true := by decide +kernel
theorem a_k32 : (a_c32.all fun e => a_chk a_m32 e.1 e.2) = true := by
  unfold a_c32
  exact (by
  rw [List.all_append, Bool.and_eq_true]
  exact ⟨a_k32_0, (by
  rw [List.all_append, Bool.and_eq_true]
  exact ⟨a_k32_1, a_k32_2⟩)⟩)
theorem a_k33_0 : (a_c33_0.all fun e => a_chk a_m33 e.1 e.2) = true := by decide +kernel
theorem a_k33_1 : (a_c33_1.all fun e => a_chk a_m33 e.1 e.2) = true := by decide +kernel
theorem a_k33 : (a_c33.all fun e => a_chk a_m33 e.1 e.2) = true := by
  unfold a_c33
  exact (by
  rw [List.all_append, Bool.and_eq_true]
  exact ⟨a_k33_0, a_k33_1⟩)
theorem a_k34 : (a_c34.all fun e => a_chk a_m34 e.1 e.2) = true := by decide +kernel
theorem a_k35 : (a_c35.all fun e => a_chk a_m35 e.1 e.2) = true := by decide +kernel
theorem a_k36 : (a_c36.all fun e => a_chk a_m36 e.1 e.2) = true := by decide +kernel
theorem a_k37_0 : (a_c37_0.all fun e => a_chk a_m37 e.1 e.2) = true := by decide +kernel
theorem a_k37_1 : (a_c37_1.all fun e => a_chk a_m37 e.1 e.2) = true := by decide +kernel
theorem a_k37 : (a_c37.all fun e => a_chk a_m37 e.1 e.2) = true := by
  unfold a_c37
  exact (by
  rw [List.all_append, Bool.and_eq_true]
  exact ⟨a_k37_0, a_k37_1⟩)
theorem a_k38_0 : (a_c38_0.all fun e => a_chk a_m38 e.1 e.2) = true := by decide +kernel
theorem a_k38_1 : (a_c38_1.all fun e => a_chk a_m38 e.1 e.2) = true := by decide +kernel
theorem a_k38 : (a_c38.all fun e => a_chk a_m38 e.1 e.2) = true := by
  unfold a_c38
  exact (by
  rw [List.all_append, Bool.and_eq_true]
  exact ⟨a_k38_0, a_k38_1⟩)
theorem a_k39 : (a_c39.all fun e => a_chk a_m39 e.1 e.2) = true := by decide +kernel
theorem a_k40 : (a_c40.all fun e => a_chk a_m40 e.1 e.2) = true := by decide +kernel
theorem a_k41 : (a_c41.all fun e => a_chk a_m41 e.1 e.2) = true := by decide +kernel
theorem a_k42 : (a_c42.all fun e => a_chk a_m42 e.1 e.2) = true := by decide +kernel
theorem a_k43 : (a_c43.all fun e => a_chk a_m43 e.1 e.2) = true := by decide +kernel
theorem a_k44_0 : (a_c44_0.all fun e => a_chk a_m44 e.1 e.2) = true := by decide +kernel
theorem a_k44_1 : (a_c44_1.all fun e => a_chk a_m44 e.1 e.2) = true := by decide +kernel
theorem a_k44 : (a_c44.all fun e => a_chk a_m44 e.1 e.2) = true := by
  unfold a_c44
  exact (by
  rw [List.all_append, Bool.and_eq_true]
  exact ⟨a_k44_0, a_k44_1⟩)
theorem a_k45 : (a_c45.all fun e => a_chk a_m45 e.1 e.2) = true := by decide +kernel
theorem a_k46 : (a_c46.all fun e => a_chk a_m46 e.1 e.2) = true := by decide +kernel
theorem a_k47_0 : (a_c47_0.all fun e => a_chk a_m47 e.1 e.2) = true := by decide +kernel
theorem a_k47_1 : (a_c47_1.all fun e => a_chk a_m47 e.1 e.2) = true := by decide +kernel
theorem a_k47 : (a_c47.all fun e => a_chk a_m47 e.1 e.2) = true := by
  unfold a_c47
  exact (by
  rw [List.all_append, Bool.and_eq_true]
  exact ⟨a_k47_0, a_k47_1⟩)
theorem a_k48 : (a_c48.all fun e => a_chk a_m48 e.1 e.2) = true := by decide +kernel
theorem a_k49 : (a_c49.all fun e => a_chk a_m49 e.1 e.2) = true := by decide +kernel
theorem a_k50_0 : (a_c50_0.all fun e => a_chk a_m50 e.1 e.2) = true := by decide +kernel
theorem a_k50_1 : (a_c50_1.all fun e => a_chk a_m50 e.1 e.2) = true := by decide +kernel
theorem a_k50 : (a_c50.all fun e => a_chk a_m50 e.1 e.2) = true := by
  unfold a_c50
  exact (by
  rw [List.all_append, Bool.and_eq_true]
  exact ⟨a_k50_0, a_k50_1⟩)
theorem a_k51_0 : (a_c51_0.all fun e => a_chk a_m51 e.1 e.2) = true := by decide +kernel
theorem a_k51_1 : (a_c51_1.all fun e => a_chk a_m51 e.1 e.2) = true := by decide +kernel
theorem a_k51 : (a_c51.all fun e => a_chk a_m51 e.1 e.2) = true := by
  unfold a_c51
  exact (by
  rw [List.all_append, Bool.and_eq_true]
  exact ⟨a_k51_0, a_k51_1⟩)
theorem a_k52 : (a_c52.all fun e => a_chk a_m52 e.1 e.2) = true := by decide +kernel
theorem a_k53_0 : (a_c53_0.all fun e => a_chk a_m53 e.1 e.2) = true := by decide +kernel
theorem a_k53_1 : (a_c53_1.all fun e => a_chk a_m53 e.1 e.2) = true := by decide +kernel
theorem a_k53_2 : (a_c53_2.all fun e => a_chk a_m53 e.1 e.2) = true := by decide +kernel
theorem a_k53 : (a_c53.all fun e => a_chk a_m53 e.1 e.2) = true := by
  unfold a_c53
  exact (by
  rw [List.all_append, Bool.and_eq_true]
  exact ⟨a_k53_0, (by
  rw [List.all_append, Bool.and_eq_true]
  exact ⟨a_k53_1, a_k53_2⟩)⟩)
theorem a_k54_0 : (a_c54_0.all fun e => a_chk a_m54 e.1 e.2) = true := by decide +kernel
theorem a_k54_1 : (a_c54_1.all fun e => a_chk a_m54 e.1 e.2) = true := by decide +kernel
theorem a_k54 : (a_c54.all fun e => a_chk a_m54 e.1 e.2) = true := by
  unfold a_c54
  exact (by
  rw [List.all_append, Bool.and_eq_true]
  exact ⟨a_k54_0, a_k54_1⟩)
theorem a_k55_0 : (a_c55_0.all fun e => a_chk a_m55 e.1 e.2) = true := by decide +kernel
theorem a_k55_1 : (a_c55_1.all fun e => a_chk a_m55 e.1 e.2) = true := by decide +kernel
theorem a_k55 : (a_c55.all fun e => a_chk a_m55 e.1 e.2) = true := by
  unfold a_c55
  exact (by
  rw [List.all_append, Bool.and_eq_true]
  exact ⟨a_k55_0, a_k55_1⟩)
theorem a_k56 : (a_c56.all fun e => a_chk a_m56 e.1 e.2) = true := by decide +kernel
theorem a_k57 : (a_c57.all fun e => a_chk a_m57 e.1 e.2) = true := by decide +kernel
theorem a_k58 : (a_c58.all fun e => a_chk a_m58 e.1 e.2) = true := by decide +kernel
theorem a_k59 : (a_c59.all fun e => a_chk a_m59 e.1 e.2) = true := by decide +kernel
theorem a_k60 : (a_c60.all fun e => a_chk a_m60 e.1 e.2) = true := by decide +kernel
theorem a_k61 : (a_c61.all fun e => a_chk a_m61 e.1 e.2) = true := by decide +kernel
theorem a_k62 : (a_c62.all fun e => a_chk a_m62 e.1 e.2) = true := by decide +kernel
theorem a_k63 : (a_c63.all fun e => a_chk a_m63 e.1 e.2) = true := by decide +kernel
theorem a_k64 : (a_c64.all fun e => a_chk a_m64 e.1 e.2) = true := by decide +kernel
theorem a_k65 : (a_c65.all fun e => a_chk a_m65 e.1 e.2) = true := by decide +kernel
theorem a_k66 : (a_c66.all fun e => a_chk a_m66 e.1 e.2) = true := by decide +kernel
theorem a_k67 : (a_c67.all fun e => a_chk a_m67 e.1 e.2) = true := by decide +kernel
theorem a_k68 : (a_c68.all fun e => a_chk a_m68 e.1 e.2) = true := by decide +kernel
theorem a_k69 : (a_c69.all fun e => a_chk a_m69 e.1 e.2) = true := by decide +kernel
theorem a_k70 : (a_c70.all fun e => a_chk a_m70 e.1 e.2) = true := by decide +kernel
theorem a_k71 : (a_c71.all fun e => a_chk a_m71 e.1 e.2) = true := by decide +kernel
theorem a_k72 : (a_c72.all fun e => a_chk a_m72 e.1 e.2) = true := by decide +kernel
theorem a_k73 : (a_c73.all fun e => a_chk a_m73 e.1 e.2) = true := by decide +kernel
theorem a_k74 : (a_c74.all fun e => a_chk a_m74 e.1 e.2) = true := by decide +kernel
theorem a_k75 : (a_c75.all fun e => a_chk a_m75 e.1 e.2) = true := by decide +kernel
theorem a_k76 : (a_c76.all fun e => a_chk a_m76 e.1 e.2) = true := by decide +kernel
theorem a_k77 : (a_c77.all fun e => a_chk a_m77 e.1 e.2) = true := by decide +kernel
theorem a_k78 : (a_c78.all fun e => a_chk a_m78 e.1 e.2) = true := by decide +kernel
theorem a_k79 : (a_c79.all fun e => a_chk a_m79 e.1 e.2) = true := by decide +kernel
theorem a_k80 : (a_c80.all fun e => a_chk a_m80 e.1 e.2) = true := by decide +kernel
theorem a_k81 : (a_c81.all fun e => a_chk a_m81 e.1 e.2) = true := by decide +kernel
theorem a_k82 : (a_c82.all fun e => a_chk a_m82 e.1 e.2) = true := by decide +kernel
theorem a_k83 : (a_c83.all fun e => a_chk a_m83 e.1 e.2) = true := by decide +kernel
theorem a_k84 : (a_c84.all fun e => a_chk a_m84 e.1 e.2) = true := by decide +kernel
theorem a_k85 : (a_c85.all fun e => a_chk a_m85 e.1 e.2) = true := by decide +kernel
theorem a_k86 : (a_c86.all fun e => a_chk a_m86 e.1 e.2) = true := by decide +kernel
theorem a_k87 : (a_c87.all fun e => a_chk a_m87 e.1 e.2) = true := by decide +kernel
theorem a_k88 : (a_c88.all fun e => a_chk a_m88 e.1 e.2) = true := by decide +kernel
theorem a_k89 : (a_c89.all fun e => a_chk a_m89 e.1 e.2) = true := by decide +kernel
theorem a_k90 : (a_c90.all fun e => a_chk a_m90 e.1 e.2) = true := by decide +kernel
theorem a_k91 : (a_c91.all fun e => a_chk a_m91 e.1 e.2) = true := by decide +kernel
theorem a_k92_0 : (a_c92_0.all fun e => a_chk a_m92 e.1 e.2) = true := by decide +kernel
theorem a_k92_1 : (a_c92_1.all fun e => a_chk a_m92 e.1 e.2) = true := by decide +kernel
theorem a_k92 : (a_c92.all fun e => a_chk a_m92 e.1 e.2) = true := by
  unfold a_c92
  exact (by
  rw [List.all_append, Bool.and_eq_true]
  exact ⟨a_k92_0, a_k92_1⟩)
theorem a_k93 : (a_c93.all fun e => a_chk a_m93 e.1 e.2) = true := by decide +kernel
theorem a_k94 : (a_c94.all fun e => a_chk a_m94 e.1 e.2) = true := by decide +kernel
theorem a_k95 : (a_c95.all fun e => a_chk a_m95 e.1 e.2) = true := by decide +kernel
theorem a_k96 : (a_c96.all fun e => a_chk a_m96 e.1 e.2) = true := by decide +kernel
theorem a_k97 : (a_c97.all fun e => a_chk a_m97 e.1 e.2) = true := by decide +kernel
theorem a_k98 : (a_c98.all fun e => a_chk a_m98 e.1 e.2) = true := by decide +kernel
theorem a_k99 : (a_c99.all fun e => a_chk a_m99 e.1 e.2) = true := by decide +kernel
theorem a_k100 : (a_c100.all fun e => a_chk a_m100 e.1 e.2) = true := by decide +kernel
theorem a_k101 : (a_c101.all fun e => a_chk a_m101 e.1 e.2) = true := by decide +kernel
theorem a_k102_0 : (a_c102_0.all fun e => a_chk a_m102 e.1 e.2) = true := by decide +kernel
theorem a_k102_1 : (a_c102_1.all fun e => a_chk a_m102 e.1 e.2) = true := by decide +kernel
theorem a_k102_2 : (a_c102_2.all fun e => a_chk a_m102 e.1 e.2) = true := by decide +kernel
theorem a_k102_3 : (a_c102_3.all fun e => a_chk a_m102 e.1 e.2) = true := by decide +kernel
theorem a_k102 : (a_c102.all fun e => a_chk a_m102 e.1 e.2) = true := by
  unfold a_c102
  exact (by
  rw [List.all_append, Bool.and_eq_true]
  exact ⟨a_k102_0, (by
  rw [List.all_append, Bool.and_eq_true]
  exact ⟨a_k102_1, (by
  rw [List.all_append, Bool.and_eq_true]
  exact ⟨a_k102_2, a_k102_3⟩)⟩)⟩)
theorem a_k103 : (a_c103.all fun e => a_chk a_m103 e.1 e.2) = true := by decide +kernel
theorem a_k104_0 : (a_c104_0.all fun e => a_chk a_m104 e.1 e.2) = true := by decide +kernel
theorem a_k104_1 : (a_c104_1.all fun e => a_chk a_m104 e.1 e.2) = true := by decide +kernel
theorem a_k104_2 : (a_c104_2.all fun e => a_chk a_m104 e.1 e.2) = true := by decide +kernel
theorem a_k104 : (a_c104.all fun e => a_chk a_m104 e.1 e.2) = true := by
  unfold a_c104
  exact (by
  rw [List.all_append, Bool.and_eq_true]
  exact ⟨a_k104_0, (by
  rw [List.all_append, Bool.and_eq_true]
  exact ⟨a_k104_1, a_k104_2⟩)⟩)
theorem a_k105_0 : (a_c105_0.all fun e => a_chk a_m105 e.1 e.2) = true := by decide +kernel
theorem a_k105_1 : (a_c105_1.all fun e => a_chk a_m105 e.1 e.2) = true := by decide +kernel
theorem a_k105 : (a_c105.all fun e => a_chk a_m105 e.1 e.2) = true := by
  unfold a_c105
  exact (by
  rw [List.all_append, Bool.and_eq_true]
  exact ⟨a_k105_0, a_k105_1⟩)
theorem a_k106 : (a_c106.all fun e => a_chk a_m106 e.1 e.2) = true := by decide +kernel
theorem a_k107 : (a_c107.all fun e => a_chk a_m107 e.1 e.2) = true := by decide +kernel
theorem a_k108 : (a_c108.all fun e => a_chk a_m108 e.1 e.2) = true := by decide +kernel
theorem a_k109_0 : (a_c109_0.all fun e => a_chk a_m109 e.1 e.2) = true := by decide +kernel
theorem a_k109_1 : (a_c109_1.all fun e => a_chk a_m109 e.1 e.2) = true := by decide +kernel
theorem a_k109_2 : (a_c109_2.all fun e => a_chk a_m109 e.1 e.2) = true := by decide +kernel
theorem a_k109_3 : (a_c109_3.all fun e => a_chk a_m109 e.1 e.2) = true := by decide +kernel
theorem a_k109_4 : (a_c109_4.all fun e => a_chk a_m109 e.1 e.2) = true := by decide +kernel
theorem a_k109_5 : (a_c109_5.all fun e => a_chk a_m109 e.1 e.2) = true := by decide +kernel
theorem a_k109 : (a_c109.all fun e => a_chk a_m109 e.1 e.2) = true := by
  unfold a_c109
  exact (by
  rw [List.all_append, Bool.and_eq_true]
  exact ⟨a_k109_0, (by
  rw [List.all_append, Bool.and_eq_true]
  exact ⟨a_k109_1, (by
  rw [List.all_append, Bool.and_eq_true]
  exact ⟨a_k109_2, (by
  rw [List.all_append, Bool.and_eq_true]
  exact ⟨a_k109_3, (by
  rw [List.all_append, Bool.and_eq_true]
  exact ⟨a_k109_4, a_k109_5⟩)⟩)⟩)⟩)⟩)
theorem a_k110_0 : (a_c110_0.all fun e => a_chk a_m110 e.1 e.2) = true := by decide +kernel
theorem a_k110_1 : (a_c110_1.all fun e => a_chk a_m110 e.1 e.2) = true := by decide +kernel
theorem a_k110_2 : (a_c110_2.all fun e => a_chk a_m110 e.1 e.2) = true := by decide +kernel
theorem a_k110_3 : (a_c110_3.all fun e => a_chk a_m110 e.1 e.2) = true := by decide +kernel
theorem a_k110_4 : (a_c110_4.all fun e => a_chk a_m110 e.1 e.2) = true := by decide +kernel
theorem a_k110_5 : (a_c110_5.all fun e => a_chk a_m110 e.1 e.2) = true := by decide +kernel
theorem a_k110_6 : (a_c110_6.all fun e => a_chk a_m110 e.1 e.2) = true := by decide +kernel
theorem a_k110_7 : (a_c110_7.all fun e => a_chk a_m110 e.1 e.2) = true := by decide +kernel
theorem a_k110 : (a_c110.all fun e => a_chk a_m110 e.1 e.2) = true := by
  unfold a_c110
  exact (by
  rw [List.all_append, Bool.and_eq_true]
  exact ⟨a_k110_0, (by
  rw [List.all_append, Bool.and_eq_true]
  exact ⟨a_k110_1, (by
  rw [List.all_append, Bool.and_eq_true]
  exact ⟨a_k110_2, (by
  rw [List.all_append, Bool.and_eq_true]
  exact ⟨a_k110_3, (by
  rw [List.all_append, Bool.and_eq_true]
  exact ⟨a_k110_4, (by
  rw [List.all_append, Bool.and_eq_true]
  exact ⟨a_k110_5, (by
  rw [List.all_append, Bool.and_eq_true]
  exact ⟨a_k110_6, a_k110_7⟩)⟩)⟩)⟩)⟩)⟩)⟩)
theorem a_k111_0 : (a_c111_0.all fun e => a_chk a_m111 e.1 e.2) = true := by decide +kernel
theorem a_k111_1 : (a_c111_1.all fun e => a_chk a_m111 e.1 e.2) = true := by decide +kernel
theorem a_k111_2 : (a_c111_2.all fun e => a_chk a_m111 e.1 e.2) = true := by decide +kernel
theorem a_k111_3 : (a_c111_3.all fun e => a_chk a_m111 e.1 e.2) = true := by decide +kernel
theorem a_k111_4 : (a_c111_4.all fun e => a_chk a_m111 e.1 e.2) = true := by decide +kernel
theorem a_k111_5 : (a_c111_5.all fun e => a_chk a_m111 e.1 e.2) = true := by decide +kernel
theorem a_k111 : (a_c111.all fun e => a_chk a_m111 e.1 e.2) = true := by
  unfold a_c111
  exact (by
  rw [List.all_append, Bool.and_eq_true]
  exact ⟨a_k111_0, (by
  rw [List.all_append, Bool.and_eq_true]
  exact ⟨a_k111_1, (by
  rw [List.all_append, Bool.and_eq_true]
  exact ⟨a_k111_2, (by
  rw [List.all_append, Bool.and_eq_true]
  exact ⟨a_k111_3, (by
  rw [List.all_append, Bool.and_eq_true]
  exact ⟨a_k111_4, a_k111_5⟩)⟩)⟩)⟩)⟩)
theorem a_k112_0 : (a_c112_0.all fun e => a_chk a_m112 e.1 e.2) = true := by decide +kernel
theorem a_k112_1 : (a_c112_1.all fun e => a_chk a_m112 e.1 e.2) = true := by decide +kernel
theorem a_k112_2 : (a_c112_2.all fun e => a_chk a_m112 e.1 e.2) = true := by decide +kernel
theorem a_k112_3 : (a_c112_3.all fun e => a_chk a_m112 e.1 e.2) = true := by decide +kernel
theorem a_k112_4 : (a_c112_4.all fun e => a_chk a_m112 e.1 e.2) = true := by decide +kernel
theorem a_k112_5 : (a_c112_5.all fun e => a_chk a_m112 e.1 e.2) = true := by decide +kernel
theorem a_k112_6 : (a_c112_6.all fun e => a_chk a_m112 e.1 e.2) = true := by decide +kernel
theorem a_k112 : (a_c112.all fun e => a_chk a_m112 e.1 e.2) = true := by
  unfold a_c112
  exact (by
  rw [List.all_append, Bool.and_eq_true]
  exact ⟨a_k112_0, (by
  rw [List.all_append, Bool.and_eq_true]
  exact ⟨a_k112_1, (by
  rw [List.all_append, Bool.and_eq_true]
  exact ⟨a_k112_2, (by
  rw [List.all_append, Bool.and_eq_true]
  exact ⟨a_k112_3, (by
  rw [List.all_append, Bool.and_eq_true]
  exact ⟨a_k112_4, (by
  rw [List.all_append, Bool.and_eq_true]
  exact ⟨a_k112_5, a_k112_6⟩)⟩)⟩)⟩)⟩)⟩)
theorem a_k113_0 : (a_c113_0.all fun e => a_chk a_m113 e.1 e.2) = true := by decide +kernel
theorem a_k113_1 : (a_c113_1.all fun e => a_chk a_m113 e.1 e.2) = true := by decide +kernel
theorem a_k113_2 : (a_c113_2.all fun e => a_chk a_m113 e.1 e.2) = true := by decide +kernel
theorem a_k113_3 : (a_c113_3.all fun e => a_chk a_m113 e.1 e.2) = true := by decide +kernel
theorem a_k113 : (a_c113.all fun e => a_chk a_m113 e.1 e.2) = true := by
  unfold a_c113
  exact (by
  rw [List.all_append, Bool.and_eq_true]
  exact ⟨a_k113_0, (by
  rw [List.all_append, Bool.and_eq_true]
  exact ⟨a_k113_1, (by
  rw [List.all_append, Bool.and_eq_true]
  exact ⟨a_k113_2, a_k113_3⟩)⟩)⟩)
theorem a_k114_0 : (a_c114_0.all fun e => a_chk a_m114 e.1 e.2) = true := by decide +kernel
theorem a_k114_1 : (a_c114_1.all fun e => a_chk a_m114 e.1 e.2) = true := by decide +kernel
theorem a_k114_2 : (a_c114_2.all fun e => a_chk a_m114 e.1 e.2) = true := by decide +kernel
theorem a_k114_3 : (a_c114_3.all fun e => a_chk a_m114 e.1 e.2) = true := by decide +kernel
theorem a_k114_4 : (a_c114_4.all fun e => a_chk a_m114 e.1 e.2) = true := by decide +kernel
theorem a_k114_5 : (a_c114_5.all fun e => a_chk a_m114 e.1 e.2) = true := by decide +kernel
theorem a_k114_6 : (a_c114_6.all fun e => a_chk a_m114 e.1 e.2) = true := by decide +kernel
theorem a_k114_7 : (a_c114_7.all fun e => a_chk a_m114 e.1 e.2) = true := by decide +kernel
theorem a_k114_8 : (a_c114_8.all fun e => a_chk a_m114 e.1 e.2) = true := by decide +kernel
theorem a_k114_9 : (a_c114_9.all fun e => a_chk a_m114 e.1 e.2) = true := by decide +kernel
theorem a_k114_10 : (a_c114_10.all fun e => a_chk a_m114 e.1 e.2) = true := by decide +kernel
theorem a_k114_11 : (a_c114_11.all fun e => a_chk a_m114 e.1 e.2) = true := by decide +kernel
theorem a_k114_12 : (a_c114_12.all fun e => a_chk a_m114 e.1 e.2) = true := by decide +kernel
theorem a_k114_13 : (a_c114_13.all fun e => a_chk a_m114 e.1 e.2) = true := by decide +kernel
theorem a_k114_14 : (a_c114_14.all fun e => a_chk a_m114 e.1 e.2) = true := by decide +kernel
theorem a_k114_15 : (a_c114_15.all fun e => a_chk a_m114 e.1 e.2) = true := by decide +kernel
theorem a_k114_16 : (a_c114_16.all fun e => a_chk a_m114 e.1 e.2) = true := by decide +kernel
theorem a_k114 : (a_c114.all fun e => a_chk a_m114 e.1 e.2) = true := by
  unfold a_c114
  exact (by
  rw [List.all_append, Bool.and_eq_true]
  exact ⟨a_k114_0, (by
  rw [List.all_append, Bool.and_eq_true]
  exact ⟨a_k114_1, (by
  rw [List.all_append, Bool.and_eq_true]
  exact ⟨a_k114_2, (by
  rw [List.all_append, Bool.and_eq_true]
  exact ⟨a_k114_3, (by
  rw [List.all_append, Bool.and_eq_true]
  exact ⟨a_k114_4, (by
  rw [List.all_append, Bool.and_eq_true]
  exact ⟨a_k114_5, (by
  rw [List.all_append, Bool.and_eq_true]
  exact ⟨a_k114_6, (by
  rw [List.all_append, Bool.and_eq_true]
  exact ⟨a_k114_7, (by
  rw [List.all_append, Bool.and_eq_true]
  exact ⟨a_k114_8, (by
  rw [List.all_append, Bool.and_eq_true]
  exact ⟨a_k114_9, (by
  rw [List.all_append, Bool.and_eq_true]
  exact ⟨a_k114_10, (by
  rw [List.all_append, Bool.and_eq_true]
  exact ⟨a_k114_11, (by
  rw [List.all_append, Bool.and_eq_true]
  exact ⟨a_k114_12, (by
  rw [List.all_append, Bool.and_eq_true]
  exact ⟨a_k114_13, (by
  rw [List.all_append, Bool.and_eq_true]
  exact ⟨a_k114_14, (by
  rw [List.all_append, Bool.and_eq_true]
  exact ⟨a_k114_15, a_k114_16⟩)⟩)⟩)⟩)⟩)⟩)⟩)⟩)⟩)⟩)⟩)⟩)⟩)⟩)⟩)⟩)
theorem a_k115_0 : (a_c115_0.all fun e => a_chk a_m115 e.1 e.2) = true := by decide +kernel
theorem a_k115_1 : (a_c115_1.all fun e => a_chk a_m115 e.1 e.2) = true := by decide +kernel
theorem a_k115_2 : (a_c115_2.all fun e => a_chk a_m115 e.1 e.2) = true := by decide +kernel
theorem a_k115_3 : (a_c115_3.all fun e => a_chk a_m115 e.1 e.2) = true := by decide +kernel
theorem a_k115_4 : (a_c115_4.all fun e => a_chk a_m115 e.1 e.2) = true := by decide +kernel
theorem a_k115 : (a_c115.all fun e => a_chk a_m115 e.1 e.2) = true := by
  unfold a_c115
  exact (by
  rw [List.all_append, Bool.and_eq_true]
  exact ⟨a_k115_0, (by
  rw [List.all_append, Bool.and_eq_true]
  exact ⟨a_k115_1, (by
  rw [List.all_append, Bool.and_eq_true]
  exact ⟨a_k115_2, (by
  rw [List.all_append, Bool.and_eq_true]
  exact ⟨a_k115_3, a_k115_4⟩)⟩)⟩)⟩)
theorem a_mok_0 : (a_mt_0.all a_mok) = true := by decide +kernel
theorem a_mok_1 : (a_mt_1.all a_mok) = true := by decide +kernel
theorem a_mok_2 : (a_mt_2.all a_mok) = true := by decide +kernel
theorem a_mok_3 : (a_mt_3.all a_mok) = true := by decide +kernel
theorem a_mok_4 : (a_mt_4.all a_mok) = true := by decide +kernel
theorem a_mok_5 : (a_mt_5.all a_mok) = true := by decide +kernel
theorem a_mok_6 : (a_mt_6.all a_mok) = true := by decide +kernel
theorem a_mok_7 : (a_mt_7.all a_mok) = true := by decide +kernel
theorem a_moks : ∀ M ∈ a_mtl, a_mok M = true := by
  unfold a_mtl
  exact (by
  rw [List.forall_mem_append]
  exact ⟨List.all_eq_true.mp a_mok_0, (by
  rw [List.forall_mem_append]
  exact ⟨List.all_eq_true.mp a_mok_1, (by
  rw [List.forall_mem_append]
  exact ⟨List.all_eq_true.mp a_mok_2, (by
  rw [List.forall_mem_append]
  exact ⟨List.all_eq_true.mp a_mok_3, (by
  rw [List.forall_mem_append]
  exact ⟨List.all_eq_true.mp a_mok_4, (by
  rw [List.forall_mem_append]
  exact ⟨List.all_eq_true.mp a_mok_5, (by
  rw [List.forall_mem_append]
  exact ⟨List.all_eq_true.mp a_mok_6, List.all_eq_true.mp a_mok_7⟩)⟩)⟩)⟩)⟩)⟩)⟩)
theorem a_cw0 : Cond.code a_m0.1 a_m0.2.1 a_m0.2.2.1 a_m0.2.2.2.1 ∈ wsL_law := a_wchs_in _ (List.mem_of_getElem? (i := 9) rfl) _ (List.mem_of_getElem? (l := wsL_law_r10) (i := 3) rfl)
theorem a_cw1 : Cond.code a_m1.1 a_m1.2.1 a_m1.2.2.1 a_m1.2.2.2.1 ∈ wsL_law := a_wchs_in _ (List.mem_of_getElem? (i := 9) rfl) _ (List.mem_of_getElem? (l := wsL_law_r10) (i := 3) rfl)
theorem a_cw2 : Cond.code a_m2.1 a_m2.2.1 a_m2.2.2.1 a_m2.2.2.2.1 ∈ wsL_law := a_wchs_in _ (List.mem_of_getElem? (i := 9) rfl) _ (List.mem_of_getElem? (l := wsL_law_r10) (i := 3) rfl)
theorem a_cw3 : Cond.code a_m3.1 a_m3.2.1 a_m3.2.2.1 a_m3.2.2.2.1 ∈ wsL_law := a_wchs_in _ (List.mem_of_getElem? (i := 9) rfl) _ (List.mem_of_getElem? (l := wsL_law_r10) (i := 3) rfl)
theorem a_cw4 : Cond.code a_m4.1 a_m4.2.1 a_m4.2.2.1 a_m4.2.2.2.1 ∈ wsL_law := a_wchs_in _ (List.mem_of_getElem? (i := 9) rfl) _ (List.mem_of_getElem? (l := wsL_law_r10) (i := 3) rfl)
theorem a_cw5 : Cond.code a_m5.1 a_m5.2.1 a_m5.2.2.1 a_m5.2.2.2.1 ∈ wsL_law := a_wchs_in _ (List.mem_of_getElem? (i := 9) rfl) _ (List.mem_of_getElem? (l := wsL_law_r10) (i := 3) rfl)
theorem a_cw6 : Cond.code a_m6.1 a_m6.2.1 a_m6.2.2.1 a_m6.2.2.2.1 ∈ wsL_law := a_wchs_in _ (List.mem_of_getElem? (i := 9) rfl) _ (List.mem_of_getElem? (l := wsL_law_r10) (i := 3) rfl)
theorem a_cw7 : Cond.code a_m7.1 a_m7.2.1 a_m7.2.2.1 a_m7.2.2.2.1 ∈ wsL_law := a_wchs_in _ (List.mem_of_getElem? (i := 9) rfl) _ (List.mem_of_getElem? (l := wsL_law_r10) (i := 3) rfl)
theorem a_cw8 : Cond.code a_m8.1 a_m8.2.1 a_m8.2.2.1 a_m8.2.2.2.1 ∈ wsL_law := a_wchs_in _ (List.mem_of_getElem? (i := 9) rfl) _ (List.mem_of_getElem? (l := wsL_law_r10) (i := 3) rfl)
theorem a_cw9 : Cond.code a_m9.1 a_m9.2.1 a_m9.2.2.1 a_m9.2.2.2.1 ∈ wsL_law := a_wchs_in _ (List.mem_of_getElem? (i := 9) rfl) _ (List.mem_of_getElem? (l := wsL_law_r10) (i := 3) rfl)
theorem a_cw10 : Cond.code a_m10.1 a_m10.2.1 a_m10.2.2.1 a_m10.2.2.2.1 ∈ wsL_law := a_wchs_in _ (List.mem_of_getElem? (i := 6) rfl) _ (List.mem_of_getElem? (l := wsL_law_r7) (i := 15) rfl)
theorem a_cw11 : Cond.code a_m11.1 a_m11.2.1 a_m11.2.2.1 a_m11.2.2.2.1 ∈ wsL_law := a_wchs_in _ (List.mem_of_getElem? (i := 9) rfl) _ (List.mem_of_getElem? (l := wsL_law_r10) (i := 16) rfl)
theorem a_cw12 : Cond.code a_m12.1 a_m12.2.1 a_m12.2.2.1 a_m12.2.2.2.1 ∈ wsL_law := a_wchs_in _ (List.mem_of_getElem? (i := 17) rfl) _ (List.mem_of_getElem? (l := wsL_law_r18) (i := 9) rfl)
theorem a_cw13 : Cond.code a_m13.1 a_m13.2.1 a_m13.2.2.1 a_m13.2.2.2.1 ∈ wsL_law := a_wchs_in _ (List.mem_of_getElem? (i := 14) rfl) _ (List.mem_of_getElem? (l := wsL_law_r15) (i := 14) rfl)
theorem a_cw14 : Cond.code a_m14.1 a_m14.2.1 a_m14.2.2.1 a_m14.2.2.2.1 ∈ wsL_law := a_wchs_in _ (List.mem_of_getElem? (i := 9) rfl) _ (List.mem_of_getElem? (l := wsL_law_r10) (i := 11) rfl)
theorem a_cw15 : Cond.code a_m15.1 a_m15.2.1 a_m15.2.2.1 a_m15.2.2.2.1 ∈ wsL_law := a_wchs_in _ (List.mem_of_getElem? (i := 11) rfl) _ (List.mem_of_getElem? (l := wsL_law_r12) (i := 1) rfl)
theorem a_cw16 : Cond.code a_m16.1 a_m16.2.1 a_m16.2.2.1 a_m16.2.2.2.1 ∈ wsL_law := a_wchs_in _ (List.mem_of_getElem? (i := 10) rfl) _ (List.mem_of_getElem? (l := wsL_law_r11) (i := 0) rfl)
theorem a_cw17 : Cond.code a_m17.1 a_m17.2.1 a_m17.2.2.1 a_m17.2.2.2.1 ∈ wsL_law := a_wchs_in _ (List.mem_of_getElem? (i := 11) rfl) _ (List.mem_of_getElem? (l := wsL_law_r12) (i := 5) rfl)
theorem a_cw18 : Cond.code a_m18.1 a_m18.2.1 a_m18.2.2.1 a_m18.2.2.2.1 ∈ wsL_law := a_wchs_in _ (List.mem_of_getElem? (i := 11) rfl) _ (List.mem_of_getElem? (l := wsL_law_r12) (i := 9) rfl)
theorem a_cw19 : Cond.code a_m19.1 a_m19.2.1 a_m19.2.2.1 a_m19.2.2.2.1 ∈ wsL_law := a_wchs_in _ (List.mem_of_getElem? (i := 9) rfl) _ (List.mem_of_getElem? (l := wsL_law_r10) (i := 3) rfl)
theorem a_cw20 : Cond.code a_m20.1 a_m20.2.1 a_m20.2.2.1 a_m20.2.2.2.1 ∈ wsL_law := a_wchs_in _ (List.mem_of_getElem? (i := 9) rfl) _ (List.mem_of_getElem? (l := wsL_law_r10) (i := 3) rfl)
theorem a_cw21 : Cond.code a_m21.1 a_m21.2.1 a_m21.2.2.1 a_m21.2.2.2.1 ∈ wsL_law := a_wchs_in _ (List.mem_of_getElem? (i := 9) rfl) _ (List.mem_of_getElem? (l := wsL_law_r10) (i := 3) rfl)
theorem a_cw22 : Cond.code a_m22.1 a_m22.2.1 a_m22.2.2.1 a_m22.2.2.2.1 ∈ wsL_law := a_wchs_in _ (List.mem_of_getElem? (i := 6) rfl) _ (List.mem_of_getElem? (l := wsL_law_r7) (i := 10) rfl)
theorem a_cw23 : Cond.code a_m23.1 a_m23.2.1 a_m23.2.2.1 a_m23.2.2.2.1 ∈ wsL_law := a_wchs_in _ (List.mem_of_getElem? (i := 8) rfl) _ (List.mem_of_getElem? (l := wsL_law_r9) (i := 14) rfl)
theorem a_cw24 : Cond.code a_m24.1 a_m24.2.1 a_m24.2.2.1 a_m24.2.2.2.1 ∈ wsL_law := a_wchs_in _ (List.mem_of_getElem? (i := 8) rfl) _ (List.mem_of_getElem? (l := wsL_law_r9) (i := 0) rfl)
theorem a_cw25 : Cond.code a_m25.1 a_m25.2.1 a_m25.2.2.1 a_m25.2.2.2.1 ∈ wsL_law := a_wchs_in _ (List.mem_of_getElem? (i := 8) rfl) _ (List.mem_of_getElem? (l := wsL_law_r9) (i := 18) rfl)
theorem a_cw26 : Cond.code a_m26.1 a_m26.2.1 a_m26.2.2.1 a_m26.2.2.2.1 ∈ wsL_law := a_wchs_in _ (List.mem_of_getElem? (i := 6) rfl) _ (List.mem_of_getElem? (l := wsL_law_r7) (i := 5) rfl)
theorem a_cw27 : Cond.code a_m27.1 a_m27.2.1 a_m27.2.2.1 a_m27.2.2.2.1 ∈ wsL_law := a_wchs_in _ (List.mem_of_getElem? (i := 12) rfl) _ (List.mem_of_getElem? (l := wsL_law_r13) (i := 10) rfl)
theorem a_cw28 : Cond.code a_m28.1 a_m28.2.1 a_m28.2.2.1 a_m28.2.2.2.1 ∈ wsL_law := a_wchs_in _ (List.mem_of_getElem? (i := 13) rfl) _ (List.mem_of_getElem? (l := wsL_law_r14) (i := 3) rfl)
theorem a_cw29 : Cond.code a_m29.1 a_m29.2.1 a_m29.2.2.1 a_m29.2.2.2.1 ∈ wsL_law := a_wchs_in _ (List.mem_of_getElem? (i := 9) rfl) _ (List.mem_of_getElem? (l := wsL_law_r10) (i := 3) rfl)
theorem a_cw30 : Cond.code a_m30.1 a_m30.2.1 a_m30.2.2.1 a_m30.2.2.2.1 ∈ wsL_law := a_wchs_in _ (List.mem_of_getElem? (i := 5) rfl) _ (List.mem_of_getElem? (l := wsL_law_r6) (i := 9) rfl)
theorem a_cw31 : Cond.code a_m31.1 a_m31.2.1 a_m31.2.2.1 a_m31.2.2.2.1 ∈ wsL_law := a_wchs_in _ (List.mem_of_getElem? (i := 12) rfl) _ (List.mem_of_getElem? (l := wsL_law_r13) (i := 17) rfl)
theorem a_cw32 : Cond.code a_m32.1 a_m32.2.1 a_m32.2.2.1 a_m32.2.2.2.1 ∈ wsL_law := a_wchs_in _ (List.mem_of_getElem? (i := 13) rfl) _ (List.mem_of_getElem? (l := wsL_law_r14) (i := 11) rfl)
theorem a_cw33 : Cond.code a_m33.1 a_m33.2.1 a_m33.2.2.1 a_m33.2.2.2.1 ∈ wsL_law := a_wchs_in _ (List.mem_of_getElem? (i := 14) rfl) _ (List.mem_of_getElem? (l := wsL_law_r15) (i := 9) rfl)
theorem a_cw34 : Cond.code a_m34.1 a_m34.2.1 a_m34.2.2.1 a_m34.2.2.2.1 ∈ wsL_law := a_wchs_in _ (List.mem_of_getElem? (i := 16) rfl) _ (List.mem_of_getElem? (l := wsL_law_r17) (i := 2) rfl)
theorem a_cw35 : Cond.code a_m35.1 a_m35.2.1 a_m35.2.2.1 a_m35.2.2.2.1 ∈ wsL_law := a_wchs_in _ (List.mem_of_getElem? (i := 15) rfl) _ (List.mem_of_getElem? (l := wsL_law_r16) (i := 4) rfl)
theorem a_cw36 : Cond.code a_m36.1 a_m36.2.1 a_m36.2.2.1 a_m36.2.2.2.1 ∈ wsL_law := a_wchs_in _ (List.mem_of_getElem? (i := 15) rfl) _ (List.mem_of_getElem? (l := wsL_law_r16) (i := 17) rfl)
theorem a_cw37 : Cond.code a_m37.1 a_m37.2.1 a_m37.2.2.1 a_m37.2.2.2.1 ∈ wsL_law := a_wchs_in _ (List.mem_of_getElem? (i := 16) rfl) _ (List.mem_of_getElem? (l := wsL_law_r17) (i := 10) rfl)
theorem a_cw38 : Cond.code a_m38.1 a_m38.2.1 a_m38.2.2.1 a_m38.2.2.2.1 ∈ wsL_law := a_wchs_in _ (List.mem_of_getElem? (i := 17) rfl) _ (List.mem_of_getElem? (l := wsL_law_r18) (i := 17) rfl)
theorem a_cw39 : Cond.code a_m39.1 a_m39.2.1 a_m39.2.2.1 a_m39.2.2.2.1 ∈ wsL_law := a_wchs_in _ (List.mem_of_getElem? (i := 18) rfl) _ (List.mem_of_getElem? (l := wsL_law_r19) (i := 1) rfl)
theorem a_cw40 : Cond.code a_m40.1 a_m40.2.1 a_m40.2.2.1 a_m40.2.2.2.1 ∈ wsL_law := a_wchs_in _ (List.mem_of_getElem? (i := 18) rfl) _ (List.mem_of_getElem? (l := wsL_law_r19) (i := 18) rfl)
theorem a_cw41 : Cond.code a_m41.1 a_m41.2.1 a_m41.2.2.1 a_m41.2.2.2.1 ∈ wsL_law := a_wchs_in _ (List.mem_of_getElem? (i := 18) rfl) _ (List.mem_of_getElem? (l := wsL_law_r19) (i := 22) rfl)
theorem a_cw42 : Cond.code a_m42.1 a_m42.2.1 a_m42.2.2.1 a_m42.2.2.2.1 ∈ wsL_law := a_wchs_in _ (List.mem_of_getElem? (i := 19) rfl) _ (List.mem_of_getElem? (l := wsL_law_r20) (i := 2) rfl)
theorem a_cw43 : Cond.code a_m43.1 a_m43.2.1 a_m43.2.2.1 a_m43.2.2.2.1 ∈ wsL_law := a_wchs_in _ (List.mem_of_getElem? (i := 13) rfl) _ (List.mem_of_getElem? (l := wsL_law_r14) (i := 18) rfl)
theorem a_cw44 : Cond.code a_m44.1 a_m44.2.1 a_m44.2.2.1 a_m44.2.2.2.1 ∈ wsL_law := a_wchs_in _ (List.mem_of_getElem? (i := 19) rfl) _ (List.mem_of_getElem? (l := wsL_law_r20) (i := 14) rfl)
theorem a_cw45 : Cond.code a_m45.1 a_m45.2.1 a_m45.2.2.1 a_m45.2.2.2.1 ∈ wsL_law := a_wchs_in _ (List.mem_of_getElem? (i := 19) rfl) _ (List.mem_of_getElem? (l := wsL_law_r20) (i := 6) rfl)
theorem a_cw46 : Cond.code a_m46.1 a_m46.2.1 a_m46.2.2.1 a_m46.2.2.2.1 ∈ wsL_law := a_wchs_in _ (List.mem_of_getElem? (i := 9) rfl) _ (List.mem_of_getElem? (l := wsL_law_r10) (i := 7) rfl)
theorem a_cw47 : Cond.code a_m47.1 a_m47.2.1 a_m47.2.2.1 a_m47.2.2.2.1 ∈ wsL_law := a_wchs_in _ (List.mem_of_getElem? (i := 19) rfl) _ (List.mem_of_getElem? (l := wsL_law_r20) (i := 10) rfl)
theorem a_cw48 : Cond.code a_m48.1 a_m48.2.1 a_m48.2.2.1 a_m48.2.2.2.1 ∈ wsL_law := a_wchs_in _ (List.mem_of_getElem? (i := 16) rfl) _ (List.mem_of_getElem? (l := wsL_law_r17) (i := 16) rfl)
theorem a_cw49 : Cond.code a_m49.1 a_m49.2.1 a_m49.2.2.1 a_m49.2.2.2.1 ∈ wsL_law := a_wchs_in _ (List.mem_of_getElem? (i := 16) rfl) _ (List.mem_of_getElem? (l := wsL_law_r17) (i := 20) rfl)
theorem a_cw50 : Cond.code a_m50.1 a_m50.2.1 a_m50.2.2.1 a_m50.2.2.2.1 ∈ wsL_law := a_wchs_in _ (List.mem_of_getElem? (i := 17) rfl) _ (List.mem_of_getElem? (l := wsL_law_r18) (i := 0) rfl)
theorem a_cw51 : Cond.code a_m51.1 a_m51.2.1 a_m51.2.2.1 a_m51.2.2.2.1 ∈ wsL_law := a_wchs_in _ (List.mem_of_getElem? (i := 17) rfl) _ (List.mem_of_getElem? (l := wsL_law_r18) (i := 4) rfl)
theorem a_cw52 : Cond.code a_m52.1 a_m52.2.1 a_m52.2.2.1 a_m52.2.2.2.1 ∈ wsL_law := a_wchs_in _ (List.mem_of_getElem? (i := 6) rfl) _ (List.mem_of_getElem? (l := wsL_law_r7) (i := 19) rfl)
theorem a_cw53 : Cond.code a_m53.1 a_m53.2.1 a_m53.2.2.1 a_m53.2.2.2.1 ∈ wsL_law := a_wchs_in _ (List.mem_of_getElem? (i := 7) rfl) _ (List.mem_of_getElem? (l := wsL_law_r8) (i := 3) rfl)
theorem a_cw54 : Cond.code a_m54.1 a_m54.2.1 a_m54.2.2.1 a_m54.2.2.2.1 ∈ wsL_law := a_wchs_in _ (List.mem_of_getElem? (i := 7) rfl) _ (List.mem_of_getElem? (l := wsL_law_r8) (i := 15) rfl)
theorem a_cw55 : Cond.code a_m55.1 a_m55.2.1 a_m55.2.2.1 a_m55.2.2.2.1 ∈ wsL_law := a_wchs_in _ (List.mem_of_getElem? (i := 10) rfl) _ (List.mem_of_getElem? (l := wsL_law_r11) (i := 13) rfl)
theorem a_cw56 : Cond.code a_m56.1 a_m56.2.1 a_m56.2.2.1 a_m56.2.2.2.1 ∈ wsL_law := a_wchs_in _ (List.mem_of_getElem? (i := 4) rfl) _ (List.mem_of_getElem? (l := wsL_law_r5) (i := 18) rfl)
theorem a_cw57 : Cond.code a_m57.1 a_m57.2.1 a_m57.2.2.1 a_m57.2.2.2.1 ∈ wsL_law := a_wchs_in _ (List.mem_of_getElem? (i := 8) rfl) _ (List.mem_of_getElem? (l := wsL_law_r9) (i := 4) rfl)
theorem a_cw58 : Cond.code a_m58.1 a_m58.2.1 a_m58.2.2.1 a_m58.2.2.2.1 ∈ wsL_law := a_wchs_in _ (List.mem_of_getElem? (i := 10) rfl) _ (List.mem_of_getElem? (l := wsL_law_r11) (i := 21) rfl)
theorem a_cw59 : Cond.code a_m59.1 a_m59.2.1 a_m59.2.2.1 a_m59.2.2.2.1 ∈ wsL_law := a_wchs_in _ (List.mem_of_getElem? (i := 5) rfl) _ (List.mem_of_getElem? (l := wsL_law_r6) (i := 15) rfl)
theorem a_cw60 : Cond.code a_m60.1 a_m60.2.1 a_m60.2.2.1 a_m60.2.2.2.1 ∈ wsL_law := a_wchs_in _ (List.mem_of_getElem? (i := 12) rfl) _ (List.mem_of_getElem? (l := wsL_law_r13) (i := 6) rfl)
theorem a_cw61 : Cond.code a_m61.1 a_m61.2.1 a_m61.2.2.1 a_m61.2.2.2.1 ∈ wsL_law := a_wchs_in _ (List.mem_of_getElem? (i := 13) rfl) _ (List.mem_of_getElem? (l := wsL_law_r14) (i := 7) rfl)
theorem a_cw62 : Cond.code a_m62.1 a_m62.2.1 a_m62.2.2.1 a_m62.2.2.2.1 ∈ wsL_law := a_wchs_in _ (List.mem_of_getElem? (i := 14) rfl) _ (List.mem_of_getElem? (l := wsL_law_r15) (i := 5) rfl)
theorem a_cw63 : Cond.code a_m63.1 a_m63.2.1 a_m63.2.2.1 a_m63.2.2.2.1 ∈ wsL_law := a_wchs_in _ (List.mem_of_getElem? (i := 15) rfl) _ (List.mem_of_getElem? (l := wsL_law_r16) (i := 22) rfl)
theorem a_cw64 : Cond.code a_m64.1 a_m64.2.1 a_m64.2.2.1 a_m64.2.2.2.1 ∈ wsL_law := a_wchs_in _ (List.mem_of_getElem? (i := 15) rfl) _ (List.mem_of_getElem? (l := wsL_law_r16) (i := 0) rfl)
theorem a_cw65 : Cond.code a_m65.1 a_m65.2.1 a_m65.2.2.1 a_m65.2.2.2.1 ∈ wsL_law := a_wchs_in _ (List.mem_of_getElem? (i := 15) rfl) _ (List.mem_of_getElem? (l := wsL_law_r16) (i := 9) rfl)
theorem a_cw66 : Cond.code a_m66.1 a_m66.2.1 a_m66.2.2.1 a_m66.2.2.2.1 ∈ wsL_law := a_wchs_in _ (List.mem_of_getElem? (i := 15) rfl) _ (List.mem_of_getElem? (l := wsL_law_r16) (i := 13) rfl)
theorem a_cw67 : Cond.code a_m67.1 a_m67.2.1 a_m67.2.2.1 a_m67.2.2.2.1 ∈ wsL_law := a_wchs_in _ (List.mem_of_getElem? (i := 16) rfl) _ (List.mem_of_getElem? (l := wsL_law_r17) (i := 6) rfl)
theorem a_cw68 : Cond.code a_m68.1 a_m68.2.1 a_m68.2.2.1 a_m68.2.2.2.1 ∈ wsL_law := a_wchs_in _ (List.mem_of_getElem? (i := 17) rfl) _ (List.mem_of_getElem? (l := wsL_law_r18) (i := 13) rfl)
theorem a_cw69 : Cond.code a_m69.1 a_m69.2.1 a_m69.2.2.1 a_m69.2.2.2.1 ∈ wsL_law := a_wchs_in _ (List.mem_of_getElem? (i := 17) rfl) _ (List.mem_of_getElem? (l := wsL_law_r18) (i := 21) rfl)
theorem a_cw70 : Cond.code a_m70.1 a_m70.2.1 a_m70.2.2.1 a_m70.2.2.2.1 ∈ wsL_law := a_wchs_in _ (List.mem_of_getElem? (i := 18) rfl) _ (List.mem_of_getElem? (l := wsL_law_r19) (i := 14) rfl)
theorem a_cw71 : Cond.code a_m71.1 a_m71.2.1 a_m71.2.2.1 a_m71.2.2.2.1 ∈ wsL_law := a_wchs_in _ (List.mem_of_getElem? (i := 9) rfl) _ (List.mem_of_getElem? (l := wsL_law_r10) (i := 3) rfl)
theorem a_cw72 : Cond.code a_m72.1 a_m72.2.1 a_m72.2.2.1 a_m72.2.2.2.1 ∈ wsL_law := a_wchs_in _ (List.mem_of_getElem? (i := 9) rfl) _ (List.mem_of_getElem? (l := wsL_law_r10) (i := 3) rfl)
theorem a_cw73 : Cond.code a_m73.1 a_m73.2.1 a_m73.2.2.1 a_m73.2.2.2.1 ∈ wsL_law := a_wchs_in _ (List.mem_of_getElem? (i := 9) rfl) _ (List.mem_of_getElem? (l := wsL_law_r10) (i := 3) rfl)
theorem a_cw74 : Cond.code a_m74.1 a_m74.2.1 a_m74.2.2.1 a_m74.2.2.2.1 ∈ wsL_law := a_wchs_in _ (List.mem_of_getElem? (i := 9) rfl) _ (List.mem_of_getElem? (l := wsL_law_r10) (i := 3) rfl)
theorem a_cw75 : Cond.code a_m75.1 a_m75.2.1 a_m75.2.2.1 a_m75.2.2.2.1 ∈ wsL_law := a_wchs_in _ (List.mem_of_getElem? (i := 9) rfl) _ (List.mem_of_getElem? (l := wsL_law_r10) (i := 3) rfl)
theorem a_cw76 : Cond.code a_m76.1 a_m76.2.1 a_m76.2.2.1 a_m76.2.2.2.1 ∈ wsL_law := a_wchs_in _ (List.mem_of_getElem? (i := 9) rfl) _ (List.mem_of_getElem? (l := wsL_law_r10) (i := 3) rfl)
theorem a_cw77 : Cond.code a_m77.1 a_m77.2.1 a_m77.2.2.1 a_m77.2.2.2.1 ∈ wsL_law := a_wchs_in _ (List.mem_of_getElem? (i := 9) rfl) _ (List.mem_of_getElem? (l := wsL_law_r10) (i := 3) rfl)
theorem a_cw78 : Cond.code a_m78.1 a_m78.2.1 a_m78.2.2.1 a_m78.2.2.2.1 ∈ wsL_law := a_wchs_in _ (List.mem_of_getElem? (i := 4) rfl) _ (List.mem_of_getElem? (l := wsL_law_r5) (i := 13) rfl)
theorem a_cw79 : Cond.code a_m79.1 a_m79.2.1 a_m79.2.2.1 a_m79.2.2.2.1 ∈ wsL_law := a_wchs_in _ (List.mem_of_getElem? (i := 8) rfl) _ (List.mem_of_getElem? (l := wsL_law_r9) (i := 8) rfl)
theorem a_cw80 : Cond.code a_m80.1 a_m80.2.1 a_m80.2.2.1 a_m80.2.2.2.1 ∈ wsL_law := a_wchs_in _ (List.mem_of_getElem? (i := 8) rfl) _ (List.mem_of_getElem? (l := wsL_law_r9) (i := 23) rfl)
theorem a_cw81 : Cond.code a_m81.1 a_m81.2.1 a_m81.2.2.1 a_m81.2.2.2.1 ∈ wsL_law := a_wchs_in _ (List.mem_of_getElem? (i := 9) rfl) _ (List.mem_of_getElem? (l := wsL_law_r10) (i := 3) rfl)
theorem a_cw82 : Cond.code a_m82.1 a_m82.2.1 a_m82.2.2.1 a_m82.2.2.2.1 ∈ wsL_law := a_wchs_in _ (List.mem_of_getElem? (i := 9) rfl) _ (List.mem_of_getElem? (l := wsL_law_r10) (i := 3) rfl)
theorem a_cw83 : Cond.code a_m83.1 a_m83.2.1 a_m83.2.2.1 a_m83.2.2.2.1 ∈ wsL_law := a_wchs_in _ (List.mem_of_getElem? (i := 9) rfl) _ (List.mem_of_getElem? (l := wsL_law_r10) (i := 3) rfl)
theorem a_cw84 : Cond.code a_m84.1 a_m84.2.1 a_m84.2.2.1 a_m84.2.2.2.1 ∈ wsL_law := a_wchs_in _ (List.mem_of_getElem? (i := 9) rfl) _ (List.mem_of_getElem? (l := wsL_law_r10) (i := 20) rfl)
theorem a_cw85 : Cond.code a_m85.1 a_m85.2.1 a_m85.2.2.1 a_m85.2.2.2.1 ∈ wsL_law := a_wchs_in _ (List.mem_of_getElem? (i := 10) rfl) _ (List.mem_of_getElem? (l := wsL_law_r11) (i := 7) rfl)
theorem a_cw86 : Cond.code a_m86.1 a_m86.2.1 a_m86.2.2.1 a_m86.2.2.2.1 ∈ wsL_law := a_wchs_in _ (List.mem_of_getElem? (i := 9) rfl) _ (List.mem_of_getElem? (l := wsL_law_r10) (i := 3) rfl)
theorem a_cw87 : Cond.code a_m87.1 a_m87.2.1 a_m87.2.2.1 a_m87.2.2.2.1 ∈ wsL_law := a_wchs_in _ (List.mem_of_getElem? (i := 9) rfl) _ (List.mem_of_getElem? (l := wsL_law_r10) (i := 3) rfl)
theorem a_cw88 : Cond.code a_m88.1 a_m88.2.1 a_m88.2.2.1 a_m88.2.2.2.1 ∈ wsL_law := a_wchs_in _ (List.mem_of_getElem? (i := 9) rfl) _ (List.mem_of_getElem? (l := wsL_law_r10) (i := 3) rfl)
theorem a_cw89 : Cond.code a_m89.1 a_m89.2.1 a_m89.2.2.1 a_m89.2.2.2.1 ∈ wsL_law := a_wchs_in _ (List.mem_of_getElem? (i := 9) rfl) _ (List.mem_of_getElem? (l := wsL_law_r10) (i := 3) rfl)
theorem a_cw90 : Cond.code a_m90.1 a_m90.2.1 a_m90.2.2.1 a_m90.2.2.2.1 ∈ wsL_law := a_wchs_in _ (List.mem_of_getElem? (i := 9) rfl) _ (List.mem_of_getElem? (l := wsL_law_r10) (i := 3) rfl)
theorem a_cw91 : Cond.code a_m91.1 a_m91.2.1 a_m91.2.2.1 a_m91.2.2.2.1 ∈ wsL_law := a_wchs_in _ (List.mem_of_getElem? (i := 12) rfl) _ (List.mem_of_getElem? (l := wsL_law_r13) (i := 23) rfl)
theorem a_cw92 : Cond.code a_m92.1 a_m92.2.1 a_m92.2.2.1 a_m92.2.2.2.1 ∈ wsL_law := a_wchs_in _ (List.mem_of_getElem? (i := 5) rfl) _ (List.mem_of_getElem? (l := wsL_law_r6) (i := 2) rfl)
theorem a_cw93 : Cond.code a_m93.1 a_m93.2.1 a_m93.2.2.1 a_m93.2.2.2.1 ∈ wsL_law := a_wchs_in _ (List.mem_of_getElem? (i := 4) rfl) _ (List.mem_of_getElem? (l := wsL_law_r5) (i := 22) rfl)
theorem a_cw94 : Cond.code a_m94.1 a_m94.2.1 a_m94.2.2.1 a_m94.2.2.2.1 ∈ wsL_law := a_wchs_in _ (List.mem_of_getElem? (i := 12) rfl) _ (List.mem_of_getElem? (l := wsL_law_r13) (i := 19) rfl)
theorem a_cw95 : Cond.code a_m95.1 a_m95.2.1 a_m95.2.2.1 a_m95.2.2.2.1 ∈ wsL_law := a_wchs_in _ (List.mem_of_getElem? (i := 7) rfl) _ (List.mem_of_getElem? (l := wsL_law_r8) (i := 20) rfl)
theorem a_cw96 : Cond.code a_m96.1 a_m96.2.1 a_m96.2.2.1 a_m96.2.2.2.1 ∈ wsL_law := a_wchs_in _ (List.mem_of_getElem? (i := 5) rfl) _ (List.mem_of_getElem? (l := wsL_law_r6) (i := 17) rfl)
theorem a_cw97 : Cond.code a_m97.1 a_m97.2.1 a_m97.2.2.1 a_m97.2.2.2.1 ∈ wsL_law := a_wchs_in _ (List.mem_of_getElem? (i := 11) rfl) _ (List.mem_of_getElem? (l := wsL_law_r12) (i := 15) rfl)
theorem a_cw98 : Cond.code a_m98.1 a_m98.2.1 a_m98.2.2.1 a_m98.2.2.2.1 ∈ wsL_law := a_wchs_in _ (List.mem_of_getElem? (i := 11) rfl) _ (List.mem_of_getElem? (l := wsL_law_r12) (i := 23) rfl)
theorem a_cw99 : Cond.code a_m99.1 a_m99.2.1 a_m99.2.2.1 a_m99.2.2.2.1 ∈ wsL_law := a_wchs_in _ (List.mem_of_getElem? (i := 4) rfl) _ (List.mem_of_getElem? (l := wsL_law_r5) (i := 6) rfl)
theorem a_cw100 : Cond.code a_m100.1 a_m100.2.1 a_m100.2.2.1 a_m100.2.2.2.1 ∈ wsL_law := a_wchs_in _ (List.mem_of_getElem? (i := 4) rfl) _ (List.mem_of_getElem? (l := wsL_law_r5) (i := 3) rfl)
theorem a_cw101 : Cond.code a_m101.1 a_m101.2.1 a_m101.2.2.1 a_m101.2.2.2.1 ∈ wsL_law := a_wchs_in _ (List.mem_of_getElem? (i := 4) rfl) _ (List.mem_of_getElem? (l := wsL_law_r5) (i := 9) rfl)
theorem a_cw102 : Cond.code a_m102.1 a_m102.2.1 a_m102.2.2.1 a_m102.2.2.2.1 ∈ wsL_law := a_wchs_in _ (List.mem_of_getElem? (i := 4) rfl) _ (List.mem_of_getElem? (l := wsL_law_r5) (i := 0) rfl)
theorem a_cw103 : Cond.code a_m103.1 a_m103.2.1 a_m103.2.2.1 a_m103.2.2.2.1 ∈ wsL_law := a_wchs_in _ (List.mem_of_getElem? (i := 3) rfl) _ (List.mem_of_getElem? (l := wsL_law_r4) (i := 21) rfl)
theorem a_cw104 : Cond.code a_m104.1 a_m104.2.1 a_m104.2.2.1 a_m104.2.2.2.1 ∈ wsL_law := a_wchs_in _ (List.mem_of_getElem? (i := 18) rfl) _ (List.mem_of_getElem? (l := wsL_law_r19) (i := 7) rfl)
theorem a_cw105 : Cond.code a_m105.1 a_m105.2.1 a_m105.2.2.1 a_m105.2.2.2.1 ∈ wsL_law := a_wchs_in _ (List.mem_of_getElem? (i := 14) rfl) _ (List.mem_of_getElem? (l := wsL_law_r15) (i := 1) rfl)
theorem a_cw106 : Cond.code a_m106.1 a_m106.2.1 a_m106.2.2.1 a_m106.2.2.2.1 ∈ wsL_law := a_wchs_in _ (List.mem_of_getElem? (i := 14) rfl) _ (List.mem_of_getElem? (l := wsL_law_r15) (i := 17) rfl)
theorem a_cw107 : Cond.code a_m107.1 a_m107.2.1 a_m107.2.2.1 a_m107.2.2.2.1 ∈ wsL_law := a_wchs_in _ (List.mem_of_getElem? (i := 11) rfl) _ (List.mem_of_getElem? (l := wsL_law_r12) (i := 12) rfl)
theorem a_cw108 : Cond.code a_m108.1 a_m108.2.1 a_m108.2.2.1 a_m108.2.2.2.1 ∈ wsL_law := a_wchs_in _ (List.mem_of_getElem? (i := 10) rfl) _ (List.mem_of_getElem? (l := wsL_law_r11) (i := 3) rfl)
theorem a_cw109 : Cond.code a_m109.1 a_m109.2.1 a_m109.2.2.1 a_m109.2.2.2.1 ∈ wsL_law := a_wchs_in _ (List.mem_of_getElem? (i := 18) rfl) _ (List.mem_of_getElem? (l := wsL_law_r19) (i := 10) rfl)
theorem a_cw110 : Cond.code a_m110.1 a_m110.2.1 a_m110.2.2.1 a_m110.2.2.2.1 ∈ wsL_law := a_wchs_in _ (List.mem_of_getElem? (i := 12) rfl) _ (List.mem_of_getElem? (l := wsL_law_r13) (i := 2) rfl)
theorem a_cw111 : Cond.code a_m111.1 a_m111.2.1 a_m111.2.2.1 a_m111.2.2.2.1 ∈ wsL_law := a_wchs_in _ (List.mem_of_getElem? (i := 14) rfl) _ (List.mem_of_getElem? (l := wsL_law_r15) (i := 20) rfl)
theorem a_cw112 : Cond.code a_m112.1 a_m112.2.1 a_m112.2.2.1 a_m112.2.2.2.1 ∈ wsL_law := a_wchs_in _ (List.mem_of_getElem? (i := 18) rfl) _ (List.mem_of_getElem? (l := wsL_law_r19) (i := 4) rfl)
theorem a_cw113 : Cond.code a_m113.1 a_m113.2.1 a_m113.2.2.1 a_m113.2.2.2.1 ∈ wsL_law := a_wchs_in _ (List.mem_of_getElem? (i := 11) rfl) _ (List.mem_of_getElem? (l := wsL_law_r12) (i := 19) rfl)
theorem a_cw114 : Cond.code a_m114.1 a_m114.2.1 a_m114.2.2.1 a_m114.2.2.2.1 ∈ wsL_law := a_wchs_in _ (List.mem_of_getElem? (i := 3) rfl) _ (List.mem_of_getElem? (l := wsL_law_r4) (i := 18) rfl)
theorem a_cw_0 : ∀ M ∈ a_mt_0, Cond.code M.1 M.2.1 M.2.2.1 M.2.2.2.1 ∈ wsL_law := List.forall_mem_cons.mpr ⟨a_cw0, List.forall_mem_cons.mpr ⟨a_cw1, List.forall_mem_cons.mpr ⟨a_cw2, List.forall_mem_cons.mpr ⟨a_cw3, List.forall_mem_cons.mpr ⟨a_cw4, List.forall_mem_cons.mpr ⟨a_cw5, List.forall_mem_cons.mpr ⟨a_cw6, List.forall_mem_cons.mpr ⟨a_cw7, List.forall_mem_cons.mpr ⟨a_cw8, List.forall_mem_cons.mpr ⟨a_cw9, List.forall_mem_cons.mpr ⟨a_cw10, List.forall_mem_cons.mpr ⟨a_cw11, List.forall_mem_cons.mpr ⟨a_cw12, List.forall_mem_cons.mpr ⟨a_cw13, List.forall_mem_cons.mpr ⟨a_cw14, List.forall_mem_cons.mpr ⟨a_cw15, fun _ h => absurd h List.not_mem_nil⟩⟩⟩⟩⟩⟩⟩⟩⟩⟩⟩⟩⟩⟩⟩⟩
theorem a_z_0 : ∀ p ∈ a_ct_0.zip a_mt_0, (p.1.all fun e => a_chk p.2 e.1 e.2) = true := List.forall_mem_cons.mpr ⟨a_k0, List.forall_mem_cons.mpr ⟨a_k1, List.forall_mem_cons.mpr ⟨a_k2, List.forall_mem_cons.mpr ⟨a_k3, List.forall_mem_cons.mpr ⟨a_k4, List.forall_mem_cons.mpr ⟨a_k5, List.forall_mem_cons.mpr ⟨a_k6, List.forall_mem_cons.mpr ⟨a_k7, List.forall_mem_cons.mpr ⟨a_k8, List.forall_mem_cons.mpr ⟨a_k9, List.forall_mem_cons.mpr ⟨a_k10, List.forall_mem_cons.mpr ⟨a_k11, List.forall_mem_cons.mpr ⟨a_k12, List.forall_mem_cons.mpr ⟨a_k13, List.forall_mem_cons.mpr ⟨a_k14, List.forall_mem_cons.mpr ⟨a_k15, fun _ h => absurd h List.not_mem_nil⟩⟩⟩⟩⟩⟩⟩⟩⟩⟩⟩⟩⟩⟩⟩⟩
theorem a_cw_1 : ∀ M ∈ a_mt_1, Cond.code M.1 M.2.1 M.2.2.1 M.2.2.2.1 ∈ wsL_law := List.forall_mem_cons.mpr ⟨a_cw16, List.forall_mem_cons.mpr ⟨a_cw17, List.forall_mem_cons.mpr ⟨a_cw18, List.forall_mem_cons.mpr ⟨a_cw19, List.forall_mem_cons.mpr ⟨a_cw20, List.forall_mem_cons.mpr ⟨a_cw21, List.forall_mem_cons.mpr ⟨a_cw22, List.forall_mem_cons.mpr ⟨a_cw23, List.forall_mem_cons.mpr ⟨a_cw24, List.forall_mem_cons.mpr ⟨a_cw25, List.forall_mem_cons.mpr ⟨a_cw26, List.forall_mem_cons.mpr ⟨a_cw27, List.forall_mem_cons.mpr ⟨a_cw28, List.forall_mem_cons.mpr ⟨a_cw29, List.forall_mem_cons.mpr ⟨a_cw30, List.forall_mem_cons.mpr ⟨a_cw31, fun _ h => absurd h List.not_mem_nil⟩⟩⟩⟩⟩⟩⟩⟩⟩⟩⟩⟩⟩⟩⟩⟩
theorem a_z_1 : ∀ p ∈ a_ct_1.zip a_mt_1, (p.1.all fun e => a_chk p.2 e.1 e.2) = true := List.forall_mem_cons.mpr ⟨a_k16, List.forall_mem_cons.mpr ⟨a_k17, List.forall_mem_cons.mpr ⟨a_k18, List.forall_mem_cons.mpr ⟨a_k19, List.forall_mem_cons.mpr ⟨a_k20, List.forall_mem_cons.mpr ⟨a_k21, List.forall_mem_cons.mpr ⟨a_k22, List.forall_mem_cons.mpr ⟨a_k23, List.forall_mem_cons.mpr ⟨a_k24, List.forall_mem_cons.mpr ⟨a_k25, List.forall_mem_cons.mpr ⟨a_k26, List.forall_mem_cons.mpr ⟨a_k27, List.forall_mem_cons.mpr ⟨a_k28, List.forall_mem_cons.mpr ⟨a_k29, List.forall_mem_cons.mpr ⟨a_k30, List.forall_mem_cons.mpr ⟨a_k31, fun _ h => absurd h List.not_mem_nil⟩⟩⟩⟩⟩⟩⟩⟩⟩⟩⟩⟩⟩⟩⟩⟩
theorem a_cw_2 : ∀ M ∈ a_mt_2, Cond.code M.1 M.2.1 M.2.2.1 M.2.2.2.1 ∈ wsL_law := List.forall_mem_cons.mpr ⟨a_cw32, List.forall_mem_cons.mpr ⟨a_cw33, List.forall_mem_cons.mpr ⟨a_cw34, List.forall_mem_cons.mpr ⟨a_cw35, List.forall_mem_cons.mpr ⟨a_cw36, List.forall_mem_cons.mpr ⟨a_cw37, List.forall_mem_cons.mpr ⟨a_cw38, List.forall_mem_cons.mpr ⟨a_cw39, List.forall_mem_cons.mpr ⟨a_cw40, List.forall_mem_cons.mpr ⟨a_cw41, List.forall_mem_cons.mpr ⟨a_cw42, List.forall_mem_cons.mpr ⟨a_cw43, List.forall_mem_cons.mpr ⟨a_cw44, List.forall_mem_cons.mpr ⟨a_cw45, List.forall_mem_cons.mpr ⟨a_cw46, List.forall_mem_cons.mpr ⟨a_cw47, fun _ h => absurd h List.not_mem_nil⟩⟩⟩⟩⟩⟩⟩⟩⟩⟩⟩⟩⟩⟩⟩⟩
theorem a_z_2 : ∀ p ∈ a_ct_2.zip a_mt_2, (p.1.all fun e => a_chk p.2 e.1 e.2) = true := List.forall_mem_cons.mpr ⟨a_k32, List.forall_mem_cons.mpr ⟨a_k33, List.forall_mem_cons.mpr ⟨a_k34, List.forall_mem_cons.mpr ⟨a_k35, List.forall_mem_cons.mpr ⟨a_k36, List.forall_mem_cons.mpr ⟨a_k37, List.forall_mem_cons.mpr ⟨a_k38, List.forall_mem_cons.mpr ⟨a_k39, List.forall_mem_cons.mpr ⟨a_k40, List.forall_mem_cons.mpr ⟨a_k41, List.forall_mem_cons.mpr ⟨a_k42, List.forall_mem_cons.mpr ⟨a_k43, List.forall_mem_cons.mpr ⟨a_k44, List.forall_mem_cons.mpr ⟨a_k45, List.forall_mem_cons.mpr ⟨a_k46, List.forall_mem_cons.mpr ⟨a_k47, fun _ h => absurd h List.not_mem_nil⟩⟩⟩⟩⟩⟩⟩⟩⟩⟩⟩⟩⟩⟩⟩⟩
theorem a_cw_3 : ∀ M ∈ a_mt_3, Cond.code M.1 M.2.1 M.2.2.1 M.2.2.2.1 ∈ wsL_law := List.forall_mem_cons.mpr ⟨a_cw48, List.forall_mem_cons.mpr ⟨a_cw49, List.forall_mem_cons.mpr ⟨a_cw50, List.forall_mem_cons.mpr ⟨a_cw51, List.forall_mem_cons.mpr ⟨a_cw52, List.forall_mem_cons.mpr ⟨a_cw53, List.forall_mem_cons.mpr ⟨a_cw54, List.forall_mem_cons.mpr ⟨a_cw55, List.forall_mem_cons.mpr ⟨a_cw56, List.forall_mem_cons.mpr ⟨a_cw57, List.forall_mem_cons.mpr ⟨a_cw58, List.forall_mem_cons.mpr ⟨a_cw59, List.forall_mem_cons.mpr ⟨a_cw60, List.forall_mem_cons.mpr ⟨a_cw61, List.forall_mem_cons.mpr ⟨a_cw62, List.forall_mem_cons.mpr ⟨a_cw63, fun _ h => absurd h List.not_mem_nil⟩⟩⟩⟩⟩⟩⟩⟩⟩⟩⟩⟩⟩⟩⟩⟩
theorem a_z_3 : ∀ p ∈ a_ct_3.zip a_mt_3, (p.1.all fun e => a_chk p.2 e.1 e.2) = true := List.forall_mem_cons.mpr ⟨a_k48, List.forall_mem_cons.mpr ⟨a_k49, List.forall_mem_cons.mpr ⟨a_k50, List.forall_mem_cons.mpr ⟨a_k51, List.forall_mem_cons.mpr ⟨a_k52, List.forall_mem_cons.mpr ⟨a_k53, List.forall_mem_cons.mpr ⟨a_k54, List.forall_mem_cons.mpr ⟨a_k55, List.forall_mem_cons.mpr ⟨a_k56, List.forall_mem_cons.mpr ⟨a_k57, List.forall_mem_cons.mpr ⟨a_k58, List.forall_mem_cons.mpr ⟨a_k59, List.forall_mem_cons.mpr ⟨a_k60, List.forall_mem_cons.mpr ⟨a_k61, List.forall_mem_cons.mpr ⟨a_k62, List.forall_mem_cons.mpr ⟨a_k63, fun _ h => absurd h List.not_mem_nil⟩⟩⟩⟩⟩⟩⟩⟩⟩⟩⟩⟩⟩⟩⟩⟩
theorem a_cw_4 : ∀ M ∈ a_mt_4, Cond.code M.1 M.2.1 M.2.2.1 M.2.2.2.1 ∈ wsL_law := List.forall_mem_cons.mpr ⟨a_cw64, List.forall_mem_cons.mpr ⟨a_cw65, List.forall_mem_cons.mpr ⟨a_cw66, List.forall_mem_cons.mpr ⟨a_cw67, List.forall_mem_cons.mpr ⟨a_cw68, List.forall_mem_cons.mpr ⟨a_cw69, List.forall_mem_cons.mpr ⟨a_cw70, List.forall_mem_cons.mpr ⟨a_cw71, List.forall_mem_cons.mpr ⟨a_cw72, List.forall_mem_cons.mpr ⟨a_cw73, List.forall_mem_cons.mpr ⟨a_cw74, List.forall_mem_cons.mpr ⟨a_cw75, List.forall_mem_cons.mpr ⟨a_cw76, List.forall_mem_cons.mpr ⟨a_cw77, List.forall_mem_cons.mpr ⟨a_cw78, List.forall_mem_cons.mpr ⟨a_cw79, fun _ h => absurd h List.not_mem_nil⟩⟩⟩⟩⟩⟩⟩⟩⟩⟩⟩⟩⟩⟩⟩⟩
theorem a_z_4 : ∀ p ∈ a_ct_4.zip a_mt_4, (p.1.all fun e => a_chk p.2 e.1 e.2) = true := List.forall_mem_cons.mpr ⟨a_k64, List.forall_mem_cons.mpr ⟨a_k65, List.forall_mem_cons.mpr ⟨a_k66, List.forall_mem_cons.mpr ⟨a_k67, List.forall_mem_cons.mpr ⟨a_k68, List.forall_mem_cons.mpr ⟨a_k69, List.forall_mem_cons.mpr ⟨a_k70, List.forall_mem_cons.mpr ⟨a_k71, List.forall_mem_cons.mpr ⟨a_k72, List.forall_mem_cons.mpr ⟨a_k73, List.forall_mem_cons.mpr ⟨a_k74, List.forall_mem_cons.mpr ⟨a_k75, List.forall_mem_cons.mpr ⟨a_k76, List.forall_mem_cons.mpr ⟨a_k77, List.forall_mem_cons.mpr ⟨a_k78, List.forall_mem_cons.mpr ⟨a_k79, fun _ h => absurd h List.not_mem_nil⟩⟩⟩⟩⟩⟩⟩⟩⟩⟩⟩⟩⟩⟩⟩⟩
theorem a_cw_5 : ∀ M ∈ a_mt_5, Cond.code M.1 M.2.1 M.2.2.1 M.2.2.2.1 ∈ wsL_law := List.forall_mem_cons.mpr ⟨a_cw80, List.forall_mem_cons.mpr ⟨a_cw81, List.forall_mem_cons.mpr ⟨a_cw82, List.forall_mem_cons.mpr ⟨a_cw83, List.forall_mem_cons.mpr ⟨a_cw84, List.forall_mem_cons.mpr ⟨a_cw85, List.forall_mem_cons.mpr ⟨a_cw86, List.forall_mem_cons.mpr ⟨a_cw87, List.forall_mem_cons.mpr ⟨a_cw88, List.forall_mem_cons.mpr ⟨a_cw89, List.forall_mem_cons.mpr ⟨a_cw90, List.forall_mem_cons.mpr ⟨a_cw91, List.forall_mem_cons.mpr ⟨a_cw92, List.forall_mem_cons.mpr ⟨a_cw93, List.forall_mem_cons.mpr ⟨a_cw94, List.forall_mem_cons.mpr ⟨a_cw95, fun _ h => absurd h List.not_mem_nil⟩⟩⟩⟩⟩⟩⟩⟩⟩⟩⟩⟩⟩⟩⟩⟩
theorem a_z_5 : ∀ p ∈ a_ct_5.zip a_mt_5, (p.1.all fun e => a_chk p.2 e.1 e.2) = true := List.forall_mem_cons.mpr ⟨a_k80, List.forall_mem_cons.mpr ⟨a_k81, List.forall_mem_cons.mpr ⟨a_k82, List.forall_mem_cons.mpr ⟨a_k83, List.forall_mem_cons.mpr ⟨a_k84, List.forall_mem_cons.mpr ⟨a_k85, List.forall_mem_cons.mpr ⟨a_k86, List.forall_mem_cons.mpr ⟨a_k87, List.forall_mem_cons.mpr ⟨a_k88, List.forall_mem_cons.mpr ⟨a_k89, List.forall_mem_cons.mpr ⟨a_k90, List.forall_mem_cons.mpr ⟨a_k91, List.forall_mem_cons.mpr ⟨a_k92, List.forall_mem_cons.mpr ⟨a_k93, List.forall_mem_cons.mpr ⟨a_k94, List.forall_mem_cons.mpr ⟨a_k95, fun _ h => absurd h List.not_mem_nil⟩⟩⟩⟩⟩⟩⟩⟩⟩⟩⟩⟩⟩⟩⟩⟩
theorem a_cw_6 : ∀ M ∈ a_mt_6, Cond.code M.1 M.2.1 M.2.2.1 M.2.2.2.1 ∈ wsL_law := List.forall_mem_cons.mpr ⟨a_cw96, List.forall_mem_cons.mpr ⟨a_cw97, List.forall_mem_cons.mpr ⟨a_cw98, List.forall_mem_cons.mpr ⟨a_cw99, List.forall_mem_cons.mpr ⟨a_cw100, List.forall_mem_cons.mpr ⟨a_cw101, List.forall_mem_cons.mpr ⟨a_cw102, List.forall_mem_cons.mpr ⟨a_cw103, List.forall_mem_cons.mpr ⟨a_cw104, List.forall_mem_cons.mpr ⟨a_cw105, List.forall_mem_cons.mpr ⟨a_cw106, List.forall_mem_cons.mpr ⟨a_cw107, List.forall_mem_cons.mpr ⟨a_cw108, List.forall_mem_cons.mpr ⟨a_cw109, List.forall_mem_cons.mpr ⟨a_cw110, List.forall_mem_cons.mpr ⟨a_cw111, fun _ h => absurd h List.not_mem_nil⟩⟩⟩⟩⟩⟩⟩⟩⟩⟩⟩⟩⟩⟩⟩⟩
theorem a_z_6 : ∀ p ∈ a_ct_6.zip a_mt_6, (p.1.all fun e => a_chk p.2 e.1 e.2) = true := List.forall_mem_cons.mpr ⟨a_k96, List.forall_mem_cons.mpr ⟨a_k97, List.forall_mem_cons.mpr ⟨a_k98, List.forall_mem_cons.mpr ⟨a_k99, List.forall_mem_cons.mpr ⟨a_k100, List.forall_mem_cons.mpr ⟨a_k101, List.forall_mem_cons.mpr ⟨a_k102, List.forall_mem_cons.mpr ⟨a_k103, List.forall_mem_cons.mpr ⟨a_k104, List.forall_mem_cons.mpr ⟨a_k105, List.forall_mem_cons.mpr ⟨a_k106, List.forall_mem_cons.mpr ⟨a_k107, List.forall_mem_cons.mpr ⟨a_k108, List.forall_mem_cons.mpr ⟨a_k109, List.forall_mem_cons.mpr ⟨a_k110, List.forall_mem_cons.mpr ⟨a_k111, fun _ h => absurd h List.not_mem_nil⟩⟩⟩⟩⟩⟩⟩⟩⟩⟩⟩⟩⟩⟩⟩⟩
theorem a_cw_7 : ∀ M ∈ a_mt_7, Cond.code M.1 M.2.1 M.2.2.1 M.2.2.2.1 ∈ wsL_law := List.forall_mem_cons.mpr ⟨a_cw112, List.forall_mem_cons.mpr ⟨a_cw113, List.forall_mem_cons.mpr ⟨a_cw114, fun _ h => absurd h List.not_mem_nil⟩⟩⟩
theorem a_z_7 : ∀ p ∈ a_ct_7.zip a_mt_7, (p.1.all fun e => a_chk p.2 e.1 e.2) = true := List.forall_mem_cons.mpr ⟨a_k112, List.forall_mem_cons.mpr ⟨a_k113, List.forall_mem_cons.mpr ⟨a_k114, fun _ h => absurd h List.not_mem_nil⟩⟩⟩
theorem a_cws : ∀ M ∈ a_mtl, Cond.code M.1 M.2.1 M.2.2.1 M.2.2.2.1 ∈ wsL_law := by
  unfold a_mtl
  exact (by
  rw [List.forall_mem_append]
  exact ⟨a_cw_0, (by
  rw [List.forall_mem_append]
  exact ⟨a_cw_1, (by
  rw [List.forall_mem_append]
  exact ⟨a_cw_2, (by
  rw [List.forall_mem_append]
  exact ⟨a_cw_3, (by
  rw [List.forall_mem_append]
  exact ⟨a_cw_4, (by
  rw [List.forall_mem_append]
  exact ⟨a_cw_5, (by
  rw [List.forall_mem_append]
  exact ⟨a_cw_6, a_cw_7⟩)⟩)⟩)⟩)⟩)⟩)⟩)
theorem a_zl : ∀ p ∈ a_ctl.zip a_mtl, (p.1.all fun e => a_chk p.2 e.1 e.2) = true := by
  unfold a_ctl a_mtl
  exact (by
  rw [List.zip_append (show a_ct_0.length = a_mt_0.length from rfl), List.forall_mem_append]
  exact ⟨a_z_0, (by
  rw [List.zip_append (show a_ct_1.length = a_mt_1.length from rfl), List.forall_mem_append]
  exact ⟨a_z_1, (by
  rw [List.zip_append (show a_ct_2.length = a_mt_2.length from rfl), List.forall_mem_append]
  exact ⟨a_z_2, (by
  rw [List.zip_append (show a_ct_3.length = a_mt_3.length from rfl), List.forall_mem_append]
  exact ⟨a_z_3, (by
  rw [List.zip_append (show a_ct_4.length = a_mt_4.length from rfl), List.forall_mem_append]
  exact ⟨a_z_4, (by
  rw [List.zip_append (show a_ct_5.length = a_mt_5.length from rfl), List.forall_mem_append]
  exact ⟨a_z_5, (by
  rw [List.zip_append (show a_ct_6.length = a_mt_6.length from rfl), List.forall_mem_append]
  exact ⟨a_z_6, a_z_7⟩)⟩)⟩)⟩)⟩)⟩)⟩)
theorem a_lenl : a_ctl.length = a_mtl.length := by decide +kernel
theorem a_z : ∀ p ∈ a_ct.zip a_mt, (p.1.all fun e => a_chk p.2 e.1 e.2) = true := by
  unfold a_ct a_mt
  rw [List.zip_append a_lenl, List.forall_mem_append]
  exact ⟨a_zl, List.forall_mem_cons.mpr ⟨a_k115, fun _ h => absurd h List.not_mem_nil⟩⟩
