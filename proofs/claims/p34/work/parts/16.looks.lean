/-! code rows -/
theorem L_97_0 : a_look 97 0 = some (.iload_n 1, 0, 0, 0) := by decide +kernel
theorem L_97_1 : a_look 97 1 = some (.aload_n 0, 0, 0, 0) := by decide +kernel
theorem L_97_2 : a_look 97 2 = some (.arraylength, 0, 0, 0) := by decide +kernel
theorem L_97_3 : a_look 97 3 = some (.if_icmp .ge 9, 12, 0, 0) := by decide +kernel
theorem L_97_6 : a_look 97 6 = some (.aload_n 0, 0, 0, 0) := by decide +kernel
theorem L_97_7 : a_look 97 7 = some (.iload_n 1, 0, 0, 0) := by decide +kernel
theorem L_97_8 : a_look 97 8 = some (.iaload, 0, 0, 0) := by decide +kernel
theorem L_97_9 : a_look 97 9 = some (.goto 9, 18, 0, 0) := by decide +kernel
theorem L_97_12 : a_look 97 12 = some (.ldc 7, 40503, 0, 1116) := by decide +kernel
theorem L_97_14 : a_look 97 14 = some (.iload_n 1, 0, 0, 0) := by decide +kernel
theorem L_97_15 : a_look 97 15 = some (.iconst 3, 0, 0, 0) := by decide +kernel
theorem L_97_16 : a_look 97 16 = some (.iadd, 0, 0, 0) := by decide +kernel
theorem L_97_17 : a_look 97 17 = some (.imul, 0, 0, 0) := by decide +kernel
theorem L_97_18 : a_look 97 18 = some (.ireturn, 0, 0, 0) := by decide +kernel
theorem L_102_0 : a_look 102 0 = some (.iconst 0, 0, 0, 0) := by decide +kernel
theorem L_102_1 : a_look 102 1 = some (.istore 8, 0, 0, 0) := by decide +kernel
theorem L_102_3 : a_look 102 3 = some (.iload 8, 0, 0, 0) := by decide +kernel
theorem L_102_5 : a_look 102 5 = some (.aload_n 0, 0, 0, 0) := by decide +kernel
theorem L_102_6 : a_look 102 6 = some (.iconst 1, 0, 0, 0) := by decide +kernel
theorem L_102_7 : a_look 102 7 = some (.iaload, 0, 0, 0) := by decide +kernel
theorem L_102_8 : a_look 102 8 = some (.if_icmp .ge 119, 127, 0, 0) := by decide +kernel
theorem L_102_11 : a_look 102 11 = some (.iconst 5, 0, 0, 0) := by decide +kernel
theorem L_102_12 : a_look 102 12 = some (.iload 8, 0, 0, 0) := by decide +kernel
theorem L_102_14 : a_look 102 14 = some (.imul, 0, 0, 0) := by decide +kernel
theorem L_102_15 : a_look 102 15 = some (.istore 9, 0, 0, 0) := by decide +kernel
theorem L_102_17 : a_look 102 17 = some (.aload_n 1, 0, 0, 0) := by decide +kernel
theorem L_102_18 : a_look 102 18 = some (.iload 9, 0, 0, 0) := by decide +kernel
theorem L_102_20 : a_look 102 20 = some (.iconst 2, 0, 0, 0) := by decide +kernel
theorem L_102_21 : a_look 102 21 = some (.iadd, 0, 0, 0) := by decide +kernel
theorem L_102_22 : a_look 102 22 = some (.iaload, 0, 0, 0) := by decide +kernel
theorem L_102_23 : a_look 102 23 = some (.iload_n 3, 0, 0, 0) := by decide +kernel
theorem L_102_24 : a_look 102 24 = some (.if_icmp .ne 15, 39, 0, 0) := by decide +kernel
theorem L_102_27 : a_look 102 27 = some (.aload_n 1, 0, 0, 0) := by decide +kernel
theorem L_102_28 : a_look 102 28 = some (.iload 9, 0, 0, 0) := by decide +kernel
theorem L_102_30 : a_look 102 30 = some (.iconst 3, 0, 0, 0) := by decide +kernel
theorem L_102_31 : a_look 102 31 = some (.iadd, 0, 0, 0) := by decide +kernel
theorem L_102_32 : a_look 102 32 = some (.iaload, 0, 0, 0) := by decide +kernel
theorem L_102_33 : a_look 102 33 = some (.invokestatic 9, 100, 1, 401) := by decide +kernel
theorem L_102_36 : a_look 102 36 = some (.goto 19, 55, 0, 0) := by decide +kernel
theorem L_102_39 : a_look 102 39 = some (.aload_n 1, 0, 0, 0) := by decide +kernel
theorem L_102_40 : a_look 102 40 = some (.iload 9, 0, 0, 0) := by decide +kernel
theorem L_102_42 : a_look 102 42 = some (.iconst 3, 0, 0, 0) := by decide +kernel
theorem L_102_43 : a_look 102 43 = some (.iadd, 0, 0, 0) := by decide +kernel
theorem L_102_44 : a_look 102 44 = some (.iaload, 0, 0, 0) := by decide +kernel
theorem L_102_45 : a_look 102 45 = some (.invokestatic 9, 100, 1, 401) := by decide +kernel
theorem L_102_48 : a_look 102 48 = some (.aload_n 0, 0, 0, 0) := by decide +kernel
theorem L_102_49 : a_look 102 49 = some (.iconst 5, 0, 0, 0) := by decide +kernel
theorem L_102_50 : a_look 102 50 = some (.iaload, 0, 0, 0) := by decide +kernel
theorem L_102_51 : a_look 102 51 = some (.imul, 0, 0, 0) := by decide +kernel
theorem L_102_52 : a_look 102 52 = some (.bipush 100, 0, 0, 0) := by decide +kernel
theorem L_102_54 : a_look 102 54 = some (.idiv, 0, 0, 0) := by decide +kernel
theorem L_102_55 : a_look 102 55 = some (.istore 10, 0, 0, 0) := by decide +kernel
theorem L_102_57 : a_look 102 57 = some (.aload_n 1, 0, 0, 0) := by decide +kernel
theorem L_102_58 : a_look 102 58 = some (.iload 9, 0, 0, 0) := by decide +kernel
theorem L_102_60 : a_look 102 60 = some (.iconst 4, 0, 0, 0) := by decide +kernel
theorem L_102_61 : a_look 102 61 = some (.iadd, 0, 0, 0) := by decide +kernel
theorem L_102_62 : a_look 102 62 = some (.iaload, 0, 0, 0) := by decide +kernel
theorem L_102_63 : a_look 102 63 = some (.iconst 1, 0, 0, 0) := by decide +kernel
theorem L_102_64 : a_look 102 64 = some (.if_icmp .ne 57, 121, 0, 0) := by decide +kernel
theorem L_102_67 : a_look 102 67 = some (.aload_n 1, 0, 0, 0) := by decide +kernel
theorem L_102_68 : a_look 102 68 = some (.iload 9, 0, 0, 0) := by decide +kernel
theorem L_102_70 : a_look 102 70 = some (.iconst 2, 0, 0, 0) := by decide +kernel
theorem L_102_71 : a_look 102 71 = some (.iadd, 0, 0, 0) := by decide +kernel
theorem L_102_72 : a_look 102 72 = some (.iaload, 0, 0, 0) := by decide +kernel
theorem L_102_73 : a_look 102 73 = some (.iload_n 3, 0, 0, 0) := by decide +kernel
theorem L_102_74 : a_look 102 74 = some (.isub, 0, 0, 0) := by decide +kernel
theorem L_102_75 : a_look 102 75 = some (.iconst 2, 0, 0, 0) := by decide +kernel
theorem L_102_76 : a_look 102 76 = some (.if_icmp .ge 45, 121, 0, 0) := by decide +kernel
theorem L_102_79 : a_look 102 79 = some (.iload_n 3, 0, 0, 0) := by decide +kernel
theorem L_102_80 : a_look 102 80 = some (.aload_n 1, 0, 0, 0) := by decide +kernel
theorem L_102_81 : a_look 102 81 = some (.iload 9, 0, 0, 0) := by decide +kernel
theorem L_102_83 : a_look 102 83 = some (.iconst 2, 0, 0, 0) := by decide +kernel
theorem L_102_84 : a_look 102 84 = some (.iadd, 0, 0, 0) := by decide +kernel
theorem L_102_85 : a_look 102 85 = some (.iaload, 0, 0, 0) := by decide +kernel
theorem L_102_86 : a_look 102 86 = some (.isub, 0, 0, 0) := by decide +kernel
theorem L_102_87 : a_look 102 87 = some (.iconst 2, 0, 0, 0) := by decide +kernel
theorem L_102_88 : a_look 102 88 = some (.if_icmp .ge 33, 121, 0, 0) := by decide +kernel
theorem L_102_91 : a_look 102 91 = some (.iload 4, 0, 0, 0) := by decide +kernel
theorem L_102_93 : a_look 102 93 = some (.iload 5, 0, 0, 0) := by decide +kernel
theorem L_102_95 : a_look 102 95 = some (.aload_n 1, 0, 0, 0) := by decide +kernel
theorem L_102_96 : a_look 102 96 = some (.iload 9, 0, 0, 0) := by decide +kernel
theorem L_102_98 : a_look 102 98 = some (.iaload, 0, 0, 0) := by decide +kernel
theorem L_102_99 : a_look 102 99 = some (.aload_n 1, 0, 0, 0) := by decide +kernel
theorem L_102_100 : a_look 102 100 = some (.iload 9, 0, 0, 0) := by decide +kernel
theorem L_102_102 : a_look 102 102 = some (.iconst 1, 0, 0, 0) := by decide +kernel
theorem L_102_103 : a_look 102 103 = some (.iadd, 0, 0, 0) := by decide +kernel
theorem L_102_104 : a_look 102 104 = some (.iaload, 0, 0, 0) := by decide +kernel
theorem L_102_105 : a_look 102 105 = some (.iload 10, 0, 0, 0) := by decide +kernel
theorem L_102_107 : a_look 102 107 = some (.iload 6, 0, 0, 0) := by decide +kernel
theorem L_102_109 : a_look 102 109 = some (.invokestatic 15, 99, 1, 404) := by decide +kernel
theorem L_102_112 : a_look 102 112 = some (.iadd, 0, 0, 0) := by decide +kernel
theorem L_102_113 : a_look 102 113 = some (.invokestatic 18, 101, 5, 407) := by decide +kernel
theorem L_102_116 : a_look 102 116 = some (.ifCond .eq 5, 121, 0, 0) := by decide +kernel
theorem L_102_119 : a_look 102 119 = some (.iconst 0, 0, 0, 0) := by decide +kernel
theorem L_102_120 : a_look 102 120 = some (.ireturn, 0, 0, 0) := by decide +kernel
theorem L_102_121 : a_look 102 121 = some (.iinc 8 1, 0, 0, 0) := by decide +kernel
theorem L_102_124 : a_look 102 124 = some (.goto (-121), 3, 0, 0) := by decide +kernel
theorem L_102_127 : a_look 102 127 = some (.iconst 0, 0, 0, 0) := by decide +kernel
theorem L_102_128 : a_look 102 128 = some (.istore 8, 0, 0, 0) := by decide +kernel
theorem L_102_130 : a_look 102 130 = some (.iload 8, 0, 0, 0) := by decide +kernel
theorem L_102_132 : a_look 102 132 = some (.aload_n 0, 0, 0, 0) := by decide +kernel
theorem L_102_133 : a_look 102 133 = some (.iconst 2, 0, 0, 0) := by decide +kernel
theorem L_102_134 : a_look 102 134 = some (.iaload, 0, 0, 0) := by decide +kernel
theorem L_102_135 : a_look 102 135 = some (.if_icmp .ge 104, 239, 0, 0) := by decide +kernel
theorem L_102_138 : a_look 102 138 = some (.bipush 7, 0, 0, 0) := by decide +kernel
theorem L_102_140 : a_look 102 140 = some (.iload 8, 0, 0, 0) := by decide +kernel
theorem L_102_142 : a_look 102 142 = some (.imul, 0, 0, 0) := by decide +kernel
theorem L_102_143 : a_look 102 143 = some (.istore 9, 0, 0, 0) := by decide +kernel
theorem L_102_145 : a_look 102 145 = some (.aload_n 2, 0, 0, 0) := by decide +kernel
theorem L_102_146 : a_look 102 146 = some (.iload 9, 0, 0, 0) := by decide +kernel
theorem L_102_148 : a_look 102 148 = some (.bipush 6, 0, 0, 0) := by decide +kernel
theorem L_102_150 : a_look 102 150 = some (.iadd, 0, 0, 0) := by decide +kernel
theorem L_102_151 : a_look 102 151 = some (.iaload, 0, 0, 0) := by decide +kernel
theorem L_102_152 : a_look 102 152 = some (.ifCond .ne 29, 181, 0, 0) := by decide +kernel
theorem L_102_155 : a_look 102 155 = some (.aload_n 2, 0, 0, 0) := by decide +kernel
theorem L_102_156 : a_look 102 156 = some (.iload 9, 0, 0, 0) := by decide +kernel
theorem L_102_158 : a_look 102 158 = some (.iconst 4, 0, 0, 0) := by decide +kernel
theorem L_102_159 : a_look 102 159 = some (.iadd, 0, 0, 0) := by decide +kernel
theorem L_102_160 : a_look 102 160 = some (.iaload, 0, 0, 0) := by decide +kernel
theorem L_102_161 : a_look 102 161 = some (.iload 7, 0, 0, 0) := by decide +kernel
theorem L_102_163 : a_look 102 163 = some (.if_icmp .gt 18, 181, 0, 0) := by decide +kernel
theorem L_102_166 : a_look 102 166 = some (.iload 7, 0, 0, 0) := by decide +kernel
theorem L_102_168 : a_look 102 168 = some (.aload_n 2, 0, 0, 0) := by decide +kernel
theorem L_102_169 : a_look 102 169 = some (.iload 9, 0, 0, 0) := by decide +kernel
theorem L_102_171 : a_look 102 171 = some (.iconst 5, 0, 0, 0) := by decide +kernel
theorem L_102_172 : a_look 102 172 = some (.iadd, 0, 0, 0) := by decide +kernel
theorem L_102_173 : a_look 102 173 = some (.iaload, 0, 0, 0) := by decide +kernel
theorem L_102_174 : a_look 102 174 = some (.if_icmp .ge 7, 181, 0, 0) := by decide +kernel
theorem L_102_177 : a_look 102 177 = some (.iconst 1, 0, 0, 0) := by decide +kernel
theorem L_102_178 : a_look 102 178 = some (.goto 4, 182, 0, 0) := by decide +kernel
theorem L_102_181 : a_look 102 181 = some (.iconst 0, 0, 0, 0) := by decide +kernel
theorem L_102_182 : a_look 102 182 = some (.istore 10, 0, 0, 0) := by decide +kernel
theorem L_102_184 : a_look 102 184 = some (.iload 10, 0, 0, 0) := by decide +kernel
theorem L_102_186 : a_look 102 186 = some (.ifCond .eq 47, 233, 0, 0) := by decide +kernel
theorem L_102_189 : a_look 102 189 = some (.aload_n 2, 0, 0, 0) := by decide +kernel
theorem L_102_190 : a_look 102 190 = some (.iload 9, 0, 0, 0) := by decide +kernel
theorem L_102_192 : a_look 102 192 = some (.iconst 3, 0, 0, 0) := by decide +kernel
theorem L_102_193 : a_look 102 193 = some (.iadd, 0, 0, 0) := by decide +kernel
theorem L_102_194 : a_look 102 194 = some (.iaload, 0, 0, 0) := by decide +kernel
theorem L_102_195 : a_look 102 195 = some (.iload_n 3, 0, 0, 0) := by decide +kernel
theorem L_102_196 : a_look 102 196 = some (.if_icmp .ne 37, 233, 0, 0) := by decide +kernel
theorem L_102_199 : a_look 102 199 = some (.iload 4, 0, 0, 0) := by decide +kernel
theorem L_102_201 : a_look 102 201 = some (.iload 5, 0, 0, 0) := by decide +kernel
theorem L_102_203 : a_look 102 203 = some (.aload_n 2, 0, 0, 0) := by decide +kernel
theorem L_102_204 : a_look 102 204 = some (.iload 9, 0, 0, 0) := by decide +kernel
theorem L_102_206 : a_look 102 206 = some (.iaload, 0, 0, 0) := by decide +kernel
theorem L_102_207 : a_look 102 207 = some (.aload_n 2, 0, 0, 0) := by decide +kernel
theorem L_102_208 : a_look 102 208 = some (.iload 9, 0, 0, 0) := by decide +kernel
theorem L_102_210 : a_look 102 210 = some (.iconst 1, 0, 0, 0) := by decide +kernel
theorem L_102_211 : a_look 102 211 = some (.iadd, 0, 0, 0) := by decide +kernel
theorem L_102_212 : a_look 102 212 = some (.iaload, 0, 0, 0) := by decide +kernel
theorem L_102_213 : a_look 102 213 = some (.aload_n 2, 0, 0, 0) := by decide +kernel
theorem L_102_214 : a_look 102 214 = some (.iload 9, 0, 0, 0) := by decide +kernel
theorem L_102_216 : a_look 102 216 = some (.iconst 2, 0, 0, 0) := by decide +kernel
theorem L_102_217 : a_look 102 217 = some (.iadd, 0, 0, 0) := by decide +kernel
theorem L_102_218 : a_look 102 218 = some (.iaload, 0, 0, 0) := by decide +kernel
theorem L_102_219 : a_look 102 219 = some (.iload 6, 0, 0, 0) := by decide +kernel
theorem L_102_221 : a_look 102 221 = some (.invokestatic 15, 99, 1, 404) := by decide +kernel
theorem L_102_224 : a_look 102 224 = some (.iadd, 0, 0, 0) := by decide +kernel
theorem L_102_225 : a_look 102 225 = some (.invokestatic 18, 101, 5, 407) := by decide +kernel
theorem L_102_228 : a_look 102 228 = some (.ifCond .eq 5, 233, 0, 0) := by decide +kernel
theorem L_102_231 : a_look 102 231 = some (.iconst 0, 0, 0, 0) := by decide +kernel
theorem L_102_232 : a_look 102 232 = some (.ireturn, 0, 0, 0) := by decide +kernel
theorem L_102_233 : a_look 102 233 = some (.iinc 8 1, 0, 0, 0) := by decide +kernel
theorem L_102_236 : a_look 102 236 = some (.goto (-106), 130, 0, 0) := by decide +kernel
theorem L_102_239 : a_look 102 239 = some (.iconst 1, 0, 0, 0) := by decide +kernel
theorem L_102_240 : a_look 102 240 = some (.ireturn, 0, 0, 0) := by decide +kernel
theorem L_103_0 : a_look 103 0 = some (.aload_n 0, 0, 0, 0) := by decide +kernel
theorem L_103_1 : a_look 103 1 = some (.aload_n 1, 0, 0, 0) := by decide +kernel
theorem L_103_2 : a_look 103 2 = some (.aload_n 2, 0, 0, 0) := by decide +kernel
theorem L_103_3 : a_look 103 3 = some (.iload 5, 0, 0, 0) := by decide +kernel
theorem L_103_5 : a_look 103 5 = some (.aload_n 3, 0, 0, 0) := by decide +kernel
theorem L_103_6 : a_look 103 6 = some (.iconst 4, 0, 0, 0) := by decide +kernel
theorem L_103_7 : a_look 103 7 = some (.iload 4, 0, 0, 0) := by decide +kernel
theorem L_103_9 : a_look 103 9 = some (.imul, 0, 0, 0) := by decide +kernel
theorem L_103_10 : a_look 103 10 = some (.iaload, 0, 0, 0) := by decide +kernel
theorem L_103_11 : a_look 103 11 = some (.aload_n 3, 0, 0, 0) := by decide +kernel
theorem L_103_12 : a_look 103 12 = some (.iconst 4, 0, 0, 0) := by decide +kernel
theorem L_103_13 : a_look 103 13 = some (.iload 4, 0, 0, 0) := by decide +kernel
theorem L_103_15 : a_look 103 15 = some (.imul, 0, 0, 0) := by decide +kernel
theorem L_103_16 : a_look 103 16 = some (.iconst 1, 0, 0, 0) := by decide +kernel
theorem L_103_17 : a_look 103 17 = some (.iadd, 0, 0, 0) := by decide +kernel
theorem L_103_18 : a_look 103 18 = some (.iaload, 0, 0, 0) := by decide +kernel
theorem L_103_19 : a_look 103 19 = some (.iload 6, 0, 0, 0) := by decide +kernel
theorem L_103_21 : a_look 103 21 = some (.aload_n 0, 0, 0, 0) := by decide +kernel
theorem L_103_22 : a_look 103 22 = some (.iconst 0, 0, 0, 0) := by decide +kernel
theorem L_103_23 : a_look 103 23 = some (.iaload, 0, 0, 0) := by decide +kernel
theorem L_103_24 : a_look 103 24 = some (.invokestatic 22, 102, 8, 322) := by decide +kernel
theorem L_103_27 : a_look 103 27 = some (.ireturn, 0, 0, 0) := by decide +kernel
theorem L_104_0 : a_look 104 0 = some (.bipush (-6), 0, 0, 0) := by decide +kernel
theorem L_104_2 : a_look 104 2 = some (.istore 7, 0, 0, 0) := by decide +kernel
theorem L_104_4 : a_look 104 4 = some (.bipush 99, 0, 0, 0) := by decide +kernel
theorem L_104_6 : a_look 104 6 = some (.istore 8, 0, 0, 0) := by decide +kernel
theorem L_104_8 : a_look 104 8 = some (.bipush 7, 0, 0, 0) := by decide +kernel
theorem L_104_10 : a_look 104 10 = some (.istore 9, 0, 0, 0) := by decide +kernel
theorem L_104_12 : a_look 104 12 = some (.iload 9, 0, 0, 0) := by decide +kernel
theorem L_104_14 : a_look 104 14 = some (.ifCond .lt 149, 163, 0, 0) := by decide +kernel
theorem L_104_17 : a_look 104 17 = some (.iconst 0, 0, 0, 0) := by decide +kernel
theorem L_104_18 : a_look 104 18 = some (.istore 10, 0, 0, 0) := by decide +kernel
theorem L_104_20 : a_look 104 20 = some (.aload_n 0, 0, 0, 0) := by decide +kernel
theorem L_104_21 : a_look 104 21 = some (.aload_n 1, 0, 0, 0) := by decide +kernel
theorem L_104_22 : a_look 104 22 = some (.aload_n 2, 0, 0, 0) := by decide +kernel
theorem L_104_23 : a_look 104 23 = some (.aload_n 3, 0, 0, 0) := by decide +kernel
theorem L_104_24 : a_look 104 24 = some (.iload 5, 0, 0, 0) := by decide +kernel
theorem L_104_26 : a_look 104 26 = some (.iload 9, 0, 0, 0) := by decide +kernel
theorem L_104_28 : a_look 104 28 = some (.iload 6, 0, 0, 0) := by decide +kernel
theorem L_104_30 : a_look 104 30 = some (.invokestatic 26, 103, 7, 319) := by decide +kernel
theorem L_104_33 : a_look 104 33 = some (.istore 11, 0, 0, 0) := by decide +kernel
theorem L_104_35 : a_look 104 35 = some (.iconst 0, 0, 0, 0) := by decide +kernel
theorem L_104_36 : a_look 104 36 = some (.istore 12, 0, 0, 0) := by decide +kernel
theorem L_104_38 : a_look 104 38 = some (.iload 12, 0, 0, 0) := by decide +kernel
theorem L_104_40 : a_look 104 40 = some (.aload_n 0, 0, 0, 0) := by decide +kernel
theorem L_104_41 : a_look 104 41 = some (.iconst 3, 0, 0, 0) := by decide +kernel
theorem L_104_42 : a_look 104 42 = some (.iaload, 0, 0, 0) := by decide +kernel
theorem L_104_43 : a_look 104 43 = some (.if_icmp .ge 94, 137, 0, 0) := by decide +kernel
theorem L_104_46 : a_look 104 46 = some (.iload 12, 0, 0, 0) := by decide +kernel
theorem L_104_48 : a_look 104 48 = some (.iload 5, 0, 0, 0) := by decide +kernel
theorem L_104_50 : a_look 104 50 = some (.if_icmp .eq 81, 131, 0, 0) := by decide +kernel
theorem L_104_53 : a_look 104 53 = some (.aload_n 3, 0, 0, 0) := by decide +kernel
theorem L_104_54 : a_look 104 54 = some (.iconst 4, 0, 0, 0) := by decide +kernel
theorem L_104_55 : a_look 104 55 = some (.iload 12, 0, 0, 0) := by decide +kernel
theorem L_104_57 : a_look 104 57 = some (.imul, 0, 0, 0) := by decide +kernel
theorem L_104_58 : a_look 104 58 = some (.iconst 3, 0, 0, 0) := by decide +kernel
theorem L_104_59 : a_look 104 59 = some (.iadd, 0, 0, 0) := by decide +kernel
theorem L_104_60 : a_look 104 60 = some (.iaload, 0, 0, 0) := by decide +kernel
theorem L_104_61 : a_look 104 61 = some (.iload 9, 0, 0, 0) := by decide +kernel
theorem L_104_63 : a_look 104 63 = some (.if_icmp .ne 68, 131, 0, 0) := by decide +kernel
theorem L_104_66 : a_look 104 66 = some (.iinc 10 1, 0, 0, 0) := by decide +kernel
theorem L_104_69 : a_look 104 69 = some (.iload 11, 0, 0, 0) := by decide +kernel
theorem L_104_71 : a_look 104 71 = some (.ifCond .eq 57, 128, 0, 0) := by decide +kernel
theorem L_104_74 : a_look 104 74 = some (.aload_n 3, 0, 0, 0) := by decide +kernel
theorem L_104_75 : a_look 104 75 = some (.iconst 4, 0, 0, 0) := by decide +kernel
theorem L_104_76 : a_look 104 76 = some (.iload 5, 0, 0, 0) := by decide +kernel
theorem L_104_78 : a_look 104 78 = some (.imul, 0, 0, 0) := by decide +kernel
theorem L_104_79 : a_look 104 79 = some (.iaload, 0, 0, 0) := by decide +kernel
theorem L_104_80 : a_look 104 80 = some (.aload_n 3, 0, 0, 0) := by decide +kernel
theorem L_104_81 : a_look 104 81 = some (.iconst 4, 0, 0, 0) := by decide +kernel
theorem L_104_82 : a_look 104 82 = some (.iload 5, 0, 0, 0) := by decide +kernel
theorem L_104_84 : a_look 104 84 = some (.imul, 0, 0, 0) := by decide +kernel
theorem L_104_85 : a_look 104 85 = some (.iconst 1, 0, 0, 0) := by decide +kernel
theorem L_104_86 : a_look 104 86 = some (.iadd, 0, 0, 0) := by decide +kernel
theorem L_104_87 : a_look 104 87 = some (.iaload, 0, 0, 0) := by decide +kernel
theorem L_104_88 : a_look 104 88 = some (.aload_n 3, 0, 0, 0) := by decide +kernel
theorem L_104_89 : a_look 104 89 = some (.iconst 4, 0, 0, 0) := by decide +kernel
theorem L_104_90 : a_look 104 90 = some (.iload 12, 0, 0, 0) := by decide +kernel
theorem L_104_92 : a_look 104 92 = some (.imul, 0, 0, 0) := by decide +kernel
theorem L_104_93 : a_look 104 93 = some (.iaload, 0, 0, 0) := by decide +kernel
theorem L_104_94 : a_look 104 94 = some (.aload_n 3, 0, 0, 0) := by decide +kernel
theorem L_104_95 : a_look 104 95 = some (.iconst 4, 0, 0, 0) := by decide +kernel
theorem L_104_96 : a_look 104 96 = some (.iload 12, 0, 0, 0) := by decide +kernel
theorem L_104_98 : a_look 104 98 = some (.imul, 0, 0, 0) := by decide +kernel
theorem L_104_99 : a_look 104 99 = some (.iconst 1, 0, 0, 0) := by decide +kernel
theorem L_104_100 : a_look 104 100 = some (.iadd, 0, 0, 0) := by decide +kernel
theorem L_104_101 : a_look 104 101 = some (.iaload, 0, 0, 0) := by decide +kernel
theorem L_104_102 : a_look 104 102 = some (.iload 6, 0, 0, 0) := by decide +kernel
theorem L_104_104 : a_look 104 104 = some (.invokestatic 15, 99, 1, 404) := by decide +kernel
theorem L_104_107 : a_look 104 107 = some (.aload 4, 0, 0, 0) := by decide +kernel
theorem L_104_109 : a_look 104 109 = some (.iconst 3, 0, 0, 0) := by decide +kernel
theorem L_104_110 : a_look 104 110 = some (.iload 12, 0, 0, 0) := by decide +kernel
theorem L_104_112 : a_look 104 112 = some (.imul, 0, 0, 0) := by decide +kernel
theorem L_104_113 : a_look 104 113 = some (.iaload, 0, 0, 0) := by decide +kernel
theorem L_104_114 : a_look 104 114 = some (.invokestatic 15, 99, 1, 404) := by decide +kernel
theorem L_104_117 : a_look 104 117 = some (.iadd, 0, 0, 0) := by decide +kernel
theorem L_104_118 : a_look 104 118 = some (.invokestatic 18, 101, 5, 407) := by decide +kernel
theorem L_104_121 : a_look 104 121 = some (.ifCond .ne 7, 128, 0, 0) := by decide +kernel
theorem L_104_124 : a_look 104 124 = some (.iconst 1, 0, 0, 0) := by decide +kernel
theorem L_104_125 : a_look 104 125 = some (.goto 4, 129, 0, 0) := by decide +kernel
theorem L_104_128 : a_look 104 128 = some (.iconst 0, 0, 0, 0) := by decide +kernel
theorem L_104_129 : a_look 104 129 = some (.istore 11, 0, 0, 0) := by decide +kernel
theorem L_104_131 : a_look 104 131 = some (.iinc 12 1, 0, 0, 0) := by decide +kernel
theorem L_104_134 : a_look 104 134 = some (.goto (-96), 38, 0, 0) := by decide +kernel
theorem L_104_137 : a_look 104 137 = some (.iload 11, 0, 0, 0) := by decide +kernel
theorem L_104_139 : a_look 104 139 = some (.ifCond .eq 18, 157, 0, 0) := by decide +kernel
theorem L_104_142 : a_look 104 142 = some (.iload 10, 0, 0, 0) := by decide +kernel
theorem L_104_144 : a_look 104 144 = some (.iload 8, 0, 0, 0) := by decide +kernel
theorem L_104_146 : a_look 104 146 = some (.if_icmp .gt 11, 157, 0, 0) := by decide +kernel
theorem L_104_149 : a_look 104 149 = some (.iload 9, 0, 0, 0) := by decide +kernel
theorem L_104_151 : a_look 104 151 = some (.istore 7, 0, 0, 0) := by decide +kernel
theorem L_104_153 : a_look 104 153 = some (.iload 10, 0, 0, 0) := by decide +kernel
theorem L_104_155 : a_look 104 155 = some (.istore 8, 0, 0, 0) := by decide +kernel
theorem L_104_157 : a_look 104 157 = some (.iinc 9 (-1), 0, 0, 0) := by decide +kernel
theorem L_104_160 : a_look 104 160 = some (.goto (-148), 12, 0, 0) := by decide +kernel
theorem L_104_163 : a_look 104 163 = some (.iload 7, 0, 0, 0) := by decide +kernel
theorem L_104_165 : a_look 104 165 = some (.ireturn, 0, 0, 0) := by decide +kernel
theorem L_105_0 : a_look 105 0 = some (.iconst 0, 0, 0, 0) := by decide +kernel
theorem L_105_1 : a_look 105 1 = some (.istore 5, 0, 0, 0) := by decide +kernel
theorem L_105_3 : a_look 105 3 = some (.iload 5, 0, 0, 0) := by decide +kernel
theorem L_105_5 : a_look 105 5 = some (.aload_n 0, 0, 0, 0) := by decide +kernel
theorem L_105_6 : a_look 105 6 = some (.iconst 3, 0, 0, 0) := by decide +kernel
theorem L_105_7 : a_look 105 7 = some (.iaload, 0, 0, 0) := by decide +kernel
theorem L_105_8 : a_look 105 8 = some (.if_icmp .ge 92, 100, 0, 0) := by decide +kernel
theorem L_105_11 : a_look 105 11 = some (.aload_n 3, 0, 0, 0) := by decide +kernel
theorem L_105_12 : a_look 105 12 = some (.iconst 4, 0, 0, 0) := by decide +kernel
theorem L_105_13 : a_look 105 13 = some (.iload 5, 0, 0, 0) := by decide +kernel
theorem L_105_15 : a_look 105 15 = some (.imul, 0, 0, 0) := by decide +kernel
theorem L_105_16 : a_look 105 16 = some (.iconst 3, 0, 0, 0) := by decide +kernel
theorem L_105_17 : a_look 105 17 = some (.iadd, 0, 0, 0) := by decide +kernel
theorem L_105_18 : a_look 105 18 = some (.iaload, 0, 0, 0) := by decide +kernel
theorem L_105_19 : a_look 105 19 = some (.ifCond .lt 75, 94, 0, 0) := by decide +kernel
theorem L_105_22 : a_look 105 22 = some (.aload_n 0, 0, 0, 0) := by decide +kernel
theorem L_105_23 : a_look 105 23 = some (.aload_n 1, 0, 0, 0) := by decide +kernel
theorem L_105_24 : a_look 105 24 = some (.aload_n 2, 0, 0, 0) := by decide +kernel
theorem L_105_25 : a_look 105 25 = some (.aload_n 3, 0, 0, 0) := by decide +kernel
theorem L_105_26 : a_look 105 26 = some (.iload 5, 0, 0, 0) := by decide +kernel
theorem L_105_28 : a_look 105 28 = some (.aload_n 3, 0, 0, 0) := by decide +kernel
theorem L_105_29 : a_look 105 29 = some (.iconst 4, 0, 0, 0) := by decide +kernel
theorem L_105_30 : a_look 105 30 = some (.iload 5, 0, 0, 0) := by decide +kernel
theorem L_105_32 : a_look 105 32 = some (.imul, 0, 0, 0) := by decide +kernel
theorem L_105_33 : a_look 105 33 = some (.iconst 3, 0, 0, 0) := by decide +kernel
theorem L_105_34 : a_look 105 34 = some (.iadd, 0, 0, 0) := by decide +kernel
theorem L_105_35 : a_look 105 35 = some (.iaload, 0, 0, 0) := by decide +kernel
theorem L_105_36 : a_look 105 36 = some (.aload 4, 0, 0, 0) := by decide +kernel
theorem L_105_38 : a_look 105 38 = some (.iconst 3, 0, 0, 0) := by decide +kernel
theorem L_105_39 : a_look 105 39 = some (.iload 5, 0, 0, 0) := by decide +kernel
theorem L_105_41 : a_look 105 41 = some (.imul, 0, 0, 0) := by decide +kernel
theorem L_105_42 : a_look 105 42 = some (.iaload, 0, 0, 0) := by decide +kernel
theorem L_105_43 : a_look 105 43 = some (.invokestatic 26, 103, 7, 319) := by decide +kernel
theorem L_105_46 : a_look 105 46 = some (.istore 6, 0, 0, 0) := by decide +kernel
theorem L_105_48 : a_look 105 48 = some (.aload 4, 0, 0, 0) := by decide +kernel
theorem L_105_50 : a_look 105 50 = some (.iconst 3, 0, 0, 0) := by decide +kernel
theorem L_105_51 : a_look 105 51 = some (.iload 5, 0, 0, 0) := by decide +kernel
theorem L_105_53 : a_look 105 53 = some (.imul, 0, 0, 0) := by decide +kernel
theorem L_105_54 : a_look 105 54 = some (.iconst 2, 0, 0, 0) := by decide +kernel
theorem L_105_55 : a_look 105 55 = some (.iadd, 0, 0, 0) := by decide +kernel
theorem L_105_56 : a_look 105 56 = some (.iload 6, 0, 0, 0) := by decide +kernel
theorem L_105_58 : a_look 105 58 = some (.ifCond .eq 8, 66, 0, 0) := by decide +kernel
theorem L_105_61 : a_look 105 61 = some (.bipush (-6), 0, 0, 0) := by decide +kernel
theorem L_105_63 : a_look 105 63 = some (.goto 30, 93, 0, 0) := by decide +kernel
theorem L_105_66 : a_look 105 66 = some (.aload 4, 0, 0, 0) := by decide +kernel
theorem L_105_68 : a_look 105 68 = some (.iconst 3, 0, 0, 0) := by decide +kernel
theorem L_105_69 : a_look 105 69 = some (.iload 5, 0, 0, 0) := by decide +kernel
theorem L_105_71 : a_look 105 71 = some (.imul, 0, 0, 0) := by decide +kernel
theorem L_105_72 : a_look 105 72 = some (.iconst 2, 0, 0, 0) := by decide +kernel
theorem L_105_73 : a_look 105 73 = some (.iadd, 0, 0, 0) := by decide +kernel
theorem L_105_74 : a_look 105 74 = some (.iaload, 0, 0, 0) := by decide +kernel
theorem L_105_75 : a_look 105 75 = some (.ifCond .ge 9, 84, 0, 0) := by decide +kernel
theorem L_105_78 : a_look 105 78 = some (.aload_n 0, 0, 0, 0) := by decide +kernel
theorem L_105_79 : a_look 105 79 = some (.iconst 0, 0, 0, 0) := by decide +kernel
theorem L_105_80 : a_look 105 80 = some (.iaload, 0, 0, 0) := by decide +kernel
theorem L_105_81 : a_look 105 81 = some (.goto 12, 93, 0, 0) := by decide +kernel
theorem L_105_84 : a_look 105 84 = some (.aload 4, 0, 0, 0) := by decide +kernel
theorem L_105_86 : a_look 105 86 = some (.iconst 3, 0, 0, 0) := by decide +kernel
theorem L_105_87 : a_look 105 87 = some (.iload 5, 0, 0, 0) := by decide +kernel
theorem L_105_89 : a_look 105 89 = some (.imul, 0, 0, 0) := by decide +kernel
theorem L_105_90 : a_look 105 90 = some (.iconst 2, 0, 0, 0) := by decide +kernel
theorem L_105_91 : a_look 105 91 = some (.iadd, 0, 0, 0) := by decide +kernel
theorem L_105_92 : a_look 105 92 = some (.iaload, 0, 0, 0) := by decide +kernel
theorem L_105_93 : a_look 105 93 = some (.iastore, 0, 0, 0) := by decide +kernel
theorem L_105_94 : a_look 105 94 = some (.iinc 5 1, 0, 0, 0) := by decide +kernel
theorem L_105_97 : a_look 105 97 = some (.goto (-94), 3, 0, 0) := by decide +kernel
theorem L_105_100 : a_look 105 100 = some (.return_, 0, 0, 0) := by decide +kernel
theorem L_106_0 : a_look 106 0 = some (.aload_n 0, 0, 0, 0) := by decide +kernel
theorem L_106_1 : a_look 106 1 = some (.iconst 4, 0, 0, 0) := by decide +kernel
theorem L_106_2 : a_look 106 2 = some (.iload_n 2, 0, 0, 0) := by decide +kernel
theorem L_106_3 : a_look 106 3 = some (.imul, 0, 0, 0) := by decide +kernel
theorem L_106_4 : a_look 106 4 = some (.iconst 3, 0, 0, 0) := by decide +kernel
theorem L_106_5 : a_look 106 5 = some (.iadd, 0, 0, 0) := by decide +kernel
theorem L_106_6 : a_look 106 6 = some (.bipush (-6), 0, 0, 0) := by decide +kernel
theorem L_106_8 : a_look 106 8 = some (.iastore, 0, 0, 0) := by decide +kernel
theorem L_106_9 : a_look 106 9 = some (.iconst 0, 0, 0, 0) := by decide +kernel
theorem L_106_10 : a_look 106 10 = some (.istore_n 3, 0, 0, 0) := by decide +kernel
theorem L_106_11 : a_look 106 11 = some (.iload_n 3, 0, 0, 0) := by decide +kernel
theorem L_106_12 : a_look 106 12 = some (.iconst 3, 0, 0, 0) := by decide +kernel
theorem L_106_13 : a_look 106 13 = some (.if_icmp .ge 18, 31, 0, 0) := by decide +kernel
theorem L_106_16 : a_look 106 16 = some (.aload_n 1, 0, 0, 0) := by decide +kernel
theorem L_106_17 : a_look 106 17 = some (.iconst 3, 0, 0, 0) := by decide +kernel
theorem L_106_18 : a_look 106 18 = some (.iload_n 2, 0, 0, 0) := by decide +kernel
theorem L_106_19 : a_look 106 19 = some (.imul, 0, 0, 0) := by decide +kernel
theorem L_106_20 : a_look 106 20 = some (.iload_n 3, 0, 0, 0) := by decide +kernel
theorem L_106_21 : a_look 106 21 = some (.iadd, 0, 0, 0) := by decide +kernel
theorem L_106_22 : a_look 106 22 = some (.bipush (-6), 0, 0, 0) := by decide +kernel
theorem L_106_24 : a_look 106 24 = some (.iastore, 0, 0, 0) := by decide +kernel
theorem L_106_25 : a_look 106 25 = some (.iinc 3 1, 0, 0, 0) := by decide +kernel
theorem L_106_28 : a_look 106 28 = some (.goto (-17), 11, 0, 0) := by decide +kernel
theorem L_106_31 : a_look 106 31 = some (.return_, 0, 0, 0) := by decide +kernel
theorem L_107_0 : a_look 107 0 = some (.iconst 0, 0, 0, 0) := by decide +kernel
theorem L_107_1 : a_look 107 1 = some (.istore_n 2, 0, 0, 0) := by decide +kernel
theorem L_107_2 : a_look 107 2 = some (.iconst 0, 0, 0, 0) := by decide +kernel
theorem L_107_3 : a_look 107 3 = some (.istore_n 3, 0, 0, 0) := by decide +kernel
theorem L_107_4 : a_look 107 4 = some (.iload_n 3, 0, 0, 0) := by decide +kernel
theorem L_107_5 : a_look 107 5 = some (.aload_n 0, 0, 0, 0) := by decide +kernel
theorem L_107_6 : a_look 107 6 = some (.iconst 3, 0, 0, 0) := by decide +kernel
theorem L_107_7 : a_look 107 7 = some (.iaload, 0, 0, 0) := by decide +kernel
theorem L_107_8 : a_look 107 8 = some (.if_icmp .ge 27, 35, 0, 0) := by decide +kernel
theorem L_107_11 : a_look 107 11 = some (.iload_n 2, 0, 0, 0) := by decide +kernel
theorem L_107_12 : a_look 107 12 = some (.aload_n 1, 0, 0, 0) := by decide +kernel
theorem L_107_13 : a_look 107 13 = some (.iconst 3, 0, 0, 0) := by decide +kernel
theorem L_107_14 : a_look 107 14 = some (.iload_n 3, 0, 0, 0) := by decide +kernel
theorem L_107_15 : a_look 107 15 = some (.imul, 0, 0, 0) := by decide +kernel
theorem L_107_16 : a_look 107 16 = some (.iconst 2, 0, 0, 0) := by decide +kernel
theorem L_107_17 : a_look 107 17 = some (.iadd, 0, 0, 0) := by decide +kernel
theorem L_107_18 : a_look 107 18 = some (.iaload, 0, 0, 0) := by decide +kernel
theorem L_107_19 : a_look 107 19 = some (.ifCond .lt 7, 26, 0, 0) := by decide +kernel
theorem L_107_22 : a_look 107 22 = some (.iconst 1, 0, 0, 0) := by decide +kernel
theorem L_107_23 : a_look 107 23 = some (.goto 4, 27, 0, 0) := by decide +kernel
theorem L_107_26 : a_look 107 26 = some (.iconst 0, 0, 0, 0) := by decide +kernel
theorem L_107_27 : a_look 107 27 = some (.iadd, 0, 0, 0) := by decide +kernel
theorem L_107_28 : a_look 107 28 = some (.istore_n 2, 0, 0, 0) := by decide +kernel
theorem L_107_29 : a_look 107 29 = some (.iinc 3 1, 0, 0, 0) := by decide +kernel
theorem L_107_32 : a_look 107 32 = some (.goto (-28), 4, 0, 0) := by decide +kernel
theorem L_107_35 : a_look 107 35 = some (.iload_n 2, 0, 0, 0) := by decide +kernel
theorem L_107_36 : a_look 107 36 = some (.ireturn, 0, 0, 0) := by decide +kernel
theorem L_108_0 : a_look 108 0 = some (.iconst 0, 0, 0, 0) := by decide +kernel
theorem L_108_1 : a_look 108 1 = some (.istore_n 2, 0, 0, 0) := by decide +kernel
theorem L_108_2 : a_look 108 2 = some (.iconst 0, 0, 0, 0) := by decide +kernel
theorem L_108_3 : a_look 108 3 = some (.istore_n 3, 0, 0, 0) := by decide +kernel
theorem L_108_4 : a_look 108 4 = some (.iload_n 3, 0, 0, 0) := by decide +kernel
theorem L_108_5 : a_look 108 5 = some (.aload_n 0, 0, 0, 0) := by decide +kernel
theorem L_108_6 : a_look 108 6 = some (.iconst 3, 0, 0, 0) := by decide +kernel
theorem L_108_7 : a_look 108 7 = some (.iaload, 0, 0, 0) := by decide +kernel
theorem L_108_8 : a_look 108 8 = some (.if_icmp .ge 27, 35, 0, 0) := by decide +kernel
theorem L_108_11 : a_look 108 11 = some (.iload_n 2, 0, 0, 0) := by decide +kernel
theorem L_108_12 : a_look 108 12 = some (.aload_n 1, 0, 0, 0) := by decide +kernel
theorem L_108_13 : a_look 108 13 = some (.iconst 4, 0, 0, 0) := by decide +kernel
theorem L_108_14 : a_look 108 14 = some (.iload_n 3, 0, 0, 0) := by decide +kernel
theorem L_108_15 : a_look 108 15 = some (.imul, 0, 0, 0) := by decide +kernel
theorem L_108_16 : a_look 108 16 = some (.iconst 3, 0, 0, 0) := by decide +kernel
theorem L_108_17 : a_look 108 17 = some (.iadd, 0, 0, 0) := by decide +kernel
theorem L_108_18 : a_look 108 18 = some (.iaload, 0, 0, 0) := by decide +kernel
theorem L_108_19 : a_look 108 19 = some (.ifCond .lt 7, 26, 0, 0) := by decide +kernel
theorem L_108_22 : a_look 108 22 = some (.iconst 1, 0, 0, 0) := by decide +kernel
theorem L_108_23 : a_look 108 23 = some (.goto 4, 27, 0, 0) := by decide +kernel
theorem L_108_26 : a_look 108 26 = some (.iconst 0, 0, 0, 0) := by decide +kernel
theorem L_108_27 : a_look 108 27 = some (.iadd, 0, 0, 0) := by decide +kernel
theorem L_108_28 : a_look 108 28 = some (.istore_n 2, 0, 0, 0) := by decide +kernel
theorem L_108_29 : a_look 108 29 = some (.iinc 3 1, 0, 0, 0) := by decide +kernel
theorem L_108_32 : a_look 108 32 = some (.goto (-28), 4, 0, 0) := by decide +kernel
theorem L_108_35 : a_look 108 35 = some (.iload_n 2, 0, 0, 0) := by decide +kernel
theorem L_108_36 : a_look 108 36 = some (.ireturn, 0, 0, 0) := by decide +kernel
theorem L_109_0 : a_look 109 0 = some (.aload_n 0, 0, 0, 0) := by decide +kernel
theorem L_109_1 : a_look 109 1 = some (.iconst 0, 0, 0, 0) := by decide +kernel
theorem L_109_2 : a_look 109 2 = some (.dup2, 0, 0, 0) := by decide +kernel
theorem L_109_3 : a_look 109 3 = some (.iaload, 0, 0, 0) := by decide +kernel
theorem L_109_4 : a_look 109 4 = some (.iconst 1, 0, 0, 0) := by decide +kernel
theorem L_109_5 : a_look 109 5 = some (.iadd, 0, 0, 0) := by decide +kernel
theorem L_109_6 : a_look 109 6 = some (.iastore, 0, 0, 0) := by decide +kernel
theorem L_109_7 : a_look 109 7 = some (.iconst 0, 0, 0, 0) := by decide +kernel
theorem L_109_8 : a_look 109 8 = some (.istore 6, 0, 0, 0) := by decide +kernel
theorem L_109_10 : a_look 109 10 = some (.iconst 0, 0, 0, 0) := by decide +kernel
theorem L_109_11 : a_look 109 11 = some (.istore 7, 0, 0, 0) := by decide +kernel
theorem L_109_13 : a_look 109 13 = some (.iload 7, 0, 0, 0) := by decide +kernel
theorem L_109_15 : a_look 109 15 = some (.aload_n 0, 0, 0, 0) := by decide +kernel
theorem L_109_16 : a_look 109 16 = some (.iconst 3, 0, 0, 0) := by decide +kernel
theorem L_109_17 : a_look 109 17 = some (.iaload, 0, 0, 0) := by decide +kernel
theorem L_109_18 : a_look 109 18 = some (.if_icmp .ge 43, 61, 0, 0) := by decide +kernel
theorem L_109_21 : a_look 109 21 = some (.aload_n 3, 0, 0, 0) := by decide +kernel
theorem L_109_22 : a_look 109 22 = some (.iconst 4, 0, 0, 0) := by decide +kernel
theorem L_109_23 : a_look 109 23 = some (.iload 7, 0, 0, 0) := by decide +kernel
theorem L_109_25 : a_look 109 25 = some (.imul, 0, 0, 0) := by decide +kernel
theorem L_109_26 : a_look 109 26 = some (.iconst 3, 0, 0, 0) := by decide +kernel
theorem L_109_27 : a_look 109 27 = some (.iadd, 0, 0, 0) := by decide +kernel
theorem L_109_28 : a_look 109 28 = some (.iaload, 0, 0, 0) := by decide +kernel
theorem L_109_29 : a_look 109 29 = some (.ifCond .lt 26, 55, 0, 0) := by decide +kernel
theorem L_109_32 : a_look 109 32 = some (.aload 4, 0, 0, 0) := by decide +kernel
theorem L_109_34 : a_look 109 34 = some (.iconst 3, 0, 0, 0) := by decide +kernel
theorem L_109_35 : a_look 109 35 = some (.iload 7, 0, 0, 0) := by decide +kernel
theorem L_109_37 : a_look 109 37 = some (.imul, 0, 0, 0) := by decide +kernel
theorem L_109_38 : a_look 109 38 = some (.iconst 1, 0, 0, 0) := by decide +kernel
theorem L_109_39 : a_look 109 39 = some (.iadd, 0, 0, 0) := by decide +kernel
theorem L_109_40 : a_look 109 40 = some (.iaload, 0, 0, 0) := by decide +kernel
theorem L_109_41 : a_look 109 41 = some (.aload_n 0, 0, 0, 0) := by decide +kernel
theorem L_109_42 : a_look 109 42 = some (.iconst 0, 0, 0, 0) := by decide +kernel
theorem L_109_43 : a_look 109 43 = some (.iaload, 0, 0, 0) := by decide +kernel
theorem L_109_44 : a_look 109 44 = some (.if_icmp .ne 11, 55, 0, 0) := by decide +kernel
theorem L_109_47 : a_look 109 47 = some (.aload_n 3, 0, 0, 0) := by decide +kernel
theorem L_109_48 : a_look 109 48 = some (.aload 4, 0, 0, 0) := by decide +kernel
theorem L_109_50 : a_look 109 50 = some (.iload 7, 0, 0, 0) := by decide +kernel
theorem L_109_52 : a_look 109 52 = some (.invokestatic 30, 106, 3, 1415) := by decide +kernel
theorem L_109_55 : a_look 109 55 = some (.iinc 7 1, 0, 0, 0) := by decide +kernel
theorem L_109_58 : a_look 109 58 = some (.goto (-45), 13, 0, 0) := by decide +kernel
theorem L_109_61 : a_look 109 61 = some (.aload_n 0, 0, 0, 0) := by decide +kernel
theorem L_109_62 : a_look 109 62 = some (.aload_n 1, 0, 0, 0) := by decide +kernel
theorem L_109_63 : a_look 109 63 = some (.aload_n 2, 0, 0, 0) := by decide +kernel
theorem L_109_64 : a_look 109 64 = some (.aload_n 3, 0, 0, 0) := by decide +kernel
theorem L_109_65 : a_look 109 65 = some (.aload 4, 0, 0, 0) := by decide +kernel
theorem L_109_67 : a_look 109 67 = some (.invokestatic 34, 105, 5, 1323) := by decide +kernel
theorem L_109_70 : a_look 109 70 = some (.iconst 0, 0, 0, 0) := by decide +kernel
theorem L_109_71 : a_look 109 71 = some (.istore 7, 0, 0, 0) := by decide +kernel
theorem L_109_73 : a_look 109 73 = some (.iload 7, 0, 0, 0) := by decide +kernel
theorem L_109_75 : a_look 109 75 = some (.aload_n 0, 0, 0, 0) := by decide +kernel
theorem L_109_76 : a_look 109 76 = some (.iconst 3, 0, 0, 0) := by decide +kernel
theorem L_109_77 : a_look 109 77 = some (.iaload, 0, 0, 0) := by decide +kernel
theorem L_109_78 : a_look 109 78 = some (.if_icmp .ge 164, 242, 0, 0) := by decide +kernel
theorem L_109_81 : a_look 109 81 = some (.aload_n 0, 0, 0, 0) := by decide +kernel
theorem L_109_82 : a_look 109 82 = some (.iconst 0, 0, 0, 0) := by decide +kernel
theorem L_109_83 : a_look 109 83 = some (.iaload, 0, 0, 0) := by decide +kernel
theorem L_109_84 : a_look 109 84 = some (.iload 7, 0, 0, 0) := by decide +kernel
theorem L_109_86 : a_look 109 86 = some (.iadd, 0, 0, 0) := by decide +kernel
theorem L_109_87 : a_look 109 87 = some (.aload_n 0, 0, 0, 0) := by decide +kernel
theorem L_109_88 : a_look 109 88 = some (.bipush 6, 0, 0, 0) := by decide +kernel
theorem L_109_90 : a_look 109 90 = some (.iaload, 0, 0, 0) := by decide +kernel
theorem L_109_91 : a_look 109 91 = some (.irem, 0, 0, 0) := by decide +kernel
theorem L_109_92 : a_look 109 92 = some (.ifCond .ne 144, 236, 0, 0) := by decide +kernel
theorem L_109_95 : a_look 109 95 = some (.aload 4, 0, 0, 0) := by decide +kernel
theorem L_109_97 : a_look 109 97 = some (.iconst 3, 0, 0, 0) := by decide +kernel
theorem L_109_98 : a_look 109 98 = some (.iload 7, 0, 0, 0) := by decide +kernel
theorem L_109_100 : a_look 109 100 = some (.imul, 0, 0, 0) := by decide +kernel
theorem L_109_101 : a_look 109 101 = some (.iconst 2, 0, 0, 0) := by decide +kernel
theorem L_109_102 : a_look 109 102 = some (.iadd, 0, 0, 0) := by decide +kernel
theorem L_109_103 : a_look 109 103 = some (.iaload, 0, 0, 0) := by decide +kernel
theorem L_109_104 : a_look 109 104 = some (.ifCond .lt 132, 236, 0, 0) := by decide +kernel
theorem L_109_107 : a_look 109 107 = some (.aload 4, 0, 0, 0) := by decide +kernel
theorem L_109_109 : a_look 109 109 = some (.iconst 3, 0, 0, 0) := by decide +kernel
theorem L_109_110 : a_look 109 110 = some (.iload 7, 0, 0, 0) := by decide +kernel
theorem L_109_112 : a_look 109 112 = some (.imul, 0, 0, 0) := by decide +kernel
theorem L_109_113 : a_look 109 113 = some (.iaload, 0, 0, 0) := by decide +kernel
theorem L_109_114 : a_look 109 114 = some (.istore 8, 0, 0, 0) := by decide +kernel
theorem L_109_116 : a_look 109 116 = some (.bipush (-6), 0, 0, 0) := by decide +kernel
theorem L_109_118 : a_look 109 118 = some (.istore 9, 0, 0, 0) := by decide +kernel
theorem L_109_120 : a_look 109 120 = some (.iload 8, 0, 0, 0) := by decide +kernel
theorem L_109_122 : a_look 109 122 = some (.ifCond .lt 41, 163, 0, 0) := by decide +kernel
theorem L_109_125 : a_look 109 125 = some (.iload 9, 0, 0, 0) := by decide +kernel
theorem L_109_127 : a_look 109 127 = some (.ifCond .ge 36, 163, 0, 0) := by decide +kernel
theorem L_109_130 : a_look 109 130 = some (.aload_n 0, 0, 0, 0) := by decide +kernel
theorem L_109_131 : a_look 109 131 = some (.aload_n 1, 0, 0, 0) := by decide +kernel
theorem L_109_132 : a_look 109 132 = some (.aload_n 2, 0, 0, 0) := by decide +kernel
theorem L_109_133 : a_look 109 133 = some (.aload_n 3, 0, 0, 0) := by decide +kernel
theorem L_109_134 : a_look 109 134 = some (.aload 4, 0, 0, 0) := by decide +kernel
theorem L_109_136 : a_look 109 136 = some (.iload 7, 0, 0, 0) := by decide +kernel
theorem L_109_138 : a_look 109 138 = some (.iload 8, 0, 0, 0) := by decide +kernel
theorem L_109_140 : a_look 109 140 = some (.invokestatic 38, 104, 7, 1805) := by decide +kernel
theorem L_109_143 : a_look 109 143 = some (.istore 9, 0, 0, 0) := by decide +kernel
theorem L_109_145 : a_look 109 145 = some (.iload 8, 0, 0, 0) := by decide +kernel
theorem L_109_147 : a_look 109 147 = some (.iload 9, 0, 0, 0) := by decide +kernel
theorem L_109_149 : a_look 109 149 = some (.ifCond .ge 7, 156, 0, 0) := by decide +kernel
theorem L_109_152 : a_look 109 152 = some (.iconst 1, 0, 0, 0) := by decide +kernel
theorem L_109_153 : a_look 109 153 = some (.goto 4, 157, 0, 0) := by decide +kernel
theorem L_109_156 : a_look 109 156 = some (.iconst 0, 0, 0, 0) := by decide +kernel
theorem L_109_157 : a_look 109 157 = some (.isub, 0, 0, 0) := by decide +kernel
theorem L_109_158 : a_look 109 158 = some (.istore 8, 0, 0, 0) := by decide +kernel
theorem L_109_160 : a_look 109 160 = some (.goto (-40), 120, 0, 0) := by decide +kernel
theorem L_109_163 : a_look 109 163 = some (.iload 9, 0, 0, 0) := by decide +kernel
theorem L_109_165 : a_look 109 165 = some (.ifCond .lt 50, 215, 0, 0) := by decide +kernel
theorem L_109_168 : a_look 109 168 = some (.aload_n 3, 0, 0, 0) := by decide +kernel
theorem L_109_169 : a_look 109 169 = some (.iconst 4, 0, 0, 0) := by decide +kernel
theorem L_109_170 : a_look 109 170 = some (.iload 7, 0, 0, 0) := by decide +kernel
theorem L_109_172 : a_look 109 172 = some (.imul, 0, 0, 0) := by decide +kernel
theorem L_109_173 : a_look 109 173 = some (.iconst 3, 0, 0, 0) := by decide +kernel
theorem L_109_174 : a_look 109 174 = some (.iadd, 0, 0, 0) := by decide +kernel
theorem L_109_175 : a_look 109 175 = some (.iload 9, 0, 0, 0) := by decide +kernel
theorem L_109_177 : a_look 109 177 = some (.iastore, 0, 0, 0) := by decide +kernel
theorem L_109_178 : a_look 109 178 = some (.aload 4, 0, 0, 0) := by decide +kernel
theorem L_109_180 : a_look 109 180 = some (.iconst 3, 0, 0, 0) := by decide +kernel
theorem L_109_181 : a_look 109 181 = some (.iload 7, 0, 0, 0) := by decide +kernel
theorem L_109_183 : a_look 109 183 = some (.imul, 0, 0, 0) := by decide +kernel
theorem L_109_184 : a_look 109 184 = some (.iload 8, 0, 0, 0) := by decide +kernel
theorem L_109_186 : a_look 109 186 = some (.iastore, 0, 0, 0) := by decide +kernel
theorem L_109_187 : a_look 109 187 = some (.aload 4, 0, 0, 0) := by decide +kernel
theorem L_109_189 : a_look 109 189 = some (.iconst 3, 0, 0, 0) := by decide +kernel
theorem L_109_190 : a_look 109 190 = some (.iload 7, 0, 0, 0) := by decide +kernel
theorem L_109_192 : a_look 109 192 = some (.imul, 0, 0, 0) := by decide +kernel
theorem L_109_193 : a_look 109 193 = some (.iconst 2, 0, 0, 0) := by decide +kernel
theorem L_109_194 : a_look 109 194 = some (.iadd, 0, 0, 0) := by decide +kernel
theorem L_109_195 : a_look 109 195 = some (.bipush (-6), 0, 0, 0) := by decide +kernel
theorem L_109_197 : a_look 109 197 = some (.iastore, 0, 0, 0) := by decide +kernel
theorem L_109_198 : a_look 109 198 = some (.aload 5, 0, 0, 0) := by decide +kernel
theorem L_109_200 : a_look 109 200 = some (.iconst 3, 0, 0, 0) := by decide +kernel
theorem L_109_201 : a_look 109 201 = some (.iload 7, 0, 0, 0) := by decide +kernel
theorem L_109_203 : a_look 109 203 = some (.imul, 0, 0, 0) := by decide +kernel
theorem L_109_204 : a_look 109 204 = some (.dup2, 0, 0, 0) := by decide +kernel
theorem L_109_205 : a_look 109 205 = some (.iaload, 0, 0, 0) := by decide +kernel
theorem L_109_206 : a_look 109 206 = some (.iconst 1, 0, 0, 0) := by decide +kernel
theorem L_109_207 : a_look 109 207 = some (.iadd, 0, 0, 0) := by decide +kernel
theorem L_109_208 : a_look 109 208 = some (.iastore, 0, 0, 0) := by decide +kernel
theorem L_109_209 : a_look 109 209 = some (.iinc 6 1, 0, 0, 0) := by decide +kernel
theorem L_109_212 : a_look 109 212 = some (.goto 24, 236, 0, 0) := by decide +kernel
theorem L_109_215 : a_look 109 215 = some (.aload_n 3, 0, 0, 0) := by decide +kernel
theorem L_109_216 : a_look 109 216 = some (.aload 4, 0, 0, 0) := by decide +kernel
theorem L_109_218 : a_look 109 218 = some (.iload 7, 0, 0, 0) := by decide +kernel
theorem L_109_220 : a_look 109 220 = some (.invokestatic 30, 106, 3, 1415) := by decide +kernel
theorem L_109_223 : a_look 109 223 = some (.aload 5, 0, 0, 0) := by decide +kernel
theorem L_109_225 : a_look 109 225 = some (.iconst 3, 0, 0, 0) := by decide +kernel
theorem L_109_226 : a_look 109 226 = some (.iload 7, 0, 0, 0) := by decide +kernel
theorem L_109_228 : a_look 109 228 = some (.imul, 0, 0, 0) := by decide +kernel
theorem L_109_229 : a_look 109 229 = some (.iconst 1, 0, 0, 0) := by decide +kernel
theorem L_109_230 : a_look 109 230 = some (.iadd, 0, 0, 0) := by decide +kernel
theorem L_109_231 : a_look 109 231 = some (.dup2, 0, 0, 0) := by decide +kernel
theorem L_109_232 : a_look 109 232 = some (.iaload, 0, 0, 0) := by decide +kernel
theorem L_109_233 : a_look 109 233 = some (.iconst 1, 0, 0, 0) := by decide +kernel
theorem L_109_234 : a_look 109 234 = some (.iadd, 0, 0, 0) := by decide +kernel
theorem L_109_235 : a_look 109 235 = some (.iastore, 0, 0, 0) := by decide +kernel
theorem L_109_236 : a_look 109 236 = some (.iinc 7 1, 0, 0, 0) := by decide +kernel
theorem L_109_239 : a_look 109 239 = some (.goto (-166), 73, 0, 0) := by decide +kernel
theorem L_109_242 : a_look 109 242 = some (.iconst 0, 0, 0, 0) := by decide +kernel
theorem L_109_243 : a_look 109 243 = some (.istore 7, 0, 0, 0) := by decide +kernel
theorem L_109_245 : a_look 109 245 = some (.iload 7, 0, 0, 0) := by decide +kernel
theorem L_109_247 : a_look 109 247 = some (.aload_n 0, 0, 0, 0) := by decide +kernel
theorem L_109_248 : a_look 109 248 = some (.iconst 3, 0, 0, 0) := by decide +kernel
theorem L_109_249 : a_look 109 249 = some (.iaload, 0, 0, 0) := by decide +kernel
theorem L_109_250 : a_look 109 250 = some (.if_icmp .ge 62, 312, 0, 0) := by decide +kernel
theorem L_109_253 : a_look 109 253 = some (.aload 4, 0, 0, 0) := by decide +kernel
theorem L_109_255 : a_look 109 255 = some (.iconst 3, 0, 0, 0) := by decide +kernel
theorem L_109_256 : a_look 109 256 = some (.iload 7, 0, 0, 0) := by decide +kernel
theorem L_109_258 : a_look 109 258 = some (.imul, 0, 0, 0) := by decide +kernel
theorem L_109_259 : a_look 109 259 = some (.iconst 2, 0, 0, 0) := by decide +kernel
theorem L_109_260 : a_look 109 260 = some (.iadd, 0, 0, 0) := by decide +kernel
theorem L_109_261 : a_look 109 261 = some (.iaload, 0, 0, 0) := by decide +kernel
theorem L_109_262 : a_look 109 262 = some (.ifCond .lt 44, 306, 0, 0) := by decide +kernel
theorem L_109_265 : a_look 109 265 = some (.aload_n 0, 0, 0, 0) := by decide +kernel
theorem L_109_266 : a_look 109 266 = some (.iconst 0, 0, 0, 0) := by decide +kernel
theorem L_109_267 : a_look 109 267 = some (.iaload, 0, 0, 0) := by decide +kernel
theorem L_109_268 : a_look 109 268 = some (.aload 4, 0, 0, 0) := by decide +kernel
theorem L_109_270 : a_look 109 270 = some (.iconst 3, 0, 0, 0) := by decide +kernel
theorem L_109_271 : a_look 109 271 = some (.iload 7, 0, 0, 0) := by decide +kernel
theorem L_109_273 : a_look 109 273 = some (.imul, 0, 0, 0) := by decide +kernel
theorem L_109_274 : a_look 109 274 = some (.iconst 2, 0, 0, 0) := by decide +kernel
theorem L_109_275 : a_look 109 275 = some (.iadd, 0, 0, 0) := by decide +kernel
theorem L_109_276 : a_look 109 276 = some (.iaload, 0, 0, 0) := by decide +kernel
theorem L_109_277 : a_look 109 277 = some (.isub, 0, 0, 0) := by decide +kernel
theorem L_109_278 : a_look 109 278 = some (.aload_n 0, 0, 0, 0) := by decide +kernel
theorem L_109_279 : a_look 109 279 = some (.bipush 7, 0, 0, 0) := by decide +kernel
theorem L_109_281 : a_look 109 281 = some (.iaload, 0, 0, 0) := by decide +kernel
theorem L_109_282 : a_look 109 282 = some (.if_icmp .lt 24, 306, 0, 0) := by decide +kernel
theorem L_109_285 : a_look 109 285 = some (.aload_n 3, 0, 0, 0) := by decide +kernel
theorem L_109_286 : a_look 109 286 = some (.aload 4, 0, 0, 0) := by decide +kernel
theorem L_109_288 : a_look 109 288 = some (.iload 7, 0, 0, 0) := by decide +kernel
theorem L_109_290 : a_look 109 290 = some (.invokestatic 30, 106, 3, 1415) := by decide +kernel
theorem L_109_293 : a_look 109 293 = some (.aload 5, 0, 0, 0) := by decide +kernel
theorem L_109_295 : a_look 109 295 = some (.iconst 3, 0, 0, 0) := by decide +kernel
theorem L_109_296 : a_look 109 296 = some (.iload 7, 0, 0, 0) := by decide +kernel
theorem L_109_298 : a_look 109 298 = some (.imul, 0, 0, 0) := by decide +kernel
theorem L_109_299 : a_look 109 299 = some (.iconst 2, 0, 0, 0) := by decide +kernel
theorem L_109_300 : a_look 109 300 = some (.iadd, 0, 0, 0) := by decide +kernel
theorem L_109_301 : a_look 109 301 = some (.dup2, 0, 0, 0) := by decide +kernel
theorem L_109_302 : a_look 109 302 = some (.iaload, 0, 0, 0) := by decide +kernel
theorem L_109_303 : a_look 109 303 = some (.iconst 1, 0, 0, 0) := by decide +kernel
theorem L_109_304 : a_look 109 304 = some (.iadd, 0, 0, 0) := by decide +kernel
theorem L_109_305 : a_look 109 305 = some (.iastore, 0, 0, 0) := by decide +kernel
theorem L_109_306 : a_look 109 306 = some (.iinc 7 1, 0, 0, 0) := by decide +kernel
theorem L_109_309 : a_look 109 309 = some (.goto (-64), 245, 0, 0) := by decide +kernel
theorem L_109_312 : a_look 109 312 = some (.iload 6, 0, 0, 0) := by decide +kernel
theorem L_109_314 : a_look 109 314 = some (.ireturn, 0, 0, 0) := by decide +kernel
theorem L_110_0 : a_look 110 0 = some (.iload 7, 0, 0, 0) := by decide +kernel
theorem L_110_2 : a_look 110 2 = some (.bipush 60, 0, 0, 0) := by decide +kernel
theorem L_110_4 : a_look 110 4 = some (.irem, 0, 0, 0) := by decide +kernel
theorem L_110_5 : a_look 110 5 = some (.istore 9, 0, 0, 0) := by decide +kernel
theorem L_110_7 : a_look 110 7 = some (.iload 7, 0, 0, 0) := by decide +kernel
theorem L_110_9 : a_look 110 9 = some (.bipush 60, 0, 0, 0) := by decide +kernel
theorem L_110_11 : a_look 110 11 = some (.idiv, 0, 0, 0) := by decide +kernel
theorem L_110_12 : a_look 110 12 = some (.bipush 60, 0, 0, 0) := by decide +kernel
theorem L_110_14 : a_look 110 14 = some (.irem, 0, 0, 0) := by decide +kernel
theorem L_110_15 : a_look 110 15 = some (.istore 10, 0, 0, 0) := by decide +kernel
theorem L_110_17 : a_look 110 17 = some (.iload 7, 0, 0, 0) := by decide +kernel
theorem L_110_19 : a_look 110 19 = some (.sipush 3600, 0, 0, 0) := by decide +kernel
theorem L_110_22 : a_look 110 22 = some (.idiv, 0, 0, 0) := by decide +kernel
theorem L_110_23 : a_look 110 23 = some (.bipush 8, 0, 0, 0) := by decide +kernel
theorem L_110_25 : a_look 110 25 = some (.irem, 0, 0, 0) := by decide +kernel
theorem L_110_26 : a_look 110 26 = some (.istore 11, 0, 0, 0) := by decide +kernel
theorem L_110_28 : a_look 110 28 = some (.iload 8, 0, 0, 0) := by decide +kernel
theorem L_110_30 : a_look 110 30 = some (.ifCond .ne 120, 150, 0, 0) := by decide +kernel
theorem L_110_33 : a_look 110 33 = some (.aload_n 1, 0, 0, 0) := by decide +kernel
theorem L_110_34 : a_look 110 34 = some (.iconst 1, 0, 0, 0) := by decide +kernel
theorem L_110_35 : a_look 110 35 = some (.iaload, 0, 0, 0) := by decide +kernel
theorem L_110_36 : a_look 110 36 = some (.bipush 8, 0, 0, 0) := by decide +kernel
theorem L_110_38 : a_look 110 38 = some (.if_icmp .ne 25, 63, 0, 0) := by decide +kernel
theorem L_110_41 : a_look 110 41 = some (.aload_n 0, 0, 0, 0) := by decide +kernel
theorem L_110_42 : a_look 110 42 = some (.iload 9, 0, 0, 0) := by decide +kernel
theorem L_110_44 : a_look 110 44 = some (.iload 10, 0, 0, 0) := by decide +kernel
theorem L_110_46 : a_look 110 46 = some (.iload 11, 0, 0, 0) := by decide +kernel
theorem L_110_48 : a_look 110 48 = some (.iconst 0, 0, 0, 0) := by decide +kernel
theorem L_110_49 : a_look 110 49 = some (.invokevirtual 42, 60, 5, 1203) := by decide +kernel
theorem L_110_52 : a_look 110 52 = some (.bipush (-4), 0, 0, 0) := by decide +kernel
theorem L_110_54 : a_look 110 54 = some (.if_icmp .ne 7, 61, 0, 0) := by decide +kernel
theorem L_110_57 : a_look 110 57 = some (.iconst 1, 0, 0, 0) := by decide +kernel
theorem L_110_58 : a_look 110 58 = some (.goto 4, 62, 0, 0) := by decide +kernel
theorem L_110_61 : a_look 110 61 = some (.iconst 0, 0, 0, 0) := by decide +kernel
theorem L_110_62 : a_look 110 62 = some (.ireturn, 0, 0, 0) := by decide +kernel
theorem L_110_63 : a_look 110 63 = some (.iconst 5, 0, 0, 0) := by decide +kernel
theorem L_110_64 : a_look 110 64 = some (.aload_n 1, 0, 0, 0) := by decide +kernel
theorem L_110_65 : a_look 110 65 = some (.iconst 1, 0, 0, 0) := by decide +kernel
theorem L_110_66 : a_look 110 66 = some (.iaload, 0, 0, 0) := by decide +kernel
theorem L_110_67 : a_look 110 67 = some (.imul, 0, 0, 0) := by decide +kernel
theorem L_110_68 : a_look 110 68 = some (.istore 12, 0, 0, 0) := by decide +kernel
theorem L_110_70 : a_look 110 70 = some (.aload_n 2, 0, 0, 0) := by decide +kernel
theorem L_110_71 : a_look 110 71 = some (.iload 12, 0, 0, 0) := by decide +kernel
theorem L_110_73 : a_look 110 73 = some (.iload 9, 0, 0, 0) := by decide +kernel
theorem L_110_75 : a_look 110 75 = some (.iastore, 0, 0, 0) := by decide +kernel
theorem L_110_76 : a_look 110 76 = some (.aload_n 2, 0, 0, 0) := by decide +kernel
theorem L_110_77 : a_look 110 77 = some (.iload 12, 0, 0, 0) := by decide +kernel
theorem L_110_79 : a_look 110 79 = some (.iconst 1, 0, 0, 0) := by decide +kernel
theorem L_110_80 : a_look 110 80 = some (.iadd, 0, 0, 0) := by decide +kernel
theorem L_110_81 : a_look 110 81 = some (.iload 10, 0, 0, 0) := by decide +kernel
theorem L_110_83 : a_look 110 83 = some (.iastore, 0, 0, 0) := by decide +kernel
theorem L_110_84 : a_look 110 84 = some (.aload_n 2, 0, 0, 0) := by decide +kernel
theorem L_110_85 : a_look 110 85 = some (.iload 12, 0, 0, 0) := by decide +kernel
theorem L_110_87 : a_look 110 87 = some (.iconst 2, 0, 0, 0) := by decide +kernel
theorem L_110_88 : a_look 110 88 = some (.iadd, 0, 0, 0) := by decide +kernel
theorem L_110_89 : a_look 110 89 = some (.iload 11, 0, 0, 0) := by decide +kernel
theorem L_110_91 : a_look 110 91 = some (.iastore, 0, 0, 0) := by decide +kernel
theorem L_110_92 : a_look 110 92 = some (.aload_n 2, 0, 0, 0) := by decide +kernel
theorem L_110_93 : a_look 110 93 = some (.iload 12, 0, 0, 0) := by decide +kernel
theorem L_110_95 : a_look 110 95 = some (.iconst 3, 0, 0, 0) := by decide +kernel
theorem L_110_96 : a_look 110 96 = some (.iadd, 0, 0, 0) := by decide +kernel
theorem L_110_97 : a_look 110 97 = some (.iload 7, 0, 0, 0) := by decide +kernel
theorem L_110_99 : a_look 110 99 = some (.sipush 28800, 0, 0, 0) := by decide +kernel
theorem L_110_102 : a_look 110 102 = some (.idiv, 0, 0, 0) := by decide +kernel
theorem L_110_103 : a_look 110 103 = some (.iconst 5, 0, 0, 0) := by decide +kernel
theorem L_110_104 : a_look 110 104 = some (.irem, 0, 0, 0) := by decide +kernel
theorem L_110_105 : a_look 110 105 = some (.iastore, 0, 0, 0) := by decide +kernel
theorem L_110_106 : a_look 110 106 = some (.aload_n 2, 0, 0, 0) := by decide +kernel
theorem L_110_107 : a_look 110 107 = some (.iload 12, 0, 0, 0) := by decide +kernel
theorem L_110_109 : a_look 110 109 = some (.iconst 4, 0, 0, 0) := by decide +kernel
theorem L_110_110 : a_look 110 110 = some (.iadd, 0, 0, 0) := by decide +kernel
theorem L_110_111 : a_look 110 111 = some (.iconst 0, 0, 0, 0) := by decide +kernel
theorem L_110_112 : a_look 110 112 = some (.iastore, 0, 0, 0) := by decide +kernel
theorem L_110_113 : a_look 110 113 = some (.aload_n 1, 0, 0, 0) := by decide +kernel
theorem L_110_114 : a_look 110 114 = some (.iconst 1, 0, 0, 0) := by decide +kernel
theorem L_110_115 : a_look 110 115 = some (.dup2, 0, 0, 0) := by decide +kernel
theorem L_110_116 : a_look 110 116 = some (.iaload, 0, 0, 0) := by decide +kernel
theorem L_110_117 : a_look 110 117 = some (.iconst 1, 0, 0, 0) := by decide +kernel
theorem L_110_118 : a_look 110 118 = some (.iadd, 0, 0, 0) := by decide +kernel
theorem L_110_119 : a_look 110 119 = some (.iastore, 0, 0, 0) := by decide +kernel
theorem L_110_120 : a_look 110 120 = some (.aload_n 0, 0, 0, 0) := by decide +kernel
theorem L_110_121 : a_look 110 121 = some (.iload 9, 0, 0, 0) := by decide +kernel
theorem L_110_123 : a_look 110 123 = some (.iload 10, 0, 0, 0) := by decide +kernel
theorem L_110_125 : a_look 110 125 = some (.iload 11, 0, 0, 0) := by decide +kernel
theorem L_110_127 : a_look 110 127 = some (.aload_n 2, 0, 0, 0) := by decide +kernel
theorem L_110_128 : a_look 110 128 = some (.iload 12, 0, 0, 0) := by decide +kernel
theorem L_110_130 : a_look 110 130 = some (.iconst 3, 0, 0, 0) := by decide +kernel
theorem L_110_131 : a_look 110 131 = some (.iadd, 0, 0, 0) := by decide +kernel
theorem L_110_132 : a_look 110 132 = some (.iaload, 0, 0, 0) := by decide +kernel
theorem L_110_133 : a_look 110 133 = some (.invokevirtual 42, 60, 5, 1203) := by decide +kernel
theorem L_110_136 : a_look 110 136 = some (.aload_n 1, 0, 0, 0) := by decide +kernel
theorem L_110_137 : a_look 110 137 = some (.iconst 1, 0, 0, 0) := by decide +kernel
theorem L_110_138 : a_look 110 138 = some (.iaload, 0, 0, 0) := by decide +kernel
theorem L_110_139 : a_look 110 139 = some (.iconst 1, 0, 0, 0) := by decide +kernel
theorem L_110_140 : a_look 110 140 = some (.isub, 0, 0, 0) := by decide +kernel
theorem L_110_141 : a_look 110 141 = some (.if_icmp .ne 7, 148, 0, 0) := by decide +kernel
theorem L_110_144 : a_look 110 144 = some (.iconst 1, 0, 0, 0) := by decide +kernel
theorem L_110_145 : a_look 110 145 = some (.goto 4, 149, 0, 0) := by decide +kernel
theorem L_110_148 : a_look 110 148 = some (.iconst 0, 0, 0, 0) := by decide +kernel
theorem L_110_149 : a_look 110 149 = some (.ireturn, 0, 0, 0) := by decide +kernel
theorem L_110_150 : a_look 110 150 = some (.iload 8, 0, 0, 0) := by decide +kernel
theorem L_110_152 : a_look 110 152 = some (.iconst 1, 0, 0, 0) := by decide +kernel
theorem L_110_153 : a_look 110 153 = some (.if_icmp .ne 187, 340, 0, 0) := by decide +kernel
theorem L_110_156 : a_look 110 156 = some (.aload_n 1, 0, 0, 0) := by decide +kernel
theorem L_110_157 : a_look 110 157 = some (.iconst 0, 0, 0, 0) := by decide +kernel
theorem L_110_158 : a_look 110 158 = some (.iaload, 0, 0, 0) := by decide +kernel
theorem L_110_159 : a_look 110 159 = some (.iload 7, 0, 0, 0) := by decide +kernel
theorem L_110_161 : a_look 110 161 = some (.sipush 28800, 0, 0, 0) := by decide +kernel
theorem L_110_164 : a_look 110 164 = some (.idiv, 0, 0, 0) := by decide +kernel
theorem L_110_165 : a_look 110 165 = some (.bipush 6, 0, 0, 0) := by decide +kernel
theorem L_110_167 : a_look 110 167 = some (.irem, 0, 0, 0) := by decide +kernel
theorem L_110_168 : a_look 110 168 = some (.iadd, 0, 0, 0) := by decide +kernel
theorem L_110_169 : a_look 110 169 = some (.istore 12, 0, 0, 0) := by decide +kernel
theorem L_110_171 : a_look 110 171 = some (.iload 12, 0, 0, 0) := by decide +kernel
theorem L_110_173 : a_look 110 173 = some (.iconst 1, 0, 0, 0) := by decide +kernel
theorem L_110_174 : a_look 110 174 = some (.iadd, 0, 0, 0) := by decide +kernel
theorem L_110_175 : a_look 110 175 = some (.iload 7, 0, 0, 0) := by decide +kernel
theorem L_110_177 : a_look 110 177 = some (.bipush 7, 0, 0, 0) := by decide +kernel
theorem L_110_179 : a_look 110 179 = some (.idiv, 0, 0, 0) := by decide +kernel
theorem L_110_180 : a_look 110 180 = some (.bipush 9, 0, 0, 0) := by decide +kernel
theorem L_110_182 : a_look 110 182 = some (.irem, 0, 0, 0) := by decide +kernel
theorem L_110_183 : a_look 110 183 = some (.iadd, 0, 0, 0) := by decide +kernel
theorem L_110_184 : a_look 110 184 = some (.istore 13, 0, 0, 0) := by decide +kernel
theorem L_110_186 : a_look 110 186 = some (.aload_n 1, 0, 0, 0) := by decide +kernel
theorem L_110_187 : a_look 110 187 = some (.iconst 2, 0, 0, 0) := by decide +kernel
theorem L_110_188 : a_look 110 188 = some (.iaload, 0, 0, 0) := by decide +kernel
theorem L_110_189 : a_look 110 189 = some (.bipush 8, 0, 0, 0) := by decide +kernel
theorem L_110_191 : a_look 110 191 = some (.if_icmp .ne 29, 220, 0, 0) := by decide +kernel
theorem L_110_194 : a_look 110 194 = some (.aload_n 0, 0, 0, 0) := by decide +kernel
theorem L_110_195 : a_look 110 195 = some (.iload 9, 0, 0, 0) := by decide +kernel
theorem L_110_197 : a_look 110 197 = some (.iload 10, 0, 0, 0) := by decide +kernel
theorem L_110_199 : a_look 110 199 = some (.iconst 3, 0, 0, 0) := by decide +kernel
theorem L_110_200 : a_look 110 200 = some (.iload 11, 0, 0, 0) := by decide +kernel
theorem L_110_202 : a_look 110 202 = some (.iload 12, 0, 0, 0) := by decide +kernel
theorem L_110_204 : a_look 110 204 = some (.iload 13, 0, 0, 0) := by decide +kernel
theorem L_110_206 : a_look 110 206 = some (.invokevirtual 48, 61, 7, 1304) := by decide +kernel
theorem L_110_209 : a_look 110 209 = some (.bipush (-4), 0, 0, 0) := by decide +kernel
theorem L_110_211 : a_look 110 211 = some (.if_icmp .ne 7, 218, 0, 0) := by decide +kernel
theorem L_110_214 : a_look 110 214 = some (.iconst 1, 0, 0, 0) := by decide +kernel
theorem L_110_215 : a_look 110 215 = some (.goto 4, 219, 0, 0) := by decide +kernel
theorem L_110_218 : a_look 110 218 = some (.iconst 0, 0, 0, 0) := by decide +kernel
theorem L_110_219 : a_look 110 219 = some (.ireturn, 0, 0, 0) := by decide +kernel
theorem L_110_220 : a_look 110 220 = some (.bipush 7, 0, 0, 0) := by decide +kernel
theorem L_110_222 : a_look 110 222 = some (.aload_n 1, 0, 0, 0) := by decide +kernel
theorem L_110_223 : a_look 110 223 = some (.iconst 2, 0, 0, 0) := by decide +kernel
theorem L_110_224 : a_look 110 224 = some (.iaload, 0, 0, 0) := by decide +kernel
theorem L_110_225 : a_look 110 225 = some (.imul, 0, 0, 0) := by decide +kernel
theorem L_110_226 : a_look 110 226 = some (.istore 14, 0, 0, 0) := by decide +kernel
theorem L_110_228 : a_look 110 228 = some (.aload_n 3, 0, 0, 0) := by decide +kernel
theorem L_110_229 : a_look 110 229 = some (.iload 14, 0, 0, 0) := by decide +kernel
theorem L_110_231 : a_look 110 231 = some (.iload 9, 0, 0, 0) := by decide +kernel
theorem L_110_233 : a_look 110 233 = some (.iastore, 0, 0, 0) := by decide +kernel
theorem L_110_234 : a_look 110 234 = some (.aload_n 3, 0, 0, 0) := by decide +kernel
theorem L_110_235 : a_look 110 235 = some (.iload 14, 0, 0, 0) := by decide +kernel
theorem L_110_237 : a_look 110 237 = some (.iconst 1, 0, 0, 0) := by decide +kernel
theorem L_110_238 : a_look 110 238 = some (.iadd, 0, 0, 0) := by decide +kernel
theorem L_110_239 : a_look 110 239 = some (.iload 10, 0, 0, 0) := by decide +kernel
theorem L_110_241 : a_look 110 241 = some (.iastore, 0, 0, 0) := by decide +kernel
theorem L_110_242 : a_look 110 242 = some (.aload_n 3, 0, 0, 0) := by decide +kernel
theorem L_110_243 : a_look 110 243 = some (.iload 14, 0, 0, 0) := by decide +kernel
theorem L_110_245 : a_look 110 245 = some (.iconst 2, 0, 0, 0) := by decide +kernel
theorem L_110_246 : a_look 110 246 = some (.iadd, 0, 0, 0) := by decide +kernel
theorem L_110_247 : a_look 110 247 = some (.iconst 1, 0, 0, 0) := by decide +kernel
theorem L_110_248 : a_look 110 248 = some (.iload 7, 0, 0, 0) := by decide +kernel
theorem L_110_250 : a_look 110 250 = some (.iconst 5, 0, 0, 0) := by decide +kernel
theorem L_110_251 : a_look 110 251 = some (.idiv, 0, 0, 0) := by decide +kernel
theorem L_110_252 : a_look 110 252 = some (.bipush 30, 0, 0, 0) := by decide +kernel
theorem L_110_254 : a_look 110 254 = some (.irem, 0, 0, 0) := by decide +kernel
theorem L_110_255 : a_look 110 255 = some (.iadd, 0, 0, 0) := by decide +kernel
theorem L_110_256 : a_look 110 256 = some (.iastore, 0, 0, 0) := by decide +kernel
theorem L_110_257 : a_look 110 257 = some (.aload_n 3, 0, 0, 0) := by decide +kernel
theorem L_110_258 : a_look 110 258 = some (.iload 14, 0, 0, 0) := by decide +kernel
theorem L_110_260 : a_look 110 260 = some (.iconst 3, 0, 0, 0) := by decide +kernel
theorem L_110_261 : a_look 110 261 = some (.iadd, 0, 0, 0) := by decide +kernel
theorem L_110_262 : a_look 110 262 = some (.iload 11, 0, 0, 0) := by decide +kernel
theorem L_110_264 : a_look 110 264 = some (.iastore, 0, 0, 0) := by decide +kernel
theorem L_110_265 : a_look 110 265 = some (.aload_n 3, 0, 0, 0) := by decide +kernel
theorem L_110_266 : a_look 110 266 = some (.iload 14, 0, 0, 0) := by decide +kernel
theorem L_110_268 : a_look 110 268 = some (.iconst 4, 0, 0, 0) := by decide +kernel
theorem L_110_269 : a_look 110 269 = some (.iadd, 0, 0, 0) := by decide +kernel
theorem L_110_270 : a_look 110 270 = some (.iload 12, 0, 0, 0) := by decide +kernel
theorem L_110_272 : a_look 110 272 = some (.iastore, 0, 0, 0) := by decide +kernel
theorem L_110_273 : a_look 110 273 = some (.aload_n 3, 0, 0, 0) := by decide +kernel
theorem L_110_274 : a_look 110 274 = some (.iload 14, 0, 0, 0) := by decide +kernel
theorem L_110_276 : a_look 110 276 = some (.iconst 5, 0, 0, 0) := by decide +kernel
theorem L_110_277 : a_look 110 277 = some (.iadd, 0, 0, 0) := by decide +kernel
theorem L_110_278 : a_look 110 278 = some (.iload 13, 0, 0, 0) := by decide +kernel
theorem L_110_280 : a_look 110 280 = some (.iastore, 0, 0, 0) := by decide +kernel
theorem L_110_281 : a_look 110 281 = some (.aload_n 3, 0, 0, 0) := by decide +kernel
theorem L_110_282 : a_look 110 282 = some (.iload 14, 0, 0, 0) := by decide +kernel
theorem L_110_284 : a_look 110 284 = some (.bipush 6, 0, 0, 0) := by decide +kernel
theorem L_110_286 : a_look 110 286 = some (.iadd, 0, 0, 0) := by decide +kernel
theorem L_110_287 : a_look 110 287 = some (.iconst 0, 0, 0, 0) := by decide +kernel
theorem L_110_288 : a_look 110 288 = some (.iastore, 0, 0, 0) := by decide +kernel
theorem L_110_289 : a_look 110 289 = some (.aload_n 1, 0, 0, 0) := by decide +kernel
theorem L_110_290 : a_look 110 290 = some (.iconst 2, 0, 0, 0) := by decide +kernel
theorem L_110_291 : a_look 110 291 = some (.dup2, 0, 0, 0) := by decide +kernel
theorem L_110_292 : a_look 110 292 = some (.iaload, 0, 0, 0) := by decide +kernel
theorem L_110_293 : a_look 110 293 = some (.iconst 1, 0, 0, 0) := by decide +kernel
theorem L_110_294 : a_look 110 294 = some (.iadd, 0, 0, 0) := by decide +kernel
theorem L_110_295 : a_look 110 295 = some (.iastore, 0, 0, 0) := by decide +kernel
theorem L_110_296 : a_look 110 296 = some (.aload_n 1, 0, 0, 0) := by decide +kernel
theorem L_110_297 : a_look 110 297 = some (.aload_n 2, 0, 0, 0) := by decide +kernel
theorem L_110_298 : a_look 110 298 = some (.aload_n 3, 0, 0, 0) := by decide +kernel
theorem L_110_299 : a_look 110 299 = some (.aload 4, 0, 0, 0) := by decide +kernel
theorem L_110_301 : a_look 110 301 = some (.aload 5, 0, 0, 0) := by decide +kernel
theorem L_110_303 : a_look 110 303 = some (.invokestatic 34, 105, 5, 1323) := by decide +kernel
theorem L_110_306 : a_look 110 306 = some (.aload_n 0, 0, 0, 0) := by decide +kernel
theorem L_110_307 : a_look 110 307 = some (.iload 9, 0, 0, 0) := by decide +kernel
theorem L_110_309 : a_look 110 309 = some (.iload 10, 0, 0, 0) := by decide +kernel
theorem L_110_311 : a_look 110 311 = some (.aload_n 3, 0, 0, 0) := by decide +kernel
theorem L_110_312 : a_look 110 312 = some (.iload 14, 0, 0, 0) := by decide +kernel
theorem L_110_314 : a_look 110 314 = some (.iconst 2, 0, 0, 0) := by decide +kernel
theorem L_110_315 : a_look 110 315 = some (.iadd, 0, 0, 0) := by decide +kernel
theorem L_110_316 : a_look 110 316 = some (.iaload, 0, 0, 0) := by decide +kernel
theorem L_110_317 : a_look 110 317 = some (.iload 11, 0, 0, 0) := by decide +kernel
theorem L_110_319 : a_look 110 319 = some (.iload 12, 0, 0, 0) := by decide +kernel
theorem L_110_321 : a_look 110 321 = some (.iload 13, 0, 0, 0) := by decide +kernel
theorem L_110_323 : a_look 110 323 = some (.invokevirtual 48, 61, 7, 1304) := by decide +kernel
theorem L_110_326 : a_look 110 326 = some (.aload_n 1, 0, 0, 0) := by decide +kernel
theorem L_110_327 : a_look 110 327 = some (.iconst 2, 0, 0, 0) := by decide +kernel
theorem L_110_328 : a_look 110 328 = some (.iaload, 0, 0, 0) := by decide +kernel
theorem L_110_329 : a_look 110 329 = some (.iconst 1, 0, 0, 0) := by decide +kernel
theorem L_110_330 : a_look 110 330 = some (.isub, 0, 0, 0) := by decide +kernel
theorem L_110_331 : a_look 110 331 = some (.if_icmp .ne 7, 338, 0, 0) := by decide +kernel
theorem L_110_334 : a_look 110 334 = some (.iconst 1, 0, 0, 0) := by decide +kernel
theorem L_110_335 : a_look 110 335 = some (.goto 4, 339, 0, 0) := by decide +kernel
theorem L_110_338 : a_look 110 338 = some (.iconst 0, 0, 0, 0) := by decide +kernel
theorem L_110_339 : a_look 110 339 = some (.ireturn, 0, 0, 0) := by decide +kernel
theorem L_110_340 : a_look 110 340 = some (.aload_n 1, 0, 0, 0) := by decide +kernel
theorem L_110_341 : a_look 110 341 = some (.iconst 3, 0, 0, 0) := by decide +kernel
theorem L_110_342 : a_look 110 342 = some (.iaload, 0, 0, 0) := by decide +kernel
theorem L_110_343 : a_look 110 343 = some (.bipush 16, 0, 0, 0) := by decide +kernel
theorem L_110_345 : a_look 110 345 = some (.if_icmp .ne 23, 368, 0, 0) := by decide +kernel
theorem L_110_348 : a_look 110 348 = some (.aload_n 0, 0, 0, 0) := by decide +kernel
theorem L_110_349 : a_look 110 349 = some (.iload 9, 0, 0, 0) := by decide +kernel
theorem L_110_351 : a_look 110 351 = some (.iload 10, 0, 0, 0) := by decide +kernel
theorem L_110_353 : a_look 110 353 = some (.iconst 0, 0, 0, 0) := by decide +kernel
theorem L_110_354 : a_look 110 354 = some (.invokevirtual 52, 62, 4, 1402) := by decide +kernel
theorem L_110_357 : a_look 110 357 = some (.bipush (-4), 0, 0, 0) := by decide +kernel
theorem L_110_359 : a_look 110 359 = some (.if_icmp .ne 7, 366, 0, 0) := by decide +kernel
theorem L_110_362 : a_look 110 362 = some (.iconst 1, 0, 0, 0) := by decide +kernel
theorem L_110_363 : a_look 110 363 = some (.goto 4, 367, 0, 0) := by decide +kernel
theorem L_110_366 : a_look 110 366 = some (.iconst 0, 0, 0, 0) := by decide +kernel
theorem L_110_367 : a_look 110 367 = some (.ireturn, 0, 0, 0) := by decide +kernel
theorem L_110_368 : a_look 110 368 = some (.aload 4, 0, 0, 0) := by decide +kernel
theorem L_110_370 : a_look 110 370 = some (.iconst 4, 0, 0, 0) := by decide +kernel
theorem L_110_371 : a_look 110 371 = some (.aload_n 1, 0, 0, 0) := by decide +kernel
theorem L_110_372 : a_look 110 372 = some (.iconst 3, 0, 0, 0) := by decide +kernel
theorem L_110_373 : a_look 110 373 = some (.iaload, 0, 0, 0) := by decide +kernel
theorem L_110_374 : a_look 110 374 = some (.imul, 0, 0, 0) := by decide +kernel
theorem L_110_375 : a_look 110 375 = some (.iload 9, 0, 0, 0) := by decide +kernel
theorem L_110_377 : a_look 110 377 = some (.iastore, 0, 0, 0) := by decide +kernel
theorem L_110_378 : a_look 110 378 = some (.aload 4, 0, 0, 0) := by decide +kernel
theorem L_110_380 : a_look 110 380 = some (.iconst 4, 0, 0, 0) := by decide +kernel
theorem L_110_381 : a_look 110 381 = some (.aload_n 1, 0, 0, 0) := by decide +kernel
theorem L_110_382 : a_look 110 382 = some (.iconst 3, 0, 0, 0) := by decide +kernel
theorem L_110_383 : a_look 110 383 = some (.iaload, 0, 0, 0) := by decide +kernel
theorem L_110_384 : a_look 110 384 = some (.imul, 0, 0, 0) := by decide +kernel
theorem L_110_385 : a_look 110 385 = some (.iconst 1, 0, 0, 0) := by decide +kernel
theorem L_110_386 : a_look 110 386 = some (.iadd, 0, 0, 0) := by decide +kernel
theorem L_110_387 : a_look 110 387 = some (.iload 10, 0, 0, 0) := by decide +kernel
theorem L_110_389 : a_look 110 389 = some (.iastore, 0, 0, 0) := by decide +kernel
theorem L_110_390 : a_look 110 390 = some (.aload 4, 0, 0, 0) := by decide +kernel
theorem L_110_392 : a_look 110 392 = some (.iconst 4, 0, 0, 0) := by decide +kernel
theorem L_110_393 : a_look 110 393 = some (.aload_n 1, 0, 0, 0) := by decide +kernel
theorem L_110_394 : a_look 110 394 = some (.iconst 3, 0, 0, 0) := by decide +kernel
theorem L_110_395 : a_look 110 395 = some (.iaload, 0, 0, 0) := by decide +kernel
theorem L_110_396 : a_look 110 396 = some (.imul, 0, 0, 0) := by decide +kernel
theorem L_110_397 : a_look 110 397 = some (.iconst 2, 0, 0, 0) := by decide +kernel
theorem L_110_398 : a_look 110 398 = some (.iadd, 0, 0, 0) := by decide +kernel
theorem L_110_399 : a_look 110 399 = some (.iload 7, 0, 0, 0) := by decide +kernel
theorem L_110_401 : a_look 110 401 = some (.sipush 3600, 0, 0, 0) := by decide +kernel
theorem L_110_404 : a_look 110 404 = some (.idiv, 0, 0, 0) := by decide +kernel
theorem L_110_405 : a_look 110 405 = some (.iconst 4, 0, 0, 0) := by decide +kernel
theorem L_110_406 : a_look 110 406 = some (.irem, 0, 0, 0) := by decide +kernel
theorem L_110_407 : a_look 110 407 = some (.iastore, 0, 0, 0) := by decide +kernel
theorem L_110_408 : a_look 110 408 = some (.aload 4, 0, 0, 0) := by decide +kernel
theorem L_110_410 : a_look 110 410 = some (.aload 5, 0, 0, 0) := by decide +kernel
theorem L_110_412 : a_look 110 412 = some (.aload_n 1, 0, 0, 0) := by decide +kernel
theorem L_110_413 : a_look 110 413 = some (.iconst 3, 0, 0, 0) := by decide +kernel
theorem L_110_414 : a_look 110 414 = some (.iaload, 0, 0, 0) := by decide +kernel
theorem L_110_415 : a_look 110 415 = some (.invokestatic 30, 106, 3, 1415) := by decide +kernel
theorem L_110_418 : a_look 110 418 = some (.aload_n 1, 0, 0, 0) := by decide +kernel
theorem L_110_419 : a_look 110 419 = some (.iconst 3, 0, 0, 0) := by decide +kernel
theorem L_110_420 : a_look 110 420 = some (.dup2, 0, 0, 0) := by decide +kernel
theorem L_110_421 : a_look 110 421 = some (.iaload, 0, 0, 0) := by decide +kernel
theorem L_110_422 : a_look 110 422 = some (.iconst 1, 0, 0, 0) := by decide +kernel
theorem L_110_423 : a_look 110 423 = some (.iadd, 0, 0, 0) := by decide +kernel
theorem L_110_424 : a_look 110 424 = some (.iastore, 0, 0, 0) := by decide +kernel
theorem L_110_425 : a_look 110 425 = some (.aload_n 0, 0, 0, 0) := by decide +kernel
theorem L_110_426 : a_look 110 426 = some (.iload 9, 0, 0, 0) := by decide +kernel
theorem L_110_428 : a_look 110 428 = some (.iload 10, 0, 0, 0) := by decide +kernel
theorem L_110_430 : a_look 110 430 = some (.iload 7, 0, 0, 0) := by decide +kernel
theorem L_110_432 : a_look 110 432 = some (.sipush 3600, 0, 0, 0) := by decide +kernel
theorem L_110_435 : a_look 110 435 = some (.idiv, 0, 0, 0) := by decide +kernel
theorem L_110_436 : a_look 110 436 = some (.iconst 4, 0, 0, 0) := by decide +kernel
theorem L_110_437 : a_look 110 437 = some (.irem, 0, 0, 0) := by decide +kernel
theorem L_110_438 : a_look 110 438 = some (.invokevirtual 52, 62, 4, 1402) := by decide +kernel
theorem L_110_441 : a_look 110 441 = some (.aload_n 1, 0, 0, 0) := by decide +kernel
theorem L_110_442 : a_look 110 442 = some (.iconst 3, 0, 0, 0) := by decide +kernel
theorem L_110_443 : a_look 110 443 = some (.iaload, 0, 0, 0) := by decide +kernel
theorem L_110_444 : a_look 110 444 = some (.iconst 1, 0, 0, 0) := by decide +kernel
theorem L_110_445 : a_look 110 445 = some (.isub, 0, 0, 0) := by decide +kernel
theorem L_110_446 : a_look 110 446 = some (.if_icmp .ne 7, 453, 0, 0) := by decide +kernel
theorem L_110_449 : a_look 110 449 = some (.iconst 1, 0, 0, 0) := by decide +kernel
theorem L_110_450 : a_look 110 450 = some (.goto 4, 454, 0, 0) := by decide +kernel
theorem L_110_453 : a_look 110 453 = some (.iconst 0, 0, 0, 0) := by decide +kernel
theorem L_110_454 : a_look 110 454 = some (.ireturn, 0, 0, 0) := by decide +kernel
theorem L_111_0 : a_look 111 0 = some (.iload 7, 0, 0, 0) := by decide +kernel
theorem L_111_2 : a_look 111 2 = some (.ifCond .ne 140, 142, 0, 0) := by decide +kernel
theorem L_111_5 : a_look 111 5 = some (.iload 6, 0, 0, 0) := by decide +kernel
theorem L_111_7 : a_look 111 7 = some (.bipush 9, 0, 0, 0) := by decide +kernel
theorem L_111_9 : a_look 111 9 = some (.irem, 0, 0, 0) := by decide +kernel
theorem L_111_10 : a_look 111 10 = some (.istore 8, 0, 0, 0) := by decide +kernel
theorem L_111_12 : a_look 111 12 = some (.iload 6, 0, 0, 0) := by decide +kernel
theorem L_111_14 : a_look 111 14 = some (.bipush 9, 0, 0, 0) := by decide +kernel
theorem L_111_16 : a_look 111 16 = some (.idiv, 0, 0, 0) := by decide +kernel
theorem L_111_17 : a_look 111 17 = some (.iconst 2, 0, 0, 0) := by decide +kernel
theorem L_111_18 : a_look 111 18 = some (.irem, 0, 0, 0) := by decide +kernel
theorem L_111_19 : a_look 111 19 = some (.istore 9, 0, 0, 0) := by decide +kernel
theorem L_111_21 : a_look 111 21 = some (.iload 8, 0, 0, 0) := by decide +kernel
theorem L_111_23 : a_look 111 23 = some (.aload_n 1, 0, 0, 0) := by decide +kernel
theorem L_111_24 : a_look 111 24 = some (.iconst 1, 0, 0, 0) := by decide +kernel
theorem L_111_25 : a_look 111 25 = some (.iaload, 0, 0, 0) := by decide +kernel
theorem L_111_26 : a_look 111 26 = some (.if_icmp .ge 16, 42, 0, 0) := by decide +kernel
theorem L_111_29 : a_look 111 29 = some (.aload_n 2, 0, 0, 0) := by decide +kernel
theorem L_111_30 : a_look 111 30 = some (.iconst 5, 0, 0, 0) := by decide +kernel
theorem L_111_31 : a_look 111 31 = some (.iload 8, 0, 0, 0) := by decide +kernel
theorem L_111_33 : a_look 111 33 = some (.imul, 0, 0, 0) := by decide +kernel
theorem L_111_34 : a_look 111 34 = some (.iconst 4, 0, 0, 0) := by decide +kernel
theorem L_111_35 : a_look 111 35 = some (.iadd, 0, 0, 0) := by decide +kernel
theorem L_111_36 : a_look 111 36 = some (.iaload, 0, 0, 0) := by decide +kernel
theorem L_111_37 : a_look 111 37 = some (.iload 9, 0, 0, 0) := by decide +kernel
theorem L_111_39 : a_look 111 39 = some (.if_icmp .ne 47, 86, 0, 0) := by decide +kernel
theorem L_111_42 : a_look 111 42 = some (.iload 9, 0, 0, 0) := by decide +kernel
theorem L_111_44 : a_look 111 44 = some (.iconst 1, 0, 0, 0) := by decide +kernel
theorem L_111_45 : a_look 111 45 = some (.if_icmp .ne 12, 57, 0, 0) := by decide +kernel
theorem L_111_48 : a_look 111 48 = some (.aload_n 0, 0, 0, 0) := by decide +kernel
theorem L_111_49 : a_look 111 49 = some (.iload 8, 0, 0, 0) := by decide +kernel
theorem L_111_51 : a_look 111 51 = some (.invokevirtual 56, 64, 2, 1421) := by decide +kernel
theorem L_111_54 : a_look 111 54 = some (.goto 9, 63, 0, 0) := by decide +kernel
theorem L_111_57 : a_look 111 57 = some (.aload_n 0, 0, 0, 0) := by decide +kernel
theorem L_111_58 : a_look 111 58 = some (.iload 8, 0, 0, 0) := by decide +kernel
theorem L_111_60 : a_look 111 60 = some (.invokevirtual 59, 65, 2, 1506) := by decide +kernel
theorem L_111_63 : a_look 111 63 = some (.iload 8, 0, 0, 0) := by decide +kernel
theorem L_111_65 : a_look 111 65 = some (.aload_n 1, 0, 0, 0) := by decide +kernel
theorem L_111_66 : a_look 111 66 = some (.iconst 1, 0, 0, 0) := by decide +kernel
theorem L_111_67 : a_look 111 67 = some (.iaload, 0, 0, 0) := by decide +kernel
theorem L_111_68 : a_look 111 68 = some (.if_icmp .lt 7, 75, 0, 0) := by decide +kernel
theorem L_111_71 : a_look 111 71 = some (.iconst (-1), 0, 0, 0) := by decide +kernel
theorem L_111_72 : a_look 111 72 = some (.goto 5, 77, 0, 0) := by decide +kernel
theorem L_111_75 : a_look 111 75 = some (.bipush (-3), 0, 0, 0) := by decide +kernel
theorem L_111_77 : a_look 111 77 = some (.if_icmp .ne 7, 84, 0, 0) := by decide +kernel
theorem L_111_80 : a_look 111 80 = some (.iconst 1, 0, 0, 0) := by decide +kernel
theorem L_111_81 : a_look 111 81 = some (.goto 4, 85, 0, 0) := by decide +kernel
theorem L_111_84 : a_look 111 84 = some (.iconst 0, 0, 0, 0) := by decide +kernel
theorem L_111_85 : a_look 111 85 = some (.ireturn, 0, 0, 0) := by decide +kernel
theorem L_111_86 : a_look 111 86 = some (.aload_n 2, 0, 0, 0) := by decide +kernel
theorem L_111_87 : a_look 111 87 = some (.iconst 5, 0, 0, 0) := by decide +kernel
theorem L_111_88 : a_look 111 88 = some (.iload 8, 0, 0, 0) := by decide +kernel
theorem L_111_90 : a_look 111 90 = some (.imul, 0, 0, 0) := by decide +kernel
theorem L_111_91 : a_look 111 91 = some (.iconst 4, 0, 0, 0) := by decide +kernel
theorem L_111_92 : a_look 111 92 = some (.iadd, 0, 0, 0) := by decide +kernel
theorem L_111_93 : a_look 111 93 = some (.iload 9, 0, 0, 0) := by decide +kernel
theorem L_111_95 : a_look 111 95 = some (.iastore, 0, 0, 0) := by decide +kernel
theorem L_111_96 : a_look 111 96 = some (.aload_n 1, 0, 0, 0) := by decide +kernel
theorem L_111_97 : a_look 111 97 = some (.aload_n 2, 0, 0, 0) := by decide +kernel
theorem L_111_98 : a_look 111 98 = some (.aload_n 3, 0, 0, 0) := by decide +kernel
theorem L_111_99 : a_look 111 99 = some (.aload 4, 0, 0, 0) := by decide +kernel
theorem L_111_101 : a_look 111 101 = some (.aload 5, 0, 0, 0) := by decide +kernel
theorem L_111_103 : a_look 111 103 = some (.invokestatic 34, 105, 5, 1323) := by decide +kernel
theorem L_111_106 : a_look 111 106 = some (.iload 9, 0, 0, 0) := by decide +kernel
theorem L_111_108 : a_look 111 108 = some (.iconst 1, 0, 0, 0) := by decide +kernel
theorem L_111_109 : a_look 111 109 = some (.if_icmp .ne 12, 121, 0, 0) := by decide +kernel
theorem L_111_112 : a_look 111 112 = some (.aload_n 0, 0, 0, 0) := by decide +kernel
theorem L_111_113 : a_look 111 113 = some (.iload 8, 0, 0, 0) := by decide +kernel
theorem L_111_115 : a_look 111 115 = some (.invokevirtual 56, 64, 2, 1421) := by decide +kernel
theorem L_111_118 : a_look 111 118 = some (.goto 9, 127, 0, 0) := by decide +kernel
theorem L_111_121 : a_look 111 121 = some (.aload_n 0, 0, 0, 0) := by decide +kernel
theorem L_111_122 : a_look 111 122 = some (.iload 8, 0, 0, 0) := by decide +kernel
theorem L_111_124 : a_look 111 124 = some (.invokevirtual 59, 65, 2, 1506) := by decide +kernel
theorem L_111_127 : a_look 111 127 = some (.aload_n 1, 0, 0, 0) := by decide +kernel
theorem L_111_128 : a_look 111 128 = some (.aload 5, 0, 0, 0) := by decide +kernel
theorem L_111_130 : a_look 111 130 = some (.invokestatic 62, 107, 2, 1110) := by decide +kernel
theorem L_111_133 : a_look 111 133 = some (.if_icmp .ne 7, 140, 0, 0) := by decide +kernel
theorem L_111_136 : a_look 111 136 = some (.iconst 1, 0, 0, 0) := by decide +kernel
theorem L_111_137 : a_look 111 137 = some (.goto 4, 141, 0, 0) := by decide +kernel
theorem L_111_140 : a_look 111 140 = some (.iconst 0, 0, 0, 0) := by decide +kernel
theorem L_111_141 : a_look 111 141 = some (.ireturn, 0, 0, 0) := by decide +kernel
theorem L_111_142 : a_look 111 142 = some (.iload 7, 0, 0, 0) := by decide +kernel
theorem L_111_144 : a_look 111 144 = some (.iconst 1, 0, 0, 0) := by decide +kernel
theorem L_111_145 : a_look 111 145 = some (.if_icmp .ne 118, 263, 0, 0) := by decide +kernel
theorem L_111_148 : a_look 111 148 = some (.iload 6, 0, 0, 0) := by decide +kernel
theorem L_111_150 : a_look 111 150 = some (.bipush 8, 0, 0, 0) := by decide +kernel
theorem L_111_152 : a_look 111 152 = some (.irem, 0, 0, 0) := by decide +kernel
theorem L_111_153 : a_look 111 153 = some (.istore 8, 0, 0, 0) := by decide +kernel
theorem L_111_155 : a_look 111 155 = some (.iload 8, 0, 0, 0) := by decide +kernel
theorem L_111_157 : a_look 111 157 = some (.aload_n 1, 0, 0, 0) := by decide +kernel
theorem L_111_158 : a_look 111 158 = some (.iconst 2, 0, 0, 0) := by decide +kernel
theorem L_111_159 : a_look 111 159 = some (.iaload, 0, 0, 0) := by decide +kernel
theorem L_111_160 : a_look 111 160 = some (.if_icmp .ge 32, 192, 0, 0) := by decide +kernel
theorem L_111_163 : a_look 111 163 = some (.aload_n 3, 0, 0, 0) := by decide +kernel
theorem L_111_164 : a_look 111 164 = some (.bipush 7, 0, 0, 0) := by decide +kernel
theorem L_111_166 : a_look 111 166 = some (.iload 8, 0, 0, 0) := by decide +kernel
theorem L_111_168 : a_look 111 168 = some (.imul, 0, 0, 0) := by decide +kernel
theorem L_111_169 : a_look 111 169 = some (.bipush 6, 0, 0, 0) := by decide +kernel
theorem L_111_171 : a_look 111 171 = some (.iadd, 0, 0, 0) := by decide +kernel
theorem L_111_172 : a_look 111 172 = some (.iaload, 0, 0, 0) := by decide +kernel
theorem L_111_173 : a_look 111 173 = some (.iconst 1, 0, 0, 0) := by decide +kernel
theorem L_111_174 : a_look 111 174 = some (.if_icmp .eq 18, 192, 0, 0) := by decide +kernel
theorem L_111_177 : a_look 111 177 = some (.aload_n 3, 0, 0, 0) := by decide +kernel
theorem L_111_178 : a_look 111 178 = some (.bipush 7, 0, 0, 0) := by decide +kernel
theorem L_111_180 : a_look 111 180 = some (.iload 8, 0, 0, 0) := by decide +kernel
theorem L_111_182 : a_look 111 182 = some (.imul, 0, 0, 0) := by decide +kernel
theorem L_111_183 : a_look 111 183 = some (.iconst 5, 0, 0, 0) := by decide +kernel
theorem L_111_184 : a_look 111 184 = some (.iadd, 0, 0, 0) := by decide +kernel
theorem L_111_185 : a_look 111 185 = some (.iaload, 0, 0, 0) := by decide +kernel
theorem L_111_186 : a_look 111 186 = some (.aload_n 1, 0, 0, 0) := by decide +kernel
theorem L_111_187 : a_look 111 187 = some (.iconst 0, 0, 0, 0) := by decide +kernel
theorem L_111_188 : a_look 111 188 = some (.iaload, 0, 0, 0) := by decide +kernel
theorem L_111_189 : a_look 111 189 = some (.if_icmp .gt 32, 221, 0, 0) := by decide +kernel
theorem L_111_192 : a_look 111 192 = some (.aload_n 0, 0, 0, 0) := by decide +kernel
theorem L_111_193 : a_look 111 193 = some (.iload 8, 0, 0, 0) := by decide +kernel
theorem L_111_195 : a_look 111 195 = some (.invokevirtual 66, 66, 2, 1510) := by decide +kernel
theorem L_111_198 : a_look 111 198 = some (.iload 8, 0, 0, 0) := by decide +kernel
theorem L_111_200 : a_look 111 200 = some (.aload_n 1, 0, 0, 0) := by decide +kernel
theorem L_111_201 : a_look 111 201 = some (.iconst 2, 0, 0, 0) := by decide +kernel
theorem L_111_202 : a_look 111 202 = some (.iaload, 0, 0, 0) := by decide +kernel
theorem L_111_203 : a_look 111 203 = some (.if_icmp .lt 7, 210, 0, 0) := by decide +kernel
theorem L_111_206 : a_look 111 206 = some (.iconst (-1), 0, 0, 0) := by decide +kernel
theorem L_111_207 : a_look 111 207 = some (.goto 5, 212, 0, 0) := by decide +kernel
theorem L_111_210 : a_look 111 210 = some (.bipush (-3), 0, 0, 0) := by decide +kernel
theorem L_111_212 : a_look 111 212 = some (.if_icmp .ne 7, 219, 0, 0) := by decide +kernel
theorem L_111_215 : a_look 111 215 = some (.iconst 1, 0, 0, 0) := by decide +kernel
theorem L_111_216 : a_look 111 216 = some (.goto 4, 220, 0, 0) := by decide +kernel
theorem L_111_219 : a_look 111 219 = some (.iconst 0, 0, 0, 0) := by decide +kernel
theorem L_111_220 : a_look 111 220 = some (.ireturn, 0, 0, 0) := by decide +kernel
theorem L_111_221 : a_look 111 221 = some (.aload_n 3, 0, 0, 0) := by decide +kernel
theorem L_111_222 : a_look 111 222 = some (.bipush 7, 0, 0, 0) := by decide +kernel
theorem L_111_224 : a_look 111 224 = some (.iload 8, 0, 0, 0) := by decide +kernel
theorem L_111_226 : a_look 111 226 = some (.imul, 0, 0, 0) := by decide +kernel
theorem L_111_227 : a_look 111 227 = some (.bipush 6, 0, 0, 0) := by decide +kernel
theorem L_111_229 : a_look 111 229 = some (.iadd, 0, 0, 0) := by decide +kernel
theorem L_111_230 : a_look 111 230 = some (.iconst 1, 0, 0, 0) := by decide +kernel
theorem L_111_231 : a_look 111 231 = some (.iastore, 0, 0, 0) := by decide +kernel
theorem L_111_232 : a_look 111 232 = some (.aload_n 1, 0, 0, 0) := by decide +kernel
theorem L_111_233 : a_look 111 233 = some (.aload_n 2, 0, 0, 0) := by decide +kernel
theorem L_111_234 : a_look 111 234 = some (.aload_n 3, 0, 0, 0) := by decide +kernel
theorem L_111_235 : a_look 111 235 = some (.aload 4, 0, 0, 0) := by decide +kernel
theorem L_111_237 : a_look 111 237 = some (.aload 5, 0, 0, 0) := by decide +kernel
theorem L_111_239 : a_look 111 239 = some (.invokestatic 34, 105, 5, 1323) := by decide +kernel
theorem L_111_242 : a_look 111 242 = some (.aload_n 0, 0, 0, 0) := by decide +kernel
theorem L_111_243 : a_look 111 243 = some (.iload 8, 0, 0, 0) := by decide +kernel
theorem L_111_245 : a_look 111 245 = some (.invokevirtual 66, 66, 2, 1510) := by decide +kernel
theorem L_111_248 : a_look 111 248 = some (.aload_n 1, 0, 0, 0) := by decide +kernel
theorem L_111_249 : a_look 111 249 = some (.aload 5, 0, 0, 0) := by decide +kernel
theorem L_111_251 : a_look 111 251 = some (.invokestatic 62, 107, 2, 1110) := by decide +kernel
theorem L_111_254 : a_look 111 254 = some (.if_icmp .ne 7, 261, 0, 0) := by decide +kernel
theorem L_111_257 : a_look 111 257 = some (.iconst 1, 0, 0, 0) := by decide +kernel
theorem L_111_258 : a_look 111 258 = some (.goto 4, 262, 0, 0) := by decide +kernel
theorem L_111_261 : a_look 111 261 = some (.iconst 0, 0, 0, 0) := by decide +kernel
theorem L_111_262 : a_look 111 262 = some (.ireturn, 0, 0, 0) := by decide +kernel
theorem L_111_263 : a_look 111 263 = some (.iload 6, 0, 0, 0) := by decide +kernel
theorem L_111_265 : a_look 111 265 = some (.iconst 3, 0, 0, 0) := by decide +kernel
theorem L_111_266 : a_look 111 266 = some (.irem, 0, 0, 0) := by decide +kernel
theorem L_111_267 : a_look 111 267 = some (.istore 8, 0, 0, 0) := by decide +kernel
theorem L_111_269 : a_look 111 269 = some (.aload_n 1, 0, 0, 0) := by decide +kernel
theorem L_111_270 : a_look 111 270 = some (.iconst 5, 0, 0, 0) := by decide +kernel
theorem L_111_271 : a_look 111 271 = some (.iload 8, 0, 0, 0) := by decide +kernel
theorem L_111_273 : a_look 111 273 = some (.iadd, 0, 0, 0) := by decide +kernel
theorem L_111_274 : a_look 111 274 = some (.iaload, 0, 0, 0) := by decide +kernel
theorem L_111_275 : a_look 111 275 = some (.istore 9, 0, 0, 0) := by decide +kernel
theorem L_111_277 : a_look 111 277 = some (.aload_n 1, 0, 0, 0) := by decide +kernel
theorem L_111_278 : a_look 111 278 = some (.iconst 5, 0, 0, 0) := by decide +kernel
theorem L_111_279 : a_look 111 279 = some (.iload 8, 0, 0, 0) := by decide +kernel
theorem L_111_281 : a_look 111 281 = some (.iadd, 0, 0, 0) := by decide +kernel
theorem L_111_282 : a_look 111 282 = some (.iload 8, 0, 0, 0) := by decide +kernel
theorem L_111_284 : a_look 111 284 = some (.ifCond .ne 13, 297, 0, 0) := by decide +kernel
theorem L_111_287 : a_look 111 287 = some (.iload 6, 0, 0, 0) := by decide +kernel
theorem L_111_289 : a_look 111 289 = some (.iconst 3, 0, 0, 0) := by decide +kernel
theorem L_111_290 : a_look 111 290 = some (.idiv, 0, 0, 0) := by decide +kernel
theorem L_111_291 : a_look 111 291 = some (.bipush 101, 0, 0, 0) := by decide +kernel
theorem L_111_293 : a_look 111 293 = some (.irem, 0, 0, 0) := by decide +kernel
theorem L_111_294 : a_look 111 294 = some (.goto 28, 322, 0, 0) := by decide +kernel
theorem L_111_297 : a_look 111 297 = some (.iload 8, 0, 0, 0) := by decide +kernel
theorem L_111_299 : a_look 111 299 = some (.iconst 1, 0, 0, 0) := by decide +kernel
theorem L_111_300 : a_look 111 300 = some (.if_icmp .ne 15, 315, 0, 0) := by decide +kernel
theorem L_111_303 : a_look 111 303 = some (.iconst 1, 0, 0, 0) := by decide +kernel
theorem L_111_304 : a_look 111 304 = some (.iload 6, 0, 0, 0) := by decide +kernel
theorem L_111_306 : a_look 111 306 = some (.iconst 3, 0, 0, 0) := by decide +kernel
theorem L_111_307 : a_look 111 307 = some (.idiv, 0, 0, 0) := by decide +kernel
theorem L_111_308 : a_look 111 308 = some (.bipush 12, 0, 0, 0) := by decide +kernel
theorem L_111_310 : a_look 111 310 = some (.irem, 0, 0, 0) := by decide +kernel
theorem L_111_311 : a_look 111 311 = some (.iadd, 0, 0, 0) := by decide +kernel
theorem L_111_312 : a_look 111 312 = some (.goto 10, 322, 0, 0) := by decide +kernel
theorem L_111_315 : a_look 111 315 = some (.iload 6, 0, 0, 0) := by decide +kernel
theorem L_111_317 : a_look 111 317 = some (.iconst 3, 0, 0, 0) := by decide +kernel
theorem L_111_318 : a_look 111 318 = some (.idiv, 0, 0, 0) := by decide +kernel
theorem L_111_319 : a_look 111 319 = some (.bipush 6, 0, 0, 0) := by decide +kernel
theorem L_111_321 : a_look 111 321 = some (.irem, 0, 0, 0) := by decide +kernel
theorem L_111_322 : a_look 111 322 = some (.iastore, 0, 0, 0) := by decide +kernel
theorem L_111_323 : a_look 111 323 = some (.aload_n 1, 0, 0, 0) := by decide +kernel
theorem L_111_324 : a_look 111 324 = some (.aload_n 2, 0, 0, 0) := by decide +kernel
theorem L_111_325 : a_look 111 325 = some (.aload_n 3, 0, 0, 0) := by decide +kernel
theorem L_111_326 : a_look 111 326 = some (.aload 4, 0, 0, 0) := by decide +kernel
theorem L_111_328 : a_look 111 328 = some (.aload 5, 0, 0, 0) := by decide +kernel
theorem L_111_330 : a_look 111 330 = some (.invokestatic 34, 105, 5, 1323) := by decide +kernel
theorem L_111_333 : a_look 111 333 = some (.aload_n 0, 0, 0, 0) := by decide +kernel
theorem L_111_334 : a_look 111 334 = some (.iload 8, 0, 0, 0) := by decide +kernel
theorem L_111_336 : a_look 111 336 = some (.aload_n 1, 0, 0, 0) := by decide +kernel
theorem L_111_337 : a_look 111 337 = some (.iconst 5, 0, 0, 0) := by decide +kernel
theorem L_111_338 : a_look 111 338 = some (.iload 8, 0, 0, 0) := by decide +kernel
theorem L_111_340 : a_look 111 340 = some (.iadd, 0, 0, 0) := by decide +kernel
theorem L_111_341 : a_look 111 341 = some (.iaload, 0, 0, 0) := by decide +kernel
theorem L_111_342 : a_look 111 342 = some (.invokevirtual 69, 63, 3, 1519) := by decide +kernel
theorem L_111_345 : a_look 111 345 = some (.iload 9, 0, 0, 0) := by decide +kernel
theorem L_111_347 : a_look 111 347 = some (.if_icmp .ne 7, 354, 0, 0) := by decide +kernel
theorem L_111_350 : a_look 111 350 = some (.iconst 1, 0, 0, 0) := by decide +kernel
theorem L_111_351 : a_look 111 351 = some (.goto 4, 355, 0, 0) := by decide +kernel
theorem L_111_354 : a_look 111 354 = some (.iconst 0, 0, 0, 0) := by decide +kernel
theorem L_111_355 : a_look 111 355 = some (.ireturn, 0, 0, 0) := by decide +kernel
theorem L_112_0 : a_look 112 0 = some (.iload 6, 0, 0, 0) := by decide +kernel
theorem L_112_2 : a_look 112 2 = some (.aload_n 1, 0, 0, 0) := by decide +kernel
theorem L_112_3 : a_look 112 3 = some (.iconst 3, 0, 0, 0) := by decide +kernel
theorem L_112_4 : a_look 112 4 = some (.iaload, 0, 0, 0) := by decide +kernel
theorem L_112_5 : a_look 112 5 = some (.irem, 0, 0, 0) := by decide +kernel
theorem L_112_6 : a_look 112 6 = some (.istore 8, 0, 0, 0) := by decide +kernel
theorem L_112_8 : a_look 112 8 = some (.iconst 1, 0, 0, 0) := by decide +kernel
theorem L_112_9 : a_look 112 9 = some (.iload 6, 0, 0, 0) := by decide +kernel
theorem L_112_11 : a_look 112 11 = some (.bipush 16, 0, 0, 0) := by decide +kernel
theorem L_112_13 : a_look 112 13 = some (.idiv, 0, 0, 0) := by decide +kernel
theorem L_112_14 : a_look 112 14 = some (.iload 6, 0, 0, 0) := by decide +kernel
theorem L_112_16 : a_look 112 16 = some (.iconst 5, 0, 0, 0) := by decide +kernel
theorem L_112_17 : a_look 112 17 = some (.irem, 0, 0, 0) := by decide +kernel
theorem L_112_18 : a_look 112 18 = some (.ifCond .ne 8, 26, 0, 0) := by decide +kernel
theorem L_112_21 : a_look 112 21 = some (.bipush 99, 0, 0, 0) := by decide +kernel
theorem L_112_23 : a_look 112 23 = some (.goto 5, 28, 0, 0) := by decide +kernel
theorem L_112_26 : a_look 112 26 = some (.bipush 20, 0, 0, 0) := by decide +kernel
theorem L_112_28 : a_look 112 28 = some (.irem, 0, 0, 0) := by decide +kernel
theorem L_112_29 : a_look 112 29 = some (.iadd, 0, 0, 0) := by decide +kernel
theorem L_112_30 : a_look 112 30 = some (.istore 9, 0, 0, 0) := by decide +kernel
theorem L_112_32 : a_look 112 32 = some (.iload 7, 0, 0, 0) := by decide +kernel
theorem L_112_34 : a_look 112 34 = some (.iconst 5, 0, 0, 0) := by decide +kernel
theorem L_112_35 : a_look 112 35 = some (.if_icmp .ge 227, 262, 0, 0) := by decide +kernel
theorem L_112_38 : a_look 112 38 = some (.iload 6, 0, 0, 0) := by decide +kernel
theorem L_112_40 : a_look 112 40 = some (.sipush 320, 0, 0, 0) := by decide +kernel
theorem L_112_43 : a_look 112 43 = some (.idiv, 0, 0, 0) := by decide +kernel
theorem L_112_44 : a_look 112 44 = some (.iconst 4, 0, 0, 0) := by decide +kernel
theorem L_112_45 : a_look 112 45 = some (.irem, 0, 0, 0) := by decide +kernel
theorem L_112_46 : a_look 112 46 = some (.istore 10, 0, 0, 0) := by decide +kernel
theorem L_112_48 : a_look 112 48 = some (.iconst 0, 0, 0, 0) := by decide +kernel
theorem L_112_49 : a_look 112 49 = some (.istore 11, 0, 0, 0) := by decide +kernel
theorem L_112_51 : a_look 112 51 = some (.iconst 0, 0, 0, 0) := by decide +kernel
theorem L_112_52 : a_look 112 52 = some (.istore 12, 0, 0, 0) := by decide +kernel
theorem L_112_54 : a_look 112 54 = some (.iload 12, 0, 0, 0) := by decide +kernel
theorem L_112_56 : a_look 112 56 = some (.bipush 8, 0, 0, 0) := by decide +kernel
theorem L_112_58 : a_look 112 58 = some (.if_icmp .ge 38, 96, 0, 0) := by decide +kernel
theorem L_112_61 : a_look 112 61 = some (.iload 11, 0, 0, 0) := by decide +kernel
theorem L_112_63 : a_look 112 63 = some (.ifCond .ne 20, 83, 0, 0) := by decide +kernel
theorem L_112_66 : a_look 112 66 = some (.aload_n 1, 0, 0, 0) := by decide +kernel
theorem L_112_67 : a_look 112 67 = some (.aload_n 2, 0, 0, 0) := by decide +kernel
theorem L_112_68 : a_look 112 68 = some (.aload_n 3, 0, 0, 0) := by decide +kernel
theorem L_112_69 : a_look 112 69 = some (.aload 4, 0, 0, 0) := by decide +kernel
theorem L_112_71 : a_look 112 71 = some (.iload 8, 0, 0, 0) := by decide +kernel
theorem L_112_73 : a_look 112 73 = some (.iload 12, 0, 0, 0) := by decide +kernel
theorem L_112_75 : a_look 112 75 = some (.iload 10, 0, 0, 0) := by decide +kernel
theorem L_112_77 : a_look 112 77 = some (.invokestatic 26, 103, 7, 319) := by decide +kernel
theorem L_112_80 : a_look 112 80 = some (.ifCond .eq 7, 87, 0, 0) := by decide +kernel
theorem L_112_83 : a_look 112 83 = some (.iconst 1, 0, 0, 0) := by decide +kernel
theorem L_112_84 : a_look 112 84 = some (.goto 4, 88, 0, 0) := by decide +kernel
theorem L_112_87 : a_look 112 87 = some (.iconst 0, 0, 0, 0) := by decide +kernel
theorem L_112_88 : a_look 112 88 = some (.istore 11, 0, 0, 0) := by decide +kernel
theorem L_112_90 : a_look 112 90 = some (.iinc 12 1, 0, 0, 0) := by decide +kernel
theorem L_112_93 : a_look 112 93 = some (.goto (-39), 54, 0, 0) := by decide +kernel
theorem L_112_96 : a_look 112 96 = some (.aload_n 1, 0, 0, 0) := by decide +kernel
theorem L_112_97 : a_look 112 97 = some (.aload_n 2, 0, 0, 0) := by decide +kernel
theorem L_112_98 : a_look 112 98 = some (.aload_n 3, 0, 0, 0) := by decide +kernel
theorem L_112_99 : a_look 112 99 = some (.aload 4, 0, 0, 0) := by decide +kernel
theorem L_112_101 : a_look 112 101 = some (.aload 5, 0, 0, 0) := by decide +kernel
theorem L_112_103 : a_look 112 103 = some (.iload 8, 0, 0, 0) := by decide +kernel
theorem L_112_105 : a_look 112 105 = some (.iload 10, 0, 0, 0) := by decide +kernel
theorem L_112_107 : a_look 112 107 = some (.invokestatic 38, 104, 7, 1805) := by decide +kernel
theorem L_112_110 : a_look 112 110 = some (.istore 12, 0, 0, 0) := by decide +kernel
theorem L_112_112 : a_look 112 112 = some (.aload_n 1, 0, 0, 0) := by decide +kernel
theorem L_112_113 : a_look 112 113 = some (.iconst 4, 0, 0, 0) := by decide +kernel
theorem L_112_114 : a_look 112 114 = some (.aload 4, 0, 0, 0) := by decide +kernel
theorem L_112_116 : a_look 112 116 = some (.iconst 4, 0, 0, 0) := by decide +kernel
theorem L_112_117 : a_look 112 117 = some (.iload 8, 0, 0, 0) := by decide +kernel
theorem L_112_119 : a_look 112 119 = some (.imul, 0, 0, 0) := by decide +kernel
theorem L_112_120 : a_look 112 120 = some (.iconst 3, 0, 0, 0) := by decide +kernel
theorem L_112_121 : a_look 112 121 = some (.iadd, 0, 0, 0) := by decide +kernel
theorem L_112_122 : a_look 112 122 = some (.iaload, 0, 0, 0) := by decide +kernel
theorem L_112_123 : a_look 112 123 = some (.ifCond .lt 7, 130, 0, 0) := by decide +kernel
theorem L_112_126 : a_look 112 126 = some (.iconst 1, 0, 0, 0) := by decide +kernel
theorem L_112_127 : a_look 112 127 = some (.goto 40, 167, 0, 0) := by decide +kernel
theorem L_112_130 : a_look 112 130 = some (.iload 10, 0, 0, 0) := by decide +kernel
theorem L_112_132 : a_look 112 132 = some (.aload 4, 0, 0, 0) := by decide +kernel
theorem L_112_134 : a_look 112 134 = some (.iconst 4, 0, 0, 0) := by decide +kernel
theorem L_112_135 : a_look 112 135 = some (.iload 8, 0, 0, 0) := by decide +kernel
theorem L_112_137 : a_look 112 137 = some (.imul, 0, 0, 0) := by decide +kernel
theorem L_112_138 : a_look 112 138 = some (.iconst 2, 0, 0, 0) := by decide +kernel
theorem L_112_139 : a_look 112 139 = some (.iadd, 0, 0, 0) := by decide +kernel
theorem L_112_140 : a_look 112 140 = some (.iaload, 0, 0, 0) := by decide +kernel
theorem L_112_141 : a_look 112 141 = some (.if_icmp .le 7, 148, 0, 0) := by decide +kernel
theorem L_112_144 : a_look 112 144 = some (.iconst 2, 0, 0, 0) := by decide +kernel
theorem L_112_145 : a_look 112 145 = some (.goto 22, 167, 0, 0) := by decide +kernel
theorem L_112_148 : a_look 112 148 = some (.iload 11, 0, 0, 0) := by decide +kernel
theorem L_112_150 : a_look 112 150 = some (.ifCond .ne 7, 157, 0, 0) := by decide +kernel
theorem L_112_153 : a_look 112 153 = some (.iconst 3, 0, 0, 0) := by decide +kernel
theorem L_112_154 : a_look 112 154 = some (.goto 13, 167, 0, 0) := by decide +kernel
theorem L_112_157 : a_look 112 157 = some (.iload 12, 0, 0, 0) := by decide +kernel
theorem L_112_159 : a_look 112 159 = some (.ifCond .ge 7, 166, 0, 0) := by decide +kernel
theorem L_112_162 : a_look 112 162 = some (.iconst 4, 0, 0, 0) := by decide +kernel
theorem L_112_163 : a_look 112 163 = some (.goto 4, 167, 0, 0) := by decide +kernel
theorem L_112_166 : a_look 112 166 = some (.iconst 0, 0, 0, 0) := by decide +kernel
theorem L_112_167 : a_look 112 167 = some (.iastore, 0, 0, 0) := by decide +kernel
theorem L_112_168 : a_look 112 168 = some (.aload_n 1, 0, 0, 0) := by decide +kernel
theorem L_112_169 : a_look 112 169 = some (.iconst 4, 0, 0, 0) := by decide +kernel
theorem L_112_170 : a_look 112 170 = some (.iaload, 0, 0, 0) := by decide +kernel
theorem L_112_171 : a_look 112 171 = some (.ifCond .le 24, 195, 0, 0) := by decide +kernel
theorem L_112_174 : a_look 112 174 = some (.aload_n 0, 0, 0, 0) := by decide +kernel
theorem L_112_175 : a_look 112 175 = some (.iload 8, 0, 0, 0) := by decide +kernel
theorem L_112_177 : a_look 112 177 = some (.iload 10, 0, 0, 0) := by decide +kernel
theorem L_112_179 : a_look 112 179 = some (.iload 9, 0, 0, 0) := by decide +kernel
theorem L_112_181 : a_look 112 181 = some (.invokevirtual 73, 67, 4, 1603) := by decide +kernel
theorem L_112_184 : a_look 112 184 = some (.bipush (-5), 0, 0, 0) := by decide +kernel
theorem L_112_186 : a_look 112 186 = some (.if_icmp .ne 7, 193, 0, 0) := by decide +kernel
theorem L_112_189 : a_look 112 189 = some (.iconst 1, 0, 0, 0) := by decide +kernel
theorem L_112_190 : a_look 112 190 = some (.goto 4, 194, 0, 0) := by decide +kernel
theorem L_112_193 : a_look 112 193 = some (.iconst 0, 0, 0, 0) := by decide +kernel
theorem L_112_194 : a_look 112 194 = some (.ireturn, 0, 0, 0) := by decide +kernel
theorem L_112_195 : a_look 112 195 = some (.aload 4, 0, 0, 0) := by decide +kernel
theorem L_112_197 : a_look 112 197 = some (.iconst 4, 0, 0, 0) := by decide +kernel
theorem L_112_198 : a_look 112 198 = some (.iload 8, 0, 0, 0) := by decide +kernel
theorem L_112_200 : a_look 112 200 = some (.imul, 0, 0, 0) := by decide +kernel
theorem L_112_201 : a_look 112 201 = some (.iconst 3, 0, 0, 0) := by decide +kernel
theorem L_112_202 : a_look 112 202 = some (.iadd, 0, 0, 0) := by decide +kernel
theorem L_112_203 : a_look 112 203 = some (.iload 12, 0, 0, 0) := by decide +kernel
theorem L_112_205 : a_look 112 205 = some (.iastore, 0, 0, 0) := by decide +kernel
theorem L_112_206 : a_look 112 206 = some (.aload 5, 0, 0, 0) := by decide +kernel
theorem L_112_208 : a_look 112 208 = some (.iconst 3, 0, 0, 0) := by decide +kernel
theorem L_112_209 : a_look 112 209 = some (.iload 8, 0, 0, 0) := by decide +kernel
theorem L_112_211 : a_look 112 211 = some (.imul, 0, 0, 0) := by decide +kernel
theorem L_112_212 : a_look 112 212 = some (.iload 10, 0, 0, 0) := by decide +kernel
theorem L_112_214 : a_look 112 214 = some (.iastore, 0, 0, 0) := by decide +kernel
theorem L_112_215 : a_look 112 215 = some (.aload 5, 0, 0, 0) := by decide +kernel
theorem L_112_217 : a_look 112 217 = some (.iconst 3, 0, 0, 0) := by decide +kernel
theorem L_112_218 : a_look 112 218 = some (.iload 8, 0, 0, 0) := by decide +kernel
theorem L_112_220 : a_look 112 220 = some (.imul, 0, 0, 0) := by decide +kernel
theorem L_112_221 : a_look 112 221 = some (.iconst 1, 0, 0, 0) := by decide +kernel
theorem L_112_222 : a_look 112 222 = some (.iadd, 0, 0, 0) := by decide +kernel
theorem L_112_223 : a_look 112 223 = some (.aload_n 1, 0, 0, 0) := by decide +kernel
theorem L_112_224 : a_look 112 224 = some (.iconst 0, 0, 0, 0) := by decide +kernel
theorem L_112_225 : a_look 112 225 = some (.iaload, 0, 0, 0) := by decide +kernel
theorem L_112_226 : a_look 112 226 = some (.iload 9, 0, 0, 0) := by decide +kernel
theorem L_112_228 : a_look 112 228 = some (.iadd, 0, 0, 0) := by decide +kernel
theorem L_112_229 : a_look 112 229 = some (.iastore, 0, 0, 0) := by decide +kernel
theorem L_112_230 : a_look 112 230 = some (.aload 5, 0, 0, 0) := by decide +kernel
theorem L_112_232 : a_look 112 232 = some (.iconst 3, 0, 0, 0) := by decide +kernel
theorem L_112_233 : a_look 112 233 = some (.iload 8, 0, 0, 0) := by decide +kernel
theorem L_112_235 : a_look 112 235 = some (.imul, 0, 0, 0) := by decide +kernel
theorem L_112_236 : a_look 112 236 = some (.iconst 2, 0, 0, 0) := by decide +kernel
theorem L_112_237 : a_look 112 237 = some (.iadd, 0, 0, 0) := by decide +kernel
theorem L_112_238 : a_look 112 238 = some (.bipush (-6), 0, 0, 0) := by decide +kernel
theorem L_112_240 : a_look 112 240 = some (.iastore, 0, 0, 0) := by decide +kernel
theorem L_112_241 : a_look 112 241 = some (.aload_n 0, 0, 0, 0) := by decide +kernel
theorem L_112_242 : a_look 112 242 = some (.iload 8, 0, 0, 0) := by decide +kernel
theorem L_112_244 : a_look 112 244 = some (.iload 10, 0, 0, 0) := by decide +kernel
theorem L_112_246 : a_look 112 246 = some (.iload 9, 0, 0, 0) := by decide +kernel
theorem L_112_248 : a_look 112 248 = some (.invokevirtual 73, 67, 4, 1603) := by decide +kernel
theorem L_112_251 : a_look 112 251 = some (.iload 12, 0, 0, 0) := by decide +kernel
theorem L_112_253 : a_look 112 253 = some (.if_icmp .ne 7, 260, 0, 0) := by decide +kernel
theorem L_112_256 : a_look 112 256 = some (.iconst 1, 0, 0, 0) := by decide +kernel
theorem L_112_257 : a_look 112 257 = some (.goto 4, 261, 0, 0) := by decide +kernel
theorem L_112_260 : a_look 112 260 = some (.iconst 0, 0, 0, 0) := by decide +kernel
theorem L_112_261 : a_look 112 261 = some (.ireturn, 0, 0, 0) := by decide +kernel
theorem L_112_262 : a_look 112 262 = some (.aload 4, 0, 0, 0) := by decide +kernel
theorem L_112_264 : a_look 112 264 = some (.iconst 4, 0, 0, 0) := by decide +kernel
theorem L_112_265 : a_look 112 265 = some (.iload 8, 0, 0, 0) := by decide +kernel
theorem L_112_267 : a_look 112 267 = some (.imul, 0, 0, 0) := by decide +kernel
theorem L_112_268 : a_look 112 268 = some (.iconst 3, 0, 0, 0) := by decide +kernel
theorem L_112_269 : a_look 112 269 = some (.iadd, 0, 0, 0) := by decide +kernel
theorem L_112_270 : a_look 112 270 = some (.iaload, 0, 0, 0) := by decide +kernel
theorem L_112_271 : a_look 112 271 = some (.ifCond .ge 33, 304, 0, 0) := by decide +kernel
theorem L_112_274 : a_look 112 274 = some (.aload_n 0, 0, 0, 0) := by decide +kernel
theorem L_112_275 : a_look 112 275 = some (.iload 8, 0, 0, 0) := by decide +kernel
theorem L_112_277 : a_look 112 277 = some (.iload 9, 0, 0, 0) := by decide +kernel
theorem L_112_279 : a_look 112 279 = some (.invokevirtual 76, 68, 3, 1710) := by decide +kernel
theorem L_112_282 : a_look 112 282 = some (.bipush (-3), 0, 0, 0) := by decide +kernel
theorem L_112_284 : a_look 112 284 = some (.if_icmp .ne 18, 302, 0, 0) := by decide +kernel
theorem L_112_287 : a_look 112 287 = some (.aload_n 0, 0, 0, 0) := by decide +kernel
theorem L_112_288 : a_look 112 288 = some (.iload 8, 0, 0, 0) := by decide +kernel
theorem L_112_290 : a_look 112 290 = some (.invokevirtual 79, 69, 2, 1718) := by decide +kernel
theorem L_112_293 : a_look 112 293 = some (.bipush (-3), 0, 0, 0) := by decide +kernel
theorem L_112_295 : a_look 112 295 = some (.if_icmp .ne 7, 302, 0, 0) := by decide +kernel
theorem L_112_298 : a_look 112 298 = some (.iconst 1, 0, 0, 0) := by decide +kernel
theorem L_112_299 : a_look 112 299 = some (.goto 4, 303, 0, 0) := by decide +kernel
theorem L_112_302 : a_look 112 302 = some (.iconst 0, 0, 0, 0) := by decide +kernel
theorem L_112_303 : a_look 112 303 = some (.ireturn, 0, 0, 0) := by decide +kernel
theorem L_112_304 : a_look 112 304 = some (.iload 7, 0, 0, 0) := by decide +kernel
theorem L_112_306 : a_look 112 306 = some (.iconst 5, 0, 0, 0) := by decide +kernel
theorem L_112_307 : a_look 112 307 = some (.if_icmp .ne 92, 399, 0, 0) := by decide +kernel
theorem L_112_310 : a_look 112 310 = some (.aload_n 1, 0, 0, 0) := by decide +kernel
theorem L_112_311 : a_look 112 311 = some (.iconst 4, 0, 0, 0) := by decide +kernel
theorem L_112_312 : a_look 112 312 = some (.aload 5, 0, 0, 0) := by decide +kernel
theorem L_112_314 : a_look 112 314 = some (.iconst 3, 0, 0, 0) := by decide +kernel
theorem L_112_315 : a_look 112 315 = some (.iload 8, 0, 0, 0) := by decide +kernel
theorem L_112_317 : a_look 112 317 = some (.imul, 0, 0, 0) := by decide +kernel
theorem L_112_318 : a_look 112 318 = some (.iconst 2, 0, 0, 0) := by decide +kernel
theorem L_112_319 : a_look 112 319 = some (.iadd, 0, 0, 0) := by decide +kernel
theorem L_112_320 : a_look 112 320 = some (.iaload, 0, 0, 0) := by decide +kernel
theorem L_112_321 : a_look 112 321 = some (.ifCond .lt 7, 328, 0, 0) := by decide +kernel
theorem L_112_324 : a_look 112 324 = some (.iconst 5, 0, 0, 0) := by decide +kernel
theorem L_112_325 : a_look 112 325 = some (.goto 4, 329, 0, 0) := by decide +kernel
theorem L_112_328 : a_look 112 328 = some (.iconst 0, 0, 0, 0) := by decide +kernel
theorem L_112_329 : a_look 112 329 = some (.iastore, 0, 0, 0) := by decide +kernel
theorem L_112_330 : a_look 112 330 = some (.aload 5, 0, 0, 0) := by decide +kernel
theorem L_112_332 : a_look 112 332 = some (.iconst 3, 0, 0, 0) := by decide +kernel
theorem L_112_333 : a_look 112 333 = some (.iload 8, 0, 0, 0) := by decide +kernel
theorem L_112_335 : a_look 112 335 = some (.imul, 0, 0, 0) := by decide +kernel
theorem L_112_336 : a_look 112 336 = some (.iconst 1, 0, 0, 0) := by decide +kernel
theorem L_112_337 : a_look 112 337 = some (.iadd, 0, 0, 0) := by decide +kernel
theorem L_112_338 : a_look 112 338 = some (.aload_n 1, 0, 0, 0) := by decide +kernel
theorem L_112_339 : a_look 112 339 = some (.iconst 4, 0, 0, 0) := by decide +kernel
theorem L_112_340 : a_look 112 340 = some (.iaload, 0, 0, 0) := by decide +kernel
theorem L_112_341 : a_look 112 341 = some (.iconst 5, 0, 0, 0) := by decide +kernel
theorem L_112_342 : a_look 112 342 = some (.if_icmp .ne 15, 357, 0, 0) := by decide +kernel
theorem L_112_345 : a_look 112 345 = some (.aload 5, 0, 0, 0) := by decide +kernel
theorem L_112_347 : a_look 112 347 = some (.iconst 3, 0, 0, 0) := by decide +kernel
theorem L_112_348 : a_look 112 348 = some (.iload 8, 0, 0, 0) := by decide +kernel
theorem L_112_350 : a_look 112 350 = some (.imul, 0, 0, 0) := by decide +kernel
theorem L_112_351 : a_look 112 351 = some (.iconst 1, 0, 0, 0) := by decide +kernel
theorem L_112_352 : a_look 112 352 = some (.iadd, 0, 0, 0) := by decide +kernel
theorem L_112_353 : a_look 112 353 = some (.iaload, 0, 0, 0) := by decide +kernel
theorem L_112_354 : a_look 112 354 = some (.goto 9, 363, 0, 0) := by decide +kernel
theorem L_112_357 : a_look 112 357 = some (.aload_n 1, 0, 0, 0) := by decide +kernel
theorem L_112_358 : a_look 112 358 = some (.iconst 0, 0, 0, 0) := by decide +kernel
theorem L_112_359 : a_look 112 359 = some (.iaload, 0, 0, 0) := by decide +kernel
theorem L_112_360 : a_look 112 360 = some (.iload 9, 0, 0, 0) := by decide +kernel
theorem L_112_362 : a_look 112 362 = some (.iadd, 0, 0, 0) := by decide +kernel
theorem L_112_363 : a_look 112 363 = some (.iastore, 0, 0, 0) := by decide +kernel
theorem L_112_364 : a_look 112 364 = some (.aload_n 0, 0, 0, 0) := by decide +kernel
theorem L_112_365 : a_look 112 365 = some (.iload 8, 0, 0, 0) := by decide +kernel
theorem L_112_367 : a_look 112 367 = some (.iload 9, 0, 0, 0) := by decide +kernel
theorem L_112_369 : a_look 112 369 = some (.invokevirtual 76, 68, 3, 1710) := by decide +kernel
theorem L_112_372 : a_look 112 372 = some (.aload_n 1, 0, 0, 0) := by decide +kernel
theorem L_112_373 : a_look 112 373 = some (.iconst 4, 0, 0, 0) := by decide +kernel
theorem L_112_374 : a_look 112 374 = some (.iaload, 0, 0, 0) := by decide +kernel
theorem L_112_375 : a_look 112 375 = some (.iconst 5, 0, 0, 0) := by decide +kernel
theorem L_112_376 : a_look 112 376 = some (.if_icmp .ne 8, 384, 0, 0) := by decide +kernel
theorem L_112_379 : a_look 112 379 = some (.bipush (-5), 0, 0, 0) := by decide +kernel
theorem L_112_381 : a_look 112 381 = some (.goto 9, 390, 0, 0) := by decide +kernel
theorem L_112_384 : a_look 112 384 = some (.aload_n 1, 0, 0, 0) := by decide +kernel
theorem L_112_385 : a_look 112 385 = some (.iconst 0, 0, 0, 0) := by decide +kernel
theorem L_112_386 : a_look 112 386 = some (.iaload, 0, 0, 0) := by decide +kernel
theorem L_112_387 : a_look 112 387 = some (.iload 9, 0, 0, 0) := by decide +kernel
theorem L_112_389 : a_look 112 389 = some (.iadd, 0, 0, 0) := by decide +kernel
theorem L_112_390 : a_look 112 390 = some (.if_icmp .ne 7, 397, 0, 0) := by decide +kernel
theorem L_112_393 : a_look 112 393 = some (.iconst 1, 0, 0, 0) := by decide +kernel
theorem L_112_394 : a_look 112 394 = some (.goto 4, 398, 0, 0) := by decide +kernel
theorem L_112_397 : a_look 112 397 = some (.iconst 0, 0, 0, 0) := by decide +kernel
theorem L_112_398 : a_look 112 398 = some (.ireturn, 0, 0, 0) := by decide +kernel
theorem L_112_399 : a_look 112 399 = some (.aload 4, 0, 0, 0) := by decide +kernel
theorem L_112_401 : a_look 112 401 = some (.aload 5, 0, 0, 0) := by decide +kernel
theorem L_112_403 : a_look 112 403 = some (.iload 8, 0, 0, 0) := by decide +kernel
theorem L_112_405 : a_look 112 405 = some (.invokestatic 30, 106, 3, 1415) := by decide +kernel
theorem L_112_408 : a_look 112 408 = some (.aload_n 0, 0, 0, 0) := by decide +kernel
theorem L_112_409 : a_look 112 409 = some (.iload 8, 0, 0, 0) := by decide +kernel
theorem L_112_411 : a_look 112 411 = some (.invokevirtual 79, 69, 2, 1718) := by decide +kernel
theorem L_112_414 : a_look 112 414 = some (.aload_n 1, 0, 0, 0) := by decide +kernel
theorem L_112_415 : a_look 112 415 = some (.aload 4, 0, 0, 0) := by decide +kernel
theorem L_112_417 : a_look 112 417 = some (.invokestatic 82, 108, 2, 1001) := by decide +kernel
theorem L_112_420 : a_look 112 420 = some (.if_icmp .ne 7, 427, 0, 0) := by decide +kernel
theorem L_112_423 : a_look 112 423 = some (.iconst 1, 0, 0, 0) := by decide +kernel
theorem L_112_424 : a_look 112 424 = some (.goto 4, 428, 0, 0) := by decide +kernel
theorem L_112_427 : a_look 112 427 = some (.iconst 0, 0, 0, 0) := by decide +kernel
theorem L_112_428 : a_look 112 428 = some (.ireturn, 0, 0, 0) := by decide +kernel
theorem L_113_0 : a_look 113 0 = some (.iload 7, 0, 0, 0) := by decide +kernel
theorem L_113_2 : a_look 113 2 = some (.iconst 5, 0, 0, 0) := by decide +kernel
theorem L_113_3 : a_look 113 3 = some (.ishr, 0, 0, 0) := by decide +kernel
theorem L_113_4 : a_look 113 4 = some (.ldc 85, 10000000, 0, 1120) := by decide +kernel
theorem L_113_6 : a_look 113 6 = some (.invokestatic 86, 98, 2, 1121) := by decide +kernel
theorem L_113_9 : a_look 113 9 = some (.istore 8, 0, 0, 0) := by decide +kernel
theorem L_113_11 : a_look 113 11 = some (.iload 7, 0, 0, 0) := by decide +kernel
theorem L_113_13 : a_look 113 13 = some (.bipush 25, 0, 0, 0) := by decide +kernel
theorem L_113_15 : a_look 113 15 = some (.invokestatic 86, 98, 2, 1121) := by decide +kernel
theorem L_113_18 : a_look 113 18 = some (.istore 9, 0, 0, 0) := by decide +kernel
theorem L_113_20 : a_look 113 20 = some (.iload 9, 0, 0, 0) := by decide +kernel
theorem L_113_22 : a_look 113 22 = some (.bipush 6, 0, 0, 0) := by decide +kernel
theorem L_113_24 : a_look 113 24 = some (.if_icmp .ge 40, 64, 0, 0) := by decide +kernel
theorem L_113_27 : a_look 113 27 = some (.aload_n 0, 0, 0, 0) := by decide +kernel
theorem L_113_28 : a_look 113 28 = some (.aload_n 1, 0, 0, 0) := by decide +kernel
theorem L_113_29 : a_look 113 29 = some (.aload_n 2, 0, 0, 0) := by decide +kernel
theorem L_113_30 : a_look 113 30 = some (.aload_n 3, 0, 0, 0) := by decide +kernel
theorem L_113_31 : a_look 113 31 = some (.aload 4, 0, 0, 0) := by decide +kernel
theorem L_113_33 : a_look 113 33 = some (.aload 5, 0, 0, 0) := by decide +kernel
theorem L_113_35 : a_look 113 35 = some (.aload 6, 0, 0, 0) := by decide +kernel
theorem L_113_37 : a_look 113 37 = some (.iload 8, 0, 0, 0) := by decide +kernel
theorem L_113_39 : a_look 113 39 = some (.iload 9, 0, 0, 0) := by decide +kernel
theorem L_113_41 : a_look 113 41 = some (.iconst 2, 0, 0, 0) := by decide +kernel
theorem L_113_42 : a_look 113 42 = some (.if_icmp .ge 7, 49, 0, 0) := by decide +kernel
theorem L_113_45 : a_look 113 45 = some (.iconst 0, 0, 0, 0) := by decide +kernel
theorem L_113_46 : a_look 113 46 = some (.goto 14, 60, 0, 0) := by decide +kernel
theorem L_113_49 : a_look 113 49 = some (.iload 9, 0, 0, 0) := by decide +kernel
theorem L_113_51 : a_look 113 51 = some (.iconst 2, 0, 0, 0) := by decide +kernel
theorem L_113_52 : a_look 113 52 = some (.if_icmp .ne 7, 59, 0, 0) := by decide +kernel
theorem L_113_55 : a_look 113 55 = some (.iconst 1, 0, 0, 0) := by decide +kernel
theorem L_113_56 : a_look 113 56 = some (.goto 4, 60, 0, 0) := by decide +kernel
theorem L_113_59 : a_look 113 59 = some (.iconst 2, 0, 0, 0) := by decide +kernel
theorem L_113_60 : a_look 113 60 = some (.invokestatic 89, 110, 9, 1200) := by decide +kernel
theorem L_113_63 : a_look 113 63 = some (.ireturn, 0, 0, 0) := by decide +kernel
theorem L_113_64 : a_look 113 64 = some (.iload 9, 0, 0, 0) := by decide +kernel
theorem L_113_66 : a_look 113 66 = some (.bipush 12, 0, 0, 0) := by decide +kernel
theorem L_113_68 : a_look 113 68 = some (.if_icmp .ge 33, 101, 0, 0) := by decide +kernel
theorem L_113_71 : a_look 113 71 = some (.aload_n 0, 0, 0, 0) := by decide +kernel
theorem L_113_72 : a_look 113 72 = some (.aload_n 1, 0, 0, 0) := by decide +kernel
theorem L_113_73 : a_look 113 73 = some (.aload_n 2, 0, 0, 0) := by decide +kernel
theorem L_113_74 : a_look 113 74 = some (.aload_n 3, 0, 0, 0) := by decide +kernel
theorem L_113_75 : a_look 113 75 = some (.aload 4, 0, 0, 0) := by decide +kernel
theorem L_113_77 : a_look 113 77 = some (.aload 5, 0, 0, 0) := by decide +kernel
theorem L_113_79 : a_look 113 79 = some (.iload 8, 0, 0, 0) := by decide +kernel
theorem L_113_81 : a_look 113 81 = some (.iload 9, 0, 0, 0) := by decide +kernel
theorem L_113_83 : a_look 113 83 = some (.bipush 10, 0, 0, 0) := by decide +kernel
theorem L_113_85 : a_look 113 85 = some (.if_icmp .ge 7, 92, 0, 0) := by decide +kernel
theorem L_113_88 : a_look 113 88 = some (.iconst 0, 0, 0, 0) := by decide +kernel
theorem L_113_89 : a_look 113 89 = some (.goto 8, 97, 0, 0) := by decide +kernel
theorem L_113_92 : a_look 113 92 = some (.iload 9, 0, 0, 0) := by decide +kernel
theorem L_113_94 : a_look 113 94 = some (.bipush 9, 0, 0, 0) := by decide +kernel
theorem L_113_96 : a_look 113 96 = some (.isub, 0, 0, 0) := by decide +kernel
theorem L_113_97 : a_look 113 97 = some (.invokestatic 93, 111, 8, 1418) := by decide +kernel
theorem L_113_100 : a_look 113 100 = some (.ireturn, 0, 0, 0) := by decide +kernel
theorem L_113_101 : a_look 113 101 = some (.iload 9, 0, 0, 0) := by decide +kernel
theorem L_113_103 : a_look 113 103 = some (.bipush 20, 0, 0, 0) := by decide +kernel
theorem L_113_105 : a_look 113 105 = some (.if_icmp .ge 66, 171, 0, 0) := by decide +kernel
theorem L_113_108 : a_look 113 108 = some (.aload_n 1, 0, 0, 0) := by decide +kernel
theorem L_113_109 : a_look 113 109 = some (.iconst 3, 0, 0, 0) := by decide +kernel
theorem L_113_110 : a_look 113 110 = some (.iaload, 0, 0, 0) := by decide +kernel
theorem L_113_111 : a_look 113 111 = some (.ifCond .ne 41, 152, 0, 0) := by decide +kernel
theorem L_113_114 : a_look 113 114 = some (.aload_n 0, 0, 0, 0) := by decide +kernel
theorem L_113_115 : a_look 113 115 = some (.iconst 0, 0, 0, 0) := by decide +kernel
theorem L_113_116 : a_look 113 116 = some (.iconst 0, 0, 0, 0) := by decide +kernel
theorem L_113_117 : a_look 113 117 = some (.iconst 1, 0, 0, 0) := by decide +kernel
theorem L_113_118 : a_look 113 118 = some (.invokevirtual 73, 67, 4, 1603) := by decide +kernel
theorem L_113_121 : a_look 113 121 = some (.iconst (-1), 0, 0, 0) := by decide +kernel
theorem L_113_122 : a_look 113 122 = some (.if_icmp .ne 26, 148, 0, 0) := by decide +kernel
theorem L_113_125 : a_look 113 125 = some (.aload_n 0, 0, 0, 0) := by decide +kernel
theorem L_113_126 : a_look 113 126 = some (.iconst 0, 0, 0, 0) := by decide +kernel
theorem L_113_127 : a_look 113 127 = some (.iconst 1, 0, 0, 0) := by decide +kernel
theorem L_113_128 : a_look 113 128 = some (.invokevirtual 76, 68, 3, 1710) := by decide +kernel
theorem L_113_131 : a_look 113 131 = some (.iconst (-1), 0, 0, 0) := by decide +kernel
theorem L_113_132 : a_look 113 132 = some (.if_icmp .ne 16, 148, 0, 0) := by decide +kernel
theorem L_113_135 : a_look 113 135 = some (.aload_n 0, 0, 0, 0) := by decide +kernel
theorem L_113_136 : a_look 113 136 = some (.iconst 0, 0, 0, 0) := by decide +kernel
theorem L_113_137 : a_look 113 137 = some (.invokevirtual 79, 69, 2, 1718) := by decide +kernel
theorem L_113_140 : a_look 113 140 = some (.iconst (-1), 0, 0, 0) := by decide +kernel
theorem L_113_141 : a_look 113 141 = some (.if_icmp .ne 7, 148, 0, 0) := by decide +kernel
theorem L_113_144 : a_look 113 144 = some (.iconst 1, 0, 0, 0) := by decide +kernel
theorem L_113_145 : a_look 113 145 = some (.goto 25, 170, 0, 0) := by decide +kernel
theorem L_113_148 : a_look 113 148 = some (.iconst 0, 0, 0, 0) := by decide +kernel
theorem L_113_149 : a_look 113 149 = some (.goto 21, 170, 0, 0) := by decide +kernel
theorem L_113_152 : a_look 113 152 = some (.aload_n 0, 0, 0, 0) := by decide +kernel
theorem L_113_153 : a_look 113 153 = some (.aload_n 1, 0, 0, 0) := by decide +kernel
theorem L_113_154 : a_look 113 154 = some (.aload_n 2, 0, 0, 0) := by decide +kernel
theorem L_113_155 : a_look 113 155 = some (.aload_n 3, 0, 0, 0) := by decide +kernel
theorem L_113_156 : a_look 113 156 = some (.aload 4, 0, 0, 0) := by decide +kernel
theorem L_113_158 : a_look 113 158 = some (.aload 5, 0, 0, 0) := by decide +kernel
theorem L_113_160 : a_look 113 160 = some (.iload 8, 0, 0, 0) := by decide +kernel
theorem L_113_162 : a_look 113 162 = some (.iload 9, 0, 0, 0) := by decide +kernel
theorem L_113_164 : a_look 113 164 = some (.bipush 12, 0, 0, 0) := by decide +kernel
theorem L_113_166 : a_look 113 166 = some (.isub, 0, 0, 0) := by decide +kernel
theorem L_113_167 : a_look 113 167 = some (.invokestatic 97, 112, 8, 1802) := by decide +kernel
theorem L_113_170 : a_look 113 170 = some (.ireturn, 0, 0, 0) := by decide +kernel
theorem L_113_171 : a_look 113 171 = some (.iconst 1, 0, 0, 0) := by decide +kernel
theorem L_113_172 : a_look 113 172 = some (.iload 8, 0, 0, 0) := by decide +kernel
theorem L_113_174 : a_look 113 174 = some (.iload 8, 0, 0, 0) := by decide +kernel
theorem L_113_176 : a_look 113 176 = some (.iconst 4, 0, 0, 0) := by decide +kernel
theorem L_113_177 : a_look 113 177 = some (.irem, 0, 0, 0) := by decide +kernel
theorem L_113_178 : a_look 113 178 = some (.ifCond .ne 8, 186, 0, 0) := by decide +kernel
theorem L_113_181 : a_look 113 181 = some (.bipush 12, 0, 0, 0) := by decide +kernel
theorem L_113_183 : a_look 113 183 = some (.goto 4, 187, 0, 0) := by decide +kernel
theorem L_113_186 : a_look 113 186 = some (.iconst 3, 0, 0, 0) := by decide +kernel
theorem L_113_187 : a_look 113 187 = some (.irem, 0, 0, 0) := by decide +kernel
theorem L_113_188 : a_look 113 188 = some (.iadd, 0, 0, 0) := by decide +kernel
theorem L_113_189 : a_look 113 189 = some (.istore 10, 0, 0, 0) := by decide +kernel
theorem L_113_191 : a_look 113 191 = some (.iconst 0, 0, 0, 0) := by decide +kernel
theorem L_113_192 : a_look 113 192 = some (.istore 11, 0, 0, 0) := by decide +kernel
theorem L_113_194 : a_look 113 194 = some (.iconst 0, 0, 0, 0) := by decide +kernel
theorem L_113_195 : a_look 113 195 = some (.istore 12, 0, 0, 0) := by decide +kernel
theorem L_113_197 : a_look 113 197 = some (.iload 12, 0, 0, 0) := by decide +kernel
theorem L_113_199 : a_look 113 199 = some (.iload 10, 0, 0, 0) := by decide +kernel
theorem L_113_201 : a_look 113 201 = some (.if_icmp .ge 26, 227, 0, 0) := by decide +kernel
theorem L_113_204 : a_look 113 204 = some (.iload 11, 0, 0, 0) := by decide +kernel
theorem L_113_206 : a_look 113 206 = some (.aload_n 1, 0, 0, 0) := by decide +kernel
theorem L_113_207 : a_look 113 207 = some (.aload_n 2, 0, 0, 0) := by decide +kernel
theorem L_113_208 : a_look 113 208 = some (.aload_n 3, 0, 0, 0) := by decide +kernel
theorem L_113_209 : a_look 113 209 = some (.aload 4, 0, 0, 0) := by decide +kernel
theorem L_113_211 : a_look 113 211 = some (.aload 5, 0, 0, 0) := by decide +kernel
theorem L_113_213 : a_look 113 213 = some (.aload 6, 0, 0, 0) := by decide +kernel
theorem L_113_215 : a_look 113 215 = some (.invokestatic 100, 109, 6, 1808) := by decide +kernel
theorem L_113_218 : a_look 113 218 = some (.iadd, 0, 0, 0) := by decide +kernel
theorem L_113_219 : a_look 113 219 = some (.istore 11, 0, 0, 0) := by decide +kernel
theorem L_113_221 : a_look 113 221 = some (.iinc 12 1, 0, 0, 0) := by decide +kernel
theorem L_113_224 : a_look 113 224 = some (.goto (-27), 197, 0, 0) := by decide +kernel
theorem L_113_227 : a_look 113 227 = some (.aload_n 0, 0, 0, 0) := by decide +kernel
theorem L_113_228 : a_look 113 228 = some (.iload 10, 0, 0, 0) := by decide +kernel
theorem L_113_230 : a_look 113 230 = some (.invokevirtual 104, 70, 2, 1811) := by decide +kernel
theorem L_113_233 : a_look 113 233 = some (.iload 11, 0, 0, 0) := by decide +kernel
theorem L_113_235 : a_look 113 235 = some (.if_icmp .ne 7, 242, 0, 0) := by decide +kernel
theorem L_113_238 : a_look 113 238 = some (.iconst 1, 0, 0, 0) := by decide +kernel
theorem L_113_239 : a_look 113 239 = some (.goto 4, 243, 0, 0) := by decide +kernel
theorem L_113_242 : a_look 113 242 = some (.iconst 0, 0, 0, 0) := by decide +kernel
theorem L_113_243 : a_look 113 243 = some (.ireturn, 0, 0, 0) := by decide +kernel
theorem L_114_0 : a_look 114 0 = some (.iconst 0, 0, 0, 0) := by decide +kernel
theorem L_114_1 : a_look 114 1 = some (.istore 7, 0, 0, 0) := by decide +kernel
theorem L_114_3 : a_look 114 3 = some (.iconst 0, 0, 0, 0) := by decide +kernel
theorem L_114_4 : a_look 114 4 = some (.istore 8, 0, 0, 0) := by decide +kernel
theorem L_114_6 : a_look 114 6 = some (.iconst 0, 0, 0, 0) := by decide +kernel
theorem L_114_7 : a_look 114 7 = some (.istore 9, 0, 0, 0) := by decide +kernel
theorem L_114_9 : a_look 114 9 = some (.iconst 0, 0, 0, 0) := by decide +kernel
theorem L_114_10 : a_look 114 10 = some (.istore 10, 0, 0, 0) := by decide +kernel
theorem L_114_12 : a_look 114 12 = some (.iconst 1, 0, 0, 0) := by decide +kernel
theorem L_114_13 : a_look 114 13 = some (.istore 11, 0, 0, 0) := by decide +kernel
theorem L_114_15 : a_look 114 15 = some (.iconst 0, 0, 0, 0) := by decide +kernel
theorem L_114_16 : a_look 114 16 = some (.istore 12, 0, 0, 0) := by decide +kernel
theorem L_114_18 : a_look 114 18 = some (.iload 12, 0, 0, 0) := by decide +kernel
theorem L_114_20 : a_look 114 20 = some (.aload_n 1, 0, 0, 0) := by decide +kernel
theorem L_114_21 : a_look 114 21 = some (.iconst 1, 0, 0, 0) := by decide +kernel
theorem L_114_22 : a_look 114 22 = some (.iaload, 0, 0, 0) := by decide +kernel
theorem L_114_23 : a_look 114 23 = some (.if_icmp .ge 285, 308, 0, 0) := by decide +kernel
theorem L_114_26 : a_look 114 26 = some (.iload 11, 0, 0, 0) := by decide +kernel
theorem L_114_28 : a_look 114 28 = some (.ifCond .eq 280, 308, 0, 0) := by decide +kernel
theorem L_114_31 : a_look 114 31 = some (.iconst 5, 0, 0, 0) := by decide +kernel
theorem L_114_32 : a_look 114 32 = some (.iload 12, 0, 0, 0) := by decide +kernel
theorem L_114_34 : a_look 114 34 = some (.imul, 0, 0, 0) := by decide +kernel
theorem L_114_35 : a_look 114 35 = some (.istore 13, 0, 0, 0) := by decide +kernel
theorem L_114_37 : a_look 114 37 = some (.iconst 0, 0, 0, 0) := by decide +kernel
theorem L_114_38 : a_look 114 38 = some (.istore 14, 0, 0, 0) := by decide +kernel
theorem L_114_40 : a_look 114 40 = some (.iconst 0, 0, 0, 0) := by decide +kernel
theorem L_114_41 : a_look 114 41 = some (.istore 15, 0, 0, 0) := by decide +kernel
theorem L_114_43 : a_look 114 43 = some (.iload 15, 0, 0, 0) := by decide +kernel
theorem L_114_45 : a_look 114 45 = some (.aload_n 1, 0, 0, 0) := by decide +kernel
theorem L_114_46 : a_look 114 46 = some (.iconst 3, 0, 0, 0) := by decide +kernel
theorem L_114_47 : a_look 114 47 = some (.iaload, 0, 0, 0) := by decide +kernel
theorem L_114_48 : a_look 114 48 = some (.if_icmp .ge 113, 161, 0, 0) := by decide +kernel
theorem L_114_51 : a_look 114 51 = some (.aload_n 2, 0, 0, 0) := by decide +kernel
theorem L_114_52 : a_look 114 52 = some (.iload 13, 0, 0, 0) := by decide +kernel
theorem L_114_54 : a_look 114 54 = some (.iconst 4, 0, 0, 0) := by decide +kernel
theorem L_114_55 : a_look 114 55 = some (.iadd, 0, 0, 0) := by decide +kernel
theorem L_114_56 : a_look 114 56 = some (.iaload, 0, 0, 0) := by decide +kernel
theorem L_114_57 : a_look 114 57 = some (.iconst 1, 0, 0, 0) := by decide +kernel
theorem L_114_58 : a_look 114 58 = some (.if_icmp .ne 103, 161, 0, 0) := by decide +kernel
theorem L_114_61 : a_look 114 61 = some (.aload 4, 0, 0, 0) := by decide +kernel
theorem L_114_63 : a_look 114 63 = some (.iconst 4, 0, 0, 0) := by decide +kernel
theorem L_114_64 : a_look 114 64 = some (.iload 15, 0, 0, 0) := by decide +kernel
theorem L_114_66 : a_look 114 66 = some (.imul, 0, 0, 0) := by decide +kernel
theorem L_114_67 : a_look 114 67 = some (.iconst 3, 0, 0, 0) := by decide +kernel
theorem L_114_68 : a_look 114 68 = some (.iadd, 0, 0, 0) := by decide +kernel
theorem L_114_69 : a_look 114 69 = some (.iaload, 0, 0, 0) := by decide +kernel
theorem L_114_70 : a_look 114 70 = some (.ifCond .lt 85, 155, 0, 0) := by decide +kernel
theorem L_114_73 : a_look 114 73 = some (.aload_n 1, 0, 0, 0) := by decide +kernel
theorem L_114_74 : a_look 114 74 = some (.aload_n 2, 0, 0, 0) := by decide +kernel
theorem L_114_75 : a_look 114 75 = some (.aload_n 3, 0, 0, 0) := by decide +kernel
theorem L_114_76 : a_look 114 76 = some (.aload 4, 0, 0, 0) := by decide +kernel
theorem L_114_78 : a_look 114 78 = some (.iload 15, 0, 0, 0) := by decide +kernel
theorem L_114_80 : a_look 114 80 = some (.aload 4, 0, 0, 0) := by decide +kernel
theorem L_114_82 : a_look 114 82 = some (.iconst 4, 0, 0, 0) := by decide +kernel
theorem L_114_83 : a_look 114 83 = some (.iload 15, 0, 0, 0) := by decide +kernel
theorem L_114_85 : a_look 114 85 = some (.imul, 0, 0, 0) := by decide +kernel
theorem L_114_86 : a_look 114 86 = some (.iconst 3, 0, 0, 0) := by decide +kernel
theorem L_114_87 : a_look 114 87 = some (.iadd, 0, 0, 0) := by decide +kernel
theorem L_114_88 : a_look 114 88 = some (.iaload, 0, 0, 0) := by decide +kernel
theorem L_114_89 : a_look 114 89 = some (.aload 5, 0, 0, 0) := by decide +kernel
theorem L_114_91 : a_look 114 91 = some (.iconst 3, 0, 0, 0) := by decide +kernel
theorem L_114_92 : a_look 114 92 = some (.iload 15, 0, 0, 0) := by decide +kernel
theorem L_114_94 : a_look 114 94 = some (.imul, 0, 0, 0) := by decide +kernel
theorem L_114_95 : a_look 114 95 = some (.iaload, 0, 0, 0) := by decide +kernel
theorem L_114_96 : a_look 114 96 = some (.invokestatic 26, 103, 7, 319) := by decide +kernel
theorem L_114_99 : a_look 114 99 = some (.ifCond .ne 56, 155, 0, 0) := by decide +kernel
theorem L_114_102 : a_look 114 102 = some (.aload_n 2, 0, 0, 0) := by decide +kernel
theorem L_114_103 : a_look 114 103 = some (.iload 13, 0, 0, 0) := by decide +kernel
theorem L_114_105 : a_look 114 105 = some (.iconst 4, 0, 0, 0) := by decide +kernel
theorem L_114_106 : a_look 114 106 = some (.iadd, 0, 0, 0) := by decide +kernel
theorem L_114_107 : a_look 114 107 = some (.iconst 0, 0, 0, 0) := by decide +kernel
theorem L_114_108 : a_look 114 108 = some (.iastore, 0, 0, 0) := by decide +kernel
theorem L_114_109 : a_look 114 109 = some (.iload 14, 0, 0, 0) := by decide +kernel
theorem L_114_111 : a_look 114 111 = some (.aload_n 1, 0, 0, 0) := by decide +kernel
theorem L_114_112 : a_look 114 112 = some (.aload_n 2, 0, 0, 0) := by decide +kernel
theorem L_114_113 : a_look 114 113 = some (.aload_n 3, 0, 0, 0) := by decide +kernel
theorem L_114_114 : a_look 114 114 = some (.aload 4, 0, 0, 0) := by decide +kernel
theorem L_114_116 : a_look 114 116 = some (.iload 15, 0, 0, 0) := by decide +kernel
theorem L_114_118 : a_look 114 118 = some (.aload 4, 0, 0, 0) := by decide +kernel
theorem L_114_120 : a_look 114 120 = some (.iconst 4, 0, 0, 0) := by decide +kernel
theorem L_114_121 : a_look 114 121 = some (.iload 15, 0, 0, 0) := by decide +kernel
theorem L_114_123 : a_look 114 123 = some (.imul, 0, 0, 0) := by decide +kernel
theorem L_114_124 : a_look 114 124 = some (.iconst 3, 0, 0, 0) := by decide +kernel
theorem L_114_125 : a_look 114 125 = some (.iadd, 0, 0, 0) := by decide +kernel
theorem L_114_126 : a_look 114 126 = some (.iaload, 0, 0, 0) := by decide +kernel
theorem L_114_127 : a_look 114 127 = some (.aload 5, 0, 0, 0) := by decide +kernel
theorem L_114_129 : a_look 114 129 = some (.iconst 3, 0, 0, 0) := by decide +kernel
theorem L_114_130 : a_look 114 130 = some (.iload 15, 0, 0, 0) := by decide +kernel
theorem L_114_132 : a_look 114 132 = some (.imul, 0, 0, 0) := by decide +kernel
theorem L_114_133 : a_look 114 133 = some (.iaload, 0, 0, 0) := by decide +kernel
theorem L_114_134 : a_look 114 134 = some (.invokestatic 26, 103, 7, 319) := by decide +kernel
theorem L_114_137 : a_look 114 137 = some (.ifCond .eq 7, 144, 0, 0) := by decide +kernel
theorem L_114_140 : a_look 114 140 = some (.iconst 1, 0, 0, 0) := by decide +kernel
theorem L_114_141 : a_look 114 141 = some (.goto 4, 145, 0, 0) := by decide +kernel
theorem L_114_144 : a_look 114 144 = some (.iconst 0, 0, 0, 0) := by decide +kernel
theorem L_114_145 : a_look 114 145 = some (.iadd, 0, 0, 0) := by decide +kernel
theorem L_114_146 : a_look 114 146 = some (.istore 14, 0, 0, 0) := by decide +kernel
theorem L_114_148 : a_look 114 148 = some (.aload_n 2, 0, 0, 0) := by decide +kernel
theorem L_114_149 : a_look 114 149 = some (.iload 13, 0, 0, 0) := by decide +kernel
theorem L_114_151 : a_look 114 151 = some (.iconst 4, 0, 0, 0) := by decide +kernel
theorem L_114_152 : a_look 114 152 = some (.iadd, 0, 0, 0) := by decide +kernel
theorem L_114_153 : a_look 114 153 = some (.iconst 1, 0, 0, 0) := by decide +kernel
theorem L_114_154 : a_look 114 154 = some (.iastore, 0, 0, 0) := by decide +kernel
theorem L_114_155 : a_look 114 155 = some (.iinc 15 1, 0, 0, 0) := by decide +kernel
theorem L_114_158 : a_look 114 158 = some (.goto (-115), 43, 0, 0) := by decide +kernel
theorem L_114_161 : a_look 114 161 = some (.iload 7, 0, 0, 0) := by decide +kernel
theorem L_114_163 : a_look 114 163 = some (.aload_n 2, 0, 0, 0) := by decide +kernel
theorem L_114_164 : a_look 114 164 = some (.iload 13, 0, 0, 0) := by decide +kernel
theorem L_114_166 : a_look 114 166 = some (.iconst 4, 0, 0, 0) := by decide +kernel
theorem L_114_167 : a_look 114 167 = some (.iadd, 0, 0, 0) := by decide +kernel
theorem L_114_168 : a_look 114 168 = some (.iaload, 0, 0, 0) := by decide +kernel
theorem L_114_169 : a_look 114 169 = some (.iadd, 0, 0, 0) := by decide +kernel
theorem L_114_170 : a_look 114 170 = some (.istore 7, 0, 0, 0) := by decide +kernel
theorem L_114_172 : a_look 114 172 = some (.aload_n 0, 0, 0, 0) := by decide +kernel
theorem L_114_173 : a_look 114 173 = some (.iload 12, 0, 0, 0) := by decide +kernel
theorem L_114_175 : a_look 114 175 = some (.iconst 0, 0, 0, 0) := by decide +kernel
theorem L_114_176 : a_look 114 176 = some (.invokevirtual 107, 78, 3, 410) := by decide +kernel
theorem L_114_179 : a_look 114 179 = some (.aload_n 2, 0, 0, 0) := by decide +kernel
theorem L_114_180 : a_look 114 180 = some (.iload 13, 0, 0, 0) := by decide +kernel
theorem L_114_182 : a_look 114 182 = some (.iaload, 0, 0, 0) := by decide +kernel
theorem L_114_183 : a_look 114 183 = some (.if_icmp .ne 116, 299, 0, 0) := by decide +kernel
theorem L_114_186 : a_look 114 186 = some (.aload_n 0, 0, 0, 0) := by decide +kernel
theorem L_114_187 : a_look 114 187 = some (.iload 12, 0, 0, 0) := by decide +kernel
theorem L_114_189 : a_look 114 189 = some (.iconst 1, 0, 0, 0) := by decide +kernel
theorem L_114_190 : a_look 114 190 = some (.invokevirtual 107, 78, 3, 410) := by decide +kernel
theorem L_114_193 : a_look 114 193 = some (.aload_n 2, 0, 0, 0) := by decide +kernel
theorem L_114_194 : a_look 114 194 = some (.iload 13, 0, 0, 0) := by decide +kernel
theorem L_114_196 : a_look 114 196 = some (.iconst 1, 0, 0, 0) := by decide +kernel
theorem L_114_197 : a_look 114 197 = some (.iadd, 0, 0, 0) := by decide +kernel
theorem L_114_198 : a_look 114 198 = some (.iaload, 0, 0, 0) := by decide +kernel
theorem L_114_199 : a_look 114 199 = some (.if_icmp .ne 100, 299, 0, 0) := by decide +kernel
theorem L_114_202 : a_look 114 202 = some (.aload_n 0, 0, 0, 0) := by decide +kernel
theorem L_114_203 : a_look 114 203 = some (.iload 12, 0, 0, 0) := by decide +kernel
theorem L_114_205 : a_look 114 205 = some (.iconst 2, 0, 0, 0) := by decide +kernel
theorem L_114_206 : a_look 114 206 = some (.invokevirtual 107, 78, 3, 410) := by decide +kernel
theorem L_114_209 : a_look 114 209 = some (.aload_n 2, 0, 0, 0) := by decide +kernel
theorem L_114_210 : a_look 114 210 = some (.iload 13, 0, 0, 0) := by decide +kernel
theorem L_114_212 : a_look 114 212 = some (.iconst 2, 0, 0, 0) := by decide +kernel
theorem L_114_213 : a_look 114 213 = some (.iadd, 0, 0, 0) := by decide +kernel
theorem L_114_214 : a_look 114 214 = some (.iaload, 0, 0, 0) := by decide +kernel
theorem L_114_215 : a_look 114 215 = some (.if_icmp .ne 84, 299, 0, 0) := by decide +kernel
theorem L_114_218 : a_look 114 218 = some (.aload_n 0, 0, 0, 0) := by decide +kernel
theorem L_114_219 : a_look 114 219 = some (.iload 12, 0, 0, 0) := by decide +kernel
theorem L_114_221 : a_look 114 221 = some (.iconst 3, 0, 0, 0) := by decide +kernel
theorem L_114_222 : a_look 114 222 = some (.invokevirtual 107, 78, 3, 410) := by decide +kernel
theorem L_114_225 : a_look 114 225 = some (.aload_n 2, 0, 0, 0) := by decide +kernel
theorem L_114_226 : a_look 114 226 = some (.iload 13, 0, 0, 0) := by decide +kernel
theorem L_114_228 : a_look 114 228 = some (.iconst 3, 0, 0, 0) := by decide +kernel
theorem L_114_229 : a_look 114 229 = some (.iadd, 0, 0, 0) := by decide +kernel
theorem L_114_230 : a_look 114 230 = some (.iaload, 0, 0, 0) := by decide +kernel
theorem L_114_231 : a_look 114 231 = some (.if_icmp .ne 68, 299, 0, 0) := by decide +kernel
theorem L_114_234 : a_look 114 234 = some (.aload_n 0, 0, 0, 0) := by decide +kernel
theorem L_114_235 : a_look 114 235 = some (.iload 12, 0, 0, 0) := by decide +kernel
theorem L_114_237 : a_look 114 237 = some (.iconst 4, 0, 0, 0) := by decide +kernel
theorem L_114_238 : a_look 114 238 = some (.invokevirtual 107, 78, 3, 410) := by decide +kernel
theorem L_114_241 : a_look 114 241 = some (.aload_n 2, 0, 0, 0) := by decide +kernel
theorem L_114_242 : a_look 114 242 = some (.iload 13, 0, 0, 0) := by decide +kernel
theorem L_114_244 : a_look 114 244 = some (.iconst 3, 0, 0, 0) := by decide +kernel
theorem L_114_245 : a_look 114 245 = some (.iadd, 0, 0, 0) := by decide +kernel
theorem L_114_246 : a_look 114 246 = some (.iaload, 0, 0, 0) := by decide +kernel
theorem L_114_247 : a_look 114 247 = some (.invokestatic 9, 100, 1, 401) := by decide +kernel
theorem L_114_250 : a_look 114 250 = some (.if_icmp .ne 49, 299, 0, 0) := by decide +kernel
theorem L_114_253 : a_look 114 253 = some (.aload_n 0, 0, 0, 0) := by decide +kernel
theorem L_114_254 : a_look 114 254 = some (.iload 12, 0, 0, 0) := by decide +kernel
theorem L_114_256 : a_look 114 256 = some (.iconst 5, 0, 0, 0) := by decide +kernel
theorem L_114_257 : a_look 114 257 = some (.invokevirtual 107, 78, 3, 410) := by decide +kernel
theorem L_114_260 : a_look 114 260 = some (.aload_n 2, 0, 0, 0) := by decide +kernel
theorem L_114_261 : a_look 114 261 = some (.iload 13, 0, 0, 0) := by decide +kernel
theorem L_114_263 : a_look 114 263 = some (.iconst 4, 0, 0, 0) := by decide +kernel
theorem L_114_264 : a_look 114 264 = some (.iadd, 0, 0, 0) := by decide +kernel
theorem L_114_265 : a_look 114 265 = some (.iaload, 0, 0, 0) := by decide +kernel
theorem L_114_266 : a_look 114 266 = some (.if_icmp .ne 33, 299, 0, 0) := by decide +kernel
theorem L_114_269 : a_look 114 269 = some (.aload_n 0, 0, 0, 0) := by decide +kernel
theorem L_114_270 : a_look 114 270 = some (.iload 12, 0, 0, 0) := by decide +kernel
theorem L_114_272 : a_look 114 272 = some (.bipush 6, 0, 0, 0) := by decide +kernel
theorem L_114_274 : a_look 114 274 = some (.invokevirtual 107, 78, 3, 410) := by decide +kernel
theorem L_114_277 : a_look 114 277 = some (.iload 14, 0, 0, 0) := by decide +kernel
theorem L_114_279 : a_look 114 279 = some (.if_icmp .ne 20, 299, 0, 0) := by decide +kernel
theorem L_114_282 : a_look 114 282 = some (.aload_n 0, 0, 0, 0) := by decide +kernel
theorem L_114_283 : a_look 114 283 = some (.iload 12, 0, 0, 0) := by decide +kernel
theorem L_114_285 : a_look 114 285 = some (.bipush 7, 0, 0, 0) := by decide +kernel
theorem L_114_287 : a_look 114 287 = some (.invokevirtual 107, 78, 3, 410) := by decide +kernel
theorem L_114_290 : a_look 114 290 = some (.bipush (-2), 0, 0, 0) := by decide +kernel
theorem L_114_292 : a_look 114 292 = some (.if_icmp .ne 7, 299, 0, 0) := by decide +kernel
theorem L_114_295 : a_look 114 295 = some (.iconst 1, 0, 0, 0) := by decide +kernel
theorem L_114_296 : a_look 114 296 = some (.goto 4, 300, 0, 0) := by decide +kernel
theorem L_114_299 : a_look 114 299 = some (.iconst 0, 0, 0, 0) := by decide +kernel
theorem L_114_300 : a_look 114 300 = some (.istore 11, 0, 0, 0) := by decide +kernel
theorem L_114_302 : a_look 114 302 = some (.iinc 12 1, 0, 0, 0) := by decide +kernel
theorem L_114_305 : a_look 114 305 = some (.goto (-287), 18, 0, 0) := by decide +kernel
theorem L_114_308 : a_look 114 308 = some (.iconst 0, 0, 0, 0) := by decide +kernel
theorem L_114_309 : a_look 114 309 = some (.istore 12, 0, 0, 0) := by decide +kernel
theorem L_114_311 : a_look 114 311 = some (.iload 12, 0, 0, 0) := by decide +kernel
theorem L_114_313 : a_look 114 313 = some (.bipush 8, 0, 0, 0) := by decide +kernel
theorem L_114_315 : a_look 114 315 = some (.aload_n 1, 0, 0, 0) := by decide +kernel
theorem L_114_316 : a_look 114 316 = some (.iconst 2, 0, 0, 0) := by decide +kernel
theorem L_114_317 : a_look 114 317 = some (.iaload, 0, 0, 0) := by decide +kernel
theorem L_114_318 : a_look 114 318 = some (.imul, 0, 0, 0) := by decide +kernel
theorem L_114_319 : a_look 114 319 = some (.if_icmp .ge 122, 441, 0, 0) := by decide +kernel
theorem L_114_322 : a_look 114 322 = some (.iload 11, 0, 0, 0) := by decide +kernel
theorem L_114_324 : a_look 114 324 = some (.ifCond .eq 117, 441, 0, 0) := by decide +kernel
theorem L_114_327 : a_look 114 327 = some (.bipush 7, 0, 0, 0) := by decide +kernel
theorem L_114_329 : a_look 114 329 = some (.iload 12, 0, 0, 0) := by decide +kernel
theorem L_114_331 : a_look 114 331 = some (.bipush 8, 0, 0, 0) := by decide +kernel
theorem L_114_333 : a_look 114 333 = some (.idiv, 0, 0, 0) := by decide +kernel
theorem L_114_334 : a_look 114 334 = some (.imul, 0, 0, 0) := by decide +kernel
theorem L_114_335 : a_look 114 335 = some (.istore 13, 0, 0, 0) := by decide +kernel
theorem L_114_337 : a_look 114 337 = some (.aload_n 3, 0, 0, 0) := by decide +kernel
theorem L_114_338 : a_look 114 338 = some (.iload 13, 0, 0, 0) := by decide +kernel
theorem L_114_340 : a_look 114 340 = some (.bipush 6, 0, 0, 0) := by decide +kernel
theorem L_114_342 : a_look 114 342 = some (.iadd, 0, 0, 0) := by decide +kernel
theorem L_114_343 : a_look 114 343 = some (.iaload, 0, 0, 0) := by decide +kernel
theorem L_114_344 : a_look 114 344 = some (.ifCond .ne 31, 375, 0, 0) := by decide +kernel
theorem L_114_347 : a_look 114 347 = some (.aload_n 3, 0, 0, 0) := by decide +kernel
theorem L_114_348 : a_look 114 348 = some (.iload 13, 0, 0, 0) := by decide +kernel
theorem L_114_350 : a_look 114 350 = some (.iconst 4, 0, 0, 0) := by decide +kernel
theorem L_114_351 : a_look 114 351 = some (.iadd, 0, 0, 0) := by decide +kernel
theorem L_114_352 : a_look 114 352 = some (.iaload, 0, 0, 0) := by decide +kernel
theorem L_114_353 : a_look 114 353 = some (.aload_n 1, 0, 0, 0) := by decide +kernel
theorem L_114_354 : a_look 114 354 = some (.iconst 0, 0, 0, 0) := by decide +kernel
theorem L_114_355 : a_look 114 355 = some (.iaload, 0, 0, 0) := by decide +kernel
theorem L_114_356 : a_look 114 356 = some (.if_icmp .gt 19, 375, 0, 0) := by decide +kernel
theorem L_114_359 : a_look 114 359 = some (.aload_n 1, 0, 0, 0) := by decide +kernel
theorem L_114_360 : a_look 114 360 = some (.iconst 0, 0, 0, 0) := by decide +kernel
theorem L_114_361 : a_look 114 361 = some (.iaload, 0, 0, 0) := by decide +kernel
theorem L_114_362 : a_look 114 362 = some (.aload_n 3, 0, 0, 0) := by decide +kernel
theorem L_114_363 : a_look 114 363 = some (.iload 13, 0, 0, 0) := by decide +kernel
theorem L_114_365 : a_look 114 365 = some (.iconst 5, 0, 0, 0) := by decide +kernel
theorem L_114_366 : a_look 114 366 = some (.iadd, 0, 0, 0) := by decide +kernel
theorem L_114_367 : a_look 114 367 = some (.iaload, 0, 0, 0) := by decide +kernel
theorem L_114_368 : a_look 114 368 = some (.if_icmp .ge 7, 375, 0, 0) := by decide +kernel
theorem L_114_371 : a_look 114 371 = some (.iconst 1, 0, 0, 0) := by decide +kernel
theorem L_114_372 : a_look 114 372 = some (.goto 4, 376, 0, 0) := by decide +kernel
theorem L_114_375 : a_look 114 375 = some (.iconst 0, 0, 0, 0) := by decide +kernel
theorem L_114_376 : a_look 114 376 = some (.istore 14, 0, 0, 0) := by decide +kernel
theorem L_114_378 : a_look 114 378 = some (.aload_n 0, 0, 0, 0) := by decide +kernel
theorem L_114_379 : a_look 114 379 = some (.iload 12, 0, 0, 0) := by decide +kernel
theorem L_114_381 : a_look 114 381 = some (.bipush 8, 0, 0, 0) := by decide +kernel
theorem L_114_383 : a_look 114 383 = some (.idiv, 0, 0, 0) := by decide +kernel
theorem L_114_384 : a_look 114 384 = some (.iload 12, 0, 0, 0) := by decide +kernel
theorem L_114_386 : a_look 114 386 = some (.bipush 8, 0, 0, 0) := by decide +kernel
theorem L_114_388 : a_look 114 388 = some (.irem, 0, 0, 0) := by decide +kernel
theorem L_114_389 : a_look 114 389 = some (.invokevirtual 110, 79, 3, 805) := by decide +kernel
theorem L_114_392 : a_look 114 392 = some (.iload 12, 0, 0, 0) := by decide +kernel
theorem L_114_394 : a_look 114 394 = some (.bipush 8, 0, 0, 0) := by decide +kernel
theorem L_114_396 : a_look 114 396 = some (.irem, 0, 0, 0) := by decide +kernel
theorem L_114_397 : a_look 114 397 = some (.bipush 7, 0, 0, 0) := by decide +kernel
theorem L_114_399 : a_look 114 399 = some (.if_icmp .ne 16, 415, 0, 0) := by decide +kernel
theorem L_114_402 : a_look 114 402 = some (.iload 14, 0, 0, 0) := by decide +kernel
theorem L_114_404 : a_look 114 404 = some (.ifCond .eq 7, 411, 0, 0) := by decide +kernel
theorem L_114_407 : a_look 114 407 = some (.iconst 1, 0, 0, 0) := by decide +kernel
theorem L_114_408 : a_look 114 408 = some (.goto 17, 425, 0, 0) := by decide +kernel
theorem L_114_411 : a_look 114 411 = some (.iconst 0, 0, 0, 0) := by decide +kernel
theorem L_114_412 : a_look 114 412 = some (.goto 13, 425, 0, 0) := by decide +kernel
theorem L_114_415 : a_look 114 415 = some (.aload_n 3, 0, 0, 0) := by decide +kernel
theorem L_114_416 : a_look 114 416 = some (.iload 13, 0, 0, 0) := by decide +kernel
theorem L_114_418 : a_look 114 418 = some (.iload 12, 0, 0, 0) := by decide +kernel
theorem L_114_420 : a_look 114 420 = some (.bipush 8, 0, 0, 0) := by decide +kernel
theorem L_114_422 : a_look 114 422 = some (.irem, 0, 0, 0) := by decide +kernel
theorem L_114_423 : a_look 114 423 = some (.iadd, 0, 0, 0) := by decide +kernel
theorem L_114_424 : a_look 114 424 = some (.iaload, 0, 0, 0) := by decide +kernel
theorem L_114_425 : a_look 114 425 = some (.if_icmp .ne 7, 432, 0, 0) := by decide +kernel
theorem L_114_428 : a_look 114 428 = some (.iconst 1, 0, 0, 0) := by decide +kernel
theorem L_114_429 : a_look 114 429 = some (.goto 4, 433, 0, 0) := by decide +kernel
theorem L_114_432 : a_look 114 432 = some (.iconst 0, 0, 0, 0) := by decide +kernel
theorem L_114_433 : a_look 114 433 = some (.istore 11, 0, 0, 0) := by decide +kernel
theorem L_114_435 : a_look 114 435 = some (.iinc 12 1, 0, 0, 0) := by decide +kernel
theorem L_114_438 : a_look 114 438 = some (.goto (-127), 311, 0, 0) := by decide +kernel
theorem L_114_441 : a_look 114 441 = some (.iconst 0, 0, 0, 0) := by decide +kernel
theorem L_114_442 : a_look 114 442 = some (.istore 12, 0, 0, 0) := by decide +kernel
theorem L_114_444 : a_look 114 444 = some (.iload 12, 0, 0, 0) := by decide +kernel
theorem L_114_446 : a_look 114 446 = some (.aload_n 1, 0, 0, 0) := by decide +kernel
theorem L_114_447 : a_look 114 447 = some (.iconst 3, 0, 0, 0) := by decide +kernel
theorem L_114_448 : a_look 114 448 = some (.iaload, 0, 0, 0) := by decide +kernel
theorem L_114_449 : a_look 114 449 = some (.if_icmp .ge 371, 820, 0, 0) := by decide +kernel
theorem L_114_452 : a_look 114 452 = some (.iload 11, 0, 0, 0) := by decide +kernel
theorem L_114_454 : a_look 114 454 = some (.ifCond .eq 366, 820, 0, 0) := by decide +kernel
theorem L_114_457 : a_look 114 457 = some (.aload_n 1, 0, 0, 0) := by decide +kernel
theorem L_114_458 : a_look 114 458 = some (.iconst 0, 0, 0, 0) := by decide +kernel
theorem L_114_459 : a_look 114 459 = some (.iaload, 0, 0, 0) := by decide +kernel
theorem L_114_460 : a_look 114 460 = some (.iconst 1, 0, 0, 0) := by decide +kernel
theorem L_114_461 : a_look 114 461 = some (.iadd, 0, 0, 0) := by decide +kernel
theorem L_114_462 : a_look 114 462 = some (.istore 13, 0, 0, 0) := by decide +kernel
theorem L_114_464 : a_look 114 464 = some (.iload 13, 0, 0, 0) := by decide +kernel
theorem L_114_466 : a_look 114 466 = some (.iload 12, 0, 0, 0) := by decide +kernel
theorem L_114_468 : a_look 114 468 = some (.iadd, 0, 0, 0) := by decide +kernel
theorem L_114_469 : a_look 114 469 = some (.aload_n 1, 0, 0, 0) := by decide +kernel
theorem L_114_470 : a_look 114 470 = some (.bipush 6, 0, 0, 0) := by decide +kernel
theorem L_114_472 : a_look 114 472 = some (.iaload, 0, 0, 0) := by decide +kernel
theorem L_114_473 : a_look 114 473 = some (.irem, 0, 0, 0) := by decide +kernel
theorem L_114_474 : a_look 114 474 = some (.ifCond .le 9, 483, 0, 0) := by decide +kernel
theorem L_114_477 : a_look 114 477 = some (.iinc 13 1, 0, 0, 0) := by decide +kernel
theorem L_114_480 : a_look 114 480 = some (.goto (-16), 464, 0, 0) := by decide +kernel
theorem L_114_483 : a_look 114 483 = some (.iload 8, 0, 0, 0) := by decide +kernel
theorem L_114_485 : a_look 114 485 = some (.aload 6, 0, 0, 0) := by decide +kernel
theorem L_114_487 : a_look 114 487 = some (.iconst 3, 0, 0, 0) := by decide +kernel
theorem L_114_488 : a_look 114 488 = some (.iload 12, 0, 0, 0) := by decide +kernel
theorem L_114_490 : a_look 114 490 = some (.imul, 0, 0, 0) := by decide +kernel
theorem L_114_491 : a_look 114 491 = some (.iaload, 0, 0, 0) := by decide +kernel
theorem L_114_492 : a_look 114 492 = some (.iadd, 0, 0, 0) := by decide +kernel
theorem L_114_493 : a_look 114 493 = some (.istore 8, 0, 0, 0) := by decide +kernel
theorem L_114_495 : a_look 114 495 = some (.iload 9, 0, 0, 0) := by decide +kernel
theorem L_114_497 : a_look 114 497 = some (.aload 6, 0, 0, 0) := by decide +kernel
theorem L_114_499 : a_look 114 499 = some (.iconst 3, 0, 0, 0) := by decide +kernel
theorem L_114_500 : a_look 114 500 = some (.iload 12, 0, 0, 0) := by decide +kernel
theorem L_114_502 : a_look 114 502 = some (.imul, 0, 0, 0) := by decide +kernel
theorem L_114_503 : a_look 114 503 = some (.iconst 1, 0, 0, 0) := by decide +kernel
theorem L_114_504 : a_look 114 504 = some (.iadd, 0, 0, 0) := by decide +kernel
theorem L_114_505 : a_look 114 505 = some (.iaload, 0, 0, 0) := by decide +kernel
theorem L_114_506 : a_look 114 506 = some (.iadd, 0, 0, 0) := by decide +kernel
theorem L_114_507 : a_look 114 507 = some (.istore 9, 0, 0, 0) := by decide +kernel
theorem L_114_509 : a_look 114 509 = some (.iload 10, 0, 0, 0) := by decide +kernel
theorem L_114_511 : a_look 114 511 = some (.aload 6, 0, 0, 0) := by decide +kernel
theorem L_114_513 : a_look 114 513 = some (.iconst 3, 0, 0, 0) := by decide +kernel
theorem L_114_514 : a_look 114 514 = some (.iload 12, 0, 0, 0) := by decide +kernel
theorem L_114_516 : a_look 114 516 = some (.imul, 0, 0, 0) := by decide +kernel
theorem L_114_517 : a_look 114 517 = some (.iconst 2, 0, 0, 0) := by decide +kernel
theorem L_114_518 : a_look 114 518 = some (.iadd, 0, 0, 0) := by decide +kernel
theorem L_114_519 : a_look 114 519 = some (.iaload, 0, 0, 0) := by decide +kernel
theorem L_114_520 : a_look 114 520 = some (.iadd, 0, 0, 0) := by decide +kernel
theorem L_114_521 : a_look 114 521 = some (.istore 10, 0, 0, 0) := by decide +kernel
theorem L_114_523 : a_look 114 523 = some (.aload_n 0, 0, 0, 0) := by decide +kernel
theorem L_114_524 : a_look 114 524 = some (.iload 12, 0, 0, 0) := by decide +kernel
theorem L_114_526 : a_look 114 526 = some (.iconst 0, 0, 0, 0) := by decide +kernel
theorem L_114_527 : a_look 114 527 = some (.invokevirtual 113, 80, 3, 820) := by decide +kernel
theorem L_114_530 : a_look 114 530 = some (.aload 4, 0, 0, 0) := by decide +kernel
theorem L_114_532 : a_look 114 532 = some (.iconst 4, 0, 0, 0) := by decide +kernel
theorem L_114_533 : a_look 114 533 = some (.iload 12, 0, 0, 0) := by decide +kernel
theorem L_114_535 : a_look 114 535 = some (.imul, 0, 0, 0) := by decide +kernel
theorem L_114_536 : a_look 114 536 = some (.iaload, 0, 0, 0) := by decide +kernel
theorem L_114_537 : a_look 114 537 = some (.if_icmp .ne 204, 741, 0, 0) := by decide +kernel
theorem L_114_540 : a_look 114 540 = some (.aload_n 0, 0, 0, 0) := by decide +kernel
theorem L_114_541 : a_look 114 541 = some (.iload 12, 0, 0, 0) := by decide +kernel
theorem L_114_543 : a_look 114 543 = some (.iconst 1, 0, 0, 0) := by decide +kernel
theorem L_114_544 : a_look 114 544 = some (.invokevirtual 113, 80, 3, 820) := by decide +kernel
theorem L_114_547 : a_look 114 547 = some (.aload 4, 0, 0, 0) := by decide +kernel
theorem L_114_549 : a_look 114 549 = some (.iconst 4, 0, 0, 0) := by decide +kernel
theorem L_114_550 : a_look 114 550 = some (.iload 12, 0, 0, 0) := by decide +kernel
theorem L_114_552 : a_look 114 552 = some (.imul, 0, 0, 0) := by decide +kernel
theorem L_114_553 : a_look 114 553 = some (.iconst 1, 0, 0, 0) := by decide +kernel
theorem L_114_554 : a_look 114 554 = some (.iadd, 0, 0, 0) := by decide +kernel
theorem L_114_555 : a_look 114 555 = some (.iaload, 0, 0, 0) := by decide +kernel
theorem L_114_556 : a_look 114 556 = some (.if_icmp .ne 185, 741, 0, 0) := by decide +kernel
theorem L_114_559 : a_look 114 559 = some (.aload_n 0, 0, 0, 0) := by decide +kernel
theorem L_114_560 : a_look 114 560 = some (.iload 12, 0, 0, 0) := by decide +kernel
theorem L_114_562 : a_look 114 562 = some (.iconst 2, 0, 0, 0) := by decide +kernel
theorem L_114_563 : a_look 114 563 = some (.invokevirtual 113, 80, 3, 820) := by decide +kernel
theorem L_114_566 : a_look 114 566 = some (.aload 4, 0, 0, 0) := by decide +kernel
theorem L_114_568 : a_look 114 568 = some (.iconst 4, 0, 0, 0) := by decide +kernel
theorem L_114_569 : a_look 114 569 = some (.iload 12, 0, 0, 0) := by decide +kernel
theorem L_114_571 : a_look 114 571 = some (.imul, 0, 0, 0) := by decide +kernel
theorem L_114_572 : a_look 114 572 = some (.iconst 2, 0, 0, 0) := by decide +kernel
theorem L_114_573 : a_look 114 573 = some (.iadd, 0, 0, 0) := by decide +kernel
theorem L_114_574 : a_look 114 574 = some (.iaload, 0, 0, 0) := by decide +kernel
theorem L_114_575 : a_look 114 575 = some (.if_icmp .ne 166, 741, 0, 0) := by decide +kernel
theorem L_114_578 : a_look 114 578 = some (.aload_n 0, 0, 0, 0) := by decide +kernel
theorem L_114_579 : a_look 114 579 = some (.iload 12, 0, 0, 0) := by decide +kernel
theorem L_114_581 : a_look 114 581 = some (.iconst 3, 0, 0, 0) := by decide +kernel
theorem L_114_582 : a_look 114 582 = some (.invokevirtual 113, 80, 3, 820) := by decide +kernel
theorem L_114_585 : a_look 114 585 = some (.aload 4, 0, 0, 0) := by decide +kernel
theorem L_114_587 : a_look 114 587 = some (.iconst 4, 0, 0, 0) := by decide +kernel
theorem L_114_588 : a_look 114 588 = some (.iload 12, 0, 0, 0) := by decide +kernel
theorem L_114_590 : a_look 114 590 = some (.imul, 0, 0, 0) := by decide +kernel
theorem L_114_591 : a_look 114 591 = some (.iconst 3, 0, 0, 0) := by decide +kernel
theorem L_114_592 : a_look 114 592 = some (.iadd, 0, 0, 0) := by decide +kernel
theorem L_114_593 : a_look 114 593 = some (.iaload, 0, 0, 0) := by decide +kernel
theorem L_114_594 : a_look 114 594 = some (.if_icmp .ne 147, 741, 0, 0) := by decide +kernel
theorem L_114_597 : a_look 114 597 = some (.aload_n 0, 0, 0, 0) := by decide +kernel
theorem L_114_598 : a_look 114 598 = some (.iload 12, 0, 0, 0) := by decide +kernel
theorem L_114_600 : a_look 114 600 = some (.iconst 4, 0, 0, 0) := by decide +kernel
theorem L_114_601 : a_look 114 601 = some (.invokevirtual 113, 80, 3, 820) := by decide +kernel
theorem L_114_604 : a_look 114 604 = some (.aload 5, 0, 0, 0) := by decide +kernel
theorem L_114_606 : a_look 114 606 = some (.iconst 3, 0, 0, 0) := by decide +kernel
theorem L_114_607 : a_look 114 607 = some (.iload 12, 0, 0, 0) := by decide +kernel
theorem L_114_609 : a_look 114 609 = some (.imul, 0, 0, 0) := by decide +kernel
theorem L_114_610 : a_look 114 610 = some (.iaload, 0, 0, 0) := by decide +kernel
theorem L_114_611 : a_look 114 611 = some (.if_icmp .ne 130, 741, 0, 0) := by decide +kernel
theorem L_114_614 : a_look 114 614 = some (.aload_n 0, 0, 0, 0) := by decide +kernel
theorem L_114_615 : a_look 114 615 = some (.iload 12, 0, 0, 0) := by decide +kernel
theorem L_114_617 : a_look 114 617 = some (.iconst 5, 0, 0, 0) := by decide +kernel
theorem L_114_618 : a_look 114 618 = some (.invokevirtual 113, 80, 3, 820) := by decide +kernel
theorem L_114_621 : a_look 114 621 = some (.aload 5, 0, 0, 0) := by decide +kernel
theorem L_114_623 : a_look 114 623 = some (.iconst 3, 0, 0, 0) := by decide +kernel
theorem L_114_624 : a_look 114 624 = some (.iload 12, 0, 0, 0) := by decide +kernel
theorem L_114_626 : a_look 114 626 = some (.imul, 0, 0, 0) := by decide +kernel
theorem L_114_627 : a_look 114 627 = some (.iconst 1, 0, 0, 0) := by decide +kernel
theorem L_114_628 : a_look 114 628 = some (.iadd, 0, 0, 0) := by decide +kernel
theorem L_114_629 : a_look 114 629 = some (.iaload, 0, 0, 0) := by decide +kernel
theorem L_114_630 : a_look 114 630 = some (.if_icmp .ne 111, 741, 0, 0) := by decide +kernel
theorem L_114_633 : a_look 114 633 = some (.aload_n 0, 0, 0, 0) := by decide +kernel
theorem L_114_634 : a_look 114 634 = some (.iload 12, 0, 0, 0) := by decide +kernel
theorem L_114_636 : a_look 114 636 = some (.bipush 6, 0, 0, 0) := by decide +kernel
theorem L_114_638 : a_look 114 638 = some (.invokevirtual 113, 80, 3, 820) := by decide +kernel
theorem L_114_641 : a_look 114 641 = some (.aload 5, 0, 0, 0) := by decide +kernel
theorem L_114_643 : a_look 114 643 = some (.iconst 3, 0, 0, 0) := by decide +kernel
theorem L_114_644 : a_look 114 644 = some (.iload 12, 0, 0, 0) := by decide +kernel
theorem L_114_646 : a_look 114 646 = some (.imul, 0, 0, 0) := by decide +kernel
theorem L_114_647 : a_look 114 647 = some (.iconst 2, 0, 0, 0) := by decide +kernel
theorem L_114_648 : a_look 114 648 = some (.iadd, 0, 0, 0) := by decide +kernel
theorem L_114_649 : a_look 114 649 = some (.iaload, 0, 0, 0) := by decide +kernel
theorem L_114_650 : a_look 114 650 = some (.if_icmp .ne 91, 741, 0, 0) := by decide +kernel
theorem L_114_653 : a_look 114 653 = some (.aload_n 0, 0, 0, 0) := by decide +kernel
theorem L_114_654 : a_look 114 654 = some (.iload 12, 0, 0, 0) := by decide +kernel
theorem L_114_656 : a_look 114 656 = some (.bipush 7, 0, 0, 0) := by decide +kernel
theorem L_114_658 : a_look 114 658 = some (.invokevirtual 113, 80, 3, 820) := by decide +kernel
theorem L_114_661 : a_look 114 661 = some (.aload 6, 0, 0, 0) := by decide +kernel
theorem L_114_663 : a_look 114 663 = some (.iconst 3, 0, 0, 0) := by decide +kernel
theorem L_114_664 : a_look 114 664 = some (.iload 12, 0, 0, 0) := by decide +kernel
theorem L_114_666 : a_look 114 666 = some (.imul, 0, 0, 0) := by decide +kernel
theorem L_114_667 : a_look 114 667 = some (.iaload, 0, 0, 0) := by decide +kernel
theorem L_114_668 : a_look 114 668 = some (.if_icmp .ne 73, 741, 0, 0) := by decide +kernel
theorem L_114_671 : a_look 114 671 = some (.aload_n 0, 0, 0, 0) := by decide +kernel
theorem L_114_672 : a_look 114 672 = some (.iload 12, 0, 0, 0) := by decide +kernel
theorem L_114_674 : a_look 114 674 = some (.bipush 8, 0, 0, 0) := by decide +kernel
theorem L_114_676 : a_look 114 676 = some (.invokevirtual 113, 80, 3, 820) := by decide +kernel
theorem L_114_679 : a_look 114 679 = some (.aload 6, 0, 0, 0) := by decide +kernel
theorem L_114_681 : a_look 114 681 = some (.iconst 3, 0, 0, 0) := by decide +kernel
theorem L_114_682 : a_look 114 682 = some (.iload 12, 0, 0, 0) := by decide +kernel
theorem L_114_684 : a_look 114 684 = some (.imul, 0, 0, 0) := by decide +kernel
theorem L_114_685 : a_look 114 685 = some (.iconst 1, 0, 0, 0) := by decide +kernel
theorem L_114_686 : a_look 114 686 = some (.iadd, 0, 0, 0) := by decide +kernel
theorem L_114_687 : a_look 114 687 = some (.iaload, 0, 0, 0) := by decide +kernel
theorem L_114_688 : a_look 114 688 = some (.if_icmp .ne 53, 741, 0, 0) := by decide +kernel
theorem L_114_691 : a_look 114 691 = some (.aload_n 0, 0, 0, 0) := by decide +kernel
theorem L_114_692 : a_look 114 692 = some (.iload 12, 0, 0, 0) := by decide +kernel
theorem L_114_694 : a_look 114 694 = some (.bipush 9, 0, 0, 0) := by decide +kernel
theorem L_114_696 : a_look 114 696 = some (.invokevirtual 113, 80, 3, 820) := by decide +kernel
theorem L_114_699 : a_look 114 699 = some (.aload 6, 0, 0, 0) := by decide +kernel
theorem L_114_701 : a_look 114 701 = some (.iconst 3, 0, 0, 0) := by decide +kernel
theorem L_114_702 : a_look 114 702 = some (.iload 12, 0, 0, 0) := by decide +kernel
theorem L_114_704 : a_look 114 704 = some (.imul, 0, 0, 0) := by decide +kernel
theorem L_114_705 : a_look 114 705 = some (.iconst 2, 0, 0, 0) := by decide +kernel
theorem L_114_706 : a_look 114 706 = some (.iadd, 0, 0, 0) := by decide +kernel
theorem L_114_707 : a_look 114 707 = some (.iaload, 0, 0, 0) := by decide +kernel
theorem L_114_708 : a_look 114 708 = some (.if_icmp .ne 33, 741, 0, 0) := by decide +kernel
theorem L_114_711 : a_look 114 711 = some (.aload_n 0, 0, 0, 0) := by decide +kernel
theorem L_114_712 : a_look 114 712 = some (.iload 12, 0, 0, 0) := by decide +kernel
theorem L_114_714 : a_look 114 714 = some (.bipush 10, 0, 0, 0) := by decide +kernel
theorem L_114_716 : a_look 114 716 = some (.invokevirtual 113, 80, 3, 820) := by decide +kernel
theorem L_114_719 : a_look 114 719 = some (.iload 13, 0, 0, 0) := by decide +kernel
theorem L_114_721 : a_look 114 721 = some (.if_icmp .ne 20, 741, 0, 0) := by decide +kernel
theorem L_114_724 : a_look 114 724 = some (.aload_n 0, 0, 0, 0) := by decide +kernel
theorem L_114_725 : a_look 114 725 = some (.iload 12, 0, 0, 0) := by decide +kernel
theorem L_114_727 : a_look 114 727 = some (.bipush 11, 0, 0, 0) := by decide +kernel
theorem L_114_729 : a_look 114 729 = some (.invokevirtual 113, 80, 3, 820) := by decide +kernel
theorem L_114_732 : a_look 114 732 = some (.bipush (-2), 0, 0, 0) := by decide +kernel
theorem L_114_734 : a_look 114 734 = some (.if_icmp .ne 7, 741, 0, 0) := by decide +kernel
theorem L_114_737 : a_look 114 737 = some (.iconst 1, 0, 0, 0) := by decide +kernel
theorem L_114_738 : a_look 114 738 = some (.goto 4, 742, 0, 0) := by decide +kernel
theorem L_114_741 : a_look 114 741 = some (.iconst 0, 0, 0, 0) := by decide +kernel
theorem L_114_742 : a_look 114 742 = some (.istore 11, 0, 0, 0) := by decide +kernel
theorem L_114_744 : a_look 114 744 = some (.iload 11, 0, 0, 0) := by decide +kernel
theorem L_114_746 : a_look 114 746 = some (.ifCond .eq 65, 811, 0, 0) := by decide +kernel
theorem L_114_749 : a_look 114 749 = some (.aload 4, 0, 0, 0) := by decide +kernel
theorem L_114_751 : a_look 114 751 = some (.iconst 4, 0, 0, 0) := by decide +kernel
theorem L_114_752 : a_look 114 752 = some (.iload 12, 0, 0, 0) := by decide +kernel
theorem L_114_754 : a_look 114 754 = some (.imul, 0, 0, 0) := by decide +kernel
theorem L_114_755 : a_look 114 755 = some (.iconst 3, 0, 0, 0) := by decide +kernel
theorem L_114_756 : a_look 114 756 = some (.iadd, 0, 0, 0) := by decide +kernel
theorem L_114_757 : a_look 114 757 = some (.iaload, 0, 0, 0) := by decide +kernel
theorem L_114_758 : a_look 114 758 = some (.ifCond .lt 49, 807, 0, 0) := by decide +kernel
theorem L_114_761 : a_look 114 761 = some (.aload_n 1, 0, 0, 0) := by decide +kernel
theorem L_114_762 : a_look 114 762 = some (.aload_n 2, 0, 0, 0) := by decide +kernel
theorem L_114_763 : a_look 114 763 = some (.aload_n 3, 0, 0, 0) := by decide +kernel
theorem L_114_764 : a_look 114 764 = some (.aload 4, 0, 0, 0) := by decide +kernel
theorem L_114_766 : a_look 114 766 = some (.iload 12, 0, 0, 0) := by decide +kernel
theorem L_114_768 : a_look 114 768 = some (.aload 4, 0, 0, 0) := by decide +kernel
theorem L_114_770 : a_look 114 770 = some (.iconst 4, 0, 0, 0) := by decide +kernel
theorem L_114_771 : a_look 114 771 = some (.iload 12, 0, 0, 0) := by decide +kernel
theorem L_114_773 : a_look 114 773 = some (.imul, 0, 0, 0) := by decide +kernel
theorem L_114_774 : a_look 114 774 = some (.iconst 3, 0, 0, 0) := by decide +kernel
theorem L_114_775 : a_look 114 775 = some (.iadd, 0, 0, 0) := by decide +kernel
theorem L_114_776 : a_look 114 776 = some (.iaload, 0, 0, 0) := by decide +kernel
theorem L_114_777 : a_look 114 777 = some (.aload 5, 0, 0, 0) := by decide +kernel
theorem L_114_779 : a_look 114 779 = some (.iconst 3, 0, 0, 0) := by decide +kernel
theorem L_114_780 : a_look 114 780 = some (.iload 12, 0, 0, 0) := by decide +kernel
theorem L_114_782 : a_look 114 782 = some (.imul, 0, 0, 0) := by decide +kernel
theorem L_114_783 : a_look 114 783 = some (.iaload, 0, 0, 0) := by decide +kernel
theorem L_114_784 : a_look 114 784 = some (.invokestatic 26, 103, 7, 319) := by decide +kernel
theorem L_114_787 : a_look 114 787 = some (.aload 5, 0, 0, 0) := by decide +kernel
theorem L_114_789 : a_look 114 789 = some (.iconst 3, 0, 0, 0) := by decide +kernel
theorem L_114_790 : a_look 114 790 = some (.iload 12, 0, 0, 0) := by decide +kernel
theorem L_114_792 : a_look 114 792 = some (.imul, 0, 0, 0) := by decide +kernel
theorem L_114_793 : a_look 114 793 = some (.iconst 2, 0, 0, 0) := by decide +kernel
theorem L_114_794 : a_look 114 794 = some (.iadd, 0, 0, 0) := by decide +kernel
theorem L_114_795 : a_look 114 795 = some (.iaload, 0, 0, 0) := by decide +kernel
theorem L_114_796 : a_look 114 796 = some (.ifCond .ge 7, 803, 0, 0) := by decide +kernel
theorem L_114_799 : a_look 114 799 = some (.iconst 1, 0, 0, 0) := by decide +kernel
theorem L_114_800 : a_look 114 800 = some (.goto 4, 804, 0, 0) := by decide +kernel
theorem L_114_803 : a_look 114 803 = some (.iconst 0, 0, 0, 0) := by decide +kernel
theorem L_114_804 : a_look 114 804 = some (.if_icmp .ne 7, 811, 0, 0) := by decide +kernel
theorem L_114_807 : a_look 114 807 = some (.iconst 1, 0, 0, 0) := by decide +kernel
theorem L_114_808 : a_look 114 808 = some (.goto 4, 812, 0, 0) := by decide +kernel
theorem L_114_811 : a_look 114 811 = some (.iconst 0, 0, 0, 0) := by decide +kernel
theorem L_114_812 : a_look 114 812 = some (.istore 11, 0, 0, 0) := by decide +kernel
theorem L_114_814 : a_look 114 814 = some (.iinc 12 1, 0, 0, 0) := by decide +kernel
theorem L_114_817 : a_look 114 817 = some (.goto (-373), 444, 0, 0) := by decide +kernel
theorem L_114_820 : a_look 114 820 = some (.iconst 0, 0, 0, 0) := by decide +kernel
theorem L_114_821 : a_look 114 821 = some (.istore 12, 0, 0, 0) := by decide +kernel
theorem L_114_823 : a_look 114 823 = some (.iconst 0, 0, 0, 0) := by decide +kernel
theorem L_114_824 : a_look 114 824 = some (.istore 13, 0, 0, 0) := by decide +kernel
theorem L_114_826 : a_look 114 826 = some (.iload 13, 0, 0, 0) := by decide +kernel
theorem L_114_828 : a_look 114 828 = some (.bipush 8, 0, 0, 0) := by decide +kernel
theorem L_114_830 : a_look 114 830 = some (.if_icmp .ge 83, 913, 0, 0) := by decide +kernel
theorem L_114_833 : a_look 114 833 = some (.iload 11, 0, 0, 0) := by decide +kernel
theorem L_114_835 : a_look 114 835 = some (.ifCond .eq 78, 913, 0, 0) := by decide +kernel
theorem L_114_838 : a_look 114 838 = some (.iconst 0, 0, 0, 0) := by decide +kernel
theorem L_114_839 : a_look 114 839 = some (.istore 14, 0, 0, 0) := by decide +kernel
theorem L_114_841 : a_look 114 841 = some (.iconst 0, 0, 0, 0) := by decide +kernel
theorem L_114_842 : a_look 114 842 = some (.istore 15, 0, 0, 0) := by decide +kernel
theorem L_114_844 : a_look 114 844 = some (.iload 15, 0, 0, 0) := by decide +kernel
theorem L_114_846 : a_look 114 846 = some (.aload_n 1, 0, 0, 0) := by decide +kernel
theorem L_114_847 : a_look 114 847 = some (.iconst 3, 0, 0, 0) := by decide +kernel
theorem L_114_848 : a_look 114 848 = some (.iaload, 0, 0, 0) := by decide +kernel
theorem L_114_849 : a_look 114 849 = some (.if_icmp .ge 33, 882, 0, 0) := by decide +kernel
theorem L_114_852 : a_look 114 852 = some (.iload 14, 0, 0, 0) := by decide +kernel
theorem L_114_854 : a_look 114 854 = some (.aload 4, 0, 0, 0) := by decide +kernel
theorem L_114_856 : a_look 114 856 = some (.iconst 4, 0, 0, 0) := by decide +kernel
theorem L_114_857 : a_look 114 857 = some (.iload 15, 0, 0, 0) := by decide +kernel
theorem L_114_859 : a_look 114 859 = some (.imul, 0, 0, 0) := by decide +kernel
theorem L_114_860 : a_look 114 860 = some (.iconst 3, 0, 0, 0) := by decide +kernel
theorem L_114_861 : a_look 114 861 = some (.iadd, 0, 0, 0) := by decide +kernel
theorem L_114_862 : a_look 114 862 = some (.iaload, 0, 0, 0) := by decide +kernel
theorem L_114_863 : a_look 114 863 = some (.iload 13, 0, 0, 0) := by decide +kernel
theorem L_114_865 : a_look 114 865 = some (.if_icmp .ne 7, 872, 0, 0) := by decide +kernel
theorem L_114_868 : a_look 114 868 = some (.iconst 1, 0, 0, 0) := by decide +kernel
theorem L_114_869 : a_look 114 869 = some (.goto 4, 873, 0, 0) := by decide +kernel
theorem L_114_872 : a_look 114 872 = some (.iconst 0, 0, 0, 0) := by decide +kernel
theorem L_114_873 : a_look 114 873 = some (.iadd, 0, 0, 0) := by decide +kernel
theorem L_114_874 : a_look 114 874 = some (.istore 14, 0, 0, 0) := by decide +kernel
theorem L_114_876 : a_look 114 876 = some (.iinc 15 1, 0, 0, 0) := by decide +kernel
theorem L_114_879 : a_look 114 879 = some (.goto (-35), 844, 0, 0) := by decide +kernel
theorem L_114_882 : a_look 114 882 = some (.iload 12, 0, 0, 0) := by decide +kernel
theorem L_114_884 : a_look 114 884 = some (.iload 14, 0, 0, 0) := by decide +kernel
theorem L_114_886 : a_look 114 886 = some (.iadd, 0, 0, 0) := by decide +kernel
theorem L_114_887 : a_look 114 887 = some (.istore 12, 0, 0, 0) := by decide +kernel
theorem L_114_889 : a_look 114 889 = some (.aload_n 0, 0, 0, 0) := by decide +kernel
theorem L_114_890 : a_look 114 890 = some (.iload 13, 0, 0, 0) := by decide +kernel
theorem L_114_892 : a_look 114 892 = some (.invokevirtual 116, 84, 2, 917) := by decide +kernel
theorem L_114_895 : a_look 114 895 = some (.iload 14, 0, 0, 0) := by decide +kernel
theorem L_114_897 : a_look 114 897 = some (.if_icmp .ne 7, 904, 0, 0) := by decide +kernel
theorem L_114_900 : a_look 114 900 = some (.iconst 1, 0, 0, 0) := by decide +kernel
theorem L_114_901 : a_look 114 901 = some (.goto 4, 905, 0, 0) := by decide +kernel
theorem L_114_904 : a_look 114 904 = some (.iconst 0, 0, 0, 0) := by decide +kernel
theorem L_114_905 : a_look 114 905 = some (.istore 11, 0, 0, 0) := by decide +kernel
theorem L_114_907 : a_look 114 907 = some (.iinc 13 1, 0, 0, 0) := by decide +kernel
theorem L_114_910 : a_look 114 910 = some (.goto (-84), 826, 0, 0) := by decide +kernel
theorem L_114_913 : a_look 114 913 = some (.iload 11, 0, 0, 0) := by decide +kernel
theorem L_114_915 : a_look 114 915 = some (.ifCond .eq 97, 1012, 0, 0) := by decide +kernel
theorem L_114_918 : a_look 114 918 = some (.iload 12, 0, 0, 0) := by decide +kernel
theorem L_114_920 : a_look 114 920 = some (.aload_n 1, 0, 0, 0) := by decide +kernel
theorem L_114_921 : a_look 114 921 = some (.aload 4, 0, 0, 0) := by decide +kernel
theorem L_114_923 : a_look 114 923 = some (.invokestatic 82, 108, 2, 1001) := by decide +kernel
theorem L_114_926 : a_look 114 926 = some (.if_icmp .ne 86, 1012, 0, 0) := by decide +kernel
theorem L_114_929 : a_look 114 929 = some (.aload_n 0, 0, 0, 0) := by decide +kernel
theorem L_114_930 : a_look 114 930 = some (.iconst 0, 0, 0, 0) := by decide +kernel
theorem L_114_931 : a_look 114 931 = some (.invokevirtual 118, 85, 2, 1004) := by decide +kernel
theorem L_114_934 : a_look 114 934 = some (.aload_n 1, 0, 0, 0) := by decide +kernel
theorem L_114_935 : a_look 114 935 = some (.iconst 0, 0, 0, 0) := by decide +kernel
theorem L_114_936 : a_look 114 936 = some (.iaload, 0, 0, 0) := by decide +kernel
theorem L_114_937 : a_look 114 937 = some (.if_icmp .ne 75, 1012, 0, 0) := by decide +kernel
theorem L_114_940 : a_look 114 940 = some (.aload_n 0, 0, 0, 0) := by decide +kernel
theorem L_114_941 : a_look 114 941 = some (.iconst 1, 0, 0, 0) := by decide +kernel
theorem L_114_942 : a_look 114 942 = some (.invokevirtual 118, 85, 2, 1004) := by decide +kernel
theorem L_114_945 : a_look 114 945 = some (.aload_n 1, 0, 0, 0) := by decide +kernel
theorem L_114_946 : a_look 114 946 = some (.iconst 1, 0, 0, 0) := by decide +kernel
theorem L_114_947 : a_look 114 947 = some (.iaload, 0, 0, 0) := by decide +kernel
theorem L_114_948 : a_look 114 948 = some (.if_icmp .ne 64, 1012, 0, 0) := by decide +kernel
theorem L_114_951 : a_look 114 951 = some (.aload_n 0, 0, 0, 0) := by decide +kernel
theorem L_114_952 : a_look 114 952 = some (.iconst 2, 0, 0, 0) := by decide +kernel
theorem L_114_953 : a_look 114 953 = some (.invokevirtual 118, 85, 2, 1004) := by decide +kernel
theorem L_114_956 : a_look 114 956 = some (.aload_n 1, 0, 0, 0) := by decide +kernel
theorem L_114_957 : a_look 114 957 = some (.iconst 2, 0, 0, 0) := by decide +kernel
theorem L_114_958 : a_look 114 958 = some (.iaload, 0, 0, 0) := by decide +kernel
theorem L_114_959 : a_look 114 959 = some (.if_icmp .ne 53, 1012, 0, 0) := by decide +kernel
theorem L_114_962 : a_look 114 962 = some (.aload_n 0, 0, 0, 0) := by decide +kernel
theorem L_114_963 : a_look 114 963 = some (.iconst 3, 0, 0, 0) := by decide +kernel
theorem L_114_964 : a_look 114 964 = some (.invokevirtual 118, 85, 2, 1004) := by decide +kernel
theorem L_114_967 : a_look 114 967 = some (.aload_n 1, 0, 0, 0) := by decide +kernel
theorem L_114_968 : a_look 114 968 = some (.iconst 3, 0, 0, 0) := by decide +kernel
theorem L_114_969 : a_look 114 969 = some (.iaload, 0, 0, 0) := by decide +kernel
theorem L_114_970 : a_look 114 970 = some (.if_icmp .ne 42, 1012, 0, 0) := by decide +kernel
theorem L_114_973 : a_look 114 973 = some (.aload_n 0, 0, 0, 0) := by decide +kernel
theorem L_114_974 : a_look 114 974 = some (.iconst 4, 0, 0, 0) := by decide +kernel
theorem L_114_975 : a_look 114 975 = some (.invokevirtual 118, 85, 2, 1004) := by decide +kernel
theorem L_114_978 : a_look 114 978 = some (.iload 7, 0, 0, 0) := by decide +kernel
theorem L_114_980 : a_look 114 980 = some (.if_icmp .ne 32, 1012, 0, 0) := by decide +kernel
theorem L_114_983 : a_look 114 983 = some (.aload_n 0, 0, 0, 0) := by decide +kernel
theorem L_114_984 : a_look 114 984 = some (.iconst 5, 0, 0, 0) := by decide +kernel
theorem L_114_985 : a_look 114 985 = some (.invokevirtual 118, 85, 2, 1004) := by decide +kernel
theorem L_114_988 : a_look 114 988 = some (.iload 12, 0, 0, 0) := by decide +kernel
theorem L_114_990 : a_look 114 990 = some (.if_icmp .ne 22, 1012, 0, 0) := by decide +kernel
theorem L_114_993 : a_look 114 993 = some (.aload_n 0, 0, 0, 0) := by decide +kernel
theorem L_114_994 : a_look 114 994 = some (.bipush 6, 0, 0, 0) := by decide +kernel
theorem L_114_996 : a_look 114 996 = some (.invokevirtual 118, 85, 2, 1004) := by decide +kernel
theorem L_114_999 : a_look 114 999 = some (.aload_n 1, 0, 0, 0) := by decide +kernel
theorem L_114_1000 : a_look 114 1000 = some (.aload 5, 0, 0, 0) := by decide +kernel
theorem L_114_1002 : a_look 114 1002 = some (.invokestatic 62, 107, 2, 1110) := by decide +kernel
theorem L_114_1005 : a_look 114 1005 = some (.if_icmp .ne 7, 1012, 0, 0) := by decide +kernel
theorem L_114_1008 : a_look 114 1008 = some (.iconst 1, 0, 0, 0) := by decide +kernel
theorem L_114_1009 : a_look 114 1009 = some (.goto 4, 1013, 0, 0) := by decide +kernel
theorem L_114_1012 : a_look 114 1012 = some (.iconst 0, 0, 0, 0) := by decide +kernel
theorem L_114_1013 : a_look 114 1013 = some (.istore 11, 0, 0, 0) := by decide +kernel
theorem L_114_1015 : a_look 114 1015 = some (.iload 11, 0, 0, 0) := by decide +kernel
theorem L_114_1017 : a_look 114 1017 = some (.ifCond .eq 99, 1116, 0, 0) := by decide +kernel
theorem L_114_1020 : a_look 114 1020 = some (.aload_n 0, 0, 0, 0) := by decide +kernel
theorem L_114_1021 : a_look 114 1021 = some (.bipush 7, 0, 0, 0) := by decide +kernel
theorem L_114_1023 : a_look 114 1023 = some (.invokevirtual 118, 85, 2, 1004) := by decide +kernel
theorem L_114_1026 : a_look 114 1026 = some (.iload 8, 0, 0, 0) := by decide +kernel
theorem L_114_1028 : a_look 114 1028 = some (.if_icmp .ne 88, 1116, 0, 0) := by decide +kernel
theorem L_114_1031 : a_look 114 1031 = some (.aload_n 0, 0, 0, 0) := by decide +kernel
theorem L_114_1032 : a_look 114 1032 = some (.bipush 8, 0, 0, 0) := by decide +kernel
theorem L_114_1034 : a_look 114 1034 = some (.invokevirtual 118, 85, 2, 1004) := by decide +kernel
theorem L_114_1037 : a_look 114 1037 = some (.iload 9, 0, 0, 0) := by decide +kernel
theorem L_114_1039 : a_look 114 1039 = some (.if_icmp .ne 77, 1116, 0, 0) := by decide +kernel
theorem L_114_1042 : a_look 114 1042 = some (.aload_n 0, 0, 0, 0) := by decide +kernel
theorem L_114_1043 : a_look 114 1043 = some (.bipush 9, 0, 0, 0) := by decide +kernel
theorem L_114_1045 : a_look 114 1045 = some (.invokevirtual 118, 85, 2, 1004) := by decide +kernel
theorem L_114_1048 : a_look 114 1048 = some (.iload 10, 0, 0, 0) := by decide +kernel
theorem L_114_1050 : a_look 114 1050 = some (.if_icmp .ne 66, 1116, 0, 0) := by decide +kernel
theorem L_114_1053 : a_look 114 1053 = some (.aload_n 0, 0, 0, 0) := by decide +kernel
theorem L_114_1054 : a_look 114 1054 = some (.bipush 10, 0, 0, 0) := by decide +kernel
theorem L_114_1056 : a_look 114 1056 = some (.invokevirtual 118, 85, 2, 1004) := by decide +kernel
theorem L_114_1059 : a_look 114 1059 = some (.aload_n 1, 0, 0, 0) := by decide +kernel
theorem L_114_1060 : a_look 114 1060 = some (.iconst 4, 0, 0, 0) := by decide +kernel
theorem L_114_1061 : a_look 114 1061 = some (.iaload, 0, 0, 0) := by decide +kernel
theorem L_114_1062 : a_look 114 1062 = some (.if_icmp .ne 54, 1116, 0, 0) := by decide +kernel
theorem L_114_1065 : a_look 114 1065 = some (.aload_n 0, 0, 0, 0) := by decide +kernel
theorem L_114_1066 : a_look 114 1066 = some (.bipush 12, 0, 0, 0) := by decide +kernel
theorem L_114_1068 : a_look 114 1068 = some (.invokevirtual 118, 85, 2, 1004) := by decide +kernel
theorem L_114_1071 : a_look 114 1071 = some (.ifCond .ne 45, 1116, 0, 0) := by decide +kernel
theorem L_114_1074 : a_look 114 1074 = some (.aload_n 0, 0, 0, 0) := by decide +kernel
theorem L_114_1075 : a_look 114 1075 = some (.bipush 13, 0, 0, 0) := by decide +kernel
theorem L_114_1077 : a_look 114 1077 = some (.invokevirtual 118, 85, 2, 1004) := by decide +kernel
theorem L_114_1080 : a_look 114 1080 = some (.aload_n 1, 0, 0, 0) := by decide +kernel
theorem L_114_1081 : a_look 114 1081 = some (.iconst 5, 0, 0, 0) := by decide +kernel
theorem L_114_1082 : a_look 114 1082 = some (.iaload, 0, 0, 0) := by decide +kernel
theorem L_114_1083 : a_look 114 1083 = some (.if_icmp .ne 33, 1116, 0, 0) := by decide +kernel
theorem L_114_1086 : a_look 114 1086 = some (.aload_n 0, 0, 0, 0) := by decide +kernel
theorem L_114_1087 : a_look 114 1087 = some (.bipush 14, 0, 0, 0) := by decide +kernel
theorem L_114_1089 : a_look 114 1089 = some (.invokevirtual 118, 85, 2, 1004) := by decide +kernel
theorem L_114_1092 : a_look 114 1092 = some (.aload_n 1, 0, 0, 0) := by decide +kernel
theorem L_114_1093 : a_look 114 1093 = some (.bipush 6, 0, 0, 0) := by decide +kernel
theorem L_114_1095 : a_look 114 1095 = some (.iaload, 0, 0, 0) := by decide +kernel
theorem L_114_1096 : a_look 114 1096 = some (.if_icmp .ne 20, 1116, 0, 0) := by decide +kernel
theorem L_114_1099 : a_look 114 1099 = some (.aload_n 0, 0, 0, 0) := by decide +kernel
theorem L_114_1100 : a_look 114 1100 = some (.bipush 15, 0, 0, 0) := by decide +kernel
theorem L_114_1102 : a_look 114 1102 = some (.invokevirtual 118, 85, 2, 1004) := by decide +kernel
theorem L_114_1105 : a_look 114 1105 = some (.aload_n 1, 0, 0, 0) := by decide +kernel
theorem L_114_1106 : a_look 114 1106 = some (.bipush 7, 0, 0, 0) := by decide +kernel
theorem L_114_1108 : a_look 114 1108 = some (.iaload, 0, 0, 0) := by decide +kernel
theorem L_114_1109 : a_look 114 1109 = some (.if_icmp .ne 7, 1116, 0, 0) := by decide +kernel
theorem L_114_1112 : a_look 114 1112 = some (.iconst 1, 0, 0, 0) := by decide +kernel
theorem L_114_1113 : a_look 114 1113 = some (.goto 4, 1117, 0, 0) := by decide +kernel
theorem L_114_1116 : a_look 114 1116 = some (.iconst 0, 0, 0, 0) := by decide +kernel
theorem L_114_1117 : a_look 114 1117 = some (.ireturn, 0, 0, 0) := by decide +kernel
