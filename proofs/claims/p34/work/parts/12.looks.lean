/-! code rows -/
theorem L_14_0 : a_look 14 0 = some (.iload_n 2, 0, 0, 0) := by decide +kernel
theorem L_14_1 : a_look 14 1 = some (.tableswitch 166 0 8 #[51, 58, 65, 72, 92, 112, 132, 152, 159], 0, 51, 0) := by decide +kernel
theorem L_14_52 : a_look 14 52 = some (.aload_n 0, 0, 0, 0) := by decide +kernel
theorem L_14_53 : a_look 14 53 = some (.getfield 9, 1, 0, 217) := by decide +kernel
theorem L_14_56 : a_look 14 56 = some (.iload_n 1, 0, 0, 0) := by decide +kernel
theorem L_14_57 : a_look 14 57 = some (.iaload, 0, 0, 0) := by decide +kernel
theorem L_14_58 : a_look 14 58 = some (.ireturn, 0, 0, 0) := by decide +kernel
theorem L_14_59 : a_look 14 59 = some (.aload_n 0, 0, 0, 0) := by decide +kernel
theorem L_14_60 : a_look 14 60 = some (.getfield 15, 1, 1, 218) := by decide +kernel
theorem L_14_63 : a_look 14 63 = some (.iload_n 1, 0, 0, 0) := by decide +kernel
theorem L_14_64 : a_look 14 64 = some (.iaload, 0, 0, 0) := by decide +kernel
theorem L_14_65 : a_look 14 65 = some (.ireturn, 0, 0, 0) := by decide +kernel
theorem L_14_66 : a_look 14 66 = some (.aload_n 0, 0, 0, 0) := by decide +kernel
theorem L_14_67 : a_look 14 67 = some (.getfield 18, 1, 2, 219) := by decide +kernel
theorem L_14_70 : a_look 14 70 = some (.iload_n 1, 0, 0, 0) := by decide +kernel
theorem L_14_71 : a_look 14 71 = some (.iaload, 0, 0, 0) := by decide +kernel
theorem L_14_72 : a_look 14 72 = some (.ireturn, 0, 0, 0) := by decide +kernel
theorem L_14_73 : a_look 14 73 = some (.aload_n 0, 0, 0, 0) := by decide +kernel
theorem L_14_74 : a_look 14 74 = some (.iload_n 1, 0, 0, 0) := by decide +kernel
theorem L_14_75 : a_look 14 75 = some (.invokevirtual 46, 10, 2, 912) := by decide +kernel
theorem L_14_78 : a_look 14 78 = some (.ifCond .eq 12, 90, 0, 0) := by decide +kernel
theorem L_14_81 : a_look 14 81 = some (.aload_n 0, 0, 0, 0) := by decide +kernel
theorem L_14_82 : a_look 14 82 = some (.getfield 21, 1, 3, 220) := by decide +kernel
theorem L_14_85 : a_look 14 85 = some (.iload_n 1, 0, 0, 0) := by decide +kernel
theorem L_14_86 : a_look 14 86 = some (.iaload, 0, 0, 0) := by decide +kernel
theorem L_14_87 : a_look 14 87 = some (.goto 5, 92, 0, 0) := by decide +kernel
theorem L_14_90 : a_look 14 90 = some (.bipush (-6), 0, 0, 0) := by decide +kernel
theorem L_14_92 : a_look 14 92 = some (.ireturn, 0, 0, 0) := by decide +kernel
theorem L_14_93 : a_look 14 93 = some (.aload_n 0, 0, 0, 0) := by decide +kernel
theorem L_14_94 : a_look 14 94 = some (.iload_n 1, 0, 0, 0) := by decide +kernel
theorem L_14_95 : a_look 14 95 = some (.invokevirtual 46, 10, 2, 912) := by decide +kernel
theorem L_14_98 : a_look 14 98 = some (.ifCond .eq 12, 110, 0, 0) := by decide +kernel
theorem L_14_101 : a_look 14 101 = some (.aload_n 0, 0, 0, 0) := by decide +kernel
theorem L_14_102 : a_look 14 102 = some (.getfield 24, 1, 4, 221) := by decide +kernel
theorem L_14_105 : a_look 14 105 = some (.iload_n 1, 0, 0, 0) := by decide +kernel
theorem L_14_106 : a_look 14 106 = some (.iaload, 0, 0, 0) := by decide +kernel
theorem L_14_107 : a_look 14 107 = some (.goto 5, 112, 0, 0) := by decide +kernel
theorem L_14_110 : a_look 14 110 = some (.bipush (-6), 0, 0, 0) := by decide +kernel
theorem L_14_112 : a_look 14 112 = some (.ireturn, 0, 0, 0) := by decide +kernel
theorem L_14_113 : a_look 14 113 = some (.aload_n 0, 0, 0, 0) := by decide +kernel
theorem L_14_114 : a_look 14 114 = some (.iload_n 1, 0, 0, 0) := by decide +kernel
theorem L_14_115 : a_look 14 115 = some (.invokevirtual 46, 10, 2, 912) := by decide +kernel
theorem L_14_118 : a_look 14 118 = some (.ifCond .eq 12, 130, 0, 0) := by decide +kernel
theorem L_14_121 : a_look 14 121 = some (.aload_n 0, 0, 0, 0) := by decide +kernel
theorem L_14_122 : a_look 14 122 = some (.getfield 27, 1, 5, 222) := by decide +kernel
theorem L_14_125 : a_look 14 125 = some (.iload_n 1, 0, 0, 0) := by decide +kernel
theorem L_14_126 : a_look 14 126 = some (.iaload, 0, 0, 0) := by decide +kernel
theorem L_14_127 : a_look 14 127 = some (.goto 5, 132, 0, 0) := by decide +kernel
theorem L_14_130 : a_look 14 130 = some (.bipush (-6), 0, 0, 0) := by decide +kernel
theorem L_14_132 : a_look 14 132 = some (.ireturn, 0, 0, 0) := by decide +kernel
theorem L_14_133 : a_look 14 133 = some (.aload_n 0, 0, 0, 0) := by decide +kernel
theorem L_14_134 : a_look 14 134 = some (.iload_n 1, 0, 0, 0) := by decide +kernel
theorem L_14_135 : a_look 14 135 = some (.invokevirtual 50, 11, 2, 913) := by decide +kernel
theorem L_14_138 : a_look 14 138 = some (.ifCond .eq 12, 150, 0, 0) := by decide +kernel
theorem L_14_141 : a_look 14 141 = some (.aload_n 0, 0, 0, 0) := by decide +kernel
theorem L_14_142 : a_look 14 142 = some (.getfield 30, 1, 6, 223) := by decide +kernel
theorem L_14_145 : a_look 14 145 = some (.iload_n 1, 0, 0, 0) := by decide +kernel
theorem L_14_146 : a_look 14 146 = some (.iaload, 0, 0, 0) := by decide +kernel
theorem L_14_147 : a_look 14 147 = some (.goto 5, 152, 0, 0) := by decide +kernel
theorem L_14_150 : a_look 14 150 = some (.bipush (-6), 0, 0, 0) := by decide +kernel
theorem L_14_152 : a_look 14 152 = some (.ireturn, 0, 0, 0) := by decide +kernel
theorem L_14_153 : a_look 14 153 = some (.aload_n 0, 0, 0, 0) := by decide +kernel
theorem L_14_154 : a_look 14 154 = some (.getfield 33, 1, 7, 300) := by decide +kernel
theorem L_14_157 : a_look 14 157 = some (.iload_n 1, 0, 0, 0) := by decide +kernel
theorem L_14_158 : a_look 14 158 = some (.iaload, 0, 0, 0) := by decide +kernel
theorem L_14_159 : a_look 14 159 = some (.ireturn, 0, 0, 0) := by decide +kernel
theorem L_14_160 : a_look 14 160 = some (.aload_n 0, 0, 0, 0) := by decide +kernel
theorem L_14_161 : a_look 14 161 = some (.getfield 36, 1, 8, 301) := by decide +kernel
theorem L_14_164 : a_look 14 164 = some (.iload_n 1, 0, 0, 0) := by decide +kernel
theorem L_14_165 : a_look 14 165 = some (.iaload, 0, 0, 0) := by decide +kernel
theorem L_14_166 : a_look 14 166 = some (.ireturn, 0, 0, 0) := by decide +kernel
theorem L_14_167 : a_look 14 167 = some (.aload_n 0, 0, 0, 0) := by decide +kernel
theorem L_14_168 : a_look 14 168 = some (.getfield 39, 1, 9, 302) := by decide +kernel
theorem L_14_171 : a_look 14 171 = some (.iload_n 1, 0, 0, 0) := by decide +kernel
theorem L_14_172 : a_look 14 172 = some (.iaload, 0, 0, 0) := by decide +kernel
theorem L_14_173 : a_look 14 173 = some (.ireturn, 0, 0, 0) := by decide +kernel
theorem L_15_0 : a_look 15 0 = some (.iconst 0, 0, 0, 0) := by decide +kernel
theorem L_15_1 : a_look 15 1 = some (.istore_n 1, 0, 0, 0) := by decide +kernel
theorem L_15_2 : a_look 15 2 = some (.iconst 0, 0, 0, 0) := by decide +kernel
theorem L_15_3 : a_look 15 3 = some (.istore_n 2, 0, 0, 0) := by decide +kernel
theorem L_15_4 : a_look 15 4 = some (.iload_n 2, 0, 0, 0) := by decide +kernel
theorem L_15_5 : a_look 15 5 = some (.aload_n 0, 0, 0, 0) := by decide +kernel
theorem L_15_6 : a_look 15 6 = some (.getfield 42, 1, 10, 611) := by decide +kernel
theorem L_15_9 : a_look 15 9 = some (.if_icmp .ge 20, 29, 0, 0) := by decide +kernel
theorem L_15_12 : a_look 15 12 = some (.aload_n 0, 0, 0, 0) := by decide +kernel
theorem L_15_13 : a_look 15 13 = some (.iload_n 2, 0, 0, 0) := by decide +kernel
theorem L_15_14 : a_look 15 14 = some (.invokevirtual 46, 10, 2, 912) := by decide +kernel
theorem L_15_17 : a_look 15 17 = some (.ifCond .eq 6, 23, 0, 0) := by decide +kernel
theorem L_15_20 : a_look 15 20 = some (.iinc 1 1, 0, 0, 0) := by decide +kernel
theorem L_15_23 : a_look 15 23 = some (.iinc 2 1, 0, 0, 0) := by decide +kernel
theorem L_15_26 : a_look 15 26 = some (.goto (-22), 4, 0, 0) := by decide +kernel
theorem L_15_29 : a_look 15 29 = some (.iload_n 1, 0, 0, 0) := by decide +kernel
theorem L_15_30 : a_look 15 30 = some (.ireturn, 0, 0, 0) := by decide +kernel
theorem L_16_0 : a_look 16 0 = some (.iconst 0, 0, 0, 0) := by decide +kernel
theorem L_16_1 : a_look 16 1 = some (.istore_n 2, 0, 0, 0) := by decide +kernel
theorem L_16_2 : a_look 16 2 = some (.iconst 0, 0, 0, 0) := by decide +kernel
theorem L_16_3 : a_look 16 3 = some (.istore_n 3, 0, 0, 0) := by decide +kernel
theorem L_16_4 : a_look 16 4 = some (.iload_n 3, 0, 0, 0) := by decide +kernel
theorem L_16_5 : a_look 16 5 = some (.aload_n 0, 0, 0, 0) := by decide +kernel
theorem L_16_6 : a_look 16 6 = some (.getfield 42, 1, 10, 611) := by decide +kernel
theorem L_16_9 : a_look 16 9 = some (.if_icmp .ge 22, 31, 0, 0) := by decide +kernel
theorem L_16_12 : a_look 16 12 = some (.aload_n 0, 0, 0, 0) := by decide +kernel
theorem L_16_13 : a_look 16 13 = some (.getfield 21, 1, 3, 220) := by decide +kernel
theorem L_16_16 : a_look 16 16 = some (.iload_n 3, 0, 0, 0) := by decide +kernel
theorem L_16_17 : a_look 16 17 = some (.iaload, 0, 0, 0) := by decide +kernel
theorem L_16_18 : a_look 16 18 = some (.iload_n 1, 0, 0, 0) := by decide +kernel
theorem L_16_19 : a_look 16 19 = some (.if_icmp .ne 6, 25, 0, 0) := by decide +kernel
theorem L_16_22 : a_look 16 22 = some (.iinc 2 1, 0, 0, 0) := by decide +kernel
theorem L_16_25 : a_look 16 25 = some (.iinc 3 1, 0, 0, 0) := by decide +kernel
theorem L_16_28 : a_look 16 28 = some (.goto (-24), 4, 0, 0) := by decide +kernel
theorem L_16_31 : a_look 16 31 = some (.iload_n 2, 0, 0, 0) := by decide +kernel
theorem L_16_32 : a_look 16 32 = some (.ireturn, 0, 0, 0) := by decide +kernel
theorem L_17_0 : a_look 17 0 = some (.iconst 0, 0, 0, 0) := by decide +kernel
theorem L_17_1 : a_look 17 1 = some (.istore_n 1, 0, 0, 0) := by decide +kernel
theorem L_17_2 : a_look 17 2 = some (.iconst 0, 0, 0, 0) := by decide +kernel
theorem L_17_3 : a_look 17 3 = some (.istore_n 2, 0, 0, 0) := by decide +kernel
theorem L_17_4 : a_look 17 4 = some (.iload_n 2, 0, 0, 0) := by decide +kernel
theorem L_17_5 : a_look 17 5 = some (.aload_n 0, 0, 0, 0) := by decide +kernel
theorem L_17_6 : a_look 17 6 = some (.getfield 42, 1, 10, 611) := by decide +kernel
theorem L_17_9 : a_look 17 9 = some (.if_icmp .ge 20, 29, 0, 0) := by decide +kernel
theorem L_17_12 : a_look 17 12 = some (.aload_n 0, 0, 0, 0) := by decide +kernel
theorem L_17_13 : a_look 17 13 = some (.iload_n 2, 0, 0, 0) := by decide +kernel
theorem L_17_14 : a_look 17 14 = some (.invokevirtual 50, 11, 2, 913) := by decide +kernel
theorem L_17_17 : a_look 17 17 = some (.ifCond .eq 6, 23, 0, 0) := by decide +kernel
theorem L_17_20 : a_look 17 20 = some (.iinc 1 1, 0, 0, 0) := by decide +kernel
theorem L_17_23 : a_look 17 23 = some (.iinc 2 1, 0, 0, 0) := by decide +kernel
theorem L_17_26 : a_look 17 26 = some (.goto (-22), 4, 0, 0) := by decide +kernel
theorem L_17_29 : a_look 17 29 = some (.iload_n 1, 0, 0, 0) := by decide +kernel
theorem L_17_30 : a_look 17 30 = some (.ireturn, 0, 0, 0) := by decide +kernel
theorem L_22_0 : a_look 22 0 = some (.aload_n 1, 0, 0, 0) := by decide +kernel
theorem L_22_1 : a_look 22 1 = some (.getfield 9, 1, 0, 217) := by decide +kernel
theorem L_22_4 : a_look 22 4 = some (.aload_n 0, 0, 0, 0) := by decide +kernel
theorem L_22_5 : a_look 22 5 = some (.getfield 9, 1, 0, 217) := by decide +kernel
theorem L_22_8 : a_look 22 8 = some (.invokestatic 61, 96, 2, 5002) := by decide +kernel
theorem L_22_11 : a_look 22 11 = some (.aload_n 1, 0, 0, 0) := by decide +kernel
theorem L_22_12 : a_look 22 12 = some (.getfield 15, 1, 1, 218) := by decide +kernel
theorem L_22_15 : a_look 22 15 = some (.aload_n 0, 0, 0, 0) := by decide +kernel
theorem L_22_16 : a_look 22 16 = some (.getfield 15, 1, 1, 218) := by decide +kernel
theorem L_22_19 : a_look 22 19 = some (.invokestatic 61, 96, 2, 5002) := by decide +kernel
theorem L_22_22 : a_look 22 22 = some (.aload_n 1, 0, 0, 0) := by decide +kernel
theorem L_22_23 : a_look 22 23 = some (.getfield 18, 1, 2, 219) := by decide +kernel
theorem L_22_26 : a_look 22 26 = some (.aload_n 0, 0, 0, 0) := by decide +kernel
theorem L_22_27 : a_look 22 27 = some (.getfield 18, 1, 2, 219) := by decide +kernel
theorem L_22_30 : a_look 22 30 = some (.invokestatic 61, 96, 2, 5002) := by decide +kernel
theorem L_22_33 : a_look 22 33 = some (.aload_n 1, 0, 0, 0) := by decide +kernel
theorem L_22_34 : a_look 22 34 = some (.getfield 21, 1, 3, 220) := by decide +kernel
theorem L_22_37 : a_look 22 37 = some (.aload_n 0, 0, 0, 0) := by decide +kernel
theorem L_22_38 : a_look 22 38 = some (.getfield 21, 1, 3, 220) := by decide +kernel
theorem L_22_41 : a_look 22 41 = some (.invokestatic 61, 96, 2, 5002) := by decide +kernel
theorem L_22_44 : a_look 22 44 = some (.aload_n 1, 0, 0, 0) := by decide +kernel
theorem L_22_45 : a_look 22 45 = some (.getfield 24, 1, 4, 221) := by decide +kernel
theorem L_22_48 : a_look 22 48 = some (.aload_n 0, 0, 0, 0) := by decide +kernel
theorem L_22_49 : a_look 22 49 = some (.getfield 24, 1, 4, 221) := by decide +kernel
theorem L_22_52 : a_look 22 52 = some (.invokestatic 61, 96, 2, 5002) := by decide +kernel
theorem L_22_55 : a_look 22 55 = some (.aload_n 1, 0, 0, 0) := by decide +kernel
theorem L_22_56 : a_look 22 56 = some (.getfield 27, 1, 5, 222) := by decide +kernel
theorem L_22_59 : a_look 22 59 = some (.aload_n 0, 0, 0, 0) := by decide +kernel
theorem L_22_60 : a_look 22 60 = some (.getfield 27, 1, 5, 222) := by decide +kernel
theorem L_22_63 : a_look 22 63 = some (.invokestatic 61, 96, 2, 5002) := by decide +kernel
theorem L_22_66 : a_look 22 66 = some (.aload_n 1, 0, 0, 0) := by decide +kernel
theorem L_22_67 : a_look 22 67 = some (.getfield 30, 1, 6, 223) := by decide +kernel
theorem L_22_70 : a_look 22 70 = some (.aload_n 0, 0, 0, 0) := by decide +kernel
theorem L_22_71 : a_look 22 71 = some (.getfield 30, 1, 6, 223) := by decide +kernel
theorem L_22_74 : a_look 22 74 = some (.invokestatic 61, 96, 2, 5002) := by decide +kernel
theorem L_22_77 : a_look 22 77 = some (.aload_n 1, 0, 0, 0) := by decide +kernel
theorem L_22_78 : a_look 22 78 = some (.getfield 33, 1, 7, 300) := by decide +kernel
theorem L_22_81 : a_look 22 81 = some (.aload_n 0, 0, 0, 0) := by decide +kernel
theorem L_22_82 : a_look 22 82 = some (.getfield 33, 1, 7, 300) := by decide +kernel
theorem L_22_85 : a_look 22 85 = some (.invokestatic 61, 96, 2, 5002) := by decide +kernel
theorem L_22_88 : a_look 22 88 = some (.aload_n 1, 0, 0, 0) := by decide +kernel
theorem L_22_89 : a_look 22 89 = some (.getfield 36, 1, 8, 301) := by decide +kernel
theorem L_22_92 : a_look 22 92 = some (.aload_n 0, 0, 0, 0) := by decide +kernel
theorem L_22_93 : a_look 22 93 = some (.getfield 36, 1, 8, 301) := by decide +kernel
theorem L_22_96 : a_look 22 96 = some (.invokestatic 61, 96, 2, 5002) := by decide +kernel
theorem L_22_99 : a_look 22 99 = some (.aload_n 1, 0, 0, 0) := by decide +kernel
theorem L_22_100 : a_look 22 100 = some (.getfield 39, 1, 9, 302) := by decide +kernel
theorem L_22_103 : a_look 22 103 = some (.aload_n 0, 0, 0, 0) := by decide +kernel
theorem L_22_104 : a_look 22 104 = some (.getfield 39, 1, 9, 302) := by decide +kernel
theorem L_22_107 : a_look 22 107 = some (.invokestatic 61, 96, 2, 5002) := by decide +kernel
theorem L_22_110 : a_look 22 110 = some (.aload_n 0, 0, 0, 0) := by decide +kernel
theorem L_22_111 : a_look 22 111 = some (.aload_n 1, 0, 0, 0) := by decide +kernel
theorem L_22_112 : a_look 22 112 = some (.getfield 42, 1, 10, 611) := by decide +kernel
theorem L_22_115 : a_look 22 115 = some (.putfield 42, 1, 10, 611) := by decide +kernel
theorem L_22_118 : a_look 22 118 = some (.return_, 0, 0, 0) := by decide +kernel
theorem L_25_0 : a_look 25 0 = some (.iload_n 2, 0, 0, 0) := by decide +kernel
theorem L_25_1 : a_look 25 1 = some (.tableswitch 92 0 6 #[43, 50, 57, 64, 71, 78, 85], 0, 43, 0) := by decide +kernel
theorem L_25_44 : a_look 25 44 = some (.aload_n 0, 0, 0, 0) := by decide +kernel
theorem L_25_45 : a_look 25 45 = some (.getfield 9, 2, 0, 207) := by decide +kernel
theorem L_25_48 : a_look 25 48 = some (.iload_n 1, 0, 0, 0) := by decide +kernel
theorem L_25_49 : a_look 25 49 = some (.iaload, 0, 0, 0) := by decide +kernel
theorem L_25_50 : a_look 25 50 = some (.ireturn, 0, 0, 0) := by decide +kernel
theorem L_25_51 : a_look 25 51 = some (.aload_n 0, 0, 0, 0) := by decide +kernel
theorem L_25_52 : a_look 25 52 = some (.getfield 15, 2, 1, 208) := by decide +kernel
theorem L_25_55 : a_look 25 55 = some (.iload_n 1, 0, 0, 0) := by decide +kernel
theorem L_25_56 : a_look 25 56 = some (.iaload, 0, 0, 0) := by decide +kernel
theorem L_25_57 : a_look 25 57 = some (.ireturn, 0, 0, 0) := by decide +kernel
theorem L_25_58 : a_look 25 58 = some (.aload_n 0, 0, 0, 0) := by decide +kernel
theorem L_25_59 : a_look 25 59 = some (.getfield 18, 2, 2, 209) := by decide +kernel
theorem L_25_62 : a_look 25 62 = some (.iload_n 1, 0, 0, 0) := by decide +kernel
theorem L_25_63 : a_look 25 63 = some (.iaload, 0, 0, 0) := by decide +kernel
theorem L_25_64 : a_look 25 64 = some (.ireturn, 0, 0, 0) := by decide +kernel
theorem L_25_65 : a_look 25 65 = some (.aload_n 0, 0, 0, 0) := by decide +kernel
theorem L_25_66 : a_look 25 66 = some (.getfield 21, 2, 3, 210) := by decide +kernel
theorem L_25_69 : a_look 25 69 = some (.iload_n 1, 0, 0, 0) := by decide +kernel
theorem L_25_70 : a_look 25 70 = some (.iaload, 0, 0, 0) := by decide +kernel
theorem L_25_71 : a_look 25 71 = some (.ireturn, 0, 0, 0) := by decide +kernel
theorem L_25_72 : a_look 25 72 = some (.aload_n 0, 0, 0, 0) := by decide +kernel
theorem L_25_73 : a_look 25 73 = some (.getfield 24, 2, 4, 211) := by decide +kernel
theorem L_25_76 : a_look 25 76 = some (.iload_n 1, 0, 0, 0) := by decide +kernel
theorem L_25_77 : a_look 25 77 = some (.iaload, 0, 0, 0) := by decide +kernel
theorem L_25_78 : a_look 25 78 = some (.ireturn, 0, 0, 0) := by decide +kernel
theorem L_25_79 : a_look 25 79 = some (.aload_n 0, 0, 0, 0) := by decide +kernel
theorem L_25_80 : a_look 25 80 = some (.getfield 27, 2, 5, 212) := by decide +kernel
theorem L_25_83 : a_look 25 83 = some (.iload_n 1, 0, 0, 0) := by decide +kernel
theorem L_25_84 : a_look 25 84 = some (.iaload, 0, 0, 0) := by decide +kernel
theorem L_25_85 : a_look 25 85 = some (.ireturn, 0, 0, 0) := by decide +kernel
theorem L_25_86 : a_look 25 86 = some (.aload_n 0, 0, 0, 0) := by decide +kernel
theorem L_25_87 : a_look 25 87 = some (.getfield 30, 2, 6, 213) := by decide +kernel
theorem L_25_90 : a_look 25 90 = some (.iload_n 1, 0, 0, 0) := by decide +kernel
theorem L_25_91 : a_look 25 91 = some (.iaload, 0, 0, 0) := by decide +kernel
theorem L_25_92 : a_look 25 92 = some (.ireturn, 0, 0, 0) := by decide +kernel
theorem L_25_93 : a_look 25 93 = some (.aload_n 0, 0, 0, 0) := by decide +kernel
theorem L_25_94 : a_look 25 94 = some (.iload_n 1, 0, 0, 0) := by decide +kernel
theorem L_25_95 : a_look 25 95 = some (.iload_n 3, 0, 0, 0) := by decide +kernel
theorem L_25_96 : a_look 25 96 = some (.invokevirtual 37, 24, 3, 819) := by decide +kernel
theorem L_25_99 : a_look 25 99 = some (.ifCond .eq 7, 106, 0, 0) := by decide +kernel
theorem L_25_102 : a_look 25 102 = some (.iconst 1, 0, 0, 0) := by decide +kernel
theorem L_25_103 : a_look 25 103 = some (.goto 4, 107, 0, 0) := by decide +kernel
theorem L_25_106 : a_look 25 106 = some (.iconst 0, 0, 0, 0) := by decide +kernel
theorem L_25_107 : a_look 25 107 = some (.ireturn, 0, 0, 0) := by decide +kernel
theorem L_26_0 : a_look 26 0 = some (.aload_n 1, 0, 0, 0) := by decide +kernel
theorem L_26_1 : a_look 26 1 = some (.getfield 9, 2, 0, 207) := by decide +kernel
theorem L_26_4 : a_look 26 4 = some (.aload_n 0, 0, 0, 0) := by decide +kernel
theorem L_26_5 : a_look 26 5 = some (.getfield 9, 2, 0, 207) := by decide +kernel
theorem L_26_8 : a_look 26 8 = some (.invokestatic 41, 96, 2, 5001) := by decide +kernel
theorem L_26_11 : a_look 26 11 = some (.aload_n 1, 0, 0, 0) := by decide +kernel
theorem L_26_12 : a_look 26 12 = some (.getfield 15, 2, 1, 208) := by decide +kernel
theorem L_26_15 : a_look 26 15 = some (.aload_n 0, 0, 0, 0) := by decide +kernel
theorem L_26_16 : a_look 26 16 = some (.getfield 15, 2, 1, 208) := by decide +kernel
theorem L_26_19 : a_look 26 19 = some (.invokestatic 41, 96, 2, 5001) := by decide +kernel
theorem L_26_22 : a_look 26 22 = some (.aload_n 1, 0, 0, 0) := by decide +kernel
theorem L_26_23 : a_look 26 23 = some (.getfield 18, 2, 2, 209) := by decide +kernel
theorem L_26_26 : a_look 26 26 = some (.aload_n 0, 0, 0, 0) := by decide +kernel
theorem L_26_27 : a_look 26 27 = some (.getfield 18, 2, 2, 209) := by decide +kernel
theorem L_26_30 : a_look 26 30 = some (.invokestatic 41, 96, 2, 5001) := by decide +kernel
theorem L_26_33 : a_look 26 33 = some (.aload_n 1, 0, 0, 0) := by decide +kernel
theorem L_26_34 : a_look 26 34 = some (.getfield 21, 2, 3, 210) := by decide +kernel
theorem L_26_37 : a_look 26 37 = some (.aload_n 0, 0, 0, 0) := by decide +kernel
theorem L_26_38 : a_look 26 38 = some (.getfield 21, 2, 3, 210) := by decide +kernel
theorem L_26_41 : a_look 26 41 = some (.invokestatic 41, 96, 2, 5001) := by decide +kernel
theorem L_26_44 : a_look 26 44 = some (.aload_n 1, 0, 0, 0) := by decide +kernel
theorem L_26_45 : a_look 26 45 = some (.getfield 24, 2, 4, 211) := by decide +kernel
theorem L_26_48 : a_look 26 48 = some (.aload_n 0, 0, 0, 0) := by decide +kernel
theorem L_26_49 : a_look 26 49 = some (.getfield 24, 2, 4, 211) := by decide +kernel
theorem L_26_52 : a_look 26 52 = some (.invokestatic 41, 96, 2, 5001) := by decide +kernel
theorem L_26_55 : a_look 26 55 = some (.aload_n 1, 0, 0, 0) := by decide +kernel
theorem L_26_56 : a_look 26 56 = some (.getfield 27, 2, 5, 212) := by decide +kernel
theorem L_26_59 : a_look 26 59 = some (.aload_n 0, 0, 0, 0) := by decide +kernel
theorem L_26_60 : a_look 26 60 = some (.getfield 27, 2, 5, 212) := by decide +kernel
theorem L_26_63 : a_look 26 63 = some (.invokestatic 41, 96, 2, 5001) := by decide +kernel
theorem L_26_66 : a_look 26 66 = some (.aload_n 1, 0, 0, 0) := by decide +kernel
theorem L_26_67 : a_look 26 67 = some (.getfield 30, 2, 6, 213) := by decide +kernel
theorem L_26_70 : a_look 26 70 = some (.aload_n 0, 0, 0, 0) := by decide +kernel
theorem L_26_71 : a_look 26 71 = some (.getfield 30, 2, 6, 213) := by decide +kernel
theorem L_26_74 : a_look 26 74 = some (.invokestatic 41, 96, 2, 5001) := by decide +kernel
theorem L_26_77 : a_look 26 77 = some (.aload_n 0, 0, 0, 0) := by decide +kernel
theorem L_26_78 : a_look 26 78 = some (.aload_n 1, 0, 0, 0) := by decide +kernel
theorem L_26_79 : a_look 26 79 = some (.getfield 33, 2, 7, 606) := by decide +kernel
theorem L_26_82 : a_look 26 82 = some (.putfield 33, 2, 7, 606) := by decide +kernel
theorem L_26_85 : a_look 26 85 = some (.return_, 0, 0, 0) := by decide +kernel
theorem L_27_0 : a_look 27 0 = some (.aload_n 0, 0, 0, 0) := by decide +kernel
theorem L_27_1 : a_look 27 1 = some (.getfield 11, 3, 0, 308) := by decide +kernel
theorem L_27_4 : a_look 27 4 = some (.aload_n 0, 0, 0, 0) := by decide +kernel
theorem L_27_5 : a_look 27 5 = some (.getfield 18, 3, 1, 1211) := by decide +kernel
theorem L_27_8 : a_look 27 8 = some (.aload_n 0, 0, 0, 0) := by decide +kernel
theorem L_27_9 : a_look 27 9 = some (.getfield 22, 3, 2, 1212) := by decide +kernel
theorem L_27_12 : a_look 27 12 = some (.iadd, 0, 0, 0) := by decide +kernel
theorem L_27_13 : a_look 27 13 = some (.bipush 6, 0, 0, 0) := by decide +kernel
theorem L_27_15 : a_look 27 15 = some (.irem, 0, 0, 0) := by decide +kernel
theorem L_27_16 : a_look 27 16 = some (.aaload, 0, 0, 0) := by decide +kernel
theorem L_27_17 : a_look 27 17 = some (.aload_n 1, 0, 0, 0) := by decide +kernel
theorem L_27_18 : a_look 27 18 = some (.invokevirtual 25, 30, 2, 1213) := by decide +kernel
theorem L_27_21 : a_look 27 21 = some (.return_, 0, 0, 0) := by decide +kernel
theorem L_28_0 : a_look 28 0 = some (.aload_n 0, 0, 0, 0) := by decide +kernel
theorem L_28_1 : a_look 28 1 = some (.getfield 22, 3, 2, 1212) := by decide +kernel
theorem L_28_4 : a_look 28 4 = some (.iconst 5, 0, 0, 0) := by decide +kernel
theorem L_28_5 : a_look 28 5 = some (.if_icmp .ge 16, 21, 0, 0) := by decide +kernel
theorem L_28_8 : a_look 28 8 = some (.aload_n 0, 0, 0, 0) := by decide +kernel
theorem L_28_9 : a_look 28 9 = some (.dup, 0, 0, 0) := by decide +kernel
theorem L_28_10 : a_look 28 10 = some (.getfield 22, 3, 2, 1212) := by decide +kernel
theorem L_28_13 : a_look 28 13 = some (.iconst 1, 0, 0, 0) := by decide +kernel
theorem L_28_14 : a_look 28 14 = some (.iadd, 0, 0, 0) := by decide +kernel
theorem L_28_15 : a_look 28 15 = some (.putfield 22, 3, 2, 1212) := by decide +kernel
theorem L_28_18 : a_look 28 18 = some (.goto 16, 34, 0, 0) := by decide +kernel
theorem L_28_21 : a_look 28 21 = some (.aload_n 0, 0, 0, 0) := by decide +kernel
theorem L_28_22 : a_look 28 22 = some (.aload_n 0, 0, 0, 0) := by decide +kernel
theorem L_28_23 : a_look 28 23 = some (.getfield 18, 3, 1, 1211) := by decide +kernel
theorem L_28_26 : a_look 28 26 = some (.iconst 1, 0, 0, 0) := by decide +kernel
theorem L_28_27 : a_look 28 27 = some (.iadd, 0, 0, 0) := by decide +kernel
theorem L_28_28 : a_look 28 28 = some (.bipush 6, 0, 0, 0) := by decide +kernel
theorem L_28_30 : a_look 28 30 = some (.irem, 0, 0, 0) := by decide +kernel
theorem L_28_31 : a_look 28 31 = some (.putfield 18, 3, 1, 1211) := by decide +kernel
theorem L_28_34 : a_look 28 34 = some (.return_, 0, 0, 0) := by decide +kernel
theorem L_30_0 : a_look 30 0 = some (.aload_n 0, 0, 0, 0) := by decide +kernel
theorem L_30_1 : a_look 30 1 = some (.getfield 12, 4, 0, 110) := by decide +kernel
theorem L_30_4 : a_look 30 4 = some (.aload_n 1, 0, 0, 0) := by decide +kernel
theorem L_30_5 : a_look 30 5 = some (.getfield 12, 4, 0, 110) := by decide +kernel
theorem L_30_8 : a_look 30 8 = some (.invokevirtual 39, 59, 2, 512) := by decide +kernel
theorem L_30_11 : a_look 30 11 = some (.aload_n 0, 0, 0, 0) := by decide +kernel
theorem L_30_12 : a_look 30 12 = some (.getfield 21, 4, 1, 114) := by decide +kernel
theorem L_30_15 : a_look 30 15 = some (.aload_n 1, 0, 0, 0) := by decide +kernel
theorem L_30_16 : a_look 30 16 = some (.getfield 21, 4, 1, 114) := by decide +kernel
theorem L_30_19 : a_look 30 19 = some (.invokevirtual 43, 26, 2, 602) := by decide +kernel
theorem L_30_22 : a_look 30 22 = some (.aload_n 0, 0, 0, 0) := by decide +kernel
theorem L_30_23 : a_look 30 23 = some (.getfield 28, 4, 2, 118) := by decide +kernel
theorem L_30_26 : a_look 30 26 = some (.aload_n 1, 0, 0, 0) := by decide +kernel
theorem L_30_27 : a_look 30 27 = some (.getfield 28, 4, 2, 118) := by decide +kernel
theorem L_30_30 : a_look 30 30 = some (.invokevirtual 46, 22, 2, 607) := by decide +kernel
theorem L_30_33 : a_look 30 33 = some (.aload_n 1, 0, 0, 0) := by decide +kernel
theorem L_30_34 : a_look 30 34 = some (.getfield 32, 4, 3, 119) := by decide +kernel
theorem L_30_37 : a_look 30 37 = some (.aload_n 0, 0, 0, 0) := by decide +kernel
theorem L_30_38 : a_look 30 38 = some (.getfield 32, 4, 3, 119) := by decide +kernel
theorem L_30_41 : a_look 30 41 = some (.invokestatic 49, 96, 2, 5003) := by decide +kernel
theorem L_30_44 : a_look 30 44 = some (.aload_n 0, 0, 0, 0) := by decide +kernel
theorem L_30_45 : a_look 30 45 = some (.aload_n 1, 0, 0, 0) := by decide +kernel
theorem L_30_46 : a_look 30 46 = some (.getfield 53, 4, 4, 510) := by decide +kernel
theorem L_30_49 : a_look 30 49 = some (.putfield 53, 4, 4, 510) := by decide +kernel
theorem L_30_52 : a_look 30 52 = some (.aload_n 0, 0, 0, 0) := by decide +kernel
theorem L_30_53 : a_look 30 53 = some (.aload_n 1, 0, 0, 0) := by decide +kernel
theorem L_30_54 : a_look 30 54 = some (.getfield 57, 4, 5, 511) := by decide +kernel
theorem L_30_57 : a_look 30 57 = some (.putfield 57, 4, 5, 511) := by decide +kernel
theorem L_30_60 : a_look 30 60 = some (.return_, 0, 0, 0) := by decide +kernel
theorem L_31_0 : a_look 31 0 = some (.iload_n 1, 0, 0, 0) := by decide +kernel
theorem L_31_1 : a_look 31 1 = some (.iload_n 2, 0, 0, 0) := by decide +kernel
theorem L_31_2 : a_look 31 2 = some (.invokestatic 60, 94, 2, 5005) := by decide +kernel
theorem L_31_5 : a_look 31 5 = some (.ifCond .ne 23, 28, 0, 0) := by decide +kernel
theorem L_31_8 : a_look 31 8 = some (.iload_n 3, 0, 0, 0) := by decide +kernel
theorem L_31_9 : a_look 31 9 = some (.iconst 0, 0, 0, 0) := by decide +kernel
theorem L_31_10 : a_look 31 10 = some (.bipush 7, 0, 0, 0) := by decide +kernel
theorem L_31_12 : a_look 31 12 = some (.invokestatic 64, 93, 3, 5006) := by decide +kernel
theorem L_31_15 : a_look 31 15 = some (.ifCond .ne 13, 28, 0, 0) := by decide +kernel
theorem L_31_18 : a_look 31 18 = some (.iload 4, 0, 0, 0) := by decide +kernel
theorem L_31_20 : a_look 31 20 = some (.iconst 0, 0, 0, 0) := by decide +kernel
theorem L_31_21 : a_look 31 21 = some (.iconst 4, 0, 0, 0) := by decide +kernel
theorem L_31_22 : a_look 31 22 = some (.invokestatic 64, 93, 3, 5006) := by decide +kernel
theorem L_31_25 : a_look 31 25 = some (.ifCond .eq 6, 31, 0, 0) := by decide +kernel
theorem L_31_28 : a_look 31 28 = some (.bipush (-2), 0, 0, 0) := by decide +kernel
theorem L_31_30 : a_look 31 30 = some (.ireturn, 0, 0, 0) := by decide +kernel
theorem L_31_31 : a_look 31 31 = some (.aload_n 0, 0, 0, 0) := by decide +kernel
theorem L_31_32 : a_look 31 32 = some (.getfield 12, 4, 0, 110) := by decide +kernel
theorem L_31_35 : a_look 31 35 = some (.getfield 68, 5, 5, 704) := by decide +kernel
theorem L_31_38 : a_look 31 38 = some (.bipush 8, 0, 0, 0) := by decide +kernel
theorem L_31_40 : a_look 31 40 = some (.if_icmp .lt 6, 46, 0, 0) := by decide +kernel
theorem L_31_43 : a_look 31 43 = some (.bipush (-4), 0, 0, 0) := by decide +kernel
theorem L_31_45 : a_look 31 45 = some (.ireturn, 0, 0, 0) := by decide +kernel
theorem L_31_46 : a_look 31 46 = some (.aload_n 0, 0, 0, 0) := by decide +kernel
theorem L_31_47 : a_look 31 47 = some (.getfield 12, 4, 0, 110) := by decide +kernel
theorem L_31_50 : a_look 31 50 = some (.getfield 68, 5, 5, 704) := by decide +kernel
theorem L_31_53 : a_look 31 53 = some (.istore 5, 0, 0, 0) := by decide +kernel
theorem L_31_55 : a_look 31 55 = some (.aload_n 0, 0, 0, 0) := by decide +kernel
theorem L_31_56 : a_look 31 56 = some (.getfield 12, 4, 0, 110) := by decide +kernel
theorem L_31_59 : a_look 31 59 = some (.getfield 71, 5, 0, 705) := by decide +kernel
theorem L_31_62 : a_look 31 62 = some (.iload 5, 0, 0, 0) := by decide +kernel
theorem L_31_64 : a_look 31 64 = some (.iload_n 1, 0, 0, 0) := by decide +kernel
theorem L_31_65 : a_look 31 65 = some (.iastore, 0, 0, 0) := by decide +kernel
theorem L_31_66 : a_look 31 66 = some (.aload_n 0, 0, 0, 0) := by decide +kernel
theorem L_31_67 : a_look 31 67 = some (.getfield 12, 4, 0, 110) := by decide +kernel
theorem L_31_70 : a_look 31 70 = some (.getfield 74, 5, 1, 706) := by decide +kernel
theorem L_31_73 : a_look 31 73 = some (.iload 5, 0, 0, 0) := by decide +kernel
theorem L_31_75 : a_look 31 75 = some (.iload_n 2, 0, 0, 0) := by decide +kernel
theorem L_31_76 : a_look 31 76 = some (.iastore, 0, 0, 0) := by decide +kernel
theorem L_31_77 : a_look 31 77 = some (.aload_n 0, 0, 0, 0) := by decide +kernel
theorem L_31_78 : a_look 31 78 = some (.getfield 12, 4, 0, 110) := by decide +kernel
theorem L_31_81 : a_look 31 81 = some (.getfield 77, 5, 2, 718) := by decide +kernel
theorem L_31_84 : a_look 31 84 = some (.iload 5, 0, 0, 0) := by decide +kernel
theorem L_31_86 : a_look 31 86 = some (.iload_n 3, 0, 0, 0) := by decide +kernel
theorem L_31_87 : a_look 31 87 = some (.iastore, 0, 0, 0) := by decide +kernel
theorem L_31_88 : a_look 31 88 = some (.aload_n 0, 0, 0, 0) := by decide +kernel
theorem L_31_89 : a_look 31 89 = some (.getfield 12, 4, 0, 110) := by decide +kernel
theorem L_31_92 : a_look 31 92 = some (.getfield 80, 5, 3, 717) := by decide +kernel
theorem L_31_95 : a_look 31 95 = some (.iload 5, 0, 0, 0) := by decide +kernel
theorem L_31_97 : a_look 31 97 = some (.iload 4, 0, 0, 0) := by decide +kernel
theorem L_31_99 : a_look 31 99 = some (.iastore, 0, 0, 0) := by decide +kernel
theorem L_31_100 : a_look 31 100 = some (.aload_n 0, 0, 0, 0) := by decide +kernel
theorem L_31_101 : a_look 31 101 = some (.getfield 12, 4, 0, 110) := by decide +kernel
theorem L_31_104 : a_look 31 104 = some (.getfield 83, 5, 4, 716) := by decide +kernel
theorem L_31_107 : a_look 31 107 = some (.iload 5, 0, 0, 0) := by decide +kernel
theorem L_31_109 : a_look 31 109 = some (.iconst 0, 0, 0, 0) := by decide +kernel
theorem L_31_110 : a_look 31 110 = some (.iastore, 0, 0, 0) := by decide +kernel
theorem L_31_111 : a_look 31 111 = some (.aload_n 0, 0, 0, 0) := by decide +kernel
theorem L_31_112 : a_look 31 112 = some (.getfield 12, 4, 0, 110) := by decide +kernel
theorem L_31_115 : a_look 31 115 = some (.dup, 0, 0, 0) := by decide +kernel
theorem L_31_116 : a_look 31 116 = some (.getfield 68, 5, 5, 704) := by decide +kernel
theorem L_31_119 : a_look 31 119 = some (.iconst 1, 0, 0, 0) := by decide +kernel
theorem L_31_120 : a_look 31 120 = some (.iadd, 0, 0, 0) := by decide +kernel
theorem L_31_121 : a_look 31 121 = some (.putfield 68, 5, 5, 704) := by decide +kernel
theorem L_31_124 : a_look 31 124 = some (.iload 5, 0, 0, 0) := by decide +kernel
theorem L_31_126 : a_look 31 126 = some (.ireturn, 0, 0, 0) := by decide +kernel
theorem L_32_0 : a_look 32 0 = some (.iload_n 1, 0, 0, 0) := by decide +kernel
theorem L_32_1 : a_look 32 1 = some (.iload_n 2, 0, 0, 0) := by decide +kernel
theorem L_32_2 : a_look 32 2 = some (.invokestatic 60, 94, 2, 5005) := by decide +kernel
theorem L_32_5 : a_look 32 5 = some (.ifCond .ne 54, 59, 0, 0) := by decide +kernel
theorem L_32_8 : a_look 32 8 = some (.iload_n 3, 0, 0, 0) := by decide +kernel
theorem L_32_9 : a_look 32 9 = some (.iconst 1, 0, 0, 0) := by decide +kernel
theorem L_32_10 : a_look 32 10 = some (.bipush 30, 0, 0, 0) := by decide +kernel
theorem L_32_12 : a_look 32 12 = some (.invokestatic 64, 93, 3, 5006) := by decide +kernel
theorem L_32_15 : a_look 32 15 = some (.ifCond .ne 44, 59, 0, 0) := by decide +kernel
theorem L_32_18 : a_look 32 18 = some (.iload 4, 0, 0, 0) := by decide +kernel
theorem L_32_20 : a_look 32 20 = some (.iconst 0, 0, 0, 0) := by decide +kernel
theorem L_32_21 : a_look 32 21 = some (.bipush 7, 0, 0, 0) := by decide +kernel
theorem L_32_23 : a_look 32 23 = some (.invokestatic 64, 93, 3, 5006) := by decide +kernel
theorem L_32_26 : a_look 32 26 = some (.ifCond .ne 33, 59, 0, 0) := by decide +kernel
theorem L_32_29 : a_look 32 29 = some (.iload 5, 0, 0, 0) := by decide +kernel
theorem L_32_31 : a_look 32 31 = some (.aload_n 0, 0, 0, 0) := by decide +kernel
theorem L_32_32 : a_look 32 32 = some (.getfield 53, 4, 4, 510) := by decide +kernel
theorem L_32_35 : a_look 32 35 = some (.sipush 9998, 0, 0, 0) := by decide +kernel
theorem L_32_38 : a_look 32 38 = some (.invokestatic 64, 93, 3, 5006) := by decide +kernel
theorem L_32_41 : a_look 32 41 = some (.ifCond .ne 18, 59, 0, 0) := by decide +kernel
theorem L_32_44 : a_look 32 44 = some (.iload 6, 0, 0, 0) := by decide +kernel
theorem L_32_46 : a_look 32 46 = some (.iload 5, 0, 0, 0) := by decide +kernel
theorem L_32_48 : a_look 32 48 = some (.iconst 1, 0, 0, 0) := by decide +kernel
theorem L_32_49 : a_look 32 49 = some (.iadd, 0, 0, 0) := by decide +kernel
theorem L_32_50 : a_look 32 50 = some (.sipush 9999, 0, 0, 0) := by decide +kernel
theorem L_32_53 : a_look 32 53 = some (.invokestatic 64, 93, 3, 5006) := by decide +kernel
theorem L_32_56 : a_look 32 56 = some (.ifCond .eq 6, 62, 0, 0) := by decide +kernel
theorem L_32_59 : a_look 32 59 = some (.bipush (-2), 0, 0, 0) := by decide +kernel
theorem L_32_61 : a_look 32 61 = some (.ireturn, 0, 0, 0) := by decide +kernel
theorem L_32_62 : a_look 32 62 = some (.aload_n 0, 0, 0, 0) := by decide +kernel
theorem L_32_63 : a_look 32 63 = some (.getfield 21, 4, 1, 114) := by decide +kernel
theorem L_32_66 : a_look 32 66 = some (.getfield 86, 2, 7, 707) := by decide +kernel
theorem L_32_69 : a_look 32 69 = some (.bipush 8, 0, 0, 0) := by decide +kernel
theorem L_32_71 : a_look 32 71 = some (.if_icmp .lt 6, 77, 0, 0) := by decide +kernel
theorem L_32_74 : a_look 32 74 = some (.bipush (-4), 0, 0, 0) := by decide +kernel
theorem L_32_76 : a_look 32 76 = some (.ireturn, 0, 0, 0) := by decide +kernel
theorem L_32_77 : a_look 32 77 = some (.aload_n 0, 0, 0, 0) := by decide +kernel
theorem L_32_78 : a_look 32 78 = some (.getfield 21, 4, 1, 114) := by decide +kernel
theorem L_32_81 : a_look 32 81 = some (.getfield 86, 2, 7, 707) := by decide +kernel
theorem L_32_84 : a_look 32 84 = some (.istore 7, 0, 0, 0) := by decide +kernel
theorem L_32_86 : a_look 32 86 = some (.aload_n 0, 0, 0, 0) := by decide +kernel
theorem L_32_87 : a_look 32 87 = some (.getfield 21, 4, 1, 114) := by decide +kernel
theorem L_32_90 : a_look 32 90 = some (.getfield 87, 2, 0, 709) := by decide +kernel
theorem L_32_93 : a_look 32 93 = some (.iload 7, 0, 0, 0) := by decide +kernel
theorem L_32_95 : a_look 32 95 = some (.iload_n 1, 0, 0, 0) := by decide +kernel
theorem L_32_96 : a_look 32 96 = some (.iastore, 0, 0, 0) := by decide +kernel
theorem L_32_97 : a_look 32 97 = some (.aload_n 0, 0, 0, 0) := by decide +kernel
theorem L_32_98 : a_look 32 98 = some (.getfield 21, 4, 1, 114) := by decide +kernel
theorem L_32_101 : a_look 32 101 = some (.getfield 88, 2, 1, 710) := by decide +kernel
theorem L_32_104 : a_look 32 104 = some (.iload 7, 0, 0, 0) := by decide +kernel
theorem L_32_106 : a_look 32 106 = some (.iload_n 2, 0, 0, 0) := by decide +kernel
theorem L_32_107 : a_look 32 107 = some (.iastore, 0, 0, 0) := by decide +kernel
theorem L_32_108 : a_look 32 108 = some (.aload_n 0, 0, 0, 0) := by decide +kernel
theorem L_32_109 : a_look 32 109 = some (.getfield 21, 4, 1, 114) := by decide +kernel
theorem L_32_112 : a_look 32 112 = some (.getfield 89, 2, 2, 711) := by decide +kernel
theorem L_32_115 : a_look 32 115 = some (.iload 7, 0, 0, 0) := by decide +kernel
theorem L_32_117 : a_look 32 117 = some (.iload_n 3, 0, 0, 0) := by decide +kernel
theorem L_32_118 : a_look 32 118 = some (.iastore, 0, 0, 0) := by decide +kernel
theorem L_32_119 : a_look 32 119 = some (.aload_n 0, 0, 0, 0) := by decide +kernel
theorem L_32_120 : a_look 32 120 = some (.getfield 21, 4, 1, 114) := by decide +kernel
theorem L_32_123 : a_look 32 123 = some (.getfield 92, 2, 3, 708) := by decide +kernel
theorem L_32_126 : a_look 32 126 = some (.iload 7, 0, 0, 0) := by decide +kernel
theorem L_32_128 : a_look 32 128 = some (.iload 4, 0, 0, 0) := by decide +kernel
theorem L_32_130 : a_look 32 130 = some (.iastore, 0, 0, 0) := by decide +kernel
theorem L_32_131 : a_look 32 131 = some (.aload_n 0, 0, 0, 0) := by decide +kernel
theorem L_32_132 : a_look 32 132 = some (.getfield 21, 4, 1, 114) := by decide +kernel
theorem L_32_135 : a_look 32 135 = some (.getfield 93, 2, 4, 1312) := by decide +kernel
theorem L_32_138 : a_look 32 138 = some (.iload 7, 0, 0, 0) := by decide +kernel
theorem L_32_140 : a_look 32 140 = some (.iload 5, 0, 0, 0) := by decide +kernel
theorem L_32_142 : a_look 32 142 = some (.iastore, 0, 0, 0) := by decide +kernel
theorem L_32_143 : a_look 32 143 = some (.aload_n 0, 0, 0, 0) := by decide +kernel
theorem L_32_144 : a_look 32 144 = some (.getfield 21, 4, 1, 114) := by decide +kernel
theorem L_32_147 : a_look 32 147 = some (.getfield 96, 2, 5, 1313) := by decide +kernel
theorem L_32_150 : a_look 32 150 = some (.iload 7, 0, 0, 0) := by decide +kernel
theorem L_32_152 : a_look 32 152 = some (.iload 6, 0, 0, 0) := by decide +kernel
theorem L_32_154 : a_look 32 154 = some (.iastore, 0, 0, 0) := by decide +kernel
theorem L_32_155 : a_look 32 155 = some (.aload_n 0, 0, 0, 0) := by decide +kernel
theorem L_32_156 : a_look 32 156 = some (.getfield 21, 4, 1, 114) := by decide +kernel
theorem L_32_159 : a_look 32 159 = some (.getfield 99, 2, 6, 1314) := by decide +kernel
theorem L_32_162 : a_look 32 162 = some (.iload 7, 0, 0, 0) := by decide +kernel
theorem L_32_164 : a_look 32 164 = some (.iconst 0, 0, 0, 0) := by decide +kernel
theorem L_32_165 : a_look 32 165 = some (.iastore, 0, 0, 0) := by decide +kernel
theorem L_32_166 : a_look 32 166 = some (.aload_n 0, 0, 0, 0) := by decide +kernel
theorem L_32_167 : a_look 32 167 = some (.getfield 21, 4, 1, 114) := by decide +kernel
theorem L_32_170 : a_look 32 170 = some (.dup, 0, 0, 0) := by decide +kernel
theorem L_32_171 : a_look 32 171 = some (.getfield 86, 2, 7, 707) := by decide +kernel
theorem L_32_174 : a_look 32 174 = some (.iconst 1, 0, 0, 0) := by decide +kernel
theorem L_32_175 : a_look 32 175 = some (.iadd, 0, 0, 0) := by decide +kernel
theorem L_32_176 : a_look 32 176 = some (.putfield 86, 2, 7, 707) := by decide +kernel
theorem L_32_179 : a_look 32 179 = some (.aload_n 0, 0, 0, 0) := by decide +kernel
theorem L_32_180 : a_look 32 180 = some (.invokevirtual 102, 43, 1, 1315) := by decide +kernel
theorem L_32_183 : a_look 32 183 = some (.iload 7, 0, 0, 0) := by decide +kernel
theorem L_32_185 : a_look 32 185 = some (.ireturn, 0, 0, 0) := by decide +kernel
theorem L_33_0 : a_look 33 0 = some (.iload_n 1, 0, 0, 0) := by decide +kernel
theorem L_33_1 : a_look 33 1 = some (.iload_n 2, 0, 0, 0) := by decide +kernel
theorem L_33_2 : a_look 33 2 = some (.invokestatic 60, 94, 2, 5005) := by decide +kernel
theorem L_33_5 : a_look 33 5 = some (.ifCond .ne 12, 17, 0, 0) := by decide +kernel
theorem L_33_8 : a_look 33 8 = some (.iload_n 3, 0, 0, 0) := by decide +kernel
theorem L_33_9 : a_look 33 9 = some (.iconst 0, 0, 0, 0) := by decide +kernel
theorem L_33_10 : a_look 33 10 = some (.iconst 3, 0, 0, 0) := by decide +kernel
theorem L_33_11 : a_look 33 11 = some (.invokestatic 64, 93, 3, 5006) := by decide +kernel
theorem L_33_14 : a_look 33 14 = some (.ifCond .eq 6, 20, 0, 0) := by decide +kernel
theorem L_33_17 : a_look 33 17 = some (.bipush (-2), 0, 0, 0) := by decide +kernel
theorem L_33_19 : a_look 33 19 = some (.ireturn, 0, 0, 0) := by decide +kernel
theorem L_33_20 : a_look 33 20 = some (.aload_n 0, 0, 0, 0) := by decide +kernel
theorem L_33_21 : a_look 33 21 = some (.getfield 28, 4, 2, 118) := by decide +kernel
theorem L_33_24 : a_look 33 24 = some (.getfield 105, 1, 10, 1014) := by decide +kernel
theorem L_33_27 : a_look 33 27 = some (.bipush 16, 0, 0, 0) := by decide +kernel
theorem L_33_29 : a_look 33 29 = some (.if_icmp .lt 6, 35, 0, 0) := by decide +kernel
theorem L_33_32 : a_look 33 32 = some (.bipush (-4), 0, 0, 0) := by decide +kernel
theorem L_33_34 : a_look 33 34 = some (.ireturn, 0, 0, 0) := by decide +kernel
theorem L_33_35 : a_look 33 35 = some (.aload_n 0, 0, 0, 0) := by decide +kernel
theorem L_33_36 : a_look 33 36 = some (.getfield 28, 4, 2, 118) := by decide +kernel
theorem L_33_39 : a_look 33 39 = some (.getfield 105, 1, 10, 1014) := by decide +kernel
theorem L_33_42 : a_look 33 42 = some (.istore 4, 0, 0, 0) := by decide +kernel
theorem L_33_44 : a_look 33 44 = some (.aload_n 0, 0, 0, 0) := by decide +kernel
theorem L_33_45 : a_look 33 45 = some (.getfield 28, 4, 2, 118) := by decide +kernel
theorem L_33_48 : a_look 33 48 = some (.getfield 106, 1, 0, 622) := by decide +kernel
theorem L_33_51 : a_look 33 51 = some (.iload 4, 0, 0, 0) := by decide +kernel
theorem L_33_53 : a_look 33 53 = some (.iload_n 1, 0, 0, 0) := by decide +kernel
theorem L_33_54 : a_look 33 54 = some (.iastore, 0, 0, 0) := by decide +kernel
theorem L_33_55 : a_look 33 55 = some (.aload_n 0, 0, 0, 0) := by decide +kernel
theorem L_33_56 : a_look 33 56 = some (.getfield 28, 4, 2, 118) := by decide +kernel
theorem L_33_59 : a_look 33 59 = some (.getfield 107, 1, 1, 623) := by decide +kernel
theorem L_33_62 : a_look 33 62 = some (.iload 4, 0, 0, 0) := by decide +kernel
theorem L_33_64 : a_look 33 64 = some (.iload_n 2, 0, 0, 0) := by decide +kernel
theorem L_33_65 : a_look 33 65 = some (.iastore, 0, 0, 0) := by decide +kernel
theorem L_33_66 : a_look 33 66 = some (.aload_n 0, 0, 0, 0) := by decide +kernel
theorem L_33_67 : a_look 33 67 = some (.getfield 28, 4, 2, 118) := by decide +kernel
theorem L_33_70 : a_look 33 70 = some (.getfield 108, 1, 2, 1410) := by decide +kernel
theorem L_33_73 : a_look 33 73 = some (.iload 4, 0, 0, 0) := by decide +kernel
theorem L_33_75 : a_look 33 75 = some (.iload_n 3, 0, 0, 0) := by decide +kernel
theorem L_33_76 : a_look 33 76 = some (.iastore, 0, 0, 0) := by decide +kernel
theorem L_33_77 : a_look 33 77 = some (.aload_n 0, 0, 0, 0) := by decide +kernel
theorem L_33_78 : a_look 33 78 = some (.getfield 28, 4, 2, 118) := by decide +kernel
theorem L_33_81 : a_look 33 81 = some (.getfield 111, 1, 7, 1015) := by decide +kernel
theorem L_33_84 : a_look 33 84 = some (.iload 4, 0, 0, 0) := by decide +kernel
theorem L_33_86 : a_look 33 86 = some (.iconst 0, 0, 0, 0) := by decide +kernel
theorem L_33_87 : a_look 33 87 = some (.iastore, 0, 0, 0) := by decide +kernel
theorem L_33_88 : a_look 33 88 = some (.aload_n 0, 0, 0, 0) := by decide +kernel
theorem L_33_89 : a_look 33 89 = some (.getfield 28, 4, 2, 118) := by decide +kernel
theorem L_33_92 : a_look 33 92 = some (.getfield 114, 1, 8, 1016) := by decide +kernel
theorem L_33_95 : a_look 33 95 = some (.iload 4, 0, 0, 0) := by decide +kernel
theorem L_33_97 : a_look 33 97 = some (.iconst 0, 0, 0, 0) := by decide +kernel
theorem L_33_98 : a_look 33 98 = some (.iastore, 0, 0, 0) := by decide +kernel
theorem L_33_99 : a_look 33 99 = some (.aload_n 0, 0, 0, 0) := by decide +kernel
theorem L_33_100 : a_look 33 100 = some (.getfield 28, 4, 2, 118) := by decide +kernel
theorem L_33_103 : a_look 33 103 = some (.getfield 117, 1, 9, 1017) := by decide +kernel
theorem L_33_106 : a_look 33 106 = some (.iload 4, 0, 0, 0) := by decide +kernel
theorem L_33_108 : a_look 33 108 = some (.iconst 0, 0, 0, 0) := by decide +kernel
theorem L_33_109 : a_look 33 109 = some (.iastore, 0, 0, 0) := by decide +kernel
theorem L_33_110 : a_look 33 110 = some (.aload_n 0, 0, 0, 0) := by decide +kernel
theorem L_33_111 : a_look 33 111 = some (.getfield 28, 4, 2, 118) := by decide +kernel
theorem L_33_114 : a_look 33 114 = some (.iload 4, 0, 0, 0) := by decide +kernel
theorem L_33_116 : a_look 33 116 = some (.invokevirtual 120, 13, 2, 1411) := by decide +kernel
theorem L_33_119 : a_look 33 119 = some (.aload_n 0, 0, 0, 0) := by decide +kernel
theorem L_33_120 : a_look 33 120 = some (.getfield 28, 4, 2, 118) := by decide +kernel
theorem L_33_123 : a_look 33 123 = some (.dup, 0, 0, 0) := by decide +kernel
theorem L_33_124 : a_look 33 124 = some (.getfield 105, 1, 10, 1014) := by decide +kernel
theorem L_33_127 : a_look 33 127 = some (.iconst 1, 0, 0, 0) := by decide +kernel
theorem L_33_128 : a_look 33 128 = some (.iadd, 0, 0, 0) := by decide +kernel
theorem L_33_129 : a_look 33 129 = some (.putfield 105, 1, 10, 1014) := by decide +kernel
theorem L_33_132 : a_look 33 132 = some (.iload 4, 0, 0, 0) := by decide +kernel
theorem L_33_134 : a_look 33 134 = some (.ireturn, 0, 0, 0) := by decide +kernel
theorem L_34_0 : a_look 34 0 = some (.iload_n 1, 0, 0, 0) := by decide +kernel
theorem L_34_1 : a_look 34 1 = some (.iconst 0, 0, 0, 0) := by decide +kernel
theorem L_34_2 : a_look 34 2 = some (.iconst 2, 0, 0, 0) := by decide +kernel
theorem L_34_3 : a_look 34 3 = some (.invokestatic 64, 93, 3, 5006) := by decide +kernel
theorem L_34_6 : a_look 34 6 = some (.ifCond .eq 5, 11, 0, 0) := by decide +kernel
theorem L_34_9 : a_look 34 9 = some (.iconst (-1), 0, 0, 0) := by decide +kernel
theorem L_34_10 : a_look 34 10 = some (.ireturn, 0, 0, 0) := by decide +kernel
theorem L_34_11 : a_look 34 11 = some (.iload_n 2, 0, 0, 0) := by decide +kernel
theorem L_34_12 : a_look 34 12 = some (.getstatic 124, 44, 0, 5011) := by decide +kernel
theorem L_34_15 : a_look 34 15 = some (.iload_n 1, 0, 0, 0) := by decide +kernel
theorem L_34_16 : a_look 34 16 = some (.iaload, 0, 0, 0) := by decide +kernel
theorem L_34_17 : a_look 34 17 = some (.getstatic 127, 45, 0, 5012) := by decide +kernel
theorem L_34_20 : a_look 34 20 = some (.iload_n 1, 0, 0, 0) := by decide +kernel
theorem L_34_21 : a_look 34 21 = some (.iaload, 0, 0, 0) := by decide +kernel
theorem L_34_22 : a_look 34 22 = some (.invokestatic 64, 93, 3, 5006) := by decide +kernel
theorem L_34_25 : a_look 34 25 = some (.ifCond .eq 6, 31, 0, 0) := by decide +kernel
theorem L_34_28 : a_look 34 28 = some (.bipush (-2), 0, 0, 0) := by decide +kernel
theorem L_34_30 : a_look 34 30 = some (.ireturn, 0, 0, 0) := by decide +kernel
theorem L_34_31 : a_look 34 31 = some (.aload_n 0, 0, 0, 0) := by decide +kernel
theorem L_34_32 : a_look 34 32 = some (.getfield 32, 4, 3, 119) := by decide +kernel
theorem L_34_35 : a_look 34 35 = some (.iload_n 1, 0, 0, 0) := by decide +kernel
theorem L_34_36 : a_look 34 36 = some (.iaload, 0, 0, 0) := by decide +kernel
theorem L_34_37 : a_look 34 37 = some (.istore_n 3, 0, 0, 0) := by decide +kernel
theorem L_34_38 : a_look 34 38 = some (.aload_n 0, 0, 0, 0) := by decide +kernel
theorem L_34_39 : a_look 34 39 = some (.getfield 32, 4, 3, 119) := by decide +kernel
theorem L_34_42 : a_look 34 42 = some (.iload_n 1, 0, 0, 0) := by decide +kernel
theorem L_34_43 : a_look 34 43 = some (.iload_n 2, 0, 0, 0) := by decide +kernel
theorem L_34_44 : a_look 34 44 = some (.iastore, 0, 0, 0) := by decide +kernel
theorem L_34_45 : a_look 34 45 = some (.aload_n 0, 0, 0, 0) := by decide +kernel
theorem L_34_46 : a_look 34 46 = some (.invokevirtual 102, 43, 1, 1315) := by decide +kernel
theorem L_34_49 : a_look 34 49 = some (.iload_n 3, 0, 0, 0) := by decide +kernel
theorem L_34_50 : a_look 34 50 = some (.ireturn, 0, 0, 0) := by decide +kernel
theorem L_35_0 : a_look 35 0 = some (.aload_n 0, 0, 0, 0) := by decide +kernel
theorem L_35_1 : a_look 35 1 = some (.getfield 12, 4, 0, 110) := by decide +kernel
theorem L_35_4 : a_look 35 4 = some (.iload_n 1, 0, 0, 0) := by decide +kernel
theorem L_35_5 : a_look 35 5 = some (.invokevirtual 130, 56, 2, 1505) := by decide +kernel
theorem L_35_8 : a_look 35 8 = some (.ifCond .ne 5, 13, 0, 0) := by decide +kernel
theorem L_35_11 : a_look 35 11 = some (.iconst (-1), 0, 0, 0) := by decide +kernel
theorem L_35_12 : a_look 35 12 = some (.ireturn, 0, 0, 0) := by decide +kernel
theorem L_35_13 : a_look 35 13 = some (.aload_n 0, 0, 0, 0) := by decide +kernel
theorem L_35_14 : a_look 35 14 = some (.getfield 12, 4, 0, 110) := by decide +kernel
theorem L_35_17 : a_look 35 17 = some (.getfield 83, 5, 4, 716) := by decide +kernel
theorem L_35_20 : a_look 35 20 = some (.iload_n 1, 0, 0, 0) := by decide +kernel
theorem L_35_21 : a_look 35 21 = some (.iaload, 0, 0, 0) := by decide +kernel
theorem L_35_22 : a_look 35 22 = some (.iload_n 2, 0, 0, 0) := by decide +kernel
theorem L_35_23 : a_look 35 23 = some (.if_icmp .ne 6, 29, 0, 0) := by decide +kernel
theorem L_35_26 : a_look 35 26 = some (.bipush (-3), 0, 0, 0) := by decide +kernel
theorem L_35_28 : a_look 35 28 = some (.ireturn, 0, 0, 0) := by decide +kernel
theorem L_35_29 : a_look 35 29 = some (.aload_n 0, 0, 0, 0) := by decide +kernel
theorem L_35_30 : a_look 35 30 = some (.getfield 12, 4, 0, 110) := by decide +kernel
theorem L_35_33 : a_look 35 33 = some (.getfield 83, 5, 4, 716) := by decide +kernel
theorem L_35_36 : a_look 35 36 = some (.iload_n 1, 0, 0, 0) := by decide +kernel
theorem L_35_37 : a_look 35 37 = some (.iload_n 2, 0, 0, 0) := by decide +kernel
theorem L_35_38 : a_look 35 38 = some (.iastore, 0, 0, 0) := by decide +kernel
theorem L_35_39 : a_look 35 39 = some (.aload_n 0, 0, 0, 0) := by decide +kernel
theorem L_35_40 : a_look 35 40 = some (.invokevirtual 102, 43, 1, 1315) := by decide +kernel
theorem L_35_43 : a_look 35 43 = some (.aload_n 0, 0, 0, 0) := by decide +kernel
theorem L_35_44 : a_look 35 44 = some (.getfield 28, 4, 2, 118) := by decide +kernel
theorem L_35_47 : a_look 35 47 = some (.invokevirtual 134, 17, 1, 1102) := by decide +kernel
theorem L_35_50 : a_look 35 50 = some (.ireturn, 0, 0, 0) := by decide +kernel
theorem L_36_0 : a_look 36 0 = some (.aload_n 0, 0, 0, 0) := by decide +kernel
theorem L_36_1 : a_look 36 1 = some (.getfield 21, 4, 1, 114) := by decide +kernel
theorem L_36_4 : a_look 36 4 = some (.iload_n 1, 0, 0, 0) := by decide +kernel
theorem L_36_5 : a_look 36 5 = some (.invokevirtual 138, 23, 2, 1518) := by decide +kernel
theorem L_36_8 : a_look 36 8 = some (.ifCond .ne 5, 13, 0, 0) := by decide +kernel
theorem L_36_11 : a_look 36 11 = some (.iconst (-1), 0, 0, 0) := by decide +kernel
theorem L_36_12 : a_look 36 12 = some (.ireturn, 0, 0, 0) := by decide +kernel
theorem L_36_13 : a_look 36 13 = some (.aload_n 0, 0, 0, 0) := by decide +kernel
theorem L_36_14 : a_look 36 14 = some (.getfield 21, 4, 1, 114) := by decide +kernel
theorem L_36_17 : a_look 36 17 = some (.getfield 99, 2, 6, 1314) := by decide +kernel
theorem L_36_20 : a_look 36 20 = some (.iload_n 1, 0, 0, 0) := by decide +kernel
theorem L_36_21 : a_look 36 21 = some (.iaload, 0, 0, 0) := by decide +kernel
theorem L_36_22 : a_look 36 22 = some (.iconst 1, 0, 0, 0) := by decide +kernel
theorem L_36_23 : a_look 36 23 = some (.if_icmp .eq 19, 42, 0, 0) := by decide +kernel
theorem L_36_26 : a_look 36 26 = some (.aload_n 0, 0, 0, 0) := by decide +kernel
theorem L_36_27 : a_look 36 27 = some (.getfield 21, 4, 1, 114) := by decide +kernel
theorem L_36_30 : a_look 36 30 = some (.getfield 96, 2, 5, 1313) := by decide +kernel
theorem L_36_33 : a_look 36 33 = some (.iload_n 1, 0, 0, 0) := by decide +kernel
theorem L_36_34 : a_look 36 34 = some (.iaload, 0, 0, 0) := by decide +kernel
theorem L_36_35 : a_look 36 35 = some (.aload_n 0, 0, 0, 0) := by decide +kernel
theorem L_36_36 : a_look 36 36 = some (.getfield 53, 4, 4, 510) := by decide +kernel
theorem L_36_39 : a_look 36 39 = some (.if_icmp .gt 6, 45, 0, 0) := by decide +kernel
theorem L_36_42 : a_look 36 42 = some (.bipush (-3), 0, 0, 0) := by decide +kernel
theorem L_36_44 : a_look 36 44 = some (.ireturn, 0, 0, 0) := by decide +kernel
theorem L_36_45 : a_look 36 45 = some (.aload_n 0, 0, 0, 0) := by decide +kernel
theorem L_36_46 : a_look 36 46 = some (.getfield 21, 4, 1, 114) := by decide +kernel
theorem L_36_49 : a_look 36 49 = some (.getfield 99, 2, 6, 1314) := by decide +kernel
theorem L_36_52 : a_look 36 52 = some (.iload_n 1, 0, 0, 0) := by decide +kernel
theorem L_36_53 : a_look 36 53 = some (.iconst 1, 0, 0, 0) := by decide +kernel
theorem L_36_54 : a_look 36 54 = some (.iastore, 0, 0, 0) := by decide +kernel
theorem L_36_55 : a_look 36 55 = some (.aload_n 0, 0, 0, 0) := by decide +kernel
theorem L_36_56 : a_look 36 56 = some (.invokevirtual 102, 43, 1, 1315) := by decide +kernel
theorem L_36_59 : a_look 36 59 = some (.aload_n 0, 0, 0, 0) := by decide +kernel
theorem L_36_60 : a_look 36 60 = some (.getfield 28, 4, 2, 118) := by decide +kernel
theorem L_36_63 : a_look 36 63 = some (.invokevirtual 134, 17, 1, 1102) := by decide +kernel
theorem L_36_66 : a_look 36 66 = some (.ireturn, 0, 0, 0) := by decide +kernel
theorem L_37_0 : a_look 37 0 = some (.aload_n 0, 0, 0, 0) := by decide +kernel
theorem L_37_1 : a_look 37 1 = some (.getfield 28, 4, 2, 118) := by decide +kernel
theorem L_37_4 : a_look 37 4 = some (.iload_n 1, 0, 0, 0) := by decide +kernel
theorem L_37_5 : a_look 37 5 = some (.invokevirtual 139, 9, 2, 1612) := by decide +kernel
theorem L_37_8 : a_look 37 8 = some (.ifCond .ne 5, 13, 0, 0) := by decide +kernel
theorem L_37_11 : a_look 37 11 = some (.iconst (-1), 0, 0, 0) := by decide +kernel
theorem L_37_12 : a_look 37 12 = some (.ireturn, 0, 0, 0) := by decide +kernel
theorem L_37_13 : a_look 37 13 = some (.iload_n 2, 0, 0, 0) := by decide +kernel
theorem L_37_14 : a_look 37 14 = some (.iconst 0, 0, 0, 0) := by decide +kernel
theorem L_37_15 : a_look 37 15 = some (.iconst 3, 0, 0, 0) := by decide +kernel
theorem L_37_16 : a_look 37 16 = some (.invokestatic 64, 93, 3, 5006) := by decide +kernel
theorem L_37_19 : a_look 37 19 = some (.ifCond .ne 13, 32, 0, 0) := by decide +kernel
theorem L_37_22 : a_look 37 22 = some (.iload_n 3, 0, 0, 0) := by decide +kernel
theorem L_37_23 : a_look 37 23 = some (.iconst 1, 0, 0, 0) := by decide +kernel
theorem L_37_24 : a_look 37 24 = some (.bipush 99, 0, 0, 0) := by decide +kernel
theorem L_37_26 : a_look 37 26 = some (.invokestatic 64, 93, 3, 5006) := by decide +kernel
theorem L_37_29 : a_look 37 29 = some (.ifCond .eq 6, 35, 0, 0) := by decide +kernel
theorem L_37_32 : a_look 37 32 = some (.bipush (-2), 0, 0, 0) := by decide +kernel
theorem L_37_34 : a_look 37 34 = some (.ireturn, 0, 0, 0) := by decide +kernel
theorem L_37_35 : a_look 37 35 = some (.aload_n 0, 0, 0, 0) := by decide +kernel
theorem L_37_36 : a_look 37 36 = some (.aload_n 0, 0, 0, 0) := by decide +kernel
theorem L_37_37 : a_look 37 37 = some (.iload_n 1, 0, 0, 0) := by decide +kernel
theorem L_37_38 : a_look 37 38 = some (.iload_n 2, 0, 0, 0) := by decide +kernel
theorem L_37_39 : a_look 37 39 = some (.invokevirtual 140, 48, 3, 1613) := by decide +kernel
theorem L_37_42 : a_look 37 42 = some (.putfield 57, 4, 5, 511) := by decide +kernel
theorem L_37_45 : a_look 37 45 = some (.aload_n 0, 0, 0, 0) := by decide +kernel
theorem L_37_46 : a_look 37 46 = some (.getfield 57, 4, 5, 511) := by decide +kernel
theorem L_37_49 : a_look 37 49 = some (.ifCond .eq 6, 55, 0, 0) := by decide +kernel
theorem L_37_52 : a_look 37 52 = some (.bipush (-5), 0, 0, 0) := by decide +kernel
theorem L_37_54 : a_look 37 54 = some (.ireturn, 0, 0, 0) := by decide +kernel
theorem L_37_55 : a_look 37 55 = some (.aload_n 0, 0, 0, 0) := by decide +kernel
theorem L_37_56 : a_look 37 56 = some (.getfield 28, 4, 2, 118) := by decide +kernel
theorem L_37_59 : a_look 37 59 = some (.iload_n 1, 0, 0, 0) := by decide +kernel
theorem L_37_60 : a_look 37 60 = some (.aload_n 0, 0, 0, 0) := by decide +kernel
theorem L_37_61 : a_look 37 61 = some (.iload_n 1, 0, 0, 0) := by decide +kernel
theorem L_37_62 : a_look 37 62 = some (.iload_n 2, 0, 0, 0) := by decide +kernel
theorem L_37_63 : a_look 37 63 = some (.invokevirtual 144, 50, 3, 1621) := by decide +kernel
theorem L_37_66 : a_look 37 66 = some (.iload_n 2, 0, 0, 0) := by decide +kernel
theorem L_37_67 : a_look 37 67 = some (.invokevirtual 147, 12, 4, 1706) := by decide +kernel
theorem L_37_70 : a_look 37 70 = some (.aload_n 0, 0, 0, 0) := by decide +kernel
theorem L_37_71 : a_look 37 71 = some (.getfield 28, 4, 2, 118) := by decide +kernel
theorem L_37_74 : a_look 37 74 = some (.getfield 151, 1, 5, 1611) := by decide +kernel
theorem L_37_77 : a_look 37 77 = some (.iload_n 1, 0, 0, 0) := by decide +kernel
theorem L_37_78 : a_look 37 78 = some (.aload_n 0, 0, 0, 0) := by decide +kernel
theorem L_37_79 : a_look 37 79 = some (.getfield 53, 4, 4, 510) := by decide +kernel
theorem L_37_82 : a_look 37 82 = some (.iload_n 3, 0, 0, 0) := by decide +kernel
theorem L_37_83 : a_look 37 83 = some (.iadd, 0, 0, 0) := by decide +kernel
theorem L_37_84 : a_look 37 84 = some (.iastore, 0, 0, 0) := by decide +kernel
theorem L_37_85 : a_look 37 85 = some (.aload_n 0, 0, 0, 0) := by decide +kernel
theorem L_37_86 : a_look 37 86 = some (.getfield 28, 4, 2, 118) := by decide +kernel
theorem L_37_89 : a_look 37 89 = some (.getfield 154, 1, 3, 620) := by decide +kernel
theorem L_37_92 : a_look 37 92 = some (.iload_n 1, 0, 0, 0) := by decide +kernel
theorem L_37_93 : a_look 37 93 = some (.iaload, 0, 0, 0) := by decide +kernel
theorem L_37_94 : a_look 37 94 = some (.ireturn, 0, 0, 0) := by decide +kernel
theorem L_38_0 : a_look 38 0 = some (.aload_n 0, 0, 0, 0) := by decide +kernel
theorem L_38_1 : a_look 38 1 = some (.getfield 28, 4, 2, 118) := by decide +kernel
theorem L_38_4 : a_look 38 4 = some (.iload_n 1, 0, 0, 0) := by decide +kernel
theorem L_38_5 : a_look 38 5 = some (.invokevirtual 139, 9, 2, 1612) := by decide +kernel
theorem L_38_8 : a_look 38 8 = some (.ifCond .ne 5, 13, 0, 0) := by decide +kernel
theorem L_38_11 : a_look 38 11 = some (.iconst (-1), 0, 0, 0) := by decide +kernel
theorem L_38_12 : a_look 38 12 = some (.ireturn, 0, 0, 0) := by decide +kernel
theorem L_38_13 : a_look 38 13 = some (.iload_n 2, 0, 0, 0) := by decide +kernel
theorem L_38_14 : a_look 38 14 = some (.iconst 1, 0, 0, 0) := by decide +kernel
theorem L_38_15 : a_look 38 15 = some (.bipush 99, 0, 0, 0) := by decide +kernel
theorem L_38_17 : a_look 38 17 = some (.invokestatic 64, 93, 3, 5006) := by decide +kernel
theorem L_38_20 : a_look 38 20 = some (.ifCond .eq 6, 26, 0, 0) := by decide +kernel
theorem L_38_23 : a_look 38 23 = some (.bipush (-2), 0, 0, 0) := by decide +kernel
theorem L_38_25 : a_look 38 25 = some (.ireturn, 0, 0, 0) := by decide +kernel
theorem L_38_26 : a_look 38 26 = some (.aload_n 0, 0, 0, 0) := by decide +kernel
theorem L_38_27 : a_look 38 27 = some (.getfield 28, 4, 2, 118) := by decide +kernel
theorem L_38_30 : a_look 38 30 = some (.iload_n 1, 0, 0, 0) := by decide +kernel
theorem L_38_31 : a_look 38 31 = some (.invokevirtual 155, 10, 2, 1320) := by decide +kernel
theorem L_38_34 : a_look 38 34 = some (.ifCond .ne 6, 40, 0, 0) := by decide +kernel
theorem L_38_37 : a_look 38 37 = some (.bipush (-3), 0, 0, 0) := by decide +kernel
theorem L_38_39 : a_look 38 39 = some (.ireturn, 0, 0, 0) := by decide +kernel
theorem L_38_40 : a_look 38 40 = some (.aload_n 0, 0, 0, 0) := by decide +kernel
theorem L_38_41 : a_look 38 41 = some (.getfield 28, 4, 2, 118) := by decide +kernel
theorem L_38_44 : a_look 38 44 = some (.iload_n 1, 0, 0, 0) := by decide +kernel
theorem L_38_45 : a_look 38 45 = some (.invokevirtual 158, 11, 2, 1322) := by decide +kernel
theorem L_38_48 : a_look 38 48 = some (.ifCond .eq 11, 59, 0, 0) := by decide +kernel
theorem L_38_51 : a_look 38 51 = some (.aload_n 0, 0, 0, 0) := by decide +kernel
theorem L_38_52 : a_look 38 52 = some (.iconst 5, 0, 0, 0) := by decide +kernel
theorem L_38_53 : a_look 38 53 = some (.putfield 57, 4, 5, 511) := by decide +kernel
theorem L_38_56 : a_look 38 56 = some (.bipush (-5), 0, 0, 0) := by decide +kernel
theorem L_38_58 : a_look 38 58 = some (.ireturn, 0, 0, 0) := by decide +kernel
theorem L_38_59 : a_look 38 59 = some (.aload_n 0, 0, 0, 0) := by decide +kernel
theorem L_38_60 : a_look 38 60 = some (.iconst 0, 0, 0, 0) := by decide +kernel
theorem L_38_61 : a_look 38 61 = some (.putfield 57, 4, 5, 511) := by decide +kernel
theorem L_38_64 : a_look 38 64 = some (.aload_n 0, 0, 0, 0) := by decide +kernel
theorem L_38_65 : a_look 38 65 = some (.getfield 28, 4, 2, 118) := by decide +kernel
theorem L_38_68 : a_look 38 68 = some (.getfield 151, 1, 5, 1611) := by decide +kernel
theorem L_38_71 : a_look 38 71 = some (.iload_n 1, 0, 0, 0) := by decide +kernel
theorem L_38_72 : a_look 38 72 = some (.aload_n 0, 0, 0, 0) := by decide +kernel
theorem L_38_73 : a_look 38 73 = some (.getfield 53, 4, 4, 510) := by decide +kernel
theorem L_38_76 : a_look 38 76 = some (.iload_n 2, 0, 0, 0) := by decide +kernel
theorem L_38_77 : a_look 38 77 = some (.iadd, 0, 0, 0) := by decide +kernel
theorem L_38_78 : a_look 38 78 = some (.iastore, 0, 0, 0) := by decide +kernel
theorem L_38_79 : a_look 38 79 = some (.aload_n 0, 0, 0, 0) := by decide +kernel
theorem L_38_80 : a_look 38 80 = some (.getfield 28, 4, 2, 118) := by decide +kernel
theorem L_38_83 : a_look 38 83 = some (.getfield 151, 1, 5, 1611) := by decide +kernel
theorem L_38_86 : a_look 38 86 = some (.iload_n 1, 0, 0, 0) := by decide +kernel
theorem L_38_87 : a_look 38 87 = some (.iaload, 0, 0, 0) := by decide +kernel
theorem L_38_88 : a_look 38 88 = some (.ireturn, 0, 0, 0) := by decide +kernel
theorem L_39_0 : a_look 39 0 = some (.aload_n 0, 0, 0, 0) := by decide +kernel
theorem L_39_1 : a_look 39 1 = some (.getfield 28, 4, 2, 118) := by decide +kernel
theorem L_39_4 : a_look 39 4 = some (.iload_n 1, 0, 0, 0) := by decide +kernel
theorem L_39_5 : a_look 39 5 = some (.invokevirtual 139, 9, 2, 1612) := by decide +kernel
theorem L_39_8 : a_look 39 8 = some (.ifCond .ne 5, 13, 0, 0) := by decide +kernel
theorem L_39_11 : a_look 39 11 = some (.iconst (-1), 0, 0, 0) := by decide +kernel
theorem L_39_12 : a_look 39 12 = some (.ireturn, 0, 0, 0) := by decide +kernel
theorem L_39_13 : a_look 39 13 = some (.aload_n 0, 0, 0, 0) := by decide +kernel
theorem L_39_14 : a_look 39 14 = some (.getfield 28, 4, 2, 118) := by decide +kernel
theorem L_39_17 : a_look 39 17 = some (.iload_n 1, 0, 0, 0) := by decide +kernel
theorem L_39_18 : a_look 39 18 = some (.invokevirtual 155, 10, 2, 1320) := by decide +kernel
theorem L_39_21 : a_look 39 21 = some (.ifCond .ne 6, 27, 0, 0) := by decide +kernel
theorem L_39_24 : a_look 39 24 = some (.bipush (-3), 0, 0, 0) := by decide +kernel
theorem L_39_26 : a_look 39 26 = some (.ireturn, 0, 0, 0) := by decide +kernel
theorem L_39_27 : a_look 39 27 = some (.aload_n 0, 0, 0, 0) := by decide +kernel
theorem L_39_28 : a_look 39 28 = some (.getfield 28, 4, 2, 118) := by decide +kernel
theorem L_39_31 : a_look 39 31 = some (.iload_n 1, 0, 0, 0) := by decide +kernel
theorem L_39_32 : a_look 39 32 = some (.invokevirtual 120, 13, 2, 1411) := by decide +kernel
theorem L_39_35 : a_look 39 35 = some (.aload_n 0, 0, 0, 0) := by decide +kernel
theorem L_39_36 : a_look 39 36 = some (.getfield 28, 4, 2, 118) := by decide +kernel
theorem L_39_39 : a_look 39 39 = some (.invokevirtual 161, 15, 1, 1022) := by decide +kernel
theorem L_39_42 : a_look 39 42 = some (.ireturn, 0, 0, 0) := by decide +kernel
theorem L_40_0 : a_look 40 0 = some (.iload_n 1, 0, 0, 0) := by decide +kernel
theorem L_40_1 : a_look 40 1 = some (.iconst 1, 0, 0, 0) := by decide +kernel
theorem L_40_2 : a_look 40 2 = some (.bipush 99, 0, 0, 0) := by decide +kernel
theorem L_40_4 : a_look 40 4 = some (.invokestatic 64, 93, 3, 5006) := by decide +kernel
theorem L_40_7 : a_look 40 7 = some (.ifCond .eq 6, 13, 0, 0) := by decide +kernel
theorem L_40_10 : a_look 40 10 = some (.bipush (-2), 0, 0, 0) := by decide +kernel
theorem L_40_12 : a_look 40 12 = some (.ireturn, 0, 0, 0) := by decide +kernel
theorem L_40_13 : a_look 40 13 = some (.aload_n 0, 0, 0, 0) := by decide +kernel
theorem L_40_14 : a_look 40 14 = some (.getfield 53, 4, 4, 510) := by decide +kernel
theorem L_40_17 : a_look 40 17 = some (.iload_n 1, 0, 0, 0) := by decide +kernel
theorem L_40_18 : a_look 40 18 = some (.iadd, 0, 0, 0) := by decide +kernel
theorem L_40_19 : a_look 40 19 = some (.sipush 9999, 0, 0, 0) := by decide +kernel
theorem L_40_22 : a_look 40 22 = some (.if_icmp .le 6, 28, 0, 0) := by decide +kernel
theorem L_40_25 : a_look 40 25 = some (.bipush (-3), 0, 0, 0) := by decide +kernel
theorem L_40_27 : a_look 40 27 = some (.ireturn, 0, 0, 0) := by decide +kernel
theorem L_40_28 : a_look 40 28 = some (.iconst 0, 0, 0, 0) := by decide +kernel
theorem L_40_29 : a_look 40 29 = some (.istore_n 2, 0, 0, 0) := by decide +kernel
theorem L_40_30 : a_look 40 30 = some (.iconst 0, 0, 0, 0) := by decide +kernel
theorem L_40_31 : a_look 40 31 = some (.istore_n 3, 0, 0, 0) := by decide +kernel
theorem L_40_32 : a_look 40 32 = some (.iload_n 3, 0, 0, 0) := by decide +kernel
theorem L_40_33 : a_look 40 33 = some (.iload_n 1, 0, 0, 0) := by decide +kernel
theorem L_40_34 : a_look 40 34 = some (.if_icmp .ge 16, 50, 0, 0) := by decide +kernel
theorem L_40_37 : a_look 40 37 = some (.iload_n 2, 0, 0, 0) := by decide +kernel
theorem L_40_38 : a_look 40 38 = some (.aload_n 0, 0, 0, 0) := by decide +kernel
theorem L_40_39 : a_look 40 39 = some (.invokevirtual 164, 41, 1, 1819) := by decide +kernel
theorem L_40_42 : a_look 40 42 = some (.iadd, 0, 0, 0) := by decide +kernel
theorem L_40_43 : a_look 40 43 = some (.istore_n 2, 0, 0, 0) := by decide +kernel
theorem L_40_44 : a_look 40 44 = some (.iinc 3 1, 0, 0, 0) := by decide +kernel
theorem L_40_47 : a_look 40 47 = some (.goto (-15), 32, 0, 0) := by decide +kernel
theorem L_40_50 : a_look 40 50 = some (.iload_n 2, 0, 0, 0) := by decide +kernel
theorem L_40_51 : a_look 40 51 = some (.ireturn, 0, 0, 0) := by decide +kernel
theorem L_41_0 : a_look 41 0 = some (.aload_n 0, 0, 0, 0) := by decide +kernel
theorem L_41_1 : a_look 41 1 = some (.dup, 0, 0, 0) := by decide +kernel
theorem L_41_2 : a_look 41 2 = some (.getfield 53, 4, 4, 510) := by decide +kernel
theorem L_41_5 : a_look 41 5 = some (.iconst 1, 0, 0, 0) := by decide +kernel
theorem L_41_6 : a_look 41 6 = some (.iadd, 0, 0, 0) := by decide +kernel
theorem L_41_7 : a_look 41 7 = some (.putfield 53, 4, 4, 510) := by decide +kernel
theorem L_41_10 : a_look 41 10 = some (.aload_n 0, 0, 0, 0) := by decide +kernel
theorem L_41_11 : a_look 41 11 = some (.invokevirtual 167, 42, 1, 1823) := by decide +kernel
theorem L_41_14 : a_look 41 14 = some (.aload_n 0, 0, 0, 0) := by decide +kernel
theorem L_41_15 : a_look 41 15 = some (.invokevirtual 102, 43, 1, 1315) := by decide +kernel
theorem L_41_18 : a_look 41 18 = some (.iconst 0, 0, 0, 0) := by decide +kernel
theorem L_41_19 : a_look 41 19 = some (.istore_n 1, 0, 0, 0) := by decide +kernel
theorem L_41_20 : a_look 41 20 = some (.iconst 0, 0, 0, 0) := by decide +kernel
theorem L_41_21 : a_look 41 21 = some (.istore_n 2, 0, 0, 0) := by decide +kernel
theorem L_41_22 : a_look 41 22 = some (.iload_n 2, 0, 0, 0) := by decide +kernel
theorem L_41_23 : a_look 41 23 = some (.aload_n 0, 0, 0, 0) := by decide +kernel
theorem L_41_24 : a_look 41 24 = some (.getfield 28, 4, 2, 118) := by decide +kernel
theorem L_41_27 : a_look 41 27 = some (.getfield 105, 1, 10, 1014) := by decide +kernel
theorem L_41_30 : a_look 41 30 = some (.if_icmp .ge 36, 66, 0, 0) := by decide +kernel
theorem L_41_33 : a_look 41 33 = some (.aload_n 0, 0, 0, 0) := by decide +kernel
theorem L_41_34 : a_look 41 34 = some (.getfield 28, 4, 2, 118) := by decide +kernel
theorem L_41_37 : a_look 41 37 = some (.iload_n 2, 0, 0, 0) := by decide +kernel
theorem L_41_38 : a_look 41 38 = some (.invokevirtual 158, 11, 2, 1322) := by decide +kernel
theorem L_41_41 : a_look 41 41 = some (.ifCond .eq 19, 60, 0, 0) := by decide +kernel
theorem L_41_44 : a_look 41 44 = some (.aload_n 0, 0, 0, 0) := by decide +kernel
theorem L_41_45 : a_look 41 45 = some (.iload_n 2, 0, 0, 0) := by decide +kernel
theorem L_41_46 : a_look 41 46 = some (.invokevirtual 170, 45, 2, 1903) := by decide +kernel
theorem L_41_49 : a_look 41 49 = some (.ifCond .eq 11, 60, 0, 0) := by decide +kernel
theorem L_41_52 : a_look 41 52 = some (.iload_n 1, 0, 0, 0) := by decide +kernel
theorem L_41_53 : a_look 41 53 = some (.aload_n 0, 0, 0, 0) := by decide +kernel
theorem L_41_54 : a_look 41 54 = some (.iload_n 2, 0, 0, 0) := by decide +kernel
theorem L_41_55 : a_look 41 55 = some (.invokevirtual 173, 47, 2, 1907) := by decide +kernel
theorem L_41_58 : a_look 41 58 = some (.iadd, 0, 0, 0) := by decide +kernel
theorem L_41_59 : a_look 41 59 = some (.istore_n 1, 0, 0, 0) := by decide +kernel
theorem L_41_60 : a_look 41 60 = some (.iinc 2 1, 0, 0, 0) := by decide +kernel
theorem L_41_63 : a_look 41 63 = some (.goto (-41), 22, 0, 0) := by decide +kernel
theorem L_41_66 : a_look 41 66 = some (.aload_n 0, 0, 0, 0) := by decide +kernel
theorem L_41_67 : a_look 41 67 = some (.invokevirtual 177, 44, 1, 1911) := by decide +kernel
theorem L_41_70 : a_look 41 70 = some (.iload_n 1, 0, 0, 0) := by decide +kernel
theorem L_41_71 : a_look 41 71 = some (.ireturn, 0, 0, 0) := by decide +kernel
theorem L_42_0 : a_look 42 0 = some (.iconst 0, 0, 0, 0) := by decide +kernel
theorem L_42_1 : a_look 42 1 = some (.istore_n 1, 0, 0, 0) := by decide +kernel
theorem L_42_2 : a_look 42 2 = some (.iload_n 1, 0, 0, 0) := by decide +kernel
theorem L_42_3 : a_look 42 3 = some (.aload_n 0, 0, 0, 0) := by decide +kernel
theorem L_42_4 : a_look 42 4 = some (.getfield 28, 4, 2, 118) := by decide +kernel
theorem L_42_7 : a_look 42 7 = some (.getfield 105, 1, 10, 1014) := by decide +kernel
theorem L_42_10 : a_look 42 10 = some (.if_icmp .ge 44, 54, 0, 0) := by decide +kernel
theorem L_42_13 : a_look 42 13 = some (.aload_n 0, 0, 0, 0) := by decide +kernel
theorem L_42_14 : a_look 42 14 = some (.getfield 28, 4, 2, 118) := by decide +kernel
theorem L_42_17 : a_look 42 17 = some (.iload_n 1, 0, 0, 0) := by decide +kernel
theorem L_42_18 : a_look 42 18 = some (.invokevirtual 155, 10, 2, 1320) := by decide +kernel
theorem L_42_21 : a_look 42 21 = some (.ifCond .eq 27, 48, 0, 0) := by decide +kernel
theorem L_42_24 : a_look 42 24 = some (.aload_n 0, 0, 0, 0) := by decide +kernel
theorem L_42_25 : a_look 42 25 = some (.getfield 28, 4, 2, 118) := by decide +kernel
theorem L_42_28 : a_look 42 28 = some (.getfield 151, 1, 5, 1611) := by decide +kernel
theorem L_42_31 : a_look 42 31 = some (.iload_n 1, 0, 0, 0) := by decide +kernel
theorem L_42_32 : a_look 42 32 = some (.iaload, 0, 0, 0) := by decide +kernel
theorem L_42_33 : a_look 42 33 = some (.aload_n 0, 0, 0, 0) := by decide +kernel
theorem L_42_34 : a_look 42 34 = some (.getfield 53, 4, 4, 510) := by decide +kernel
theorem L_42_37 : a_look 42 37 = some (.if_icmp .gt 11, 48, 0, 0) := by decide +kernel
theorem L_42_40 : a_look 42 40 = some (.aload_n 0, 0, 0, 0) := by decide +kernel
theorem L_42_41 : a_look 42 41 = some (.getfield 28, 4, 2, 118) := by decide +kernel
theorem L_42_44 : a_look 42 44 = some (.iload_n 1, 0, 0, 0) := by decide +kernel
theorem L_42_45 : a_look 42 45 = some (.invokevirtual 120, 13, 2, 1411) := by decide +kernel
theorem L_42_48 : a_look 42 48 = some (.iinc 1 1, 0, 0, 0) := by decide +kernel
theorem L_42_51 : a_look 42 51 = some (.goto (-49), 2, 0, 0) := by decide +kernel
theorem L_42_54 : a_look 42 54 = some (.return_, 0, 0, 0) := by decide +kernel
theorem L_43_0 : a_look 43 0 = some (.iconst 0, 0, 0, 0) := by decide +kernel
theorem L_43_1 : a_look 43 1 = some (.istore_n 1, 0, 0, 0) := by decide +kernel
theorem L_43_2 : a_look 43 2 = some (.iload_n 1, 0, 0, 0) := by decide +kernel
theorem L_43_3 : a_look 43 3 = some (.aload_n 0, 0, 0, 0) := by decide +kernel
theorem L_43_4 : a_look 43 4 = some (.getfield 28, 4, 2, 118) := by decide +kernel
theorem L_43_7 : a_look 43 7 = some (.getfield 105, 1, 10, 1014) := by decide +kernel
theorem L_43_10 : a_look 43 10 = some (.if_icmp .ge 65, 75, 0, 0) := by decide +kernel
theorem L_43_13 : a_look 43 13 = some (.aload_n 0, 0, 0, 0) := by decide +kernel
theorem L_43_14 : a_look 43 14 = some (.getfield 28, 4, 2, 118) := by decide +kernel
theorem L_43_17 : a_look 43 17 = some (.iload_n 1, 0, 0, 0) := by decide +kernel
theorem L_43_18 : a_look 43 18 = some (.invokevirtual 155, 10, 2, 1320) := by decide +kernel
theorem L_43_21 : a_look 43 21 = some (.ifCond .eq 48, 69, 0, 0) := by decide +kernel
theorem L_43_24 : a_look 43 24 = some (.aload_n 0, 0, 0, 0) := by decide +kernel
theorem L_43_25 : a_look 43 25 = some (.iload_n 1, 0, 0, 0) := by decide +kernel
theorem L_43_26 : a_look 43 26 = some (.invokevirtual 180, 52, 2, 1321) := by decide +kernel
theorem L_43_29 : a_look 43 29 = some (.ifCond .eq 16, 45, 0, 0) := by decide +kernel
theorem L_43_32 : a_look 43 32 = some (.aload_n 0, 0, 0, 0) := by decide +kernel
theorem L_43_33 : a_look 43 33 = some (.getfield 28, 4, 2, 118) := by decide +kernel
theorem L_43_36 : a_look 43 36 = some (.getfield 183, 1, 6, 1319) := by decide +kernel
theorem L_43_39 : a_look 43 39 = some (.iload_n 1, 0, 0, 0) := by decide +kernel
theorem L_43_40 : a_look 43 40 = some (.iconst (-1), 0, 0, 0) := by decide +kernel
theorem L_43_41 : a_look 43 41 = some (.iastore, 0, 0, 0) := by decide +kernel
theorem L_43_42 : a_look 43 42 = some (.goto 27, 69, 0, 0) := by decide +kernel
theorem L_43_45 : a_look 43 45 = some (.aload_n 0, 0, 0, 0) := by decide +kernel
theorem L_43_46 : a_look 43 46 = some (.getfield 28, 4, 2, 118) := by decide +kernel
theorem L_43_49 : a_look 43 49 = some (.iload_n 1, 0, 0, 0) := by decide +kernel
theorem L_43_50 : a_look 43 50 = some (.invokevirtual 158, 11, 2, 1322) := by decide +kernel
theorem L_43_53 : a_look 43 53 = some (.ifCond .ne 16, 69, 0, 0) := by decide +kernel
theorem L_43_56 : a_look 43 56 = some (.aload_n 0, 0, 0, 0) := by decide +kernel
theorem L_43_57 : a_look 43 57 = some (.getfield 28, 4, 2, 118) := by decide +kernel
theorem L_43_60 : a_look 43 60 = some (.getfield 183, 1, 6, 1319) := by decide +kernel
theorem L_43_63 : a_look 43 63 = some (.iload_n 1, 0, 0, 0) := by decide +kernel
theorem L_43_64 : a_look 43 64 = some (.aload_n 0, 0, 0, 0) := by decide +kernel
theorem L_43_65 : a_look 43 65 = some (.getfield 53, 4, 4, 510) := by decide +kernel
theorem L_43_68 : a_look 43 68 = some (.iastore, 0, 0, 0) := by decide +kernel
theorem L_43_69 : a_look 43 69 = some (.iinc 1 1, 0, 0, 0) := by decide +kernel
theorem L_43_72 : a_look 43 72 = some (.goto (-70), 2, 0, 0) := by decide +kernel
theorem L_43_75 : a_look 43 75 = some (.return_, 0, 0, 0) := by decide +kernel
theorem L_44_0 : a_look 44 0 = some (.iconst 0, 0, 0, 0) := by decide +kernel
theorem L_44_1 : a_look 44 1 = some (.istore_n 1, 0, 0, 0) := by decide +kernel
theorem L_44_2 : a_look 44 2 = some (.iload_n 1, 0, 0, 0) := by decide +kernel
theorem L_44_3 : a_look 44 3 = some (.aload_n 0, 0, 0, 0) := by decide +kernel
theorem L_44_4 : a_look 44 4 = some (.getfield 28, 4, 2, 118) := by decide +kernel
theorem L_44_7 : a_look 44 7 = some (.getfield 105, 1, 10, 1014) := by decide +kernel
theorem L_44_10 : a_look 44 10 = some (.if_icmp .ge 64, 74, 0, 0) := by decide +kernel
theorem L_44_13 : a_look 44 13 = some (.aload_n 0, 0, 0, 0) := by decide +kernel
theorem L_44_14 : a_look 44 14 = some (.getfield 28, 4, 2, 118) := by decide +kernel
theorem L_44_17 : a_look 44 17 = some (.iload_n 1, 0, 0, 0) := by decide +kernel
theorem L_44_18 : a_look 44 18 = some (.invokevirtual 158, 11, 2, 1322) := by decide +kernel
theorem L_44_21 : a_look 44 21 = some (.ifCond .eq 47, 68, 0, 0) := by decide +kernel
theorem L_44_24 : a_look 44 24 = some (.aload_n 0, 0, 0, 0) := by decide +kernel
theorem L_44_25 : a_look 44 25 = some (.getfield 28, 4, 2, 118) := by decide +kernel
theorem L_44_28 : a_look 44 28 = some (.getfield 183, 1, 6, 1319) := by decide +kernel
theorem L_44_31 : a_look 44 31 = some (.iload_n 1, 0, 0, 0) := by decide +kernel
theorem L_44_32 : a_look 44 32 = some (.iaload, 0, 0, 0) := by decide +kernel
theorem L_44_33 : a_look 44 33 = some (.aload_n 0, 0, 0, 0) := by decide +kernel
theorem L_44_34 : a_look 44 34 = some (.getfield 53, 4, 4, 510) := by decide +kernel
theorem L_44_37 : a_look 44 37 = some (.aload_n 0, 0, 0, 0) := by decide +kernel
theorem L_44_38 : a_look 44 38 = some (.getfield 32, 4, 3, 119) := by decide +kernel
theorem L_44_41 : a_look 44 41 = some (.iconst 2, 0, 0, 0) := by decide +kernel
theorem L_44_42 : a_look 44 42 = some (.iaload, 0, 0, 0) := by decide +kernel
theorem L_44_43 : a_look 44 43 = some (.isub, 0, 0, 0) := by decide +kernel
theorem L_44_44 : a_look 44 44 = some (.if_icmp .gt 24, 68, 0, 0) := by decide +kernel
theorem L_44_47 : a_look 44 47 = some (.aload_n 0, 0, 0, 0) := by decide +kernel
theorem L_44_48 : a_look 44 48 = some (.getfield 28, 4, 2, 118) := by decide +kernel
theorem L_44_51 : a_look 44 51 = some (.iload_n 1, 0, 0, 0) := by decide +kernel
theorem L_44_52 : a_look 44 52 = some (.invokevirtual 120, 13, 2, 1411) := by decide +kernel
theorem L_44_55 : a_look 44 55 = some (.aload_n 0, 0, 0, 0) := by decide +kernel
theorem L_44_56 : a_look 44 56 = some (.getfield 28, 4, 2, 118) := by decide +kernel
theorem L_44_59 : a_look 44 59 = some (.getfield 117, 1, 9, 1017) := by decide +kernel
theorem L_44_62 : a_look 44 62 = some (.iload_n 1, 0, 0, 0) := by decide +kernel
theorem L_44_63 : a_look 44 63 = some (.dup2, 0, 0, 0) := by decide +kernel
theorem L_44_64 : a_look 44 64 = some (.iaload, 0, 0, 0) := by decide +kernel
theorem L_44_65 : a_look 44 65 = some (.iconst 1, 0, 0, 0) := by decide +kernel
theorem L_44_66 : a_look 44 66 = some (.iadd, 0, 0, 0) := by decide +kernel
theorem L_44_67 : a_look 44 67 = some (.iastore, 0, 0, 0) := by decide +kernel
theorem L_44_68 : a_look 44 68 = some (.iinc 1 1, 0, 0, 0) := by decide +kernel
theorem L_44_71 : a_look 44 71 = some (.goto (-69), 2, 0, 0) := by decide +kernel
theorem L_44_74 : a_look 44 74 = some (.return_, 0, 0, 0) := by decide +kernel
theorem L_46_0 : a_look 46 0 = some (.aload_n 0, 0, 0, 0) := by decide +kernel
theorem L_46_1 : a_look 46 1 = some (.getfield 53, 4, 4, 510) := by decide +kernel
theorem L_46_4 : a_look 46 4 = some (.aload_n 0, 0, 0, 0) := by decide +kernel
theorem L_46_5 : a_look 46 5 = some (.getfield 32, 4, 3, 119) := by decide +kernel
theorem L_46_8 : a_look 46 8 = some (.iconst 1, 0, 0, 0) := by decide +kernel
theorem L_46_9 : a_look 46 9 = some (.iaload, 0, 0, 0) := by decide +kernel
theorem L_46_10 : a_look 46 10 = some (.iadd, 0, 0, 0) := by decide +kernel
theorem L_46_11 : a_look 46 11 = some (.aload_n 0, 0, 0, 0) := by decide +kernel
theorem L_46_12 : a_look 46 12 = some (.getfield 53, 4, 4, 510) := by decide +kernel
theorem L_46_15 : a_look 46 15 = some (.iload_n 1, 0, 0, 0) := by decide +kernel
theorem L_46_16 : a_look 46 16 = some (.iadd, 0, 0, 0) := by decide +kernel
theorem L_46_17 : a_look 46 17 = some (.aload_n 0, 0, 0, 0) := by decide +kernel
theorem L_46_18 : a_look 46 18 = some (.getfield 32, 4, 3, 119) := by decide +kernel
theorem L_46_21 : a_look 46 21 = some (.iconst 1, 0, 0, 0) := by decide +kernel
theorem L_46_22 : a_look 46 22 = some (.iaload, 0, 0, 0) := by decide +kernel
theorem L_46_23 : a_look 46 23 = some (.irem, 0, 0, 0) := by decide +kernel
theorem L_46_24 : a_look 46 24 = some (.isub, 0, 0, 0) := by decide +kernel
theorem L_46_25 : a_look 46 25 = some (.ireturn, 0, 0, 0) := by decide +kernel
theorem L_47_0 : a_look 47 0 = some (.aload_n 0, 0, 0, 0) := by decide +kernel
theorem L_47_1 : a_look 47 1 = some (.getfield 28, 4, 2, 118) := by decide +kernel
theorem L_47_4 : a_look 47 4 = some (.getfield 186, 1, 4, 621) := by decide +kernel
theorem L_47_7 : a_look 47 7 = some (.iload_n 1, 0, 0, 0) := by decide +kernel
theorem L_47_8 : a_look 47 8 = some (.iaload, 0, 0, 0) := by decide +kernel
theorem L_47_9 : a_look 47 9 = some (.istore_n 2, 0, 0, 0) := by decide +kernel
theorem L_47_10 : a_look 47 10 = some (.iload_n 2, 0, 0, 0) := by decide +kernel
theorem L_47_11 : a_look 47 11 = some (.ifCond .lt 47, 58, 0, 0) := by decide +kernel
theorem L_47_14 : a_look 47 14 = some (.aload_n 0, 0, 0, 0) := by decide +kernel
theorem L_47_15 : a_look 47 15 = some (.iload_n 1, 0, 0, 0) := by decide +kernel
theorem L_47_16 : a_look 47 16 = some (.iload_n 2, 0, 0, 0) := by decide +kernel
theorem L_47_17 : a_look 47 17 = some (.invokevirtual 144, 50, 3, 1621) := by decide +kernel
theorem L_47_20 : a_look 47 20 = some (.istore_n 3, 0, 0, 0) := by decide +kernel
theorem L_47_21 : a_look 47 21 = some (.iload_n 3, 0, 0, 0) := by decide +kernel
theorem L_47_22 : a_look 47 22 = some (.bipush (-6), 0, 0, 0) := by decide +kernel
theorem L_47_24 : a_look 47 24 = some (.if_icmp .eq 28, 52, 0, 0) := by decide +kernel
theorem L_47_27 : a_look 47 27 = some (.aload_n 0, 0, 0, 0) := by decide +kernel
theorem L_47_28 : a_look 47 28 = some (.getfield 28, 4, 2, 118) := by decide +kernel
theorem L_47_31 : a_look 47 31 = some (.iload_n 1, 0, 0, 0) := by decide +kernel
theorem L_47_32 : a_look 47 32 = some (.iload_n 3, 0, 0, 0) := by decide +kernel
theorem L_47_33 : a_look 47 33 = some (.iload_n 2, 0, 0, 0) := by decide +kernel
theorem L_47_34 : a_look 47 34 = some (.invokevirtual 147, 12, 4, 1706) := by decide +kernel
theorem L_47_37 : a_look 47 37 = some (.aload_n 0, 0, 0, 0) := by decide +kernel
theorem L_47_38 : a_look 47 38 = some (.getfield 28, 4, 2, 118) := by decide +kernel
theorem L_47_41 : a_look 47 41 = some (.getfield 111, 1, 7, 1015) := by decide +kernel
theorem L_47_44 : a_look 47 44 = some (.iload_n 1, 0, 0, 0) := by decide +kernel
theorem L_47_45 : a_look 47 45 = some (.dup2, 0, 0, 0) := by decide +kernel
theorem L_47_46 : a_look 47 46 = some (.iaload, 0, 0, 0) := by decide +kernel
theorem L_47_47 : a_look 47 47 = some (.iconst 1, 0, 0, 0) := by decide +kernel
theorem L_47_48 : a_look 47 48 = some (.iadd, 0, 0, 0) := by decide +kernel
theorem L_47_49 : a_look 47 49 = some (.iastore, 0, 0, 0) := by decide +kernel
theorem L_47_50 : a_look 47 50 = some (.iconst 1, 0, 0, 0) := by decide +kernel
theorem L_47_51 : a_look 47 51 = some (.ireturn, 0, 0, 0) := by decide +kernel
theorem L_47_52 : a_look 47 52 = some (.iinc 2 (-1), 0, 0, 0) := by decide +kernel
theorem L_47_55 : a_look 47 55 = some (.goto (-45), 10, 0, 0) := by decide +kernel
theorem L_47_58 : a_look 47 58 = some (.aload_n 0, 0, 0, 0) := by decide +kernel
theorem L_47_59 : a_look 47 59 = some (.getfield 28, 4, 2, 118) := by decide +kernel
theorem L_47_62 : a_look 47 62 = some (.iload_n 1, 0, 0, 0) := by decide +kernel
theorem L_47_63 : a_look 47 63 = some (.invokevirtual 120, 13, 2, 1411) := by decide +kernel
theorem L_47_66 : a_look 47 66 = some (.aload_n 0, 0, 0, 0) := by decide +kernel
theorem L_47_67 : a_look 47 67 = some (.getfield 28, 4, 2, 118) := by decide +kernel
theorem L_47_70 : a_look 47 70 = some (.getfield 114, 1, 8, 1016) := by decide +kernel
theorem L_47_73 : a_look 47 73 = some (.iload_n 1, 0, 0, 0) := by decide +kernel
theorem L_47_74 : a_look 47 74 = some (.dup2, 0, 0, 0) := by decide +kernel
theorem L_47_75 : a_look 47 75 = some (.iaload, 0, 0, 0) := by decide +kernel
theorem L_47_76 : a_look 47 76 = some (.iconst 1, 0, 0, 0) := by decide +kernel
theorem L_47_77 : a_look 47 77 = some (.iadd, 0, 0, 0) := by decide +kernel
theorem L_47_78 : a_look 47 78 = some (.iastore, 0, 0, 0) := by decide +kernel
theorem L_47_79 : a_look 47 79 = some (.iconst 0, 0, 0, 0) := by decide +kernel
theorem L_47_80 : a_look 47 80 = some (.ireturn, 0, 0, 0) := by decide +kernel
theorem L_48_0 : a_look 48 0 = some (.aload_n 0, 0, 0, 0) := by decide +kernel
theorem L_48_1 : a_look 48 1 = some (.getfield 28, 4, 2, 118) := by decide +kernel
theorem L_48_4 : a_look 48 4 = some (.iload_n 1, 0, 0, 0) := by decide +kernel
theorem L_48_5 : a_look 48 5 = some (.invokevirtual 155, 10, 2, 1320) := by decide +kernel
theorem L_48_8 : a_look 48 8 = some (.ifCond .eq 5, 13, 0, 0) := by decide +kernel
theorem L_48_11 : a_look 48 11 = some (.iconst 1, 0, 0, 0) := by decide +kernel
theorem L_48_12 : a_look 48 12 = some (.ireturn, 0, 0, 0) := by decide +kernel
theorem L_48_13 : a_look 48 13 = some (.iload_n 2, 0, 0, 0) := by decide +kernel
theorem L_48_14 : a_look 48 14 = some (.aload_n 0, 0, 0, 0) := by decide +kernel
theorem L_48_15 : a_look 48 15 = some (.getfield 28, 4, 2, 118) := by decide +kernel
theorem L_48_18 : a_look 48 18 = some (.getfield 108, 1, 2, 1410) := by decide +kernel
theorem L_48_21 : a_look 48 21 = some (.iload_n 1, 0, 0, 0) := by decide +kernel
theorem L_48_22 : a_look 48 22 = some (.iaload, 0, 0, 0) := by decide +kernel
theorem L_48_23 : a_look 48 23 = some (.if_icmp .le 5, 28, 0, 0) := by decide +kernel
theorem L_48_26 : a_look 48 26 = some (.iconst 2, 0, 0, 0) := by decide +kernel
theorem L_48_27 : a_look 48 27 = some (.ireturn, 0, 0, 0) := by decide +kernel
theorem L_48_28 : a_look 48 28 = some (.aload_n 0, 0, 0, 0) := by decide +kernel
theorem L_48_29 : a_look 48 29 = some (.iload_n 1, 0, 0, 0) := by decide +kernel
theorem L_48_30 : a_look 48 30 = some (.iload_n 2, 0, 0, 0) := by decide +kernel
theorem L_48_31 : a_look 48 31 = some (.invokevirtual 189, 49, 3, 1617) := by decide +kernel
theorem L_48_34 : a_look 48 34 = some (.ifCond .ne 5, 39, 0, 0) := by decide +kernel
theorem L_48_37 : a_look 48 37 = some (.iconst 3, 0, 0, 0) := by decide +kernel
theorem L_48_38 : a_look 48 38 = some (.ireturn, 0, 0, 0) := by decide +kernel
theorem L_48_39 : a_look 48 39 = some (.aload_n 0, 0, 0, 0) := by decide +kernel
theorem L_48_40 : a_look 48 40 = some (.iload_n 1, 0, 0, 0) := by decide +kernel
theorem L_48_41 : a_look 48 41 = some (.iload_n 2, 0, 0, 0) := by decide +kernel
theorem L_48_42 : a_look 48 42 = some (.invokevirtual 144, 50, 3, 1621) := by decide +kernel
theorem L_48_45 : a_look 48 45 = some (.bipush (-6), 0, 0, 0) := by decide +kernel
theorem L_48_47 : a_look 48 47 = some (.if_icmp .ne 7, 54, 0, 0) := by decide +kernel
theorem L_48_50 : a_look 48 50 = some (.iconst 4, 0, 0, 0) := by decide +kernel
theorem L_48_51 : a_look 48 51 = some (.goto 4, 55, 0, 0) := by decide +kernel
theorem L_48_54 : a_look 48 54 = some (.iconst 0, 0, 0, 0) := by decide +kernel
theorem L_48_55 : a_look 48 55 = some (.ireturn, 0, 0, 0) := by decide +kernel
theorem L_49_0 : a_look 49 0 = some (.iconst 0, 0, 0, 0) := by decide +kernel
theorem L_49_1 : a_look 49 1 = some (.istore_n 3, 0, 0, 0) := by decide +kernel
theorem L_49_2 : a_look 49 2 = some (.iload_n 3, 0, 0, 0) := by decide +kernel
theorem L_49_3 : a_look 49 3 = some (.bipush 8, 0, 0, 0) := by decide +kernel
theorem L_49_5 : a_look 49 5 = some (.if_icmp .ge 38, 43, 0, 0) := by decide +kernel
theorem L_49_8 : a_look 49 8 = some (.aload_n 0, 0, 0, 0) := by decide +kernel
theorem L_49_9 : a_look 49 9 = some (.iload_n 3, 0, 0, 0) := by decide +kernel
theorem L_49_10 : a_look 49 10 = some (.iload_n 2, 0, 0, 0) := by decide +kernel
theorem L_49_11 : a_look 49 11 = some (.aload_n 0, 0, 0, 0) := by decide +kernel
theorem L_49_12 : a_look 49 12 = some (.getfield 28, 4, 2, 118) := by decide +kernel
theorem L_49_15 : a_look 49 15 = some (.getfield 106, 1, 0, 622) := by decide +kernel
theorem L_49_18 : a_look 49 18 = some (.iload_n 1, 0, 0, 0) := by decide +kernel
theorem L_49_19 : a_look 49 19 = some (.iaload, 0, 0, 0) := by decide +kernel
theorem L_49_20 : a_look 49 20 = some (.aload_n 0, 0, 0, 0) := by decide +kernel
theorem L_49_21 : a_look 49 21 = some (.getfield 28, 4, 2, 118) := by decide +kernel
theorem L_49_24 : a_look 49 24 = some (.getfield 107, 1, 1, 623) := by decide +kernel
theorem L_49_27 : a_look 49 27 = some (.iload_n 1, 0, 0, 0) := by decide +kernel
theorem L_49_28 : a_look 49 28 = some (.iaload, 0, 0, 0) := by decide +kernel
theorem L_49_29 : a_look 49 29 = some (.invokevirtual 192, 53, 5, 700) := by decide +kernel
theorem L_49_32 : a_look 49 32 = some (.ifCond .eq 5, 37, 0, 0) := by decide +kernel
theorem L_49_35 : a_look 49 35 = some (.iconst 1, 0, 0, 0) := by decide +kernel
theorem L_49_36 : a_look 49 36 = some (.ireturn, 0, 0, 0) := by decide +kernel
theorem L_49_37 : a_look 49 37 = some (.iinc 3 1, 0, 0, 0) := by decide +kernel
theorem L_49_40 : a_look 49 40 = some (.goto (-38), 2, 0, 0) := by decide +kernel
theorem L_49_43 : a_look 49 43 = some (.iconst 0, 0, 0, 0) := by decide +kernel
theorem L_49_44 : a_look 49 44 = some (.ireturn, 0, 0, 0) := by decide +kernel
theorem L_50_0 : a_look 50 0 = some (.bipush (-6), 0, 0, 0) := by decide +kernel
theorem L_50_2 : a_look 50 2 = some (.istore_n 3, 0, 0, 0) := by decide +kernel
theorem L_50_3 : a_look 50 3 = some (.bipush 16, 0, 0, 0) := by decide +kernel
theorem L_50_5 : a_look 50 5 = some (.istore 4, 0, 0, 0) := by decide +kernel
theorem L_50_7 : a_look 50 7 = some (.iconst 0, 0, 0, 0) := by decide +kernel
theorem L_50_8 : a_look 50 8 = some (.istore 5, 0, 0, 0) := by decide +kernel
theorem L_50_10 : a_look 50 10 = some (.iload 5, 0, 0, 0) := by decide +kernel
theorem L_50_12 : a_look 50 12 = some (.bipush 8, 0, 0, 0) := by decide +kernel
theorem L_50_14 : a_look 50 14 = some (.if_icmp .ge 90, 104, 0, 0) := by decide +kernel
theorem L_50_17 : a_look 50 17 = some (.aload_n 0, 0, 0, 0) := by decide +kernel
theorem L_50_18 : a_look 50 18 = some (.iload 5, 0, 0, 0) := by decide +kernel
theorem L_50_20 : a_look 50 20 = some (.iload_n 2, 0, 0, 0) := by decide +kernel
theorem L_50_21 : a_look 50 21 = some (.aload_n 0, 0, 0, 0) := by decide +kernel
theorem L_50_22 : a_look 50 22 = some (.getfield 28, 4, 2, 118) := by decide +kernel
theorem L_50_25 : a_look 50 25 = some (.getfield 106, 1, 0, 622) := by decide +kernel
theorem L_50_28 : a_look 50 28 = some (.iload_n 1, 0, 0, 0) := by decide +kernel
theorem L_50_29 : a_look 50 29 = some (.iaload, 0, 0, 0) := by decide +kernel
theorem L_50_30 : a_look 50 30 = some (.aload_n 0, 0, 0, 0) := by decide +kernel
theorem L_50_31 : a_look 50 31 = some (.getfield 28, 4, 2, 118) := by decide +kernel
theorem L_50_34 : a_look 50 34 = some (.getfield 107, 1, 1, 623) := by decide +kernel
theorem L_50_37 : a_look 50 37 = some (.iload_n 1, 0, 0, 0) := by decide +kernel
theorem L_50_38 : a_look 50 38 = some (.iaload, 0, 0, 0) := by decide +kernel
theorem L_50_39 : a_look 50 39 = some (.invokevirtual 192, 53, 5, 700) := by decide +kernel
theorem L_50_42 : a_look 50 42 = some (.ifCond .eq 56, 98, 0, 0) := by decide +kernel
theorem L_50_45 : a_look 50 45 = some (.aload_n 0, 0, 0, 0) := by decide +kernel
theorem L_50_46 : a_look 50 46 = some (.iload 5, 0, 0, 0) := by decide +kernel
theorem L_50_48 : a_look 50 48 = some (.iload_n 1, 0, 0, 0) := by decide +kernel
theorem L_50_49 : a_look 50 49 = some (.iload_n 2, 0, 0, 0) := by decide +kernel
theorem L_50_50 : a_look 50 50 = some (.invokevirtual 196, 51, 4, 1701) := by decide +kernel
theorem L_50_53 : a_look 50 53 = some (.ifCond .eq 45, 98, 0, 0) := by decide +kernel
theorem L_50_56 : a_look 50 56 = some (.aload_n 0, 0, 0, 0) := by decide +kernel
theorem L_50_57 : a_look 50 57 = some (.getfield 28, 4, 2, 118) := by decide +kernel
theorem L_50_60 : a_look 50 60 = some (.iload 5, 0, 0, 0) := by decide +kernel
theorem L_50_62 : a_look 50 62 = some (.invokevirtual 199, 16, 2, 1705) := by decide +kernel
theorem L_50_65 : a_look 50 65 = some (.istore 6, 0, 0, 0) := by decide +kernel
theorem L_50_67 : a_look 50 67 = some (.aload_n 0, 0, 0, 0) := by decide +kernel
theorem L_50_68 : a_look 50 68 = some (.getfield 28, 4, 2, 118) := by decide +kernel
theorem L_50_71 : a_look 50 71 = some (.getfield 154, 1, 3, 620) := by decide +kernel
theorem L_50_74 : a_look 50 74 = some (.iload_n 1, 0, 0, 0) := by decide +kernel
theorem L_50_75 : a_look 50 75 = some (.iaload, 0, 0, 0) := by decide +kernel
theorem L_50_76 : a_look 50 76 = some (.iload 5, 0, 0, 0) := by decide +kernel
theorem L_50_78 : a_look 50 78 = some (.if_icmp .ne 6, 84, 0, 0) := by decide +kernel
theorem L_50_81 : a_look 50 81 = some (.iinc 6 (-1), 0, 0, 0) := by decide +kernel
theorem L_50_84 : a_look 50 84 = some (.iload 6, 0, 0, 0) := by decide +kernel
theorem L_50_86 : a_look 50 86 = some (.iload 4, 0, 0, 0) := by decide +kernel
theorem L_50_88 : a_look 50 88 = some (.if_icmp .ge 10, 98, 0, 0) := by decide +kernel
theorem L_50_91 : a_look 50 91 = some (.iload 6, 0, 0, 0) := by decide +kernel
theorem L_50_93 : a_look 50 93 = some (.istore 4, 0, 0, 0) := by decide +kernel
theorem L_50_95 : a_look 50 95 = some (.iload 5, 0, 0, 0) := by decide +kernel
theorem L_50_97 : a_look 50 97 = some (.istore_n 3, 0, 0, 0) := by decide +kernel
theorem L_50_98 : a_look 50 98 = some (.iinc 5 1, 0, 0, 0) := by decide +kernel
theorem L_50_101 : a_look 50 101 = some (.goto (-91), 10, 0, 0) := by decide +kernel
theorem L_50_104 : a_look 50 104 = some (.iload_n 3, 0, 0, 0) := by decide +kernel
theorem L_50_105 : a_look 50 105 = some (.ireturn, 0, 0, 0) := by decide +kernel
theorem L_51_0 : a_look 51 0 = some (.iconst 0, 0, 0, 0) := by decide +kernel
theorem L_51_1 : a_look 51 1 = some (.istore 4, 0, 0, 0) := by decide +kernel
theorem L_51_3 : a_look 51 3 = some (.iload 4, 0, 0, 0) := by decide +kernel
theorem L_51_5 : a_look 51 5 = some (.aload_n 0, 0, 0, 0) := by decide +kernel
theorem L_51_6 : a_look 51 6 = some (.getfield 28, 4, 2, 118) := by decide +kernel
theorem L_51_9 : a_look 51 9 = some (.getfield 105, 1, 10, 1014) := by decide +kernel
theorem L_51_12 : a_look 51 12 = some (.if_icmp .ge 97, 109, 0, 0) := by decide +kernel
theorem L_51_15 : a_look 51 15 = some (.iload 4, 0, 0, 0) := by decide +kernel
theorem L_51_17 : a_look 51 17 = some (.iload_n 2, 0, 0, 0) := by decide +kernel
theorem L_51_18 : a_look 51 18 = some (.if_icmp .eq 85, 103, 0, 0) := by decide +kernel
theorem L_51_21 : a_look 51 21 = some (.aload_n 0, 0, 0, 0) := by decide +kernel
theorem L_51_22 : a_look 51 22 = some (.getfield 28, 4, 2, 118) := by decide +kernel
theorem L_51_25 : a_look 51 25 = some (.getfield 154, 1, 3, 620) := by decide +kernel
theorem L_51_28 : a_look 51 28 = some (.iload 4, 0, 0, 0) := by decide +kernel
theorem L_51_30 : a_look 51 30 = some (.iaload, 0, 0, 0) := by decide +kernel
theorem L_51_31 : a_look 51 31 = some (.iload_n 1, 0, 0, 0) := by decide +kernel
theorem L_51_32 : a_look 51 32 = some (.if_icmp .ne 71, 103, 0, 0) := by decide +kernel
theorem L_51_35 : a_look 51 35 = some (.aload_n 0, 0, 0, 0) := by decide +kernel
theorem L_51_36 : a_look 51 36 = some (.getfield 28, 4, 2, 118) := by decide +kernel
theorem L_51_39 : a_look 51 39 = some (.getfield 106, 1, 0, 622) := by decide +kernel
theorem L_51_42 : a_look 51 42 = some (.iload 4, 0, 0, 0) := by decide +kernel
theorem L_51_44 : a_look 51 44 = some (.iaload, 0, 0, 0) := by decide +kernel
theorem L_51_45 : a_look 51 45 = some (.aload_n 0, 0, 0, 0) := by decide +kernel
theorem L_51_46 : a_look 51 46 = some (.getfield 28, 4, 2, 118) := by decide +kernel
theorem L_51_49 : a_look 51 49 = some (.getfield 106, 1, 0, 622) := by decide +kernel
theorem L_51_52 : a_look 51 52 = some (.iload_n 2, 0, 0, 0) := by decide +kernel
theorem L_51_53 : a_look 51 53 = some (.iaload, 0, 0, 0) := by decide +kernel
theorem L_51_54 : a_look 51 54 = some (.isub, 0, 0, 0) := by decide +kernel
theorem L_51_55 : a_look 51 55 = some (.aload_n 0, 0, 0, 0) := by decide +kernel
theorem L_51_56 : a_look 51 56 = some (.getfield 28, 4, 2, 118) := by decide +kernel
theorem L_51_59 : a_look 51 59 = some (.getfield 107, 1, 1, 623) := by decide +kernel
theorem L_51_62 : a_look 51 62 = some (.iload 4, 0, 0, 0) := by decide +kernel
theorem L_51_64 : a_look 51 64 = some (.iaload, 0, 0, 0) := by decide +kernel
theorem L_51_65 : a_look 51 65 = some (.aload_n 0, 0, 0, 0) := by decide +kernel
theorem L_51_66 : a_look 51 66 = some (.getfield 28, 4, 2, 118) := by decide +kernel
theorem L_51_69 : a_look 51 69 = some (.getfield 107, 1, 1, 623) := by decide +kernel
theorem L_51_72 : a_look 51 72 = some (.iload_n 2, 0, 0, 0) := by decide +kernel
theorem L_51_73 : a_look 51 73 = some (.iaload, 0, 0, 0) := by decide +kernel
theorem L_51_74 : a_look 51 74 = some (.isub, 0, 0, 0) := by decide +kernel
theorem L_51_75 : a_look 51 75 = some (.getstatic 202, 42, 0, 5009) := by decide +kernel
theorem L_51_78 : a_look 51 78 = some (.aload_n 0, 0, 0, 0) := by decide +kernel
theorem L_51_79 : a_look 51 79 = some (.getfield 28, 4, 2, 118) := by decide +kernel
theorem L_51_82 : a_look 51 82 = some (.getfield 186, 1, 4, 621) := by decide +kernel
theorem L_51_85 : a_look 51 85 = some (.iload 4, 0, 0, 0) := by decide +kernel
theorem L_51_87 : a_look 51 87 = some (.iaload, 0, 0, 0) := by decide +kernel
theorem L_51_88 : a_look 51 88 = some (.iaload, 0, 0, 0) := by decide +kernel
theorem L_51_89 : a_look 51 89 = some (.getstatic 202, 42, 0, 5009) := by decide +kernel
theorem L_51_92 : a_look 51 92 = some (.iload_n 3, 0, 0, 0) := by decide +kernel
theorem L_51_93 : a_look 51 93 = some (.iaload, 0, 0, 0) := by decide +kernel
theorem L_51_94 : a_look 51 94 = some (.iadd, 0, 0, 0) := by decide +kernel
theorem L_51_95 : a_look 51 95 = some (.invokestatic 205, 95, 3, 5004) := by decide +kernel
theorem L_51_98 : a_look 51 98 = some (.ifCond .eq 5, 103, 0, 0) := by decide +kernel
theorem L_51_101 : a_look 51 101 = some (.iconst 0, 0, 0, 0) := by decide +kernel
theorem L_51_102 : a_look 51 102 = some (.ireturn, 0, 0, 0) := by decide +kernel
theorem L_51_103 : a_look 51 103 = some (.iinc 4 1, 0, 0, 0) := by decide +kernel
theorem L_51_106 : a_look 51 106 = some (.goto (-103), 3, 0, 0) := by decide +kernel
theorem L_51_109 : a_look 51 109 = some (.iconst 1, 0, 0, 0) := by decide +kernel
theorem L_51_110 : a_look 51 110 = some (.ireturn, 0, 0, 0) := by decide +kernel
theorem L_52_0 : a_look 52 0 = some (.aload_n 0, 0, 0, 0) := by decide +kernel
theorem L_52_1 : a_look 52 1 = some (.aload_n 0, 0, 0, 0) := by decide +kernel
theorem L_52_2 : a_look 52 2 = some (.getfield 28, 4, 2, 118) := by decide +kernel
theorem L_52_5 : a_look 52 5 = some (.getfield 154, 1, 3, 620) := by decide +kernel
theorem L_52_8 : a_look 52 8 = some (.iload_n 1, 0, 0, 0) := by decide +kernel
theorem L_52_9 : a_look 52 9 = some (.iaload, 0, 0, 0) := by decide +kernel
theorem L_52_10 : a_look 52 10 = some (.aload_n 0, 0, 0, 0) := by decide +kernel
theorem L_52_11 : a_look 52 11 = some (.getfield 28, 4, 2, 118) := by decide +kernel
theorem L_52_14 : a_look 52 14 = some (.getfield 186, 1, 4, 621) := by decide +kernel
theorem L_52_17 : a_look 52 17 = some (.iload_n 1, 0, 0, 0) := by decide +kernel
theorem L_52_18 : a_look 52 18 = some (.iaload, 0, 0, 0) := by decide +kernel
theorem L_52_19 : a_look 52 19 = some (.aload_n 0, 0, 0, 0) := by decide +kernel
theorem L_52_20 : a_look 52 20 = some (.getfield 28, 4, 2, 118) := by decide +kernel
theorem L_52_23 : a_look 52 23 = some (.getfield 106, 1, 0, 622) := by decide +kernel
theorem L_52_26 : a_look 52 26 = some (.iload_n 1, 0, 0, 0) := by decide +kernel
theorem L_52_27 : a_look 52 27 = some (.iaload, 0, 0, 0) := by decide +kernel
theorem L_52_28 : a_look 52 28 = some (.aload_n 0, 0, 0, 0) := by decide +kernel
theorem L_52_29 : a_look 52 29 = some (.getfield 28, 4, 2, 118) := by decide +kernel
theorem L_52_32 : a_look 52 32 = some (.getfield 107, 1, 1, 623) := by decide +kernel
theorem L_52_35 : a_look 52 35 = some (.iload_n 1, 0, 0, 0) := by decide +kernel
theorem L_52_36 : a_look 52 36 = some (.iaload, 0, 0, 0) := by decide +kernel
theorem L_52_37 : a_look 52 37 = some (.invokevirtual 192, 53, 5, 700) := by decide +kernel
theorem L_52_40 : a_look 52 40 = some (.ireturn, 0, 0, 0) := by decide +kernel
theorem L_53_0 : a_look 53 0 = some (.iconst 0, 0, 0, 0) := by decide +kernel
theorem L_53_1 : a_look 53 1 = some (.istore 5, 0, 0, 0) := by decide +kernel
theorem L_53_3 : a_look 53 3 = some (.iload 5, 0, 0, 0) := by decide +kernel
theorem L_53_5 : a_look 53 5 = some (.aload_n 0, 0, 0, 0) := by decide +kernel
theorem L_53_6 : a_look 53 6 = some (.getfield 12, 4, 0, 110) := by decide +kernel
theorem L_53_9 : a_look 53 9 = some (.getfield 68, 5, 5, 704) := by decide +kernel
theorem L_53_12 : a_look 53 12 = some (.if_icmp .ge 65, 77, 0, 0) := by decide +kernel
theorem L_53_15 : a_look 53 15 = some (.aload_n 0, 0, 0, 0) := by decide +kernel
theorem L_53_16 : a_look 53 16 = some (.iload 5, 0, 0, 0) := by decide +kernel
theorem L_53_18 : a_look 53 18 = some (.iload_n 1, 0, 0, 0) := by decide +kernel
theorem L_53_19 : a_look 53 19 = some (.invokevirtual 208, 54, 3, 712) := by decide +kernel
theorem L_53_22 : a_look 53 22 = some (.istore 6, 0, 0, 0) := by decide +kernel
theorem L_53_24 : a_look 53 24 = some (.iload 6, 0, 0, 0) := by decide +kernel
theorem L_53_26 : a_look 53 26 = some (.iconst (-1), 0, 0, 0) := by decide +kernel
theorem L_53_27 : a_look 53 27 = some (.if_icmp .eq 44, 71, 0, 0) := by decide +kernel
theorem L_53_30 : a_look 53 30 = some (.aload_n 0, 0, 0, 0) := by decide +kernel
theorem L_53_31 : a_look 53 31 = some (.getfield 12, 4, 0, 110) := by decide +kernel
theorem L_53_34 : a_look 53 34 = some (.getfield 71, 5, 0, 705) := by decide +kernel
theorem L_53_37 : a_look 53 37 = some (.iload 5, 0, 0, 0) := by decide +kernel
theorem L_53_39 : a_look 53 39 = some (.iaload, 0, 0, 0) := by decide +kernel
theorem L_53_40 : a_look 53 40 = some (.iload_n 3, 0, 0, 0) := by decide +kernel
theorem L_53_41 : a_look 53 41 = some (.isub, 0, 0, 0) := by decide +kernel
theorem L_53_42 : a_look 53 42 = some (.aload_n 0, 0, 0, 0) := by decide +kernel
theorem L_53_43 : a_look 53 43 = some (.getfield 12, 4, 0, 110) := by decide +kernel
theorem L_53_46 : a_look 53 46 = some (.getfield 74, 5, 1, 706) := by decide +kernel
theorem L_53_49 : a_look 53 49 = some (.iload 5, 0, 0, 0) := by decide +kernel
theorem L_53_51 : a_look 53 51 = some (.iaload, 0, 0, 0) := by decide +kernel
theorem L_53_52 : a_look 53 52 = some (.iload 4, 0, 0, 0) := by decide +kernel
theorem L_53_54 : a_look 53 54 = some (.isub, 0, 0, 0) := by decide +kernel
theorem L_53_55 : a_look 53 55 = some (.iload 6, 0, 0, 0) := by decide +kernel
theorem L_53_57 : a_look 53 57 = some (.getstatic 202, 42, 0, 5009) := by decide +kernel
theorem L_53_60 : a_look 53 60 = some (.iload_n 2, 0, 0, 0) := by decide +kernel
theorem L_53_61 : a_look 53 61 = some (.iaload, 0, 0, 0) := by decide +kernel
theorem L_53_62 : a_look 53 62 = some (.iadd, 0, 0, 0) := by decide +kernel
theorem L_53_63 : a_look 53 63 = some (.invokestatic 205, 95, 3, 5004) := by decide +kernel
theorem L_53_66 : a_look 53 66 = some (.ifCond .eq 5, 71, 0, 0) := by decide +kernel
theorem L_53_69 : a_look 53 69 = some (.iconst 0, 0, 0, 0) := by decide +kernel
theorem L_53_70 : a_look 53 70 = some (.ireturn, 0, 0, 0) := by decide +kernel
theorem L_53_71 : a_look 53 71 = some (.iinc 5 1, 0, 0, 0) := by decide +kernel
theorem L_53_74 : a_look 53 74 = some (.goto (-71), 3, 0, 0) := by decide +kernel
theorem L_53_77 : a_look 53 77 = some (.iconst 0, 0, 0, 0) := by decide +kernel
theorem L_53_78 : a_look 53 78 = some (.istore 5, 0, 0, 0) := by decide +kernel
theorem L_53_80 : a_look 53 80 = some (.iload 5, 0, 0, 0) := by decide +kernel
theorem L_53_82 : a_look 53 82 = some (.aload_n 0, 0, 0, 0) := by decide +kernel
theorem L_53_83 : a_look 53 83 = some (.getfield 21, 4, 1, 114) := by decide +kernel
theorem L_53_86 : a_look 53 86 = some (.getfield 86, 2, 7, 707) := by decide +kernel
theorem L_53_89 : a_look 53 89 = some (.if_icmp .ge 88, 177, 0, 0) := by decide +kernel
theorem L_53_92 : a_look 53 92 = some (.aload_n 0, 0, 0, 0) := by decide +kernel
theorem L_53_93 : a_look 53 93 = some (.getfield 21, 4, 1, 114) := by decide +kernel
theorem L_53_96 : a_look 53 96 = some (.getfield 92, 2, 3, 708) := by decide +kernel
theorem L_53_99 : a_look 53 99 = some (.iload 5, 0, 0, 0) := by decide +kernel
theorem L_53_101 : a_look 53 101 = some (.iaload, 0, 0, 0) := by decide +kernel
theorem L_53_102 : a_look 53 102 = some (.iload_n 1, 0, 0, 0) := by decide +kernel
theorem L_53_103 : a_look 53 103 = some (.if_icmp .ne 68, 171, 0, 0) := by decide +kernel
theorem L_53_106 : a_look 53 106 = some (.aload_n 0, 0, 0, 0) := by decide +kernel
theorem L_53_107 : a_look 53 107 = some (.getfield 21, 4, 1, 114) := by decide +kernel
theorem L_53_110 : a_look 53 110 = some (.iload 5, 0, 0, 0) := by decide +kernel
theorem L_53_112 : a_look 53 112 = some (.aload_n 0, 0, 0, 0) := by decide +kernel
theorem L_53_113 : a_look 53 113 = some (.getfield 53, 4, 4, 510) := by decide +kernel
theorem L_53_116 : a_look 53 116 = some (.invokevirtual 211, 24, 3, 721) := by decide +kernel
theorem L_53_119 : a_look 53 119 = some (.ifCond .eq 52, 171, 0, 0) := by decide +kernel
theorem L_53_122 : a_look 53 122 = some (.aload_n 0, 0, 0, 0) := by decide +kernel
theorem L_53_123 : a_look 53 123 = some (.getfield 21, 4, 1, 114) := by decide +kernel
theorem L_53_126 : a_look 53 126 = some (.getfield 87, 2, 0, 709) := by decide +kernel
theorem L_53_129 : a_look 53 129 = some (.iload 5, 0, 0, 0) := by decide +kernel
theorem L_53_131 : a_look 53 131 = some (.iaload, 0, 0, 0) := by decide +kernel
theorem L_53_132 : a_look 53 132 = some (.iload_n 3, 0, 0, 0) := by decide +kernel
theorem L_53_133 : a_look 53 133 = some (.isub, 0, 0, 0) := by decide +kernel
theorem L_53_134 : a_look 53 134 = some (.aload_n 0, 0, 0, 0) := by decide +kernel
theorem L_53_135 : a_look 53 135 = some (.getfield 21, 4, 1, 114) := by decide +kernel
theorem L_53_138 : a_look 53 138 = some (.getfield 88, 2, 1, 710) := by decide +kernel
theorem L_53_141 : a_look 53 141 = some (.iload 5, 0, 0, 0) := by decide +kernel
theorem L_53_143 : a_look 53 143 = some (.iaload, 0, 0, 0) := by decide +kernel
theorem L_53_144 : a_look 53 144 = some (.iload 4, 0, 0, 0) := by decide +kernel
theorem L_53_146 : a_look 53 146 = some (.isub, 0, 0, 0) := by decide +kernel
theorem L_53_147 : a_look 53 147 = some (.aload_n 0, 0, 0, 0) := by decide +kernel
theorem L_53_148 : a_look 53 148 = some (.getfield 21, 4, 1, 114) := by decide +kernel
theorem L_53_151 : a_look 53 151 = some (.getfield 89, 2, 2, 711) := by decide +kernel
theorem L_53_154 : a_look 53 154 = some (.iload 5, 0, 0, 0) := by decide +kernel
theorem L_53_156 : a_look 53 156 = some (.iaload, 0, 0, 0) := by decide +kernel
theorem L_53_157 : a_look 53 157 = some (.getstatic 202, 42, 0, 5009) := by decide +kernel
theorem L_53_160 : a_look 53 160 = some (.iload_n 2, 0, 0, 0) := by decide +kernel
theorem L_53_161 : a_look 53 161 = some (.iaload, 0, 0, 0) := by decide +kernel
theorem L_53_162 : a_look 53 162 = some (.iadd, 0, 0, 0) := by decide +kernel
theorem L_53_163 : a_look 53 163 = some (.invokestatic 205, 95, 3, 5004) := by decide +kernel
theorem L_53_166 : a_look 53 166 = some (.ifCond .eq 5, 171, 0, 0) := by decide +kernel
theorem L_53_169 : a_look 53 169 = some (.iconst 0, 0, 0, 0) := by decide +kernel
theorem L_53_170 : a_look 53 170 = some (.ireturn, 0, 0, 0) := by decide +kernel
theorem L_53_171 : a_look 53 171 = some (.iinc 5 1, 0, 0, 0) := by decide +kernel
theorem L_53_174 : a_look 53 174 = some (.goto (-94), 80, 0, 0) := by decide +kernel
theorem L_53_177 : a_look 53 177 = some (.iconst 1, 0, 0, 0) := by decide +kernel
theorem L_53_178 : a_look 53 178 = some (.ireturn, 0, 0, 0) := by decide +kernel
theorem L_54_0 : a_look 54 0 = some (.aload_n 0, 0, 0, 0) := by decide +kernel
theorem L_54_1 : a_look 54 1 = some (.getfield 12, 4, 0, 110) := by decide +kernel
theorem L_54_4 : a_look 54 4 = some (.getfield 83, 5, 4, 716) := by decide +kernel
theorem L_54_7 : a_look 54 7 = some (.iload_n 1, 0, 0, 0) := by decide +kernel
theorem L_54_8 : a_look 54 8 = some (.iaload, 0, 0, 0) := by decide +kernel
theorem L_54_9 : a_look 54 9 = some (.ifCond .ne 5, 14, 0, 0) := by decide +kernel
theorem L_54_12 : a_look 54 12 = some (.iconst (-1), 0, 0, 0) := by decide +kernel
theorem L_54_13 : a_look 54 13 = some (.ireturn, 0, 0, 0) := by decide +kernel
theorem L_54_14 : a_look 54 14 = some (.getstatic 214, 41, 0, 5008) := by decide +kernel
theorem L_54_17 : a_look 54 17 = some (.aload_n 0, 0, 0, 0) := by decide +kernel
theorem L_54_18 : a_look 54 18 = some (.getfield 12, 4, 0, 110) := by decide +kernel
theorem L_54_21 : a_look 54 21 = some (.getfield 80, 5, 3, 717) := by decide +kernel
theorem L_54_24 : a_look 54 24 = some (.iload_n 1, 0, 0, 0) := by decide +kernel
theorem L_54_25 : a_look 54 25 = some (.iaload, 0, 0, 0) := by decide +kernel
theorem L_54_26 : a_look 54 26 = some (.iaload, 0, 0, 0) := by decide +kernel
theorem L_54_27 : a_look 54 27 = some (.istore_n 3, 0, 0, 0) := by decide +kernel
theorem L_54_28 : a_look 54 28 = some (.aload_n 0, 0, 0, 0) := by decide +kernel
theorem L_54_29 : a_look 54 29 = some (.getfield 12, 4, 0, 110) := by decide +kernel
theorem L_54_32 : a_look 54 32 = some (.getfield 77, 5, 2, 718) := by decide +kernel
theorem L_54_35 : a_look 54 35 = some (.iload_n 1, 0, 0, 0) := by decide +kernel
theorem L_54_36 : a_look 54 36 = some (.iaload, 0, 0, 0) := by decide +kernel
theorem L_54_37 : a_look 54 37 = some (.iload_n 2, 0, 0, 0) := by decide +kernel
theorem L_54_38 : a_look 54 38 = some (.isub, 0, 0, 0) := by decide +kernel
theorem L_54_39 : a_look 54 39 = some (.istore 4, 0, 0, 0) := by decide +kernel
theorem L_54_41 : a_look 54 41 = some (.iload 4, 0, 0, 0) := by decide +kernel
theorem L_54_43 : a_look 54 43 = some (.ifCond .ne 5, 48, 0, 0) := by decide +kernel
theorem L_54_46 : a_look 54 46 = some (.iload_n 3, 0, 0, 0) := by decide +kernel
theorem L_54_47 : a_look 54 47 = some (.ireturn, 0, 0, 0) := by decide +kernel
theorem L_54_48 : a_look 54 48 = some (.iload 4, 0, 0, 0) := by decide +kernel
theorem L_54_50 : a_look 54 50 = some (.iconst 1, 0, 0, 0) := by decide +kernel
theorem L_54_51 : a_look 54 51 = some (.if_icmp .eq 9, 60, 0, 0) := by decide +kernel
theorem L_54_54 : a_look 54 54 = some (.iload 4, 0, 0, 0) := by decide +kernel
theorem L_54_56 : a_look 54 56 = some (.iconst (-1), 0, 0, 0) := by decide +kernel
theorem L_54_57 : a_look 54 57 = some (.if_icmp .ne 15, 72, 0, 0) := by decide +kernel
theorem L_54_60 : a_look 54 60 = some (.iload_n 3, 0, 0, 0) := by decide +kernel
theorem L_54_61 : a_look 54 61 = some (.aload_n 0, 0, 0, 0) := by decide +kernel
theorem L_54_62 : a_look 54 62 = some (.getfield 32, 4, 3, 119) := by decide +kernel
theorem L_54_65 : a_look 54 65 = some (.iconst 0, 0, 0, 0) := by decide +kernel
theorem L_54_66 : a_look 54 66 = some (.iaload, 0, 0, 0) := by decide +kernel
theorem L_54_67 : a_look 54 67 = some (.imul, 0, 0, 0) := by decide +kernel
theorem L_54_68 : a_look 54 68 = some (.bipush 100, 0, 0, 0) := by decide +kernel
theorem L_54_70 : a_look 54 70 = some (.idiv, 0, 0, 0) := by decide +kernel
theorem L_54_71 : a_look 54 71 = some (.ireturn, 0, 0, 0) := by decide +kernel
theorem L_54_72 : a_look 54 72 = some (.iconst (-1), 0, 0, 0) := by decide +kernel
theorem L_54_73 : a_look 54 73 = some (.ireturn, 0, 0, 0) := by decide +kernel
theorem L_55_0 : a_look 55 0 = some (.iload_n 1, 0, 0, 0) := by decide +kernel
theorem L_55_1 : a_look 55 1 = some (.tableswitch 192 0 14 #[75, 80, 88, 96, 104, 112, 120, 128, 143, 158, 173, 192, 192, 178, 185], 0, 75, 0) := by decide +kernel
theorem L_55_76 : a_look 55 76 = some (.aload_n 0, 0, 0, 0) := by decide +kernel
theorem L_55_77 : a_look 55 77 = some (.getfield 53, 4, 4, 510) := by decide +kernel
theorem L_55_80 : a_look 55 80 = some (.ireturn, 0, 0, 0) := by decide +kernel
theorem L_55_81 : a_look 55 81 = some (.aload_n 0, 0, 0, 0) := by decide +kernel
theorem L_55_82 : a_look 55 82 = some (.getfield 12, 4, 0, 110) := by decide +kernel
theorem L_55_85 : a_look 55 85 = some (.getfield 68, 5, 5, 704) := by decide +kernel
theorem L_55_88 : a_look 55 88 = some (.ireturn, 0, 0, 0) := by decide +kernel
theorem L_55_89 : a_look 55 89 = some (.aload_n 0, 0, 0, 0) := by decide +kernel
theorem L_55_90 : a_look 55 90 = some (.getfield 21, 4, 1, 114) := by decide +kernel
theorem L_55_93 : a_look 55 93 = some (.getfield 86, 2, 7, 707) := by decide +kernel
theorem L_55_96 : a_look 55 96 = some (.ireturn, 0, 0, 0) := by decide +kernel
theorem L_55_97 : a_look 55 97 = some (.aload_n 0, 0, 0, 0) := by decide +kernel
theorem L_55_98 : a_look 55 98 = some (.getfield 28, 4, 2, 118) := by decide +kernel
theorem L_55_101 : a_look 55 101 = some (.getfield 105, 1, 10, 1014) := by decide +kernel
theorem L_55_104 : a_look 55 104 = some (.ireturn, 0, 0, 0) := by decide +kernel
theorem L_55_105 : a_look 55 105 = some (.aload_n 0, 0, 0, 0) := by decide +kernel
theorem L_55_106 : a_look 55 106 = some (.getfield 12, 4, 0, 110) := by decide +kernel
theorem L_55_109 : a_look 55 109 = some (.invokevirtual 217, 58, 1, 1018) := by decide +kernel
theorem L_55_112 : a_look 55 112 = some (.ireturn, 0, 0, 0) := by decide +kernel
theorem L_55_113 : a_look 55 113 = some (.aload_n 0, 0, 0, 0) := by decide +kernel
theorem L_55_114 : a_look 55 114 = some (.getfield 28, 4, 2, 118) := by decide +kernel
theorem L_55_117 : a_look 55 117 = some (.invokevirtual 161, 15, 1, 1022) := by decide +kernel
theorem L_55_120 : a_look 55 120 = some (.ireturn, 0, 0, 0) := by decide +kernel
theorem L_55_121 : a_look 55 121 = some (.aload_n 0, 0, 0, 0) := by decide +kernel
theorem L_55_122 : a_look 55 122 = some (.getfield 28, 4, 2, 118) := by decide +kernel
theorem L_55_125 : a_look 55 125 = some (.invokevirtual 134, 17, 1, 1102) := by decide +kernel
theorem L_55_128 : a_look 55 128 = some (.ireturn, 0, 0, 0) := by decide +kernel
theorem L_55_129 : a_look 55 129 = some (.aload_n 0, 0, 0, 0) := by decide +kernel
theorem L_55_130 : a_look 55 130 = some (.getfield 28, 4, 2, 118) := by decide +kernel
theorem L_55_133 : a_look 55 133 = some (.aload_n 0, 0, 0, 0) := by decide +kernel
theorem L_55_134 : a_look 55 134 = some (.getfield 28, 4, 2, 118) := by decide +kernel
theorem L_55_137 : a_look 55 137 = some (.getfield 111, 1, 7, 1015) := by decide +kernel
theorem L_55_140 : a_look 55 140 = some (.invokevirtual 220, 18, 2, 1106) := by decide +kernel
theorem L_55_143 : a_look 55 143 = some (.ireturn, 0, 0, 0) := by decide +kernel
theorem L_55_144 : a_look 55 144 = some (.aload_n 0, 0, 0, 0) := by decide +kernel
theorem L_55_145 : a_look 55 145 = some (.getfield 28, 4, 2, 118) := by decide +kernel
theorem L_55_148 : a_look 55 148 = some (.aload_n 0, 0, 0, 0) := by decide +kernel
theorem L_55_149 : a_look 55 149 = some (.getfield 28, 4, 2, 118) := by decide +kernel
theorem L_55_152 : a_look 55 152 = some (.getfield 114, 1, 8, 1016) := by decide +kernel
theorem L_55_155 : a_look 55 155 = some (.invokevirtual 220, 18, 2, 1106) := by decide +kernel
theorem L_55_158 : a_look 55 158 = some (.ireturn, 0, 0, 0) := by decide +kernel
theorem L_55_159 : a_look 55 159 = some (.aload_n 0, 0, 0, 0) := by decide +kernel
theorem L_55_160 : a_look 55 160 = some (.getfield 28, 4, 2, 118) := by decide +kernel
theorem L_55_163 : a_look 55 163 = some (.aload_n 0, 0, 0, 0) := by decide +kernel
theorem L_55_164 : a_look 55 164 = some (.getfield 28, 4, 2, 118) := by decide +kernel
theorem L_55_167 : a_look 55 167 = some (.getfield 117, 1, 9, 1017) := by decide +kernel
theorem L_55_170 : a_look 55 170 = some (.invokevirtual 220, 18, 2, 1106) := by decide +kernel
theorem L_55_173 : a_look 55 173 = some (.ireturn, 0, 0, 0) := by decide +kernel
theorem L_55_174 : a_look 55 174 = some (.aload_n 0, 0, 0, 0) := by decide +kernel
theorem L_55_175 : a_look 55 175 = some (.getfield 57, 4, 5, 511) := by decide +kernel
theorem L_55_178 : a_look 55 178 = some (.ireturn, 0, 0, 0) := by decide +kernel
theorem L_55_179 : a_look 55 179 = some (.aload_n 0, 0, 0, 0) := by decide +kernel
theorem L_55_180 : a_look 55 180 = some (.getfield 32, 4, 3, 119) := by decide +kernel
theorem L_55_183 : a_look 55 183 = some (.iconst 0, 0, 0, 0) := by decide +kernel
theorem L_55_184 : a_look 55 184 = some (.iaload, 0, 0, 0) := by decide +kernel
theorem L_55_185 : a_look 55 185 = some (.ireturn, 0, 0, 0) := by decide +kernel
theorem L_55_186 : a_look 55 186 = some (.aload_n 0, 0, 0, 0) := by decide +kernel
theorem L_55_187 : a_look 55 187 = some (.getfield 32, 4, 3, 119) := by decide +kernel
theorem L_55_190 : a_look 55 190 = some (.iconst 1, 0, 0, 0) := by decide +kernel
theorem L_55_191 : a_look 55 191 = some (.iaload, 0, 0, 0) := by decide +kernel
theorem L_55_192 : a_look 55 192 = some (.ireturn, 0, 0, 0) := by decide +kernel
theorem L_55_193 : a_look 55 193 = some (.aload_n 0, 0, 0, 0) := by decide +kernel
theorem L_55_194 : a_look 55 194 = some (.getfield 32, 4, 3, 119) := by decide +kernel
theorem L_55_197 : a_look 55 197 = some (.iconst 2, 0, 0, 0) := by decide +kernel
theorem L_55_198 : a_look 55 198 = some (.iaload, 0, 0, 0) := by decide +kernel
theorem L_55_199 : a_look 55 199 = some (.ireturn, 0, 0, 0) := by decide +kernel
theorem L_57_0 : a_look 57 0 = some (.iload_n 2, 0, 0, 0) := by decide +kernel
theorem L_57_1 : a_look 57 1 = some (.tableswitch 74 0 4 #[35, 42, 49, 56, 63], 0, 35, 0) := by decide +kernel
theorem L_57_36 : a_look 57 36 = some (.aload_n 0, 0, 0, 0) := by decide +kernel
theorem L_57_37 : a_look 57 37 = some (.getfield 9, 5, 0, 123) := by decide +kernel
theorem L_57_40 : a_look 57 40 = some (.iload_n 1, 0, 0, 0) := by decide +kernel
theorem L_57_41 : a_look 57 41 = some (.iaload, 0, 0, 0) := by decide +kernel
theorem L_57_42 : a_look 57 42 = some (.ireturn, 0, 0, 0) := by decide +kernel
theorem L_57_43 : a_look 57 43 = some (.aload_n 0, 0, 0, 0) := by decide +kernel
theorem L_57_44 : a_look 57 44 = some (.getfield 15, 5, 1, 200) := by decide +kernel
theorem L_57_47 : a_look 57 47 = some (.iload_n 1, 0, 0, 0) := by decide +kernel
theorem L_57_48 : a_look 57 48 = some (.iaload, 0, 0, 0) := by decide +kernel
theorem L_57_49 : a_look 57 49 = some (.ireturn, 0, 0, 0) := by decide +kernel
theorem L_57_50 : a_look 57 50 = some (.aload_n 0, 0, 0, 0) := by decide +kernel
theorem L_57_51 : a_look 57 51 = some (.getfield 18, 5, 2, 201) := by decide +kernel
theorem L_57_54 : a_look 57 54 = some (.iload_n 1, 0, 0, 0) := by decide +kernel
theorem L_57_55 : a_look 57 55 = some (.iaload, 0, 0, 0) := by decide +kernel
theorem L_57_56 : a_look 57 56 = some (.ireturn, 0, 0, 0) := by decide +kernel
theorem L_57_57 : a_look 57 57 = some (.aload_n 0, 0, 0, 0) := by decide +kernel
theorem L_57_58 : a_look 57 58 = some (.getfield 21, 5, 3, 202) := by decide +kernel
theorem L_57_61 : a_look 57 61 = some (.iload_n 1, 0, 0, 0) := by decide +kernel
theorem L_57_62 : a_look 57 62 = some (.iaload, 0, 0, 0) := by decide +kernel
theorem L_57_63 : a_look 57 63 = some (.ireturn, 0, 0, 0) := by decide +kernel
theorem L_57_64 : a_look 57 64 = some (.getstatic 31, 41, 0, 5010) := by decide +kernel
theorem L_57_67 : a_look 57 67 = some (.aload_n 0, 0, 0, 0) := by decide +kernel
theorem L_57_68 : a_look 57 68 = some (.getfield 21, 5, 3, 202) := by decide +kernel
theorem L_57_71 : a_look 57 71 = some (.iload_n 1, 0, 0, 0) := by decide +kernel
theorem L_57_72 : a_look 57 72 = some (.iaload, 0, 0, 0) := by decide +kernel
theorem L_57_73 : a_look 57 73 = some (.iaload, 0, 0, 0) := by decide +kernel
theorem L_57_74 : a_look 57 74 = some (.ireturn, 0, 0, 0) := by decide +kernel
theorem L_57_75 : a_look 57 75 = some (.aload_n 0, 0, 0, 0) := by decide +kernel
theorem L_57_76 : a_look 57 76 = some (.getfield 24, 5, 4, 203) := by decide +kernel
theorem L_57_79 : a_look 57 79 = some (.iload_n 1, 0, 0, 0) := by decide +kernel
theorem L_57_80 : a_look 57 80 = some (.iaload, 0, 0, 0) := by decide +kernel
theorem L_57_81 : a_look 57 81 = some (.ireturn, 0, 0, 0) := by decide +kernel
theorem L_58_0 : a_look 58 0 = some (.iconst 0, 0, 0, 0) := by decide +kernel
theorem L_58_1 : a_look 58 1 = some (.istore_n 1, 0, 0, 0) := by decide +kernel
theorem L_58_2 : a_look 58 2 = some (.iconst 0, 0, 0, 0) := by decide +kernel
theorem L_58_3 : a_look 58 3 = some (.istore_n 2, 0, 0, 0) := by decide +kernel
theorem L_58_4 : a_look 58 4 = some (.iload_n 2, 0, 0, 0) := by decide +kernel
theorem L_58_5 : a_look 58 5 = some (.aload_n 0, 0, 0, 0) := by decide +kernel
theorem L_58_6 : a_look 58 6 = some (.getfield 27, 5, 5, 419) := by decide +kernel
theorem L_58_9 : a_look 58 9 = some (.if_icmp .ge 18, 27, 0, 0) := by decide +kernel
theorem L_58_12 : a_look 58 12 = some (.iload_n 1, 0, 0, 0) := by decide +kernel
theorem L_58_13 : a_look 58 13 = some (.aload_n 0, 0, 0, 0) := by decide +kernel
theorem L_58_14 : a_look 58 14 = some (.getfield 24, 5, 4, 203) := by decide +kernel
theorem L_58_17 : a_look 58 17 = some (.iload_n 2, 0, 0, 0) := by decide +kernel
theorem L_58_18 : a_look 58 18 = some (.iaload, 0, 0, 0) := by decide +kernel
theorem L_58_19 : a_look 58 19 = some (.iadd, 0, 0, 0) := by decide +kernel
theorem L_58_20 : a_look 58 20 = some (.istore_n 1, 0, 0, 0) := by decide +kernel
theorem L_58_21 : a_look 58 21 = some (.iinc 2 1, 0, 0, 0) := by decide +kernel
theorem L_58_24 : a_look 58 24 = some (.goto (-20), 4, 0, 0) := by decide +kernel
theorem L_58_27 : a_look 58 27 = some (.iload_n 1, 0, 0, 0) := by decide +kernel
theorem L_58_28 : a_look 58 28 = some (.ireturn, 0, 0, 0) := by decide +kernel
theorem L_59_0 : a_look 59 0 = some (.aload_n 1, 0, 0, 0) := by decide +kernel
theorem L_59_1 : a_look 59 1 = some (.getfield 9, 5, 0, 123) := by decide +kernel
theorem L_59_4 : a_look 59 4 = some (.aload_n 0, 0, 0, 0) := by decide +kernel
theorem L_59_5 : a_look 59 5 = some (.getfield 9, 5, 0, 123) := by decide +kernel
theorem L_59_8 : a_look 59 8 = some (.invokestatic 34, 96, 2, 5000) := by decide +kernel
theorem L_59_11 : a_look 59 11 = some (.aload_n 1, 0, 0, 0) := by decide +kernel
theorem L_59_12 : a_look 59 12 = some (.getfield 15, 5, 1, 200) := by decide +kernel
theorem L_59_15 : a_look 59 15 = some (.aload_n 0, 0, 0, 0) := by decide +kernel
theorem L_59_16 : a_look 59 16 = some (.getfield 15, 5, 1, 200) := by decide +kernel
theorem L_59_19 : a_look 59 19 = some (.invokestatic 34, 96, 2, 5000) := by decide +kernel
theorem L_59_22 : a_look 59 22 = some (.aload_n 1, 0, 0, 0) := by decide +kernel
theorem L_59_23 : a_look 59 23 = some (.getfield 18, 5, 2, 201) := by decide +kernel
theorem L_59_26 : a_look 59 26 = some (.aload_n 0, 0, 0, 0) := by decide +kernel
theorem L_59_27 : a_look 59 27 = some (.getfield 18, 5, 2, 201) := by decide +kernel
theorem L_59_30 : a_look 59 30 = some (.invokestatic 34, 96, 2, 5000) := by decide +kernel
theorem L_59_33 : a_look 59 33 = some (.aload_n 1, 0, 0, 0) := by decide +kernel
theorem L_59_34 : a_look 59 34 = some (.getfield 21, 5, 3, 202) := by decide +kernel
theorem L_59_37 : a_look 59 37 = some (.aload_n 0, 0, 0, 0) := by decide +kernel
theorem L_59_38 : a_look 59 38 = some (.getfield 21, 5, 3, 202) := by decide +kernel
theorem L_59_41 : a_look 59 41 = some (.invokestatic 34, 96, 2, 5000) := by decide +kernel
theorem L_59_44 : a_look 59 44 = some (.aload_n 1, 0, 0, 0) := by decide +kernel
theorem L_59_45 : a_look 59 45 = some (.getfield 24, 5, 4, 203) := by decide +kernel
theorem L_59_48 : a_look 59 48 = some (.aload_n 0, 0, 0, 0) := by decide +kernel
theorem L_59_49 : a_look 59 49 = some (.getfield 24, 5, 4, 203) := by decide +kernel
theorem L_59_52 : a_look 59 52 = some (.invokestatic 34, 96, 2, 5000) := by decide +kernel
theorem L_59_55 : a_look 59 55 = some (.aload_n 0, 0, 0, 0) := by decide +kernel
theorem L_59_56 : a_look 59 56 = some (.aload_n 1, 0, 0, 0) := by decide +kernel
theorem L_59_57 : a_look 59 57 = some (.getfield 27, 5, 5, 419) := by decide +kernel
theorem L_59_60 : a_look 59 60 = some (.putfield 27, 5, 5, 419) := by decide +kernel
theorem L_59_63 : a_look 59 63 = some (.return_, 0, 0, 0) := by decide +kernel
theorem L_18_0 : a_look 18 0 = some (.iconst 0, 0, 0, 0) := by decide +kernel
theorem L_18_1 : a_look 18 1 = some (.istore_n 2, 0, 0, 0) := by decide +kernel
theorem L_18_2 : a_look 18 2 = some (.iconst 0, 0, 0, 0) := by decide +kernel
theorem L_18_3 : a_look 18 3 = some (.istore_n 3, 0, 0, 0) := by decide +kernel
theorem L_18_4 : a_look 18 4 = some (.iload_n 3, 0, 0, 0) := by decide +kernel
theorem L_18_5 : a_look 18 5 = some (.aload_n 0, 0, 0, 0) := by decide +kernel
theorem L_18_6 : a_look 18 6 = some (.getfield 42, 1, 10, 611) := by decide +kernel
theorem L_18_9 : a_look 18 9 = some (.if_icmp .ge 21, 30, 0, 0) := by decide +kernel
theorem L_18_12 : a_look 18 12 = some (.iload_n 3, 0, 0, 0) := by decide +kernel
theorem L_18_13 : a_look 18 13 = some (.aload_n 1, 0, 0, 0) := by decide +kernel
theorem L_18_14 : a_look 18 14 = some (.arraylength, 0, 0, 0) := by decide +kernel
theorem L_18_15 : a_look 18 15 = some (.if_icmp .ge 15, 30, 0, 0) := by decide +kernel
theorem L_18_18 : a_look 18 18 = some (.iload_n 2, 0, 0, 0) := by decide +kernel
theorem L_18_19 : a_look 18 19 = some (.aload_n 1, 0, 0, 0) := by decide +kernel
theorem L_18_20 : a_look 18 20 = some (.iload_n 3, 0, 0, 0) := by decide +kernel
theorem L_18_21 : a_look 18 21 = some (.iaload, 0, 0, 0) := by decide +kernel
theorem L_18_22 : a_look 18 22 = some (.iadd, 0, 0, 0) := by decide +kernel
theorem L_18_23 : a_look 18 23 = some (.istore_n 2, 0, 0, 0) := by decide +kernel
theorem L_18_24 : a_look 18 24 = some (.iinc 3 1, 0, 0, 0) := by decide +kernel
theorem L_18_27 : a_look 18 27 = some (.goto (-23), 4, 0, 0) := by decide +kernel
theorem L_18_30 : a_look 18 30 = some (.iload_n 2, 0, 0, 0) := by decide +kernel
theorem L_18_31 : a_look 18 31 = some (.ireturn, 0, 0, 0) := by decide +kernel
theorem L_96_0 : a_look 96 0 = some (.aload_n 0, 0, 0, 0) := by decide +kernel
theorem L_96_1 : a_look 96 1 = some (.iconst 0, 0, 0, 0) := by decide +kernel
theorem L_96_2 : a_look 96 2 = some (.aload_n 1, 0, 0, 0) := by decide +kernel
theorem L_96_3 : a_look 96 3 = some (.iconst 0, 0, 0, 0) := by decide +kernel
theorem L_96_4 : a_look 96 4 = some (.aload_n 0, 0, 0, 0) := by decide +kernel
theorem L_96_5 : a_look 96 5 = some (.arraylength, 0, 0, 0) := by decide +kernel
theorem L_96_6 : a_look 96 6 = some (.aload_n 1, 0, 0, 0) := by decide +kernel
theorem L_96_7 : a_look 96 7 = some (.arraylength, 0, 0, 0) := by decide +kernel
theorem L_96_8 : a_look 96 8 = some (.invokestatic 221, 1000, 0, 518) := by decide +kernel
theorem L_96_11 : a_look 96 11 = some (.invokestatic 226, 1001, 0, 522) := by decide +kernel
theorem L_96_14 : a_look 96 14 = some (.return_, 0, 0, 0) := by decide +kernel
