/-! code rows -/
theorem L_136_0 : a_look 136 0 = some (.aload_n 0, 0, 0, 0) := by decide +kernel
theorem L_136_1 : a_look 136 1 = some (.iload_n 1, 0, 0, 0) := by decide +kernel
theorem L_136_2 : a_look 136 2 = some (.iconst 1, 0, 0, 0) := by decide +kernel
theorem L_136_3 : a_look 136 3 = some (.invokevirtual 131, 135, 3, 1423) := by decide +kernel
theorem L_136_6 : a_look 136 6 = some (.ireturn, 0, 0, 0) := by decide +kernel
theorem L_137_0 : a_look 137 0 = some (.aload_n 0, 0, 0, 0) := by decide +kernel
theorem L_137_1 : a_look 137 1 = some (.iload_n 1, 0, 0, 0) := by decide +kernel
theorem L_137_2 : a_look 137 2 = some (.iconst 0, 0, 0, 0) := by decide +kernel
theorem L_137_3 : a_look 137 3 = some (.invokevirtual 131, 135, 3, 1423) := by decide +kernel
theorem L_137_6 : a_look 137 6 = some (.ireturn, 0, 0, 0) := by decide +kernel
theorem L_138_0 : a_look 138 0 = some (.aload_n 0, 0, 0, 0) := by decide +kernel
theorem L_138_1 : a_look 138 1 = some (.iload_n 1, 0, 0, 0) := by decide +kernel
theorem L_138_2 : a_look 138 2 = some (.invokevirtual 134, 102, 2, 1611) := by decide +kernel
theorem L_138_5 : a_look 138 5 = some (.ifCond .ne 5, 10, 0, 0) := by decide +kernel
theorem L_138_8 : a_look 138 8 = some (.iconst (-1), 0, 0, 0) := by decide +kernel
theorem L_138_9 : a_look 138 9 = some (.ireturn, 0, 0, 0) := by decide +kernel
theorem L_138_10 : a_look 138 10 = some (.aload_n 0, 0, 0, 0) := by decide +kernel
theorem L_138_11 : a_look 138 11 = some (.iload_n 1, 0, 0, 0) := by decide +kernel
theorem L_138_12 : a_look 138 12 = some (.bipush 6, 0, 0, 0) := by decide +kernel
theorem L_138_14 : a_look 138 14 = some (.invokevirtual 56, 105, 3, 1123) := by decide +kernel
theorem L_138_17 : a_look 138 17 = some (.iconst 1, 0, 0, 0) := by decide +kernel
theorem L_138_18 : a_look 138 18 = some (.if_icmp .eq 18, 36, 0, 0) := by decide +kernel
theorem L_138_21 : a_look 138 21 = some (.aload_n 0, 0, 0, 0) := by decide +kernel
theorem L_138_22 : a_look 138 22 = some (.iload_n 1, 0, 0, 0) := by decide +kernel
theorem L_138_23 : a_look 138 23 = some (.iconst 5, 0, 0, 0) := by decide +kernel
theorem L_138_24 : a_look 138 24 = some (.invokevirtual 56, 105, 3, 1123) := by decide +kernel
theorem L_138_27 : a_look 138 27 = some (.aload_n 0, 0, 0, 0) := by decide +kernel
theorem L_138_28 : a_look 138 28 = some (.getfield 7, 7, 0, 321) := by decide +kernel
theorem L_138_31 : a_look 138 31 = some (.iconst 0, 0, 0, 0) := by decide +kernel
theorem L_138_32 : a_look 138 32 = some (.iaload, 0, 0, 0) := by decide +kernel
theorem L_138_33 : a_look 138 33 = some (.if_icmp .gt 6, 39, 0, 0) := by decide +kernel
theorem L_138_36 : a_look 138 36 = some (.bipush (-3), 0, 0, 0) := by decide +kernel
theorem L_138_38 : a_look 138 38 = some (.ireturn, 0, 0, 0) := by decide +kernel
theorem L_138_39 : a_look 138 39 = some (.aload_n 0, 0, 0, 0) := by decide +kernel
theorem L_138_40 : a_look 138 40 = some (.invokevirtual 118, 98, 1, 708) := by decide +kernel
theorem L_138_43 : a_look 138 43 = some (.aload_n 0, 0, 0, 0) := by decide +kernel
theorem L_138_44 : a_look 138 44 = some (.getfield 7, 7, 0, 321) := by decide +kernel
theorem L_138_47 : a_look 138 47 = some (.bipush 48, 0, 0, 0) := by decide +kernel
theorem L_138_49 : a_look 138 49 = some (.bipush 7, 0, 0, 0) := by decide +kernel
theorem L_138_51 : a_look 138 51 = some (.iload_n 1, 0, 0, 0) := by decide +kernel
theorem L_138_52 : a_look 138 52 = some (.imul, 0, 0, 0) := by decide +kernel
theorem L_138_53 : a_look 138 53 = some (.iadd, 0, 0, 0) := by decide +kernel
theorem L_138_54 : a_look 138 54 = some (.bipush 6, 0, 0, 0) := by decide +kernel
theorem L_138_56 : a_look 138 56 = some (.iadd, 0, 0, 0) := by decide +kernel
theorem L_138_57 : a_look 138 57 = some (.iconst 1, 0, 0, 0) := by decide +kernel
theorem L_138_58 : a_look 138 58 = some (.iastore, 0, 0, 0) := by decide +kernel
theorem L_138_59 : a_look 138 59 = some (.aload_n 0, 0, 0, 0) := by decide +kernel
theorem L_138_60 : a_look 138 60 = some (.invokevirtual 106, 125, 1, 922) := by decide +kernel
theorem L_138_63 : a_look 138 63 = some (.aload_n 0, 0, 0, 0) := by decide +kernel
theorem L_138_64 : a_look 138 64 = some (.invokevirtual 127, 127, 1, 1507) := by decide +kernel
theorem L_138_67 : a_look 138 67 = some (.ireturn, 0, 0, 0) := by decide +kernel
theorem L_139_0 : a_look 139 0 = some (.aload_n 0, 0, 0, 0) := by decide +kernel
theorem L_139_1 : a_look 139 1 = some (.getfield 7, 7, 0, 321) := by decide +kernel
theorem L_139_4 : a_look 139 4 = some (.iconst 4, 0, 0, 0) := by decide +kernel
theorem L_139_5 : a_look 139 5 = some (.iload_n 1, 0, 0, 0) := by decide +kernel
theorem L_139_6 : a_look 139 6 = some (.iastore, 0, 0, 0) := by decide +kernel
theorem L_139_7 : a_look 139 7 = some (.bipush (-5), 0, 0, 0) := by decide +kernel
theorem L_139_9 : a_look 139 9 = some (.ireturn, 0, 0, 0) := by decide +kernel
theorem L_140_0 : a_look 140 0 = some (.iconst 0, 0, 0, 0) := by decide +kernel
theorem L_140_1 : a_look 140 1 = some (.istore_n 3, 0, 0, 0) := by decide +kernel
theorem L_140_2 : a_look 140 2 = some (.iconst 0, 0, 0, 0) := by decide +kernel
theorem L_140_3 : a_look 140 3 = some (.istore 4, 0, 0, 0) := by decide +kernel
theorem L_140_5 : a_look 140 5 = some (.iload 4, 0, 0, 0) := by decide +kernel
theorem L_140_7 : a_look 140 7 = some (.bipush 8, 0, 0, 0) := by decide +kernel
theorem L_140_9 : a_look 140 9 = some (.if_icmp .ge 30, 39, 0, 0) := by decide +kernel
theorem L_140_12 : a_look 140 12 = some (.iload_n 3, 0, 0, 0) := by decide +kernel
theorem L_140_13 : a_look 140 13 = some (.ifCond .ne 14, 27, 0, 0) := by decide +kernel
theorem L_140_16 : a_look 140 16 = some (.aload_n 0, 0, 0, 0) := by decide +kernel
theorem L_140_17 : a_look 140 17 = some (.iload_n 1, 0, 0, 0) := by decide +kernel
theorem L_140_18 : a_look 140 18 = some (.iload 4, 0, 0, 0) := by decide +kernel
theorem L_140_20 : a_look 140 20 = some (.iload_n 2, 0, 0, 0) := by decide +kernel
theorem L_140_21 : a_look 140 21 = some (.invokevirtual 79, 119, 4, 1014) := by decide +kernel
theorem L_140_24 : a_look 140 24 = some (.ifCond .eq 7, 31, 0, 0) := by decide +kernel
theorem L_140_27 : a_look 140 27 = some (.iconst 1, 0, 0, 0) := by decide +kernel
theorem L_140_28 : a_look 140 28 = some (.goto 4, 32, 0, 0) := by decide +kernel
theorem L_140_31 : a_look 140 31 = some (.iconst 0, 0, 0, 0) := by decide +kernel
theorem L_140_32 : a_look 140 32 = some (.istore_n 3, 0, 0, 0) := by decide +kernel
theorem L_140_33 : a_look 140 33 = some (.iinc 4 1, 0, 0, 0) := by decide +kernel
theorem L_140_36 : a_look 140 36 = some (.goto (-31), 5, 0, 0) := by decide +kernel
theorem L_140_39 : a_look 140 39 = some (.iload_n 3, 0, 0, 0) := by decide +kernel
theorem L_140_40 : a_look 140 40 = some (.ireturn, 0, 0, 0) := by decide +kernel
theorem L_141_0 : a_look 141 0 = some (.aload_n 0, 0, 0, 0) := by decide +kernel
theorem L_141_1 : a_look 141 1 = some (.iload_n 1, 0, 0, 0) := by decide +kernel
theorem L_141_2 : a_look 141 2 = some (.invokevirtual 137, 103, 2, 1808) := by decide +kernel
theorem L_141_5 : a_look 141 5 = some (.ifCond .ne 5, 10, 0, 0) := by decide +kernel
theorem L_141_8 : a_look 141 8 = some (.iconst (-1), 0, 0, 0) := by decide +kernel
theorem L_141_9 : a_look 141 9 = some (.ireturn, 0, 0, 0) := by decide +kernel
theorem L_141_10 : a_look 141 10 = some (.iload_n 2, 0, 0, 0) := by decide +kernel
theorem L_141_11 : a_look 141 11 = some (.invokestatic 121, 110, 1, 1307) := by decide +kernel
theorem L_141_14 : a_look 141 14 = some (.ifCond .eq 13, 27, 0, 0) := by decide +kernel
theorem L_141_17 : a_look 141 17 = some (.iload_n 3, 0, 0, 0) := by decide +kernel
theorem L_141_18 : a_look 141 18 = some (.iconst 1, 0, 0, 0) := by decide +kernel
theorem L_141_19 : a_look 141 19 = some (.bipush 99, 0, 0, 0) := by decide +kernel
theorem L_141_21 : a_look 141 21 = some (.invokestatic 37, 97, 3, 702) := by decide +kernel
theorem L_141_24 : a_look 141 24 = some (.ifCond .ne 6, 30, 0, 0) := by decide +kernel
theorem L_141_27 : a_look 141 27 = some (.bipush (-2), 0, 0, 0) := by decide +kernel
theorem L_141_29 : a_look 141 29 = some (.ireturn, 0, 0, 0) := by decide +kernel
theorem L_141_30 : a_look 141 30 = some (.aload_n 0, 0, 0, 0) := by decide +kernel
theorem L_141_31 : a_look 141 31 = some (.iload_n 1, 0, 0, 0) := by decide +kernel
theorem L_141_32 : a_look 141 32 = some (.invokevirtual 88, 120, 2, 1002) := by decide +kernel
theorem L_141_35 : a_look 141 35 = some (.ifCond .eq 9, 44, 0, 0) := by decide +kernel
theorem L_141_38 : a_look 141 38 = some (.aload_n 0, 0, 0, 0) := by decide +kernel
theorem L_141_39 : a_look 141 39 = some (.iconst 1, 0, 0, 0) := by decide +kernel
theorem L_141_40 : a_look 141 40 = some (.invokevirtual 140, 139, 2, 1812) := by decide +kernel
theorem L_141_43 : a_look 141 43 = some (.ireturn, 0, 0, 0) := by decide +kernel
theorem L_141_44 : a_look 141 44 = some (.iload_n 2, 0, 0, 0) := by decide +kernel
theorem L_141_45 : a_look 141 45 = some (.aload_n 0, 0, 0, 0) := by decide +kernel
theorem L_141_46 : a_look 141 46 = some (.iload_n 1, 0, 0, 0) := by decide +kernel
theorem L_141_47 : a_look 141 47 = some (.iconst 2, 0, 0, 0) := by decide +kernel
theorem L_141_48 : a_look 141 48 = some (.invokevirtual 73, 106, 3, 1006) := by decide +kernel
theorem L_141_51 : a_look 141 51 = some (.if_icmp .le 9, 60, 0, 0) := by decide +kernel
theorem L_141_54 : a_look 141 54 = some (.aload_n 0, 0, 0, 0) := by decide +kernel
theorem L_141_55 : a_look 141 55 = some (.iconst 2, 0, 0, 0) := by decide +kernel
theorem L_141_56 : a_look 141 56 = some (.invokevirtual 140, 139, 2, 1812) := by decide +kernel
theorem L_141_59 : a_look 141 59 = some (.ireturn, 0, 0, 0) := by decide +kernel
theorem L_141_60 : a_look 141 60 = some (.aload_n 0, 0, 0, 0) := by decide +kernel
theorem L_141_61 : a_look 141 61 = some (.iload_n 1, 0, 0, 0) := by decide +kernel
theorem L_141_62 : a_look 141 62 = some (.iload_n 2, 0, 0, 0) := by decide +kernel
theorem L_141_63 : a_look 141 63 = some (.invokevirtual 143, 140, 3, 1816) := by decide +kernel
theorem L_141_66 : a_look 141 66 = some (.ifCond .ne 9, 75, 0, 0) := by decide +kernel
theorem L_141_69 : a_look 141 69 = some (.aload_n 0, 0, 0, 0) := by decide +kernel
theorem L_141_70 : a_look 141 70 = some (.iconst 3, 0, 0, 0) := by decide +kernel
theorem L_141_71 : a_look 141 71 = some (.invokevirtual 140, 139, 2, 1812) := by decide +kernel
theorem L_141_74 : a_look 141 74 = some (.ireturn, 0, 0, 0) := by decide +kernel
theorem L_141_75 : a_look 141 75 = some (.aload_n 0, 0, 0, 0) := by decide +kernel
theorem L_141_76 : a_look 141 76 = some (.iload_n 1, 0, 0, 0) := by decide +kernel
theorem L_141_77 : a_look 141 77 = some (.iload_n 2, 0, 0, 0) := by decide +kernel
theorem L_141_78 : a_look 141 78 = some (.invokevirtual 99, 123, 3, 1820) := by decide +kernel
theorem L_141_81 : a_look 141 81 = some (.istore 4, 0, 0, 0) := by decide +kernel
theorem L_141_83 : a_look 141 83 = some (.iload 4, 0, 0, 0) := by decide +kernel
theorem L_141_85 : a_look 141 85 = some (.bipush (-6), 0, 0, 0) := by decide +kernel
theorem L_141_87 : a_look 141 87 = some (.if_icmp .ne 9, 96, 0, 0) := by decide +kernel
theorem L_141_90 : a_look 141 90 = some (.aload_n 0, 0, 0, 0) := by decide +kernel
theorem L_141_91 : a_look 141 91 = some (.iconst 4, 0, 0, 0) := by decide +kernel
theorem L_141_92 : a_look 141 92 = some (.invokevirtual 140, 139, 2, 1812) := by decide +kernel
theorem L_141_95 : a_look 141 95 = some (.ireturn, 0, 0, 0) := by decide +kernel
theorem L_141_96 : a_look 141 96 = some (.aload_n 0, 0, 0, 0) := by decide +kernel
theorem L_141_97 : a_look 141 97 = some (.invokevirtual 118, 98, 1, 708) := by decide +kernel
theorem L_141_100 : a_look 141 100 = some (.aload_n 0, 0, 0, 0) := by decide +kernel
theorem L_141_101 : a_look 141 101 = some (.getfield 7, 7, 0, 321) := by decide +kernel
theorem L_141_104 : a_look 141 104 = some (.iconst 4, 0, 0, 0) := by decide +kernel
theorem L_141_105 : a_look 141 105 = some (.iconst 0, 0, 0, 0) := by decide +kernel
theorem L_141_106 : a_look 141 106 = some (.iastore, 0, 0, 0) := by decide +kernel
theorem L_141_107 : a_look 141 107 = some (.aload_n 0, 0, 0, 0) := by decide +kernel
theorem L_141_108 : a_look 141 108 = some (.iload_n 1, 0, 0, 0) := by decide +kernel
theorem L_141_109 : a_look 141 109 = some (.iconst 3, 0, 0, 0) := by decide +kernel
theorem L_141_110 : a_look 141 110 = some (.iload 4, 0, 0, 0) := by decide +kernel
theorem L_141_112 : a_look 141 112 = some (.invokevirtual 95, 107, 4, 1207) := by decide +kernel
theorem L_141_115 : a_look 141 115 = some (.aload_n 0, 0, 0, 0) := by decide +kernel
theorem L_141_116 : a_look 141 116 = some (.iload_n 1, 0, 0, 0) := by decide +kernel
theorem L_141_117 : a_look 141 117 = some (.iconst 4, 0, 0, 0) := by decide +kernel
theorem L_141_118 : a_look 141 118 = some (.iload_n 2, 0, 0, 0) := by decide +kernel
theorem L_141_119 : a_look 141 119 = some (.invokevirtual 95, 107, 4, 1207) := by decide +kernel
theorem L_141_122 : a_look 141 122 = some (.aload_n 0, 0, 0, 0) := by decide +kernel
theorem L_141_123 : a_look 141 123 = some (.iload_n 1, 0, 0, 0) := by decide +kernel
theorem L_141_124 : a_look 141 124 = some (.iconst 5, 0, 0, 0) := by decide +kernel
theorem L_141_125 : a_look 141 125 = some (.aload_n 0, 0, 0, 0) := by decide +kernel
theorem L_141_126 : a_look 141 126 = some (.getfield 7, 7, 0, 321) := by decide +kernel
theorem L_141_129 : a_look 141 129 = some (.iconst 0, 0, 0, 0) := by decide +kernel
theorem L_141_130 : a_look 141 130 = some (.iaload, 0, 0, 0) := by decide +kernel
theorem L_141_131 : a_look 141 131 = some (.iload_n 3, 0, 0, 0) := by decide +kernel
theorem L_141_132 : a_look 141 132 = some (.iadd, 0, 0, 0) := by decide +kernel
theorem L_141_133 : a_look 141 133 = some (.invokevirtual 95, 107, 4, 1207) := by decide +kernel
theorem L_141_136 : a_look 141 136 = some (.aload_n 0, 0, 0, 0) := by decide +kernel
theorem L_141_137 : a_look 141 137 = some (.iload_n 1, 0, 0, 0) := by decide +kernel
theorem L_141_138 : a_look 141 138 = some (.bipush 6, 0, 0, 0) := by decide +kernel
theorem L_141_140 : a_look 141 140 = some (.bipush (-6), 0, 0, 0) := by decide +kernel
theorem L_141_142 : a_look 141 142 = some (.invokevirtual 95, 107, 4, 1207) := by decide +kernel
theorem L_141_145 : a_look 141 145 = some (.iload 4, 0, 0, 0) := by decide +kernel
theorem L_141_147 : a_look 141 147 = some (.ireturn, 0, 0, 0) := by decide +kernel
theorem L_142_0 : a_look 142 0 = some (.aload_n 0, 0, 0, 0) := by decide +kernel
theorem L_142_1 : a_look 142 1 = some (.iload_n 1, 0, 0, 0) := by decide +kernel
theorem L_142_2 : a_look 142 2 = some (.invokevirtual 137, 103, 2, 1808) := by decide +kernel
theorem L_142_5 : a_look 142 5 = some (.ifCond .ne 5, 10, 0, 0) := by decide +kernel
theorem L_142_8 : a_look 142 8 = some (.iconst (-1), 0, 0, 0) := by decide +kernel
theorem L_142_9 : a_look 142 9 = some (.ireturn, 0, 0, 0) := by decide +kernel
theorem L_142_10 : a_look 142 10 = some (.iload_n 2, 0, 0, 0) := by decide +kernel
theorem L_142_11 : a_look 142 11 = some (.iconst 1, 0, 0, 0) := by decide +kernel
theorem L_142_12 : a_look 142 12 = some (.bipush 99, 0, 0, 0) := by decide +kernel
theorem L_142_14 : a_look 142 14 = some (.invokestatic 37, 97, 3, 702) := by decide +kernel
theorem L_142_17 : a_look 142 17 = some (.ifCond .ne 6, 23, 0, 0) := by decide +kernel
theorem L_142_20 : a_look 142 20 = some (.bipush (-2), 0, 0, 0) := by decide +kernel
theorem L_142_22 : a_look 142 22 = some (.ireturn, 0, 0, 0) := by decide +kernel
theorem L_142_23 : a_look 142 23 = some (.aload_n 0, 0, 0, 0) := by decide +kernel
theorem L_142_24 : a_look 142 24 = some (.iload_n 1, 0, 0, 0) := by decide +kernel
theorem L_142_25 : a_look 142 25 = some (.invokevirtual 88, 120, 2, 1002) := by decide +kernel
theorem L_142_28 : a_look 142 28 = some (.ifCond .ne 6, 34, 0, 0) := by decide +kernel
theorem L_142_31 : a_look 142 31 = some (.bipush (-3), 0, 0, 0) := by decide +kernel
theorem L_142_33 : a_look 142 33 = some (.ireturn, 0, 0, 0) := by decide +kernel
theorem L_142_34 : a_look 142 34 = some (.aload_n 0, 0, 0, 0) := by decide +kernel
theorem L_142_35 : a_look 142 35 = some (.iload_n 1, 0, 0, 0) := by decide +kernel
theorem L_142_36 : a_look 142 36 = some (.bipush 6, 0, 0, 0) := by decide +kernel
theorem L_142_38 : a_look 142 38 = some (.invokevirtual 73, 106, 3, 1006) := by decide +kernel
theorem L_142_41 : a_look 142 41 = some (.bipush (-6), 0, 0, 0) := by decide +kernel
theorem L_142_43 : a_look 142 43 = some (.if_icmp .eq 9, 52, 0, 0) := by decide +kernel
theorem L_142_46 : a_look 142 46 = some (.aload_n 0, 0, 0, 0) := by decide +kernel
theorem L_142_47 : a_look 142 47 = some (.iconst 5, 0, 0, 0) := by decide +kernel
theorem L_142_48 : a_look 142 48 = some (.invokevirtual 140, 139, 2, 1812) := by decide +kernel
theorem L_142_51 : a_look 142 51 = some (.ireturn, 0, 0, 0) := by decide +kernel
theorem L_142_52 : a_look 142 52 = some (.aload_n 0, 0, 0, 0) := by decide +kernel
theorem L_142_53 : a_look 142 53 = some (.invokevirtual 118, 98, 1, 708) := by decide +kernel
theorem L_142_56 : a_look 142 56 = some (.aload_n 0, 0, 0, 0) := by decide +kernel
theorem L_142_57 : a_look 142 57 = some (.getfield 7, 7, 0, 321) := by decide +kernel
theorem L_142_60 : a_look 142 60 = some (.iconst 4, 0, 0, 0) := by decide +kernel
theorem L_142_61 : a_look 142 61 = some (.iconst 0, 0, 0, 0) := by decide +kernel
theorem L_142_62 : a_look 142 62 = some (.iastore, 0, 0, 0) := by decide +kernel
theorem L_142_63 : a_look 142 63 = some (.aload_n 0, 0, 0, 0) := by decide +kernel
theorem L_142_64 : a_look 142 64 = some (.iload_n 1, 0, 0, 0) := by decide +kernel
theorem L_142_65 : a_look 142 65 = some (.iconst 5, 0, 0, 0) := by decide +kernel
theorem L_142_66 : a_look 142 66 = some (.aload_n 0, 0, 0, 0) := by decide +kernel
theorem L_142_67 : a_look 142 67 = some (.getfield 7, 7, 0, 321) := by decide +kernel
theorem L_142_70 : a_look 142 70 = some (.iconst 0, 0, 0, 0) := by decide +kernel
theorem L_142_71 : a_look 142 71 = some (.iaload, 0, 0, 0) := by decide +kernel
theorem L_142_72 : a_look 142 72 = some (.iload_n 2, 0, 0, 0) := by decide +kernel
theorem L_142_73 : a_look 142 73 = some (.iadd, 0, 0, 0) := by decide +kernel
theorem L_142_74 : a_look 142 74 = some (.invokevirtual 95, 107, 4, 1207) := by decide +kernel
theorem L_142_77 : a_look 142 77 = some (.aload_n 0, 0, 0, 0) := by decide +kernel
theorem L_142_78 : a_look 142 78 = some (.getfield 7, 7, 0, 321) := by decide +kernel
theorem L_142_81 : a_look 142 81 = some (.iconst 0, 0, 0, 0) := by decide +kernel
theorem L_142_82 : a_look 142 82 = some (.iaload, 0, 0, 0) := by decide +kernel
theorem L_142_83 : a_look 142 83 = some (.iload_n 2, 0, 0, 0) := by decide +kernel
theorem L_142_84 : a_look 142 84 = some (.iadd, 0, 0, 0) := by decide +kernel
theorem L_142_85 : a_look 142 85 = some (.ireturn, 0, 0, 0) := by decide +kernel
theorem L_143_0 : a_look 143 0 = some (.aload_n 0, 0, 0, 0) := by decide +kernel
theorem L_143_1 : a_look 143 1 = some (.iload_n 1, 0, 0, 0) := by decide +kernel
theorem L_143_2 : a_look 143 2 = some (.invokevirtual 137, 103, 2, 1808) := by decide +kernel
theorem L_143_5 : a_look 143 5 = some (.ifCond .ne 5, 10, 0, 0) := by decide +kernel
theorem L_143_8 : a_look 143 8 = some (.iconst (-1), 0, 0, 0) := by decide +kernel
theorem L_143_9 : a_look 143 9 = some (.ireturn, 0, 0, 0) := by decide +kernel
theorem L_143_10 : a_look 143 10 = some (.aload_n 0, 0, 0, 0) := by decide +kernel
theorem L_143_11 : a_look 143 11 = some (.iload_n 1, 0, 0, 0) := by decide +kernel
theorem L_143_12 : a_look 143 12 = some (.invokevirtual 88, 120, 2, 1002) := by decide +kernel
theorem L_143_15 : a_look 143 15 = some (.ifCond .ne 6, 21, 0, 0) := by decide +kernel
theorem L_143_18 : a_look 143 18 = some (.bipush (-3), 0, 0, 0) := by decide +kernel
theorem L_143_20 : a_look 143 20 = some (.ireturn, 0, 0, 0) := by decide +kernel
theorem L_143_21 : a_look 143 21 = some (.aload_n 0, 0, 0, 0) := by decide +kernel
theorem L_143_22 : a_look 143 22 = some (.invokevirtual 118, 98, 1, 708) := by decide +kernel
theorem L_143_25 : a_look 143 25 = some (.aload_n 0, 0, 0, 0) := by decide +kernel
theorem L_143_26 : a_look 143 26 = some (.iload_n 1, 0, 0, 0) := by decide +kernel
theorem L_143_27 : a_look 143 27 = some (.invokevirtual 102, 126, 2, 1310) := by decide +kernel
theorem L_143_30 : a_look 143 30 = some (.aload_n 0, 0, 0, 0) := by decide +kernel
theorem L_143_31 : a_look 143 31 = some (.invokevirtual 146, 128, 1, 2013) := by decide +kernel
theorem L_143_34 : a_look 143 34 = some (.ireturn, 0, 0, 0) := by decide +kernel
theorem L_144_0 : a_look 144 0 = some (.iload_n 1, 0, 0, 0) := by decide +kernel
theorem L_144_1 : a_look 144 1 = some (.iconst 1, 0, 0, 0) := by decide +kernel
theorem L_144_2 : a_look 144 2 = some (.bipush 99, 0, 0, 0) := by decide +kernel
theorem L_144_4 : a_look 144 4 = some (.invokestatic 37, 97, 3, 702) := by decide +kernel
theorem L_144_7 : a_look 144 7 = some (.ifCond .ne 6, 13, 0, 0) := by decide +kernel
theorem L_144_10 : a_look 144 10 = some (.bipush (-2), 0, 0, 0) := by decide +kernel
theorem L_144_12 : a_look 144 12 = some (.ireturn, 0, 0, 0) := by decide +kernel
theorem L_144_13 : a_look 144 13 = some (.aload_n 0, 0, 0, 0) := by decide +kernel
theorem L_144_14 : a_look 144 14 = some (.getfield 7, 7, 0, 321) := by decide +kernel
theorem L_144_17 : a_look 144 17 = some (.iconst 0, 0, 0, 0) := by decide +kernel
theorem L_144_18 : a_look 144 18 = some (.iaload, 0, 0, 0) := by decide +kernel
theorem L_144_19 : a_look 144 19 = some (.iload_n 1, 0, 0, 0) := by decide +kernel
theorem L_144_20 : a_look 144 20 = some (.iadd, 0, 0, 0) := by decide +kernel
theorem L_144_21 : a_look 144 21 = some (.sipush 9999, 0, 0, 0) := by decide +kernel
theorem L_144_24 : a_look 144 24 = some (.if_icmp .le 6, 30, 0, 0) := by decide +kernel
theorem L_144_27 : a_look 144 27 = some (.bipush (-3), 0, 0, 0) := by decide +kernel
theorem L_144_29 : a_look 144 29 = some (.ireturn, 0, 0, 0) := by decide +kernel
theorem L_144_30 : a_look 144 30 = some (.aload_n 0, 0, 0, 0) := by decide +kernel
theorem L_144_31 : a_look 144 31 = some (.invokevirtual 118, 98, 1, 708) := by decide +kernel
theorem L_144_34 : a_look 144 34 = some (.iconst 0, 0, 0, 0) := by decide +kernel
theorem L_144_35 : a_look 144 35 = some (.istore_n 2, 0, 0, 0) := by decide +kernel
theorem L_144_36 : a_look 144 36 = some (.iconst 0, 0, 0, 0) := by decide +kernel
theorem L_144_37 : a_look 144 37 = some (.istore_n 3, 0, 0, 0) := by decide +kernel
theorem L_144_38 : a_look 144 38 = some (.iload_n 3, 0, 0, 0) := by decide +kernel
theorem L_144_39 : a_look 144 39 = some (.iload_n 1, 0, 0, 0) := by decide +kernel
theorem L_144_40 : a_look 144 40 = some (.if_icmp .ge 16, 56, 0, 0) := by decide +kernel
theorem L_144_43 : a_look 144 43 = some (.iload_n 2, 0, 0, 0) := by decide +kernel
theorem L_144_44 : a_look 144 44 = some (.aload_n 0, 0, 0, 0) := by decide +kernel
theorem L_144_45 : a_look 144 45 = some (.invokevirtual 149, 130, 1, 2201) := by decide +kernel
theorem L_144_48 : a_look 144 48 = some (.iadd, 0, 0, 0) := by decide +kernel
theorem L_144_49 : a_look 144 49 = some (.istore_n 2, 0, 0, 0) := by decide +kernel
theorem L_144_50 : a_look 144 50 = some (.iinc 3 1, 0, 0, 0) := by decide +kernel
theorem L_144_53 : a_look 144 53 = some (.goto (-15), 38, 0, 0) := by decide +kernel
theorem L_144_56 : a_look 144 56 = some (.iload_n 2, 0, 0, 0) := by decide +kernel
theorem L_144_57 : a_look 144 57 = some (.ireturn, 0, 0, 0) := by decide +kernel
theorem L_145_0 : a_look 145 0 = some (.iload_n 1, 0, 0, 0) := by decide +kernel
theorem L_145_1 : a_look 145 1 = some (.bipush 32, 0, 0, 0) := by decide +kernel
theorem L_145_3 : a_look 145 3 = some (.bipush 126, 0, 0, 0) := by decide +kernel
theorem L_145_5 : a_look 145 5 = some (.invokestatic 37, 97, 3, 702) := by decide +kernel
theorem L_145_8 : a_look 145 8 = some (.ifCond .ne 6, 14, 0, 0) := by decide +kernel
theorem L_145_11 : a_look 145 11 = some (.bipush (-2), 0, 0, 0) := by decide +kernel
theorem L_145_13 : a_look 145 13 = some (.ireturn, 0, 0, 0) := by decide +kernel
theorem L_145_14 : a_look 145 14 = some (.aload_n 0, 0, 0, 0) := by decide +kernel
theorem L_145_15 : a_look 145 15 = some (.getfield 152, 7, 8, 2222) := by decide +kernel
theorem L_145_18 : a_look 145 18 = some (.bipush 80, 0, 0, 0) := by decide +kernel
theorem L_145_20 : a_look 145 20 = some (.if_icmp .ne 6, 26, 0, 0) := by decide +kernel
theorem L_145_23 : a_look 145 23 = some (.bipush (-4), 0, 0, 0) := by decide +kernel
theorem L_145_25 : a_look 145 25 = some (.ireturn, 0, 0, 0) := by decide +kernel
theorem L_145_26 : a_look 145 26 = some (.aload_n 0, 0, 0, 0) := by decide +kernel
theorem L_145_27 : a_look 145 27 = some (.getfield 26, 7, 7, 402) := by decide +kernel
theorem L_145_30 : a_look 145 30 = some (.aload_n 0, 0, 0, 0) := by decide +kernel
theorem L_145_31 : a_look 145 31 = some (.getfield 152, 7, 8, 2222) := by decide +kernel
theorem L_145_34 : a_look 145 34 = some (.iload_n 1, 0, 0, 0) := by decide +kernel
theorem L_145_35 : a_look 145 35 = some (.iastore, 0, 0, 0) := by decide +kernel
theorem L_145_36 : a_look 145 36 = some (.aload_n 0, 0, 0, 0) := by decide +kernel
theorem L_145_37 : a_look 145 37 = some (.dup, 0, 0, 0) := by decide +kernel
theorem L_145_38 : a_look 145 38 = some (.getfield 152, 7, 8, 2222) := by decide +kernel
theorem L_145_41 : a_look 145 41 = some (.iconst 1, 0, 0, 0) := by decide +kernel
theorem L_145_42 : a_look 145 42 = some (.iadd, 0, 0, 0) := by decide +kernel
theorem L_145_43 : a_look 145 43 = some (.putfield 152, 7, 8, 2222) := by decide +kernel
theorem L_145_46 : a_look 145 46 = some (.aload_n 0, 0, 0, 0) := by decide +kernel
theorem L_145_47 : a_look 145 47 = some (.getfield 152, 7, 8, 2222) := by decide +kernel
theorem L_145_50 : a_look 145 50 = some (.ireturn, 0, 0, 0) := by decide +kernel
theorem L_146_0 : a_look 146 0 = some (.aload_n 0, 0, 0, 0) := by decide +kernel
theorem L_146_1 : a_look 146 1 = some (.getfield 152, 7, 8, 2222) := by decide +kernel
theorem L_146_4 : a_look 146 4 = some (.istore_n 1, 0, 0, 0) := by decide +kernel
theorem L_146_5 : a_look 146 5 = some (.aload_n 0, 0, 0, 0) := by decide +kernel
theorem L_146_6 : a_look 146 6 = some (.iconst 0, 0, 0, 0) := by decide +kernel
theorem L_146_7 : a_look 146 7 = some (.putfield 152, 7, 8, 2222) := by decide +kernel
theorem L_146_10 : a_look 146 10 = some (.iload_n 1, 0, 0, 0) := by decide +kernel
theorem L_146_11 : a_look 146 11 = some (.ireturn, 0, 0, 0) := by decide +kernel
theorem L_148_0 : a_look 148 0 = some (.aload_n 0, 0, 0, 0) := by decide +kernel
theorem L_148_1 : a_look 148 1 = some (.iload_n 1, 0, 0, 0) := by decide +kernel
theorem L_148_2 : a_look 148 2 = some (.iload_n 1, 0, 0, 0) := by decide +kernel
theorem L_148_3 : a_look 148 3 = some (.invokevirtual 158, 147, 3, 2516) := by decide +kernel
theorem L_148_6 : a_look 148 6 = some (.istore_n 2, 0, 0, 0) := by decide +kernel
theorem L_148_7 : a_look 148 7 = some (.aload_n 0, 0, 0, 0) := by decide +kernel
theorem L_148_8 : a_look 148 8 = some (.dup, 0, 0, 0) := by decide +kernel
theorem L_148_9 : a_look 148 9 = some (.getfield 155, 7, 9, 2504) := by decide +kernel
theorem L_148_12 : a_look 148 12 = some (.iload_n 2, 0, 0, 0) := by decide +kernel
theorem L_148_13 : a_look 148 13 = some (.ifCond .eq 7, 20, 0, 0) := by decide +kernel
theorem L_148_16 : a_look 148 16 = some (.iconst 1, 0, 0, 0) := by decide +kernel
theorem L_148_17 : a_look 148 17 = some (.goto 4, 21, 0, 0) := by decide +kernel
theorem L_148_20 : a_look 148 20 = some (.iconst 0, 0, 0, 0) := by decide +kernel
theorem L_148_21 : a_look 148 21 = some (.iadd, 0, 0, 0) := by decide +kernel
theorem L_148_22 : a_look 148 22 = some (.putfield 155, 7, 9, 2504) := by decide +kernel
theorem L_148_25 : a_look 148 25 = some (.iload_n 2, 0, 0, 0) := by decide +kernel
theorem L_148_26 : a_look 148 26 = some (.ireturn, 0, 0, 0) := by decide +kernel
theorem L_149_0 : a_look 149 0 = some (.aload_n 0, 0, 0, 0) := by decide +kernel
theorem L_149_1 : a_look 149 1 = some (.bipush 48, 0, 0, 0) := by decide +kernel
theorem L_149_3 : a_look 149 3 = some (.bipush 57, 0, 0, 0) := by decide +kernel
theorem L_149_5 : a_look 149 5 = some (.invokevirtual 158, 147, 3, 2516) := by decide +kernel
theorem L_149_8 : a_look 149 8 = some (.ifCond .ne 6, 14, 0, 0) := by decide +kernel
theorem L_149_11 : a_look 149 11 = some (.bipush (-6), 0, 0, 0) := by decide +kernel
theorem L_149_13 : a_look 149 13 = some (.ireturn, 0, 0, 0) := by decide +kernel
theorem L_149_14 : a_look 149 14 = some (.aload_n 0, 0, 0, 0) := by decide +kernel
theorem L_149_15 : a_look 149 15 = some (.getfield 155, 7, 9, 2504) := by decide +kernel
theorem L_149_18 : a_look 149 18 = some (.istore_n 3, 0, 0, 0) := by decide +kernel
theorem L_149_19 : a_look 149 19 = some (.aload_n 0, 0, 0, 0) := by decide +kernel
theorem L_149_20 : a_look 149 20 = some (.getfield 26, 7, 7, 402) := by decide +kernel
theorem L_149_23 : a_look 149 23 = some (.aload_n 0, 0, 0, 0) := by decide +kernel
theorem L_149_24 : a_look 149 24 = some (.getfield 155, 7, 9, 2504) := by decide +kernel
theorem L_149_27 : a_look 149 27 = some (.iaload, 0, 0, 0) := by decide +kernel
theorem L_149_28 : a_look 149 28 = some (.bipush 48, 0, 0, 0) := by decide +kernel
theorem L_149_30 : a_look 149 30 = some (.isub, 0, 0, 0) := by decide +kernel
theorem L_149_31 : a_look 149 31 = some (.istore 4, 0, 0, 0) := by decide +kernel
theorem L_149_33 : a_look 149 33 = some (.aload_n 0, 0, 0, 0) := by decide +kernel
theorem L_149_34 : a_look 149 34 = some (.dup, 0, 0, 0) := by decide +kernel
theorem L_149_35 : a_look 149 35 = some (.getfield 155, 7, 9, 2504) := by decide +kernel
theorem L_149_38 : a_look 149 38 = some (.iconst 1, 0, 0, 0) := by decide +kernel
theorem L_149_39 : a_look 149 39 = some (.iadd, 0, 0, 0) := by decide +kernel
theorem L_149_40 : a_look 149 40 = some (.putfield 155, 7, 9, 2504) := by decide +kernel
theorem L_149_43 : a_look 149 43 = some (.iload 4, 0, 0, 0) := by decide +kernel
theorem L_149_45 : a_look 149 45 = some (.ifCond .le 44, 89, 0, 0) := by decide +kernel
theorem L_149_48 : a_look 149 48 = some (.aload_n 0, 0, 0, 0) := by decide +kernel
theorem L_149_49 : a_look 149 49 = some (.bipush 48, 0, 0, 0) := by decide +kernel
theorem L_149_51 : a_look 149 51 = some (.bipush 57, 0, 0, 0) := by decide +kernel
theorem L_149_53 : a_look 149 53 = some (.invokevirtual 158, 147, 3, 2516) := by decide +kernel
theorem L_149_56 : a_look 149 56 = some (.ifCond .eq 33, 89, 0, 0) := by decide +kernel
theorem L_149_59 : a_look 149 59 = some (.bipush 10, 0, 0, 0) := by decide +kernel
theorem L_149_61 : a_look 149 61 = some (.iload 4, 0, 0, 0) := by decide +kernel
theorem L_149_63 : a_look 149 63 = some (.imul, 0, 0, 0) := by decide +kernel
theorem L_149_64 : a_look 149 64 = some (.aload_n 0, 0, 0, 0) := by decide +kernel
theorem L_149_65 : a_look 149 65 = some (.getfield 26, 7, 7, 402) := by decide +kernel
theorem L_149_68 : a_look 149 68 = some (.aload_n 0, 0, 0, 0) := by decide +kernel
theorem L_149_69 : a_look 149 69 = some (.getfield 155, 7, 9, 2504) := by decide +kernel
theorem L_149_72 : a_look 149 72 = some (.iaload, 0, 0, 0) := by decide +kernel
theorem L_149_73 : a_look 149 73 = some (.iadd, 0, 0, 0) := by decide +kernel
theorem L_149_74 : a_look 149 74 = some (.bipush 48, 0, 0, 0) := by decide +kernel
theorem L_149_76 : a_look 149 76 = some (.isub, 0, 0, 0) := by decide +kernel
theorem L_149_77 : a_look 149 77 = some (.istore 4, 0, 0, 0) := by decide +kernel
theorem L_149_79 : a_look 149 79 = some (.aload_n 0, 0, 0, 0) := by decide +kernel
theorem L_149_80 : a_look 149 80 = some (.dup, 0, 0, 0) := by decide +kernel
theorem L_149_81 : a_look 149 81 = some (.getfield 155, 7, 9, 2504) := by decide +kernel
theorem L_149_84 : a_look 149 84 = some (.iconst 1, 0, 0, 0) := by decide +kernel
theorem L_149_85 : a_look 149 85 = some (.iadd, 0, 0, 0) := by decide +kernel
theorem L_149_86 : a_look 149 86 = some (.putfield 155, 7, 9, 2504) := by decide +kernel
theorem L_149_89 : a_look 149 89 = some (.iload 4, 0, 0, 0) := by decide +kernel
theorem L_149_91 : a_look 149 91 = some (.iload_n 1, 0, 0, 0) := by decide +kernel
theorem L_149_92 : a_look 149 92 = some (.iload_n 2, 0, 0, 0) := by decide +kernel
theorem L_149_93 : a_look 149 93 = some (.invokestatic 37, 97, 3, 702) := by decide +kernel
theorem L_149_96 : a_look 149 96 = some (.ifCond .ne 11, 107, 0, 0) := by decide +kernel
theorem L_149_99 : a_look 149 99 = some (.aload_n 0, 0, 0, 0) := by decide +kernel
theorem L_149_100 : a_look 149 100 = some (.iload_n 3, 0, 0, 0) := by decide +kernel
theorem L_149_101 : a_look 149 101 = some (.putfield 155, 7, 9, 2504) := by decide +kernel
theorem L_149_104 : a_look 149 104 = some (.bipush (-6), 0, 0, 0) := by decide +kernel
theorem L_149_106 : a_look 149 106 = some (.ireturn, 0, 0, 0) := by decide +kernel
theorem L_149_107 : a_look 149 107 = some (.iload 4, 0, 0, 0) := by decide +kernel
theorem L_149_109 : a_look 149 109 = some (.ireturn, 0, 0, 0) := by decide +kernel
theorem L_150_0 : a_look 150 0 = some (.aload_n 0, 0, 0, 0) := by decide +kernel
theorem L_150_1 : a_look 150 1 = some (.getfield 155, 7, 9, 2504) := by decide +kernel
theorem L_150_4 : a_look 150 4 = some (.aload_n 0, 0, 0, 0) := by decide +kernel
theorem L_150_5 : a_look 150 5 = some (.getfield 152, 7, 8, 2222) := by decide +kernel
theorem L_150_8 : a_look 150 8 = some (.if_icmp .ge 15, 23, 0, 0) := by decide +kernel
theorem L_150_11 : a_look 150 11 = some (.aload_n 0, 0, 0, 0) := by decide +kernel
theorem L_150_12 : a_look 150 12 = some (.getfield 26, 7, 7, 402) := by decide +kernel
theorem L_150_15 : a_look 150 15 = some (.aload_n 0, 0, 0, 0) := by decide +kernel
theorem L_150_16 : a_look 150 16 = some (.getfield 155, 7, 9, 2504) := by decide +kernel
theorem L_150_19 : a_look 150 19 = some (.iaload, 0, 0, 0) := by decide +kernel
theorem L_150_20 : a_look 150 20 = some (.goto 5, 25, 0, 0) := by decide +kernel
theorem L_150_23 : a_look 150 23 = some (.bipush (-6), 0, 0, 0) := by decide +kernel
theorem L_150_25 : a_look 150 25 = some (.istore_n 1, 0, 0, 0) := by decide +kernel
theorem L_150_26 : a_look 150 26 = some (.iload_n 1, 0, 0, 0) := by decide +kernel
theorem L_150_27 : a_look 150 27 = some (.lookupswitch 230 #[(103, 155), (108, 49), (116, 155), (119, 155), (122, 155)], 0, 49, 0) := by decide +kernel
theorem L_150_76 : a_look 150 76 = some (.aload_n 0, 0, 0, 0) := by decide +kernel
theorem L_150_77 : a_look 150 77 = some (.dup, 0, 0, 0) := by decide +kernel
theorem L_150_78 : a_look 150 78 = some (.getfield 155, 7, 9, 2504) := by decide +kernel
theorem L_150_81 : a_look 150 81 = some (.iconst 1, 0, 0, 0) := by decide +kernel
theorem L_150_82 : a_look 150 82 = some (.iadd, 0, 0, 0) := by decide +kernel
theorem L_150_83 : a_look 150 83 = some (.putfield 155, 7, 9, 2504) := by decide +kernel
theorem L_150_86 : a_look 150 86 = some (.aload_n 0, 0, 0, 0) := by decide +kernel
theorem L_150_87 : a_look 150 87 = some (.aload_n 0, 0, 0, 0) := by decide +kernel
theorem L_150_88 : a_look 150 88 = some (.iconst 0, 0, 0, 0) := by decide +kernel
theorem L_150_89 : a_look 150 89 = some (.bipush 15, 0, 0, 0) := by decide +kernel
theorem L_150_91 : a_look 150 91 = some (.invokevirtual 161, 149, 3, 2512) := by decide +kernel
theorem L_150_94 : a_look 150 94 = some (.putfield 164, 7, 10, 2509) := by decide +kernel
theorem L_150_97 : a_look 150 97 = some (.aload_n 0, 0, 0, 0) := by decide +kernel
theorem L_150_98 : a_look 150 98 = some (.aload_n 0, 0, 0, 0) := by decide +kernel
theorem L_150_99 : a_look 150 99 = some (.getfield 164, 7, 10, 2509) := by decide +kernel
theorem L_150_102 : a_look 150 102 = some (.ifCond .lt 21, 123, 0, 0) := by decide +kernel
theorem L_150_105 : a_look 150 105 = some (.aload_n 0, 0, 0, 0) := by decide +kernel
theorem L_150_106 : a_look 150 106 = some (.bipush 112, 0, 0, 0) := by decide +kernel
theorem L_150_108 : a_look 150 108 = some (.invokevirtual 167, 148, 2, 2520) := by decide +kernel
theorem L_150_111 : a_look 150 111 = some (.ifCond .eq 12, 123, 0, 0) := by decide +kernel
theorem L_150_114 : a_look 150 114 = some (.aload_n 0, 0, 0, 0) := by decide +kernel
theorem L_150_115 : a_look 150 115 = some (.iconst 0, 0, 0, 0) := by decide +kernel
theorem L_150_116 : a_look 150 116 = some (.iconst 3, 0, 0, 0) := by decide +kernel
theorem L_150_117 : a_look 150 117 = some (.invokevirtual 161, 149, 3, 2512) := by decide +kernel
theorem L_150_120 : a_look 150 120 = some (.goto 5, 125, 0, 0) := by decide +kernel
theorem L_150_123 : a_look 150 123 = some (.bipush (-6), 0, 0, 0) := by decide +kernel
theorem L_150_125 : a_look 150 125 = some (.putfield 170, 7, 11, 2510) := by decide +kernel
theorem L_150_128 : a_look 150 128 = some (.aload_n 0, 0, 0, 0) := by decide +kernel
theorem L_150_129 : a_look 150 129 = some (.aload_n 0, 0, 0, 0) := by decide +kernel
theorem L_150_130 : a_look 150 130 = some (.getfield 170, 7, 11, 2510) := by decide +kernel
theorem L_150_133 : a_look 150 133 = some (.ifCond .lt 22, 155, 0, 0) := by decide +kernel
theorem L_150_136 : a_look 150 136 = some (.aload_n 0, 0, 0, 0) := by decide +kernel
theorem L_150_137 : a_look 150 137 = some (.bipush 104, 0, 0, 0) := by decide +kernel
theorem L_150_139 : a_look 150 139 = some (.invokevirtual 167, 148, 2, 2520) := by decide +kernel
theorem L_150_142 : a_look 150 142 = some (.ifCond .eq 13, 155, 0, 0) := by decide +kernel
theorem L_150_145 : a_look 150 145 = some (.aload_n 0, 0, 0, 0) := by decide +kernel
theorem L_150_146 : a_look 150 146 = some (.iconst 1, 0, 0, 0) := by decide +kernel
theorem L_150_147 : a_look 150 147 = some (.bipush 99, 0, 0, 0) := by decide +kernel
theorem L_150_149 : a_look 150 149 = some (.invokevirtual 161, 149, 3, 2512) := by decide +kernel
theorem L_150_152 : a_look 150 152 = some (.goto 5, 157, 0, 0) := by decide +kernel
theorem L_150_155 : a_look 150 155 = some (.bipush (-6), 0, 0, 0) := by decide +kernel
theorem L_150_157 : a_look 150 157 = some (.putfield 173, 7, 12, 2511) := by decide +kernel
theorem L_150_160 : a_look 150 160 = some (.aload_n 0, 0, 0, 0) := by decide +kernel
theorem L_150_161 : a_look 150 161 = some (.getfield 173, 7, 12, 2511) := by decide +kernel
theorem L_150_164 : a_look 150 164 = some (.ifCond .lt 16, 180, 0, 0) := by decide +kernel
theorem L_150_167 : a_look 150 167 = some (.aload_n 0, 0, 0, 0) := by decide +kernel
theorem L_150_168 : a_look 150 168 = some (.bipush 59, 0, 0, 0) := by decide +kernel
theorem L_150_170 : a_look 150 170 = some (.invokevirtual 167, 148, 2, 2520) := by decide +kernel
theorem L_150_173 : a_look 150 173 = some (.ifCond .eq 7, 180, 0, 0) := by decide +kernel
theorem L_150_176 : a_look 150 176 = some (.iconst 1, 0, 0, 0) := by decide +kernel
theorem L_150_177 : a_look 150 177 = some (.goto 4, 181, 0, 0) := by decide +kernel
theorem L_150_180 : a_look 150 180 = some (.iconst 0, 0, 0, 0) := by decide +kernel
theorem L_150_181 : a_look 150 181 = some (.ireturn, 0, 0, 0) := by decide +kernel
theorem L_150_182 : a_look 150 182 = some (.aload_n 0, 0, 0, 0) := by decide +kernel
theorem L_150_183 : a_look 150 183 = some (.dup, 0, 0, 0) := by decide +kernel
theorem L_150_184 : a_look 150 184 = some (.getfield 155, 7, 9, 2504) := by decide +kernel
theorem L_150_187 : a_look 150 187 = some (.iconst 1, 0, 0, 0) := by decide +kernel
theorem L_150_188 : a_look 150 188 = some (.iadd, 0, 0, 0) := by decide +kernel
theorem L_150_189 : a_look 150 189 = some (.putfield 155, 7, 9, 2504) := by decide +kernel
theorem L_150_192 : a_look 150 192 = some (.aload_n 0, 0, 0, 0) := by decide +kernel
theorem L_150_193 : a_look 150 193 = some (.aload_n 0, 0, 0, 0) := by decide +kernel
theorem L_150_194 : a_look 150 194 = some (.iload_n 1, 0, 0, 0) := by decide +kernel
theorem L_150_195 : a_look 150 195 = some (.bipush 116, 0, 0, 0) := by decide +kernel
theorem L_150_197 : a_look 150 197 = some (.if_icmp .ne 7, 204, 0, 0) := by decide +kernel
theorem L_150_200 : a_look 150 200 = some (.iconst 1, 0, 0, 0) := by decide +kernel
theorem L_150_201 : a_look 150 201 = some (.goto 4, 205, 0, 0) := by decide +kernel
theorem L_150_204 : a_look 150 204 = some (.iconst 0, 0, 0, 0) := by decide +kernel
theorem L_150_205 : a_look 150 205 = some (.iload_n 1, 0, 0, 0) := by decide +kernel
theorem L_150_206 : a_look 150 206 = some (.bipush 116, 0, 0, 0) := by decide +kernel
theorem L_150_208 : a_look 150 208 = some (.if_icmp .ne 8, 216, 0, 0) := by decide +kernel
theorem L_150_211 : a_look 150 211 = some (.bipush 99, 0, 0, 0) := by decide +kernel
theorem L_150_213 : a_look 150 213 = some (.goto 16, 229, 0, 0) := by decide +kernel
theorem L_150_216 : a_look 150 216 = some (.iload_n 1, 0, 0, 0) := by decide +kernel
theorem L_150_217 : a_look 150 217 = some (.bipush 103, 0, 0, 0) := by decide +kernel
theorem L_150_219 : a_look 150 219 = some (.if_icmp .ne 8, 227, 0, 0) := by decide +kernel
theorem L_150_222 : a_look 150 222 = some (.bipush 15, 0, 0, 0) := by decide +kernel
theorem L_150_224 : a_look 150 224 = some (.goto 5, 229, 0, 0) := by decide +kernel
theorem L_150_227 : a_look 150 227 = some (.bipush 7, 0, 0, 0) := by decide +kernel
theorem L_150_229 : a_look 150 229 = some (.invokevirtual 161, 149, 3, 2512) := by decide +kernel
theorem L_150_232 : a_look 150 232 = some (.putfield 164, 7, 10, 2509) := by decide +kernel
theorem L_150_235 : a_look 150 235 = some (.aload_n 0, 0, 0, 0) := by decide +kernel
theorem L_150_236 : a_look 150 236 = some (.getfield 164, 7, 10, 2509) := by decide +kernel
theorem L_150_239 : a_look 150 239 = some (.ifCond .lt 16, 255, 0, 0) := by decide +kernel
theorem L_150_242 : a_look 150 242 = some (.aload_n 0, 0, 0, 0) := by decide +kernel
theorem L_150_243 : a_look 150 243 = some (.bipush 59, 0, 0, 0) := by decide +kernel
theorem L_150_245 : a_look 150 245 = some (.invokevirtual 167, 148, 2, 2520) := by decide +kernel
theorem L_150_248 : a_look 150 248 = some (.ifCond .eq 7, 255, 0, 0) := by decide +kernel
theorem L_150_251 : a_look 150 251 = some (.iconst 1, 0, 0, 0) := by decide +kernel
theorem L_150_252 : a_look 150 252 = some (.goto 4, 256, 0, 0) := by decide +kernel
theorem L_150_255 : a_look 150 255 = some (.iconst 0, 0, 0, 0) := by decide +kernel
theorem L_150_256 : a_look 150 256 = some (.ireturn, 0, 0, 0) := by decide +kernel
theorem L_150_257 : a_look 150 257 = some (.iconst 0, 0, 0, 0) := by decide +kernel
theorem L_150_258 : a_look 150 258 = some (.ireturn, 0, 0, 0) := by decide +kernel
theorem L_151_0 : a_look 151 0 = some (.aload_n 0, 0, 0, 0) := by decide +kernel
theorem L_151_1 : a_look 151 1 = some (.iconst 0, 0, 0, 0) := by decide +kernel
theorem L_151_2 : a_look 151 2 = some (.putfield 155, 7, 9, 2504) := by decide +kernel
theorem L_151_5 : a_look 151 5 = some (.iconst 1, 0, 0, 0) := by decide +kernel
theorem L_151_6 : a_look 151 6 = some (.istore_n 1, 0, 0, 0) := by decide +kernel
theorem L_151_7 : a_look 151 7 = some (.iload_n 1, 0, 0, 0) := by decide +kernel
theorem L_151_8 : a_look 151 8 = some (.ifCond .eq 22, 30, 0, 0) := by decide +kernel
theorem L_151_11 : a_look 151 11 = some (.aload_n 0, 0, 0, 0) := by decide +kernel
theorem L_151_12 : a_look 151 12 = some (.getfield 155, 7, 9, 2504) := by decide +kernel
theorem L_151_15 : a_look 151 15 = some (.aload_n 0, 0, 0, 0) := by decide +kernel
theorem L_151_16 : a_look 151 16 = some (.getfield 152, 7, 8, 2222) := by decide +kernel
theorem L_151_19 : a_look 151 19 = some (.if_icmp .ge 11, 30, 0, 0) := by decide +kernel
theorem L_151_22 : a_look 151 22 = some (.aload_n 0, 0, 0, 0) := by decide +kernel
theorem L_151_23 : a_look 151 23 = some (.invokevirtual 176, 150, 1, 2505) := by decide +kernel
theorem L_151_26 : a_look 151 26 = some (.istore_n 1, 0, 0, 0) := by decide +kernel
theorem L_151_27 : a_look 151 27 = some (.goto (-20), 7, 0, 0) := by decide +kernel
theorem L_151_30 : a_look 151 30 = some (.iload_n 1, 0, 0, 0) := by decide +kernel
theorem L_151_31 : a_look 151 31 = some (.ifCond .eq 8, 39, 0, 0) := by decide +kernel
theorem L_151_34 : a_look 151 34 = some (.bipush (-6), 0, 0, 0) := by decide +kernel
theorem L_151_36 : a_look 151 36 = some (.goto 7, 43, 0, 0) := by decide +kernel
theorem L_151_39 : a_look 151 39 = some (.aload_n 0, 0, 0, 0) := by decide +kernel
theorem L_151_40 : a_look 151 40 = some (.getfield 155, 7, 9, 2504) := by decide +kernel
theorem L_151_43 : a_look 151 43 = some (.ireturn, 0, 0, 0) := by decide +kernel
theorem L_152_0 : a_look 152 0 = some (.iload_n 1, 0, 0, 0) := by decide +kernel
theorem L_152_1 : a_look 152 1 = some (.lookupswitch 87 #[(103, 60), (108, 43), (119, 69), (122, 78)], 0, 43, 0) := by decide +kernel
theorem L_152_44 : a_look 152 44 = some (.aload_n 0, 0, 0, 0) := by decide +kernel
theorem L_152_45 : a_look 152 45 = some (.aload_n 0, 0, 0, 0) := by decide +kernel
theorem L_152_46 : a_look 152 46 = some (.getfield 164, 7, 10, 2509) := by decide +kernel
theorem L_152_49 : a_look 152 49 = some (.aload_n 0, 0, 0, 0) := by decide +kernel
theorem L_152_50 : a_look 152 50 = some (.getfield 170, 7, 11, 2510) := by decide +kernel
theorem L_152_53 : a_look 152 53 = some (.aload_n 0, 0, 0, 0) := by decide +kernel
theorem L_152_54 : a_look 152 54 = some (.getfield 173, 7, 12, 2511) := by decide +kernel
theorem L_152_57 : a_look 152 57 = some (.invokevirtual 180, 141, 4, 2620) := by decide +kernel
theorem L_152_60 : a_look 152 60 = some (.ireturn, 0, 0, 0) := by decide +kernel
theorem L_152_61 : a_look 152 61 = some (.aload_n 0, 0, 0, 0) := by decide +kernel
theorem L_152_62 : a_look 152 62 = some (.aload_n 0, 0, 0, 0) := by decide +kernel
theorem L_152_63 : a_look 152 63 = some (.getfield 164, 7, 10, 2509) := by decide +kernel
theorem L_152_66 : a_look 152 66 = some (.invokevirtual 184, 143, 2, 2621) := by decide +kernel
theorem L_152_69 : a_look 152 69 = some (.ireturn, 0, 0, 0) := by decide +kernel
theorem L_152_70 : a_look 152 70 = some (.aload_n 0, 0, 0, 0) := by decide +kernel
theorem L_152_71 : a_look 152 71 = some (.aload_n 0, 0, 0, 0) := by decide +kernel
theorem L_152_72 : a_look 152 72 = some (.getfield 164, 7, 10, 2509) := by decide +kernel
theorem L_152_75 : a_look 152 75 = some (.invokevirtual 187, 136, 2, 2622) := by decide +kernel
theorem L_152_78 : a_look 152 78 = some (.ireturn, 0, 0, 0) := by decide +kernel
theorem L_152_79 : a_look 152 79 = some (.aload_n 0, 0, 0, 0) := by decide +kernel
theorem L_152_80 : a_look 152 80 = some (.aload_n 0, 0, 0, 0) := by decide +kernel
theorem L_152_81 : a_look 152 81 = some (.getfield 164, 7, 10, 2509) := by decide +kernel
theorem L_152_84 : a_look 152 84 = some (.invokevirtual 190, 137, 2, 2623) := by decide +kernel
theorem L_152_87 : a_look 152 87 = some (.ireturn, 0, 0, 0) := by decide +kernel
theorem L_152_88 : a_look 152 88 = some (.aload_n 0, 0, 0, 0) := by decide +kernel
theorem L_152_89 : a_look 152 89 = some (.aload_n 0, 0, 0, 0) := by decide +kernel
theorem L_152_90 : a_look 152 90 = some (.getfield 164, 7, 10, 2509) := by decide +kernel
theorem L_152_93 : a_look 152 93 = some (.invokevirtual 193, 144, 2, 2700) := by decide +kernel
theorem L_152_96 : a_look 152 96 = some (.ireturn, 0, 0, 0) := by decide +kernel
theorem L_153_0 : a_look 153 0 = some (.aload_n 0, 0, 0, 0) := by decide +kernel
theorem L_153_1 : a_look 153 1 = some (.invokevirtual 196, 151, 1, 2615) := by decide +kernel
theorem L_153_4 : a_look 153 4 = some (.bipush (-6), 0, 0, 0) := by decide +kernel
theorem L_153_6 : a_look 153 6 = some (.if_icmp .eq 6, 12, 0, 0) := by decide +kernel
theorem L_153_9 : a_look 153 9 = some (.bipush (-3), 0, 0, 0) := by decide +kernel
theorem L_153_11 : a_look 153 11 = some (.ireturn, 0, 0, 0) := by decide +kernel
theorem L_153_12 : a_look 153 12 = some (.aload_n 0, 0, 0, 0) := by decide +kernel
theorem L_153_13 : a_look 153 13 = some (.invokevirtual 118, 98, 1, 708) := by decide +kernel
theorem L_153_16 : a_look 153 16 = some (.aload_n 0, 0, 0, 0) := by decide +kernel
theorem L_153_17 : a_look 153 17 = some (.iconst 1, 0, 0, 0) := by decide +kernel
theorem L_153_18 : a_look 153 18 = some (.putfield 29, 7, 6, 712) := by decide +kernel
theorem L_153_21 : a_look 153 21 = some (.iconst 0, 0, 0, 0) := by decide +kernel
theorem L_153_22 : a_look 153 22 = some (.istore_n 1, 0, 0, 0) := by decide +kernel
theorem L_153_23 : a_look 153 23 = some (.iconst 1, 0, 0, 0) := by decide +kernel
theorem L_153_24 : a_look 153 24 = some (.istore_n 2, 0, 0, 0) := by decide +kernel
theorem L_153_25 : a_look 153 25 = some (.aload_n 0, 0, 0, 0) := by decide +kernel
theorem L_153_26 : a_look 153 26 = some (.iconst 0, 0, 0, 0) := by decide +kernel
theorem L_153_27 : a_look 153 27 = some (.putfield 155, 7, 9, 2504) := by decide +kernel
theorem L_153_30 : a_look 153 30 = some (.iload_n 2, 0, 0, 0) := by decide +kernel
theorem L_153_31 : a_look 153 31 = some (.ifCond .eq 60, 91, 0, 0) := by decide +kernel
theorem L_153_34 : a_look 153 34 = some (.aload_n 0, 0, 0, 0) := by decide +kernel
theorem L_153_35 : a_look 153 35 = some (.getfield 155, 7, 9, 2504) := by decide +kernel
theorem L_153_38 : a_look 153 38 = some (.aload_n 0, 0, 0, 0) := by decide +kernel
theorem L_153_39 : a_look 153 39 = some (.getfield 152, 7, 8, 2222) := by decide +kernel
theorem L_153_42 : a_look 153 42 = some (.if_icmp .ge 49, 91, 0, 0) := by decide +kernel
theorem L_153_45 : a_look 153 45 = some (.aload_n 0, 0, 0, 0) := by decide +kernel
theorem L_153_46 : a_look 153 46 = some (.getfield 26, 7, 7, 402) := by decide +kernel
theorem L_153_49 : a_look 153 49 = some (.aload_n 0, 0, 0, 0) := by decide +kernel
theorem L_153_50 : a_look 153 50 = some (.getfield 155, 7, 9, 2504) := by decide +kernel
theorem L_153_53 : a_look 153 53 = some (.iaload, 0, 0, 0) := by decide +kernel
theorem L_153_54 : a_look 153 54 = some (.istore_n 3, 0, 0, 0) := by decide +kernel
theorem L_153_55 : a_look 153 55 = some (.aload_n 0, 0, 0, 0) := by decide +kernel
theorem L_153_56 : a_look 153 56 = some (.invokevirtual 176, 150, 1, 2505) := by decide +kernel
theorem L_153_59 : a_look 153 59 = some (.ifCond .eq 15, 74, 0, 0) := by decide +kernel
theorem L_153_62 : a_look 153 62 = some (.aload_n 0, 0, 0, 0) := by decide +kernel
theorem L_153_63 : a_look 153 63 = some (.iload_n 3, 0, 0, 0) := by decide +kernel
theorem L_153_64 : a_look 153 64 = some (.invokevirtual 199, 152, 2, 2616) := by decide +kernel
theorem L_153_67 : a_look 153 67 = some (.ifCond .lt 7, 74, 0, 0) := by decide +kernel
theorem L_153_70 : a_look 153 70 = some (.iconst 1, 0, 0, 0) := by decide +kernel
theorem L_153_71 : a_look 153 71 = some (.goto 4, 75, 0, 0) := by decide +kernel
theorem L_153_74 : a_look 153 74 = some (.iconst 0, 0, 0, 0) := by decide +kernel
theorem L_153_75 : a_look 153 75 = some (.istore_n 2, 0, 0, 0) := by decide +kernel
theorem L_153_76 : a_look 153 76 = some (.iload_n 1, 0, 0, 0) := by decide +kernel
theorem L_153_77 : a_look 153 77 = some (.iload_n 2, 0, 0, 0) := by decide +kernel
theorem L_153_78 : a_look 153 78 = some (.ifCond .eq 7, 85, 0, 0) := by decide +kernel
theorem L_153_81 : a_look 153 81 = some (.iconst 1, 0, 0, 0) := by decide +kernel
theorem L_153_82 : a_look 153 82 = some (.goto 4, 86, 0, 0) := by decide +kernel
theorem L_153_85 : a_look 153 85 = some (.iconst 0, 0, 0, 0) := by decide +kernel
theorem L_153_86 : a_look 153 86 = some (.iadd, 0, 0, 0) := by decide +kernel
theorem L_153_87 : a_look 153 87 = some (.istore_n 1, 0, 0, 0) := by decide +kernel
theorem L_153_88 : a_look 153 88 = some (.goto (-58), 30, 0, 0) := by decide +kernel
theorem L_153_91 : a_look 153 91 = some (.aload_n 0, 0, 0, 0) := by decide +kernel
theorem L_153_92 : a_look 153 92 = some (.iconst 0, 0, 0, 0) := by decide +kernel
theorem L_153_93 : a_look 153 93 = some (.putfield 29, 7, 6, 712) := by decide +kernel
theorem L_153_96 : a_look 153 96 = some (.iload_n 1, 0, 0, 0) := by decide +kernel
theorem L_153_97 : a_look 153 97 = some (.ireturn, 0, 0, 0) := by decide +kernel
theorem L_154_0 : a_look 154 0 = some (.aload_n 0, 0, 0, 0) := by decide +kernel
theorem L_154_1 : a_look 154 1 = some (.getfield 33, 7, 5, 713) := by decide +kernel
theorem L_154_4 : a_look 154 4 = some (.ifCond .ne 6, 10, 0, 0) := by decide +kernel
theorem L_154_7 : a_look 154 7 = some (.bipush (-3), 0, 0, 0) := by decide +kernel
theorem L_154_9 : a_look 154 9 = some (.ireturn, 0, 0, 0) := by decide +kernel
theorem L_154_10 : a_look 154 10 = some (.aload_n 0, 0, 0, 0) := by decide +kernel
theorem L_154_11 : a_look 154 11 = some (.dup, 0, 0, 0) := by decide +kernel
theorem L_154_12 : a_look 154 12 = some (.getfield 33, 7, 5, 713) := by decide +kernel
theorem L_154_15 : a_look 154 15 = some (.iconst 1, 0, 0, 0) := by decide +kernel
theorem L_154_16 : a_look 154 16 = some (.isub, 0, 0, 0) := by decide +kernel
theorem L_154_17 : a_look 154 17 = some (.putfield 33, 7, 5, 713) := by decide +kernel
theorem L_154_20 : a_look 154 20 = some (.iconst 0, 0, 0, 0) := by decide +kernel
theorem L_154_21 : a_look 154 21 = some (.istore_n 1, 0, 0, 0) := by decide +kernel
theorem L_154_22 : a_look 154 22 = some (.iload_n 1, 0, 0, 0) := by decide +kernel
theorem L_154_23 : a_look 154 23 = some (.sipush 264, 0, 0, 0) := by decide +kernel
theorem L_154_26 : a_look 154 26 = some (.if_icmp .ge 30, 56, 0, 0) := by decide +kernel
theorem L_154_29 : a_look 154 29 = some (.aload_n 0, 0, 0, 0) := by decide +kernel
theorem L_154_30 : a_look 154 30 = some (.getfield 7, 7, 0, 321) := by decide +kernel
theorem L_154_33 : a_look 154 33 = some (.iload_n 1, 0, 0, 0) := by decide +kernel
theorem L_154_34 : a_look 154 34 = some (.aload_n 0, 0, 0, 0) := by decide +kernel
theorem L_154_35 : a_look 154 35 = some (.getfield 13, 7, 1, 322) := by decide +kernel
theorem L_154_38 : a_look 154 38 = some (.sipush 264, 0, 0, 0) := by decide +kernel
theorem L_154_41 : a_look 154 41 = some (.aload_n 0, 0, 0, 0) := by decide +kernel
theorem L_154_42 : a_look 154 42 = some (.getfield 33, 7, 5, 713) := by decide +kernel
theorem L_154_45 : a_look 154 45 = some (.imul, 0, 0, 0) := by decide +kernel
theorem L_154_46 : a_look 154 46 = some (.iload_n 1, 0, 0, 0) := by decide +kernel
theorem L_154_47 : a_look 154 47 = some (.iadd, 0, 0, 0) := by decide +kernel
theorem L_154_48 : a_look 154 48 = some (.iaload, 0, 0, 0) := by decide +kernel
theorem L_154_49 : a_look 154 49 = some (.iastore, 0, 0, 0) := by decide +kernel
theorem L_154_50 : a_look 154 50 = some (.iinc 1 1, 0, 0, 0) := by decide +kernel
theorem L_154_53 : a_look 154 53 = some (.goto (-31), 22, 0, 0) := by decide +kernel
theorem L_154_56 : a_look 154 56 = some (.aload_n 0, 0, 0, 0) := by decide +kernel
theorem L_154_57 : a_look 154 57 = some (.getfield 33, 7, 5, 713) := by decide +kernel
theorem L_154_60 : a_look 154 60 = some (.ireturn, 0, 0, 0) := by decide +kernel
theorem L_155_0 : a_look 155 0 = some (.iload_n 1, 0, 0, 0) := by decide +kernel
theorem L_155_1 : a_look 155 1 = some (.iconst 0, 0, 0, 0) := by decide +kernel
theorem L_155_2 : a_look 155 2 = some (.iconst 1, 0, 0, 0) := by decide +kernel
theorem L_155_3 : a_look 155 3 = some (.invokestatic 37, 97, 3, 702) := by decide +kernel
theorem L_155_6 : a_look 155 6 = some (.ifCond .ne 5, 11, 0, 0) := by decide +kernel
theorem L_155_9 : a_look 155 9 = some (.iconst (-1), 0, 0, 0) := by decide +kernel
theorem L_155_10 : a_look 155 10 = some (.ireturn, 0, 0, 0) := by decide +kernel
theorem L_155_11 : a_look 155 11 = some (.iconst 0, 0, 0, 0) := by decide +kernel
theorem L_155_12 : a_look 155 12 = some (.istore_n 2, 0, 0, 0) := by decide +kernel
theorem L_155_13 : a_look 155 13 = some (.iload_n 2, 0, 0, 0) := by decide +kernel
theorem L_155_14 : a_look 155 14 = some (.sipush 264, 0, 0, 0) := by decide +kernel
theorem L_155_17 : a_look 155 17 = some (.if_icmp .ge 27, 44, 0, 0) := by decide +kernel
theorem L_155_20 : a_look 155 20 = some (.aload_n 0, 0, 0, 0) := by decide +kernel
theorem L_155_21 : a_look 155 21 = some (.getfield 16, 7, 2, 323) := by decide +kernel
theorem L_155_24 : a_look 155 24 = some (.sipush 264, 0, 0, 0) := by decide +kernel
theorem L_155_27 : a_look 155 27 = some (.iload_n 1, 0, 0, 0) := by decide +kernel
theorem L_155_28 : a_look 155 28 = some (.imul, 0, 0, 0) := by decide +kernel
theorem L_155_29 : a_look 155 29 = some (.iload_n 2, 0, 0, 0) := by decide +kernel
theorem L_155_30 : a_look 155 30 = some (.iadd, 0, 0, 0) := by decide +kernel
theorem L_155_31 : a_look 155 31 = some (.aload_n 0, 0, 0, 0) := by decide +kernel
theorem L_155_32 : a_look 155 32 = some (.getfield 7, 7, 0, 321) := by decide +kernel
theorem L_155_35 : a_look 155 35 = some (.iload_n 2, 0, 0, 0) := by decide +kernel
theorem L_155_36 : a_look 155 36 = some (.iaload, 0, 0, 0) := by decide +kernel
theorem L_155_37 : a_look 155 37 = some (.iastore, 0, 0, 0) := by decide +kernel
theorem L_155_38 : a_look 155 38 = some (.iinc 2 1, 0, 0, 0) := by decide +kernel
theorem L_155_41 : a_look 155 41 = some (.goto (-28), 13, 0, 0) := by decide +kernel
theorem L_155_44 : a_look 155 44 = some (.aload_n 0, 0, 0, 0) := by decide +kernel
theorem L_155_45 : a_look 155 45 = some (.getfield 19, 7, 3, 400) := by decide +kernel
theorem L_155_48 : a_look 155 48 = some (.iload_n 1, 0, 0, 0) := by decide +kernel
theorem L_155_49 : a_look 155 49 = some (.iconst 1, 0, 0, 0) := by decide +kernel
theorem L_155_50 : a_look 155 50 = some (.bastore, 0, 0, 0) := by decide +kernel
theorem L_155_51 : a_look 155 51 = some (.aload_n 0, 0, 0, 0) := by decide +kernel
theorem L_155_52 : a_look 155 52 = some (.getfield 7, 7, 0, 321) := by decide +kernel
theorem L_155_55 : a_look 155 55 = some (.iconst 0, 0, 0, 0) := by decide +kernel
theorem L_155_56 : a_look 155 56 = some (.iaload, 0, 0, 0) := by decide +kernel
theorem L_155_57 : a_look 155 57 = some (.ireturn, 0, 0, 0) := by decide +kernel
theorem L_156_0 : a_look 156 0 = some (.iload_n 1, 0, 0, 0) := by decide +kernel
theorem L_156_1 : a_look 156 1 = some (.iconst 0, 0, 0, 0) := by decide +kernel
theorem L_156_2 : a_look 156 2 = some (.iconst 1, 0, 0, 0) := by decide +kernel
theorem L_156_3 : a_look 156 3 = some (.invokestatic 37, 97, 3, 702) := by decide +kernel
theorem L_156_6 : a_look 156 6 = some (.ifCond .ne 5, 11, 0, 0) := by decide +kernel
theorem L_156_9 : a_look 156 9 = some (.iconst (-1), 0, 0, 0) := by decide +kernel
theorem L_156_10 : a_look 156 10 = some (.ireturn, 0, 0, 0) := by decide +kernel
theorem L_156_11 : a_look 156 11 = some (.aload_n 0, 0, 0, 0) := by decide +kernel
theorem L_156_12 : a_look 156 12 = some (.getfield 19, 7, 3, 400) := by decide +kernel
theorem L_156_15 : a_look 156 15 = some (.iload_n 1, 0, 0, 0) := by decide +kernel
theorem L_156_16 : a_look 156 16 = some (.baload, 0, 0, 0) := by decide +kernel
theorem L_156_17 : a_look 156 17 = some (.ifCond .ne 6, 23, 0, 0) := by decide +kernel
theorem L_156_20 : a_look 156 20 = some (.bipush (-3), 0, 0, 0) := by decide +kernel
theorem L_156_22 : a_look 156 22 = some (.ireturn, 0, 0, 0) := by decide +kernel
theorem L_156_23 : a_look 156 23 = some (.aload_n 0, 0, 0, 0) := by decide +kernel
theorem L_156_24 : a_look 156 24 = some (.invokevirtual 118, 98, 1, 708) := by decide +kernel
theorem L_156_27 : a_look 156 27 = some (.iconst 0, 0, 0, 0) := by decide +kernel
theorem L_156_28 : a_look 156 28 = some (.istore_n 2, 0, 0, 0) := by decide +kernel
theorem L_156_29 : a_look 156 29 = some (.iload_n 2, 0, 0, 0) := by decide +kernel
theorem L_156_30 : a_look 156 30 = some (.sipush 264, 0, 0, 0) := by decide +kernel
theorem L_156_33 : a_look 156 33 = some (.if_icmp .ge 27, 60, 0, 0) := by decide +kernel
theorem L_156_36 : a_look 156 36 = some (.aload_n 0, 0, 0, 0) := by decide +kernel
theorem L_156_37 : a_look 156 37 = some (.getfield 7, 7, 0, 321) := by decide +kernel
theorem L_156_40 : a_look 156 40 = some (.iload_n 2, 0, 0, 0) := by decide +kernel
theorem L_156_41 : a_look 156 41 = some (.aload_n 0, 0, 0, 0) := by decide +kernel
theorem L_156_42 : a_look 156 42 = some (.getfield 16, 7, 2, 323) := by decide +kernel
theorem L_156_45 : a_look 156 45 = some (.sipush 264, 0, 0, 0) := by decide +kernel
theorem L_156_48 : a_look 156 48 = some (.iload_n 1, 0, 0, 0) := by decide +kernel
theorem L_156_49 : a_look 156 49 = some (.imul, 0, 0, 0) := by decide +kernel
theorem L_156_50 : a_look 156 50 = some (.iload_n 2, 0, 0, 0) := by decide +kernel
theorem L_156_51 : a_look 156 51 = some (.iadd, 0, 0, 0) := by decide +kernel
theorem L_156_52 : a_look 156 52 = some (.iaload, 0, 0, 0) := by decide +kernel
theorem L_156_53 : a_look 156 53 = some (.iastore, 0, 0, 0) := by decide +kernel
theorem L_156_54 : a_look 156 54 = some (.iinc 2 1, 0, 0, 0) := by decide +kernel
theorem L_156_57 : a_look 156 57 = some (.goto (-28), 29, 0, 0) := by decide +kernel
theorem L_156_60 : a_look 156 60 = some (.aload_n 0, 0, 0, 0) := by decide +kernel
theorem L_156_61 : a_look 156 61 = some (.getfield 7, 7, 0, 321) := by decide +kernel
theorem L_156_64 : a_look 156 64 = some (.iconst 0, 0, 0, 0) := by decide +kernel
theorem L_156_65 : a_look 156 65 = some (.iaload, 0, 0, 0) := by decide +kernel
theorem L_156_66 : a_look 156 66 = some (.ireturn, 0, 0, 0) := by decide +kernel
theorem L_157_0 : a_look 157 0 = some (.iconst 0, 0, 0, 0) := by decide +kernel
theorem L_157_1 : a_look 157 1 = some (.istore_n 2, 0, 0, 0) := by decide +kernel
theorem L_157_2 : a_look 157 2 = some (.aload_n 0, 0, 0, 0) := by decide +kernel
theorem L_157_3 : a_look 157 3 = some (.iload_n 1, 0, 0, 0) := by decide +kernel
theorem L_157_4 : a_look 157 4 = some (.iconst 4, 0, 0, 0) := by decide +kernel
theorem L_157_5 : a_look 157 5 = some (.invokevirtual 41, 104, 3, 1106) := by decide +kernel
theorem L_157_8 : a_look 157 8 = some (.ifCond .ne 5, 13, 0, 0) := by decide +kernel
theorem L_157_11 : a_look 157 11 = some (.iconst 0, 0, 0, 0) := by decide +kernel
theorem L_157_12 : a_look 157 12 = some (.ireturn, 0, 0, 0) := by decide +kernel
theorem L_157_13 : a_look 157 13 = some (.iconst 0, 0, 0, 0) := by decide +kernel
theorem L_157_14 : a_look 157 14 = some (.istore_n 3, 0, 0, 0) := by decide +kernel
theorem L_157_15 : a_look 157 15 = some (.iload_n 3, 0, 0, 0) := by decide +kernel
theorem L_157_16 : a_look 157 16 = some (.aload_n 0, 0, 0, 0) := by decide +kernel
theorem L_157_17 : a_look 157 17 = some (.getfield 7, 7, 0, 321) := by decide +kernel
theorem L_157_20 : a_look 157 20 = some (.iconst 3, 0, 0, 0) := by decide +kernel
theorem L_157_21 : a_look 157 21 = some (.iaload, 0, 0, 0) := by decide +kernel
theorem L_157_22 : a_look 157 22 = some (.if_icmp .ge 69, 91, 0, 0) := by decide +kernel
theorem L_157_25 : a_look 157 25 = some (.aload_n 0, 0, 0, 0) := by decide +kernel
theorem L_157_26 : a_look 157 26 = some (.iload_n 3, 0, 0, 0) := by decide +kernel
theorem L_157_27 : a_look 157 27 = some (.invokevirtual 88, 120, 2, 1002) := by decide +kernel
theorem L_157_30 : a_look 157 30 = some (.ifCond .eq 55, 85, 0, 0) := by decide +kernel
theorem L_157_33 : a_look 157 33 = some (.aload_n 0, 0, 0, 0) := by decide +kernel
theorem L_157_34 : a_look 157 34 = some (.iload_n 3, 0, 0, 0) := by decide +kernel
theorem L_157_35 : a_look 157 35 = some (.invokevirtual 92, 124, 2, 1010) := by decide +kernel
theorem L_157_38 : a_look 157 38 = some (.ifCond .ne 47, 85, 0, 0) := by decide +kernel
theorem L_157_41 : a_look 157 41 = some (.aload_n 0, 0, 0, 0) := by decide +kernel
theorem L_157_42 : a_look 157 42 = some (.getfield 7, 7, 0, 321) := by decide +kernel
theorem L_157_45 : a_look 157 45 = some (.bipush 8, 0, 0, 0) := by decide +kernel
theorem L_157_47 : a_look 157 47 = some (.iconst 5, 0, 0, 0) := by decide +kernel
theorem L_157_48 : a_look 157 48 = some (.iload_n 1, 0, 0, 0) := by decide +kernel
theorem L_157_49 : a_look 157 49 = some (.imul, 0, 0, 0) := by decide +kernel
theorem L_157_50 : a_look 157 50 = some (.iadd, 0, 0, 0) := by decide +kernel
theorem L_157_51 : a_look 157 51 = some (.iconst 4, 0, 0, 0) := by decide +kernel
theorem L_157_52 : a_look 157 52 = some (.iadd, 0, 0, 0) := by decide +kernel
theorem L_157_53 : a_look 157 53 = some (.iconst 0, 0, 0, 0) := by decide +kernel
theorem L_157_54 : a_look 157 54 = some (.iastore, 0, 0, 0) := by decide +kernel
theorem L_157_55 : a_look 157 55 = some (.iload_n 2, 0, 0, 0) := by decide +kernel
theorem L_157_56 : a_look 157 56 = some (.aload_n 0, 0, 0, 0) := by decide +kernel
theorem L_157_57 : a_look 157 57 = some (.iload_n 3, 0, 0, 0) := by decide +kernel
theorem L_157_58 : a_look 157 58 = some (.invokevirtual 92, 124, 2, 1010) := by decide +kernel
theorem L_157_61 : a_look 157 61 = some (.ifCond .eq 7, 68, 0, 0) := by decide +kernel
theorem L_157_64 : a_look 157 64 = some (.iconst 1, 0, 0, 0) := by decide +kernel
theorem L_157_65 : a_look 157 65 = some (.goto 4, 69, 0, 0) := by decide +kernel
theorem L_157_68 : a_look 157 68 = some (.iconst 0, 0, 0, 0) := by decide +kernel
theorem L_157_69 : a_look 157 69 = some (.iadd, 0, 0, 0) := by decide +kernel
theorem L_157_70 : a_look 157 70 = some (.istore_n 2, 0, 0, 0) := by decide +kernel
theorem L_157_71 : a_look 157 71 = some (.aload_n 0, 0, 0, 0) := by decide +kernel
theorem L_157_72 : a_look 157 72 = some (.getfield 7, 7, 0, 321) := by decide +kernel
theorem L_157_75 : a_look 157 75 = some (.bipush 8, 0, 0, 0) := by decide +kernel
theorem L_157_77 : a_look 157 77 = some (.iconst 5, 0, 0, 0) := by decide +kernel
theorem L_157_78 : a_look 157 78 = some (.iload_n 1, 0, 0, 0) := by decide +kernel
theorem L_157_79 : a_look 157 79 = some (.imul, 0, 0, 0) := by decide +kernel
theorem L_157_80 : a_look 157 80 = some (.iadd, 0, 0, 0) := by decide +kernel
theorem L_157_81 : a_look 157 81 = some (.iconst 4, 0, 0, 0) := by decide +kernel
theorem L_157_82 : a_look 157 82 = some (.iadd, 0, 0, 0) := by decide +kernel
theorem L_157_83 : a_look 157 83 = some (.iconst 1, 0, 0, 0) := by decide +kernel
theorem L_157_84 : a_look 157 84 = some (.iastore, 0, 0, 0) := by decide +kernel
theorem L_157_85 : a_look 157 85 = some (.iinc 3 1, 0, 0, 0) := by decide +kernel
theorem L_157_88 : a_look 157 88 = some (.goto (-73), 15, 0, 0) := by decide +kernel
theorem L_157_91 : a_look 157 91 = some (.iload_n 2, 0, 0, 0) := by decide +kernel
theorem L_157_92 : a_look 157 92 = some (.ireturn, 0, 0, 0) := by decide +kernel
theorem L_158_0 : a_look 158 0 = some (.aload_n 0, 0, 0, 0) := by decide +kernel
theorem L_158_1 : a_look 158 1 = some (.iload_n 1, 0, 0, 0) := by decide +kernel
theorem L_158_2 : a_look 158 2 = some (.invokevirtual 124, 101, 2, 1503) := by decide +kernel
theorem L_158_5 : a_look 158 5 = some (.ifCond .ne 5, 10, 0, 0) := by decide +kernel
theorem L_158_8 : a_look 158 8 = some (.iconst (-1), 0, 0, 0) := by decide +kernel
theorem L_158_9 : a_look 158 9 = some (.ireturn, 0, 0, 0) := by decide +kernel
theorem L_158_10 : a_look 158 10 = some (.iload_n 2, 0, 0, 0) := by decide +kernel
theorem L_158_11 : a_look 158 11 = some (.tableswitch 71 0 6 #[41, 41, 41, 41, 48, 58, 65], 0, 41, 0) := by decide +kernel
theorem L_158_52 : a_look 158 52 = some (.aload_n 0, 0, 0, 0) := by decide +kernel
theorem L_158_53 : a_look 158 53 = some (.iload_n 1, 0, 0, 0) := by decide +kernel
theorem L_158_54 : a_look 158 54 = some (.iload_n 2, 0, 0, 0) := by decide +kernel
theorem L_158_55 : a_look 158 55 = some (.invokevirtual 41, 104, 3, 1106) := by decide +kernel
theorem L_158_58 : a_look 158 58 = some (.ireturn, 0, 0, 0) := by decide +kernel
theorem L_158_59 : a_look 158 59 = some (.aload_n 0, 0, 0, 0) := by decide +kernel
theorem L_158_60 : a_look 158 60 = some (.iload_n 1, 0, 0, 0) := by decide +kernel
theorem L_158_61 : a_look 158 61 = some (.iconst 3, 0, 0, 0) := by decide +kernel
theorem L_158_62 : a_look 158 62 = some (.invokevirtual 41, 104, 3, 1106) := by decide +kernel
theorem L_158_65 : a_look 158 65 = some (.invokestatic 45, 111, 1, 1110) := by decide +kernel
theorem L_158_68 : a_look 158 68 = some (.ireturn, 0, 0, 0) := by decide +kernel
theorem L_158_69 : a_look 158 69 = some (.aload_n 0, 0, 0, 0) := by decide +kernel
theorem L_158_70 : a_look 158 70 = some (.iload_n 1, 0, 0, 0) := by decide +kernel
theorem L_158_71 : a_look 158 71 = some (.iconst 4, 0, 0, 0) := by decide +kernel
theorem L_158_72 : a_look 158 72 = some (.invokevirtual 41, 104, 3, 1106) := by decide +kernel
theorem L_158_75 : a_look 158 75 = some (.ireturn, 0, 0, 0) := by decide +kernel
theorem L_158_76 : a_look 158 76 = some (.aload_n 0, 0, 0, 0) := by decide +kernel
theorem L_158_77 : a_look 158 77 = some (.iload_n 1, 0, 0, 0) := by decide +kernel
theorem L_158_78 : a_look 158 78 = some (.invokevirtual 202, 157, 2, 2907) := by decide +kernel
theorem L_158_81 : a_look 158 81 = some (.ireturn, 0, 0, 0) := by decide +kernel
theorem L_158_82 : a_look 158 82 = some (.bipush (-2), 0, 0, 0) := by decide +kernel
theorem L_158_84 : a_look 158 84 = some (.ireturn, 0, 0, 0) := by decide +kernel
theorem L_159_0 : a_look 159 0 = some (.aload_n 0, 0, 0, 0) := by decide +kernel
theorem L_159_1 : a_look 159 1 = some (.iload_n 1, 0, 0, 0) := by decide +kernel
theorem L_159_2 : a_look 159 2 = some (.invokevirtual 134, 102, 2, 1611) := by decide +kernel
theorem L_159_5 : a_look 159 5 = some (.ifCond .ne 5, 10, 0, 0) := by decide +kernel
theorem L_159_8 : a_look 159 8 = some (.iconst (-1), 0, 0, 0) := by decide +kernel
theorem L_159_9 : a_look 159 9 = some (.ireturn, 0, 0, 0) := by decide +kernel
theorem L_159_10 : a_look 159 10 = some (.iload_n 2, 0, 0, 0) := by decide +kernel
theorem L_159_11 : a_look 159 11 = some (.iconst 0, 0, 0, 0) := by decide +kernel
theorem L_159_12 : a_look 159 12 = some (.bipush 7, 0, 0, 0) := by decide +kernel
theorem L_159_14 : a_look 159 14 = some (.invokestatic 37, 97, 3, 702) := by decide +kernel
theorem L_159_17 : a_look 159 17 = some (.ifCond .ne 6, 23, 0, 0) := by decide +kernel
theorem L_159_20 : a_look 159 20 = some (.bipush (-2), 0, 0, 0) := by decide +kernel
theorem L_159_22 : a_look 159 22 = some (.ireturn, 0, 0, 0) := by decide +kernel
theorem L_159_23 : a_look 159 23 = some (.iload_n 2, 0, 0, 0) := by decide +kernel
theorem L_159_24 : a_look 159 24 = some (.bipush 7, 0, 0, 0) := by decide +kernel
theorem L_159_26 : a_look 159 26 = some (.if_icmp .ge 12, 38, 0, 0) := by decide +kernel
theorem L_159_29 : a_look 159 29 = some (.aload_n 0, 0, 0, 0) := by decide +kernel
theorem L_159_30 : a_look 159 30 = some (.iload_n 1, 0, 0, 0) := by decide +kernel
theorem L_159_31 : a_look 159 31 = some (.iload_n 2, 0, 0, 0) := by decide +kernel
theorem L_159_32 : a_look 159 32 = some (.invokevirtual 56, 105, 3, 1123) := by decide +kernel
theorem L_159_35 : a_look 159 35 = some (.goto 22, 57, 0, 0) := by decide +kernel
theorem L_159_38 : a_look 159 38 = some (.aload_n 0, 0, 0, 0) := by decide +kernel
theorem L_159_39 : a_look 159 39 = some (.iload_n 1, 0, 0, 0) := by decide +kernel
theorem L_159_40 : a_look 159 40 = some (.aload_n 0, 0, 0, 0) := by decide +kernel
theorem L_159_41 : a_look 159 41 = some (.getfield 7, 7, 0, 321) := by decide +kernel
theorem L_159_44 : a_look 159 44 = some (.iconst 0, 0, 0, 0) := by decide +kernel
theorem L_159_45 : a_look 159 45 = some (.iaload, 0, 0, 0) := by decide +kernel
theorem L_159_46 : a_look 159 46 = some (.invokevirtual 62, 115, 3, 1203) := by decide +kernel
theorem L_159_49 : a_look 159 49 = some (.ifCond .eq 7, 56, 0, 0) := by decide +kernel
theorem L_159_52 : a_look 159 52 = some (.iconst 1, 0, 0, 0) := by decide +kernel
theorem L_159_53 : a_look 159 53 = some (.goto 4, 57, 0, 0) := by decide +kernel
theorem L_159_56 : a_look 159 56 = some (.iconst 0, 0, 0, 0) := by decide +kernel
theorem L_159_57 : a_look 159 57 = some (.ireturn, 0, 0, 0) := by decide +kernel
theorem L_160_0 : a_look 160 0 = some (.aload_n 0, 0, 0, 0) := by decide +kernel
theorem L_160_1 : a_look 160 1 = some (.getfield 7, 7, 0, 321) := by decide +kernel
theorem L_160_4 : a_look 160 4 = some (.iconst 0, 0, 0, 0) := by decide +kernel
theorem L_160_5 : a_look 160 5 = some (.iaload, 0, 0, 0) := by decide +kernel
theorem L_160_6 : a_look 160 6 = some (.iconst 1, 0, 0, 0) := by decide +kernel
theorem L_160_7 : a_look 160 7 = some (.iadd, 0, 0, 0) := by decide +kernel
theorem L_160_8 : a_look 160 8 = some (.istore_n 2, 0, 0, 0) := by decide +kernel
theorem L_160_9 : a_look 160 9 = some (.iload_n 2, 0, 0, 0) := by decide +kernel
theorem L_160_10 : a_look 160 10 = some (.iload_n 1, 0, 0, 0) := by decide +kernel
theorem L_160_11 : a_look 160 11 = some (.iadd, 0, 0, 0) := by decide +kernel
theorem L_160_12 : a_look 160 12 = some (.aload_n 0, 0, 0, 0) := by decide +kernel
theorem L_160_13 : a_look 160 13 = some (.getfield 7, 7, 0, 321) := by decide +kernel
theorem L_160_16 : a_look 160 16 = some (.bipush 6, 0, 0, 0) := by decide +kernel
theorem L_160_18 : a_look 160 18 = some (.iaload, 0, 0, 0) := by decide +kernel
theorem L_160_19 : a_look 160 19 = some (.irem, 0, 0, 0) := by decide +kernel
theorem L_160_20 : a_look 160 20 = some (.ifCond .eq 9, 29, 0, 0) := by decide +kernel
theorem L_160_23 : a_look 160 23 = some (.iinc 2 1, 0, 0, 0) := by decide +kernel
theorem L_160_26 : a_look 160 26 = some (.goto (-17), 9, 0, 0) := by decide +kernel
theorem L_160_29 : a_look 160 29 = some (.iload_n 2, 0, 0, 0) := by decide +kernel
theorem L_160_30 : a_look 160 30 = some (.ireturn, 0, 0, 0) := by decide +kernel
theorem L_161_0 : a_look 161 0 = some (.aload_n 0, 0, 0, 0) := by decide +kernel
theorem L_161_1 : a_look 161 1 = some (.iload_n 1, 0, 0, 0) := by decide +kernel
theorem L_161_2 : a_look 161 2 = some (.invokevirtual 137, 103, 2, 1808) := by decide +kernel
theorem L_161_5 : a_look 161 5 = some (.ifCond .ne 5, 10, 0, 0) := by decide +kernel
theorem L_161_8 : a_look 161 8 = some (.iconst (-1), 0, 0, 0) := by decide +kernel
theorem L_161_9 : a_look 161 9 = some (.ireturn, 0, 0, 0) := by decide +kernel
theorem L_161_10 : a_look 161 10 = some (.iload_n 2, 0, 0, 0) := by decide +kernel
theorem L_161_11 : a_look 161 11 = some (.iconst 0, 0, 0, 0) := by decide +kernel
theorem L_161_12 : a_look 161 12 = some (.bipush 10, 0, 0, 0) := by decide +kernel
theorem L_161_14 : a_look 161 14 = some (.invokestatic 37, 97, 3, 702) := by decide +kernel
theorem L_161_17 : a_look 161 17 = some (.ifCond .ne 6, 23, 0, 0) := by decide +kernel
theorem L_161_20 : a_look 161 20 = some (.bipush (-2), 0, 0, 0) := by decide +kernel
theorem L_161_22 : a_look 161 22 = some (.ireturn, 0, 0, 0) := by decide +kernel
theorem L_161_23 : a_look 161 23 = some (.iload_n 2, 0, 0, 0) := by decide +kernel
theorem L_161_24 : a_look 161 24 = some (.bipush 10, 0, 0, 0) := by decide +kernel
theorem L_161_26 : a_look 161 26 = some (.if_icmp .ne 11, 37, 0, 0) := by decide +kernel
theorem L_161_29 : a_look 161 29 = some (.aload_n 0, 0, 0, 0) := by decide +kernel
theorem L_161_30 : a_look 161 30 = some (.iload_n 1, 0, 0, 0) := by decide +kernel
theorem L_161_31 : a_look 161 31 = some (.invokevirtual 205, 160, 2, 3019) := by decide +kernel
theorem L_161_34 : a_look 161 34 = some (.goto 9, 43, 0, 0) := by decide +kernel
theorem L_161_37 : a_look 161 37 = some (.aload_n 0, 0, 0, 0) := by decide +kernel
theorem L_161_38 : a_look 161 38 = some (.iload_n 1, 0, 0, 0) := by decide +kernel
theorem L_161_39 : a_look 161 39 = some (.iload_n 2, 0, 0, 0) := by decide +kernel
theorem L_161_40 : a_look 161 40 = some (.invokevirtual 73, 106, 3, 1006) := by decide +kernel
theorem L_161_43 : a_look 161 43 = some (.ireturn, 0, 0, 0) := by decide +kernel
theorem L_162_0 : a_look 162 0 = some (.iload_n 1, 0, 0, 0) := by decide +kernel
theorem L_162_1 : a_look 162 1 = some (.invokestatic 115, 109, 1, 705) := by decide +kernel
theorem L_162_4 : a_look 162 4 = some (.ifCond .eq 11, 15, 0, 0) := by decide +kernel
theorem L_162_7 : a_look 162 7 = some (.iload_n 2, 0, 0, 0) := by decide +kernel
theorem L_162_8 : a_look 162 8 = some (.iload_n 3, 0, 0, 0) := by decide +kernel
theorem L_162_9 : a_look 162 9 = some (.invokestatic 112, 108, 2, 623) := by decide +kernel
theorem L_162_12 : a_look 162 12 = some (.ifCond .ne 6, 18, 0, 0) := by decide +kernel
theorem L_162_15 : a_look 162 15 = some (.bipush (-2), 0, 0, 0) := by decide +kernel
theorem L_162_17 : a_look 162 17 = some (.ireturn, 0, 0, 0) := by decide +kernel
theorem L_162_18 : a_look 162 18 = some (.bipush (-6), 0, 0, 0) := by decide +kernel
theorem L_162_20 : a_look 162 20 = some (.istore 4, 0, 0, 0) := by decide +kernel
theorem L_162_22 : a_look 162 22 = some (.iconst 0, 0, 0, 0) := by decide +kernel
theorem L_162_23 : a_look 162 23 = some (.istore 5, 0, 0, 0) := by decide +kernel
theorem L_162_25 : a_look 162 25 = some (.iload 5, 0, 0, 0) := by decide +kernel
theorem L_162_27 : a_look 162 27 = some (.iconst 4, 0, 0, 0) := by decide +kernel
theorem L_162_28 : a_look 162 28 = some (.if_icmp .ge 30, 58, 0, 0) := by decide +kernel
theorem L_162_31 : a_look 162 31 = some (.aload_n 0, 0, 0, 0) := by decide +kernel
theorem L_162_32 : a_look 162 32 = some (.iload_n 1, 0, 0, 0) := by decide +kernel
theorem L_162_33 : a_look 162 33 = some (.iload_n 2, 0, 0, 0) := by decide +kernel
theorem L_162_34 : a_look 162 34 = some (.iload_n 3, 0, 0, 0) := by decide +kernel
theorem L_162_35 : a_look 162 35 = some (.iload 5, 0, 0, 0) := by decide +kernel
theorem L_162_37 : a_look 162 37 = some (.invokevirtual 76, 118, 5, 1018) := by decide +kernel
theorem L_162_40 : a_look 162 40 = some (.ifCond .eq 8, 48, 0, 0) := by decide +kernel
theorem L_162_43 : a_look 162 43 = some (.iload 5, 0, 0, 0) := by decide +kernel
theorem L_162_45 : a_look 162 45 = some (.goto 5, 50, 0, 0) := by decide +kernel
theorem L_162_48 : a_look 162 48 = some (.iload 4, 0, 0, 0) := by decide +kernel
theorem L_162_50 : a_look 162 50 = some (.istore 4, 0, 0, 0) := by decide +kernel
theorem L_162_52 : a_look 162 52 = some (.iinc 5 1, 0, 0, 0) := by decide +kernel
theorem L_162_55 : a_look 162 55 = some (.goto (-30), 25, 0, 0) := by decide +kernel
theorem L_162_58 : a_look 162 58 = some (.iload 4, 0, 0, 0) := by decide +kernel
theorem L_162_60 : a_look 162 60 = some (.ireturn, 0, 0, 0) := by decide +kernel
theorem L_163_0 : a_look 163 0 = some (.aload_n 0, 0, 0, 0) := by decide +kernel
theorem L_163_1 : a_look 163 1 = some (.iload_n 1, 0, 0, 0) := by decide +kernel
theorem L_163_2 : a_look 163 2 = some (.invokevirtual 137, 103, 2, 1808) := by decide +kernel
theorem L_163_5 : a_look 163 5 = some (.ifCond .ne 5, 10, 0, 0) := by decide +kernel
theorem L_163_8 : a_look 163 8 = some (.iconst (-1), 0, 0, 0) := by decide +kernel
theorem L_163_9 : a_look 163 9 = some (.ireturn, 0, 0, 0) := by decide +kernel
theorem L_163_10 : a_look 163 10 = some (.iload_n 2, 0, 0, 0) := by decide +kernel
theorem L_163_11 : a_look 163 11 = some (.invokestatic 121, 110, 1, 1307) := by decide +kernel
theorem L_163_14 : a_look 163 14 = some (.ifCond .eq 12, 26, 0, 0) := by decide +kernel
theorem L_163_17 : a_look 163 17 = some (.aload_n 0, 0, 0, 0) := by decide +kernel
theorem L_163_18 : a_look 163 18 = some (.iload_n 1, 0, 0, 0) := by decide +kernel
theorem L_163_19 : a_look 163 19 = some (.iload_n 2, 0, 0, 0) := by decide +kernel
theorem L_163_20 : a_look 163 20 = some (.invokevirtual 99, 123, 3, 1820) := by decide +kernel
theorem L_163_23 : a_look 163 23 = some (.goto 5, 28, 0, 0) := by decide +kernel
theorem L_163_26 : a_look 163 26 = some (.bipush (-2), 0, 0, 0) := by decide +kernel
theorem L_163_28 : a_look 163 28 = some (.ireturn, 0, 0, 0) := by decide +kernel
theorem L_164_0 : a_look 164 0 = some (.aload_n 0, 0, 0, 0) := by decide +kernel
theorem L_164_1 : a_look 164 1 = some (.iload_n 1, 0, 0, 0) := by decide +kernel
theorem L_164_2 : a_look 164 2 = some (.iconst 5, 0, 0, 0) := by decide +kernel
theorem L_164_3 : a_look 164 3 = some (.invokevirtual 73, 106, 3, 1006) := by decide +kernel
theorem L_164_6 : a_look 164 6 = some (.aload_n 0, 0, 0, 0) := by decide +kernel
theorem L_164_7 : a_look 164 7 = some (.iload_n 2, 0, 0, 0) := by decide +kernel
theorem L_164_8 : a_look 164 8 = some (.iconst 5, 0, 0, 0) := by decide +kernel
theorem L_164_9 : a_look 164 9 = some (.invokevirtual 73, 106, 3, 1006) := by decide +kernel
theorem L_164_12 : a_look 164 12 = some (.isub, 0, 0, 0) := by decide +kernel
theorem L_164_13 : a_look 164 13 = some (.istore_n 3, 0, 0, 0) := by decide +kernel
theorem L_164_14 : a_look 164 14 = some (.iload_n 3, 0, 0, 0) := by decide +kernel
theorem L_164_15 : a_look 164 15 = some (.ifCond .ne 39, 54, 0, 0) := by decide +kernel
theorem L_164_18 : a_look 164 18 = some (.aload_n 0, 0, 0, 0) := by decide +kernel
theorem L_164_19 : a_look 164 19 = some (.iload_n 1, 0, 0, 0) := by decide +kernel
theorem L_164_20 : a_look 164 20 = some (.bipush 6, 0, 0, 0) := by decide +kernel
theorem L_164_22 : a_look 164 22 = some (.invokevirtual 73, 106, 3, 1006) := by decide +kernel
theorem L_164_25 : a_look 164 25 = some (.bipush (-6), 0, 0, 0) := by decide +kernel
theorem L_164_27 : a_look 164 27 = some (.if_icmp .eq 7, 34, 0, 0) := by decide +kernel
theorem L_164_30 : a_look 164 30 = some (.iconst 0, 0, 0, 0) := by decide +kernel
theorem L_164_31 : a_look 164 31 = some (.goto 4, 35, 0, 0) := by decide +kernel
theorem L_164_34 : a_look 164 34 = some (.iconst 1, 0, 0, 0) := by decide +kernel
theorem L_164_35 : a_look 164 35 = some (.aload_n 0, 0, 0, 0) := by decide +kernel
theorem L_164_36 : a_look 164 36 = some (.iload_n 2, 0, 0, 0) := by decide +kernel
theorem L_164_37 : a_look 164 37 = some (.bipush 6, 0, 0, 0) := by decide +kernel
theorem L_164_39 : a_look 164 39 = some (.invokevirtual 73, 106, 3, 1006) := by decide +kernel
theorem L_164_42 : a_look 164 42 = some (.bipush (-6), 0, 0, 0) := by decide +kernel
theorem L_164_44 : a_look 164 44 = some (.if_icmp .eq 7, 51, 0, 0) := by decide +kernel
theorem L_164_47 : a_look 164 47 = some (.iconst 0, 0, 0, 0) := by decide +kernel
theorem L_164_48 : a_look 164 48 = some (.goto 4, 52, 0, 0) := by decide +kernel
theorem L_164_51 : a_look 164 51 = some (.iconst 1, 0, 0, 0) := by decide +kernel
theorem L_164_52 : a_look 164 52 = some (.isub, 0, 0, 0) := by decide +kernel
theorem L_164_53 : a_look 164 53 = some (.istore_n 3, 0, 0, 0) := by decide +kernel
theorem L_164_54 : a_look 164 54 = some (.iload_n 3, 0, 0, 0) := by decide +kernel
theorem L_164_55 : a_look 164 55 = some (.ifCond .ne 17, 72, 0, 0) := by decide +kernel
theorem L_164_58 : a_look 164 58 = some (.aload_n 0, 0, 0, 0) := by decide +kernel
theorem L_164_59 : a_look 164 59 = some (.iload_n 2, 0, 0, 0) := by decide +kernel
theorem L_164_60 : a_look 164 60 = some (.iconst 4, 0, 0, 0) := by decide +kernel
theorem L_164_61 : a_look 164 61 = some (.invokevirtual 73, 106, 3, 1006) := by decide +kernel
theorem L_164_64 : a_look 164 64 = some (.aload_n 0, 0, 0, 0) := by decide +kernel
theorem L_164_65 : a_look 164 65 = some (.iload_n 1, 0, 0, 0) := by decide +kernel
theorem L_164_66 : a_look 164 66 = some (.iconst 4, 0, 0, 0) := by decide +kernel
theorem L_164_67 : a_look 164 67 = some (.invokevirtual 73, 106, 3, 1006) := by decide +kernel
theorem L_164_70 : a_look 164 70 = some (.isub, 0, 0, 0) := by decide +kernel
theorem L_164_71 : a_look 164 71 = some (.istore_n 3, 0, 0, 0) := by decide +kernel
theorem L_164_72 : a_look 164 72 = some (.iload_n 3, 0, 0, 0) := by decide +kernel
theorem L_164_73 : a_look 164 73 = some (.ifCond .lt 12, 85, 0, 0) := by decide +kernel
theorem L_164_76 : a_look 164 76 = some (.iload_n 3, 0, 0, 0) := by decide +kernel
theorem L_164_77 : a_look 164 77 = some (.ifCond .ne 12, 89, 0, 0) := by decide +kernel
theorem L_164_80 : a_look 164 80 = some (.iload_n 1, 0, 0, 0) := by decide +kernel
theorem L_164_81 : a_look 164 81 = some (.iload_n 2, 0, 0, 0) := by decide +kernel
theorem L_164_82 : a_look 164 82 = some (.if_icmp .ge 7, 89, 0, 0) := by decide +kernel
theorem L_164_85 : a_look 164 85 = some (.iconst 1, 0, 0, 0) := by decide +kernel
theorem L_164_86 : a_look 164 86 = some (.goto 4, 90, 0, 0) := by decide +kernel
theorem L_164_89 : a_look 164 89 = some (.iconst 0, 0, 0, 0) := by decide +kernel
theorem L_164_90 : a_look 164 90 = some (.ireturn, 0, 0, 0) := by decide +kernel
theorem L_165_0 : a_look 165 0 = some (.iload_n 1, 0, 0, 0) := by decide +kernel
theorem L_165_1 : a_look 165 1 = some (.ifCond .ge 6, 7, 0, 0) := by decide +kernel
theorem L_165_4 : a_look 165 4 = some (.bipush (-2), 0, 0, 0) := by decide +kernel
theorem L_165_6 : a_look 165 6 = some (.ireturn, 0, 0, 0) := by decide +kernel
theorem L_165_7 : a_look 165 7 = some (.bipush (-6), 0, 0, 0) := by decide +kernel
theorem L_165_9 : a_look 165 9 = some (.istore_n 2, 0, 0, 0) := by decide +kernel
theorem L_165_10 : a_look 165 10 = some (.iconst 0, 0, 0, 0) := by decide +kernel
theorem L_165_11 : a_look 165 11 = some (.istore_n 3, 0, 0, 0) := by decide +kernel
theorem L_165_12 : a_look 165 12 = some (.iload_n 3, 0, 0, 0) := by decide +kernel
theorem L_165_13 : a_look 165 13 = some (.aload_n 0, 0, 0, 0) := by decide +kernel
theorem L_165_14 : a_look 165 14 = some (.getfield 7, 7, 0, 321) := by decide +kernel
theorem L_165_17 : a_look 165 17 = some (.iconst 3, 0, 0, 0) := by decide +kernel
theorem L_165_18 : a_look 165 18 = some (.iaload, 0, 0, 0) := by decide +kernel
theorem L_165_19 : a_look 165 19 = some (.if_icmp .ge 95, 114, 0, 0) := by decide +kernel
theorem L_165_22 : a_look 165 22 = some (.iconst 0, 0, 0, 0) := by decide +kernel
theorem L_165_23 : a_look 165 23 = some (.istore 4, 0, 0, 0) := by decide +kernel
theorem L_165_25 : a_look 165 25 = some (.iconst 0, 0, 0, 0) := by decide +kernel
theorem L_165_26 : a_look 165 26 = some (.istore 5, 0, 0, 0) := by decide +kernel
theorem L_165_28 : a_look 165 28 = some (.iload 5, 0, 0, 0) := by decide +kernel
theorem L_165_30 : a_look 165 30 = some (.aload_n 0, 0, 0, 0) := by decide +kernel
theorem L_165_31 : a_look 165 31 = some (.getfield 7, 7, 0, 321) := by decide +kernel
theorem L_165_34 : a_look 165 34 = some (.iconst 3, 0, 0, 0) := by decide +kernel
theorem L_165_35 : a_look 165 35 = some (.iaload, 0, 0, 0) := by decide +kernel
theorem L_165_36 : a_look 165 36 = some (.if_icmp .ge 52, 88, 0, 0) := by decide +kernel
theorem L_165_39 : a_look 165 39 = some (.aload_n 0, 0, 0, 0) := by decide +kernel
theorem L_165_40 : a_look 165 40 = some (.iload_n 3, 0, 0, 0) := by decide +kernel
theorem L_165_41 : a_look 165 41 = some (.invokevirtual 88, 120, 2, 1002) := by decide +kernel
theorem L_165_44 : a_look 165 44 = some (.ifCond .eq 44, 88, 0, 0) := by decide +kernel
theorem L_165_47 : a_look 165 47 = some (.iload 4, 0, 0, 0) := by decide +kernel
theorem L_165_49 : a_look 165 49 = some (.iload 5, 0, 0, 0) := by decide +kernel
theorem L_165_51 : a_look 165 51 = some (.iload_n 3, 0, 0, 0) := by decide +kernel
theorem L_165_52 : a_look 165 52 = some (.if_icmp .eq 26, 78, 0, 0) := by decide +kernel
theorem L_165_55 : a_look 165 55 = some (.aload_n 0, 0, 0, 0) := by decide +kernel
theorem L_165_56 : a_look 165 56 = some (.iload 5, 0, 0, 0) := by decide +kernel
theorem L_165_58 : a_look 165 58 = some (.invokevirtual 88, 120, 2, 1002) := by decide +kernel
theorem L_165_61 : a_look 165 61 = some (.ifCond .eq 17, 78, 0, 0) := by decide +kernel
theorem L_165_64 : a_look 165 64 = some (.aload_n 0, 0, 0, 0) := by decide +kernel
theorem L_165_65 : a_look 165 65 = some (.iload 5, 0, 0, 0) := by decide +kernel
theorem L_165_67 : a_look 165 67 = some (.iload_n 3, 0, 0, 0) := by decide +kernel
theorem L_165_68 : a_look 165 68 = some (.invokevirtual 208, 164, 3, 3214) := by decide +kernel
theorem L_165_71 : a_look 165 71 = some (.ifCond .eq 7, 78, 0, 0) := by decide +kernel
theorem L_165_74 : a_look 165 74 = some (.iconst 1, 0, 0, 0) := by decide +kernel
theorem L_165_75 : a_look 165 75 = some (.goto 4, 79, 0, 0) := by decide +kernel
theorem L_165_78 : a_look 165 78 = some (.iconst 0, 0, 0, 0) := by decide +kernel
theorem L_165_79 : a_look 165 79 = some (.iadd, 0, 0, 0) := by decide +kernel
theorem L_165_80 : a_look 165 80 = some (.istore 4, 0, 0, 0) := by decide +kernel
theorem L_165_82 : a_look 165 82 = some (.iinc 5 1, 0, 0, 0) := by decide +kernel
theorem L_165_85 : a_look 165 85 = some (.goto (-57), 28, 0, 0) := by decide +kernel
theorem L_165_88 : a_look 165 88 = some (.aload_n 0, 0, 0, 0) := by decide +kernel
theorem L_165_89 : a_look 165 89 = some (.iload_n 3, 0, 0, 0) := by decide +kernel
theorem L_165_90 : a_look 165 90 = some (.invokevirtual 88, 120, 2, 1002) := by decide +kernel
theorem L_165_93 : a_look 165 93 = some (.ifCond .eq 13, 106, 0, 0) := by decide +kernel
theorem L_165_96 : a_look 165 96 = some (.iload 4, 0, 0, 0) := by decide +kernel
theorem L_165_98 : a_look 165 98 = some (.iload_n 1, 0, 0, 0) := by decide +kernel
theorem L_165_99 : a_look 165 99 = some (.if_icmp .ne 7, 106, 0, 0) := by decide +kernel
theorem L_165_102 : a_look 165 102 = some (.iload_n 3, 0, 0, 0) := by decide +kernel
theorem L_165_103 : a_look 165 103 = some (.goto 4, 107, 0, 0) := by decide +kernel
theorem L_165_106 : a_look 165 106 = some (.iload_n 2, 0, 0, 0) := by decide +kernel
theorem L_165_107 : a_look 165 107 = some (.istore_n 2, 0, 0, 0) := by decide +kernel
theorem L_165_108 : a_look 165 108 = some (.iinc 3 1, 0, 0, 0) := by decide +kernel
theorem L_165_111 : a_look 165 111 = some (.goto (-99), 12, 0, 0) := by decide +kernel
theorem L_165_114 : a_look 165 114 = some (.iload_n 2, 0, 0, 0) := by decide +kernel
theorem L_165_115 : a_look 165 115 = some (.ireturn, 0, 0, 0) := by decide +kernel
theorem L_166_0 : a_look 166 0 = some (.iload_n 1, 0, 0, 0) := by decide +kernel
theorem L_166_1 : a_look 166 1 = some (.invokestatic 115, 109, 1, 705) := by decide +kernel
theorem L_166_4 : a_look 166 4 = some (.ifCond .eq 13, 17, 0, 0) := by decide +kernel
theorem L_166_7 : a_look 166 7 = some (.aload_n 0, 0, 0, 0) := by decide +kernel
theorem L_166_8 : a_look 166 8 = some (.bipush (-6), 0, 0, 0) := by decide +kernel
theorem L_166_10 : a_look 166 10 = some (.iload_n 1, 0, 0, 0) := by decide +kernel
theorem L_166_11 : a_look 166 11 = some (.invokevirtual 85, 122, 3, 1904) := by decide +kernel
theorem L_166_14 : a_look 166 14 = some (.goto 5, 19, 0, 0) := by decide +kernel
theorem L_166_17 : a_look 166 17 = some (.bipush (-2), 0, 0, 0) := by decide +kernel
theorem L_166_19 : a_look 166 19 = some (.ireturn, 0, 0, 0) := by decide +kernel
theorem L_167_0 : a_look 167 0 = some (.iconst 0, 0, 0, 0) := by decide +kernel
theorem L_167_1 : a_look 167 1 = some (.istore_n 2, 0, 0, 0) := by decide +kernel
theorem L_167_2 : a_look 167 2 = some (.iconst 0, 0, 0, 0) := by decide +kernel
theorem L_167_3 : a_look 167 3 = some (.istore_n 3, 0, 0, 0) := by decide +kernel
theorem L_167_4 : a_look 167 4 = some (.iload_n 3, 0, 0, 0) := by decide +kernel
theorem L_167_5 : a_look 167 5 = some (.aload_n 0, 0, 0, 0) := by decide +kernel
theorem L_167_6 : a_look 167 6 = some (.getfield 7, 7, 0, 321) := by decide +kernel
theorem L_167_9 : a_look 167 9 = some (.iconst 3, 0, 0, 0) := by decide +kernel
theorem L_167_10 : a_look 167 10 = some (.iaload, 0, 0, 0) := by decide +kernel
theorem L_167_11 : a_look 167 11 = some (.if_icmp .ge 18, 29, 0, 0) := by decide +kernel
theorem L_167_14 : a_look 167 14 = some (.iload_n 2, 0, 0, 0) := by decide +kernel
theorem L_167_15 : a_look 167 15 = some (.aload_n 0, 0, 0, 0) := by decide +kernel
theorem L_167_16 : a_look 167 16 = some (.iload_n 3, 0, 0, 0) := by decide +kernel
theorem L_167_17 : a_look 167 17 = some (.iload_n 1, 0, 0, 0) := by decide +kernel
theorem L_167_18 : a_look 167 18 = some (.invokevirtual 73, 106, 3, 1006) := by decide +kernel
theorem L_167_21 : a_look 167 21 = some (.iadd, 0, 0, 0) := by decide +kernel
theorem L_167_22 : a_look 167 22 = some (.istore_n 2, 0, 0, 0) := by decide +kernel
theorem L_167_23 : a_look 167 23 = some (.iinc 3 1, 0, 0, 0) := by decide +kernel
theorem L_167_26 : a_look 167 26 = some (.goto (-22), 4, 0, 0) := by decide +kernel
theorem L_167_29 : a_look 167 29 = some (.iload_n 2, 0, 0, 0) := by decide +kernel
theorem L_167_30 : a_look 167 30 = some (.ireturn, 0, 0, 0) := by decide +kernel
theorem L_168_0 : a_look 168 0 = some (.iconst 0, 0, 0, 0) := by decide +kernel
theorem L_168_1 : a_look 168 1 = some (.istore_n 1, 0, 0, 0) := by decide +kernel
theorem L_168_2 : a_look 168 2 = some (.iconst 0, 0, 0, 0) := by decide +kernel
theorem L_168_3 : a_look 168 3 = some (.istore_n 2, 0, 0, 0) := by decide +kernel
theorem L_168_4 : a_look 168 4 = some (.iload_n 2, 0, 0, 0) := by decide +kernel
theorem L_168_5 : a_look 168 5 = some (.aload_n 0, 0, 0, 0) := by decide +kernel
theorem L_168_6 : a_look 168 6 = some (.getfield 7, 7, 0, 321) := by decide +kernel
theorem L_168_9 : a_look 168 9 = some (.iconst 1, 0, 0, 0) := by decide +kernel
theorem L_168_10 : a_look 168 10 = some (.iaload, 0, 0, 0) := by decide +kernel
theorem L_168_11 : a_look 168 11 = some (.if_icmp .ge 18, 29, 0, 0) := by decide +kernel
theorem L_168_14 : a_look 168 14 = some (.iload_n 1, 0, 0, 0) := by decide +kernel
theorem L_168_15 : a_look 168 15 = some (.aload_n 0, 0, 0, 0) := by decide +kernel
theorem L_168_16 : a_look 168 16 = some (.iload_n 2, 0, 0, 0) := by decide +kernel
theorem L_168_17 : a_look 168 17 = some (.iconst 4, 0, 0, 0) := by decide +kernel
theorem L_168_18 : a_look 168 18 = some (.invokevirtual 41, 104, 3, 1106) := by decide +kernel
theorem L_168_21 : a_look 168 21 = some (.iadd, 0, 0, 0) := by decide +kernel
theorem L_168_22 : a_look 168 22 = some (.istore_n 1, 0, 0, 0) := by decide +kernel
theorem L_168_23 : a_look 168 23 = some (.iinc 2 1, 0, 0, 0) := by decide +kernel
theorem L_168_26 : a_look 168 26 = some (.goto (-22), 4, 0, 0) := by decide +kernel
theorem L_168_29 : a_look 168 29 = some (.iload_n 1, 0, 0, 0) := by decide +kernel
theorem L_168_30 : a_look 168 30 = some (.ireturn, 0, 0, 0) := by decide +kernel
theorem L_169_0 : a_look 169 0 = some (.iload_n 1, 0, 0, 0) := by decide +kernel
theorem L_169_1 : a_look 169 1 = some (.tableswitch 136 0 15 #[79, 79, 79, 79, 86, 91, 96, 101, 101, 101, 107, 114, 119, 124, 124, 124], 0, 79, 0) := by decide +kernel
theorem L_169_80 : a_look 169 80 = some (.aload_n 0, 0, 0, 0) := by decide +kernel
theorem L_169_81 : a_look 169 81 = some (.getfield 7, 7, 0, 321) := by decide +kernel
theorem L_169_84 : a_look 169 84 = some (.iload_n 1, 0, 0, 0) := by decide +kernel
theorem L_169_85 : a_look 169 85 = some (.iaload, 0, 0, 0) := by decide +kernel
theorem L_169_86 : a_look 169 86 = some (.ireturn, 0, 0, 0) := by decide +kernel
theorem L_169_87 : a_look 169 87 = some (.aload_n 0, 0, 0, 0) := by decide +kernel
theorem L_169_88 : a_look 169 88 = some (.invokevirtual 211, 168, 1, 3400) := by decide +kernel
theorem L_169_91 : a_look 169 91 = some (.ireturn, 0, 0, 0) := by decide +kernel
theorem L_169_92 : a_look 169 92 = some (.aload_n 0, 0, 0, 0) := by decide +kernel
theorem L_169_93 : a_look 169 93 = some (.invokevirtual 146, 128, 1, 2013) := by decide +kernel
theorem L_169_96 : a_look 169 96 = some (.ireturn, 0, 0, 0) := by decide +kernel
theorem L_169_97 : a_look 169 97 = some (.aload_n 0, 0, 0, 0) := by decide +kernel
theorem L_169_98 : a_look 169 98 = some (.invokevirtual 127, 127, 1, 1507) := by decide +kernel
theorem L_169_101 : a_look 169 101 = some (.ireturn, 0, 0, 0) := by decide +kernel
theorem L_169_102 : a_look 169 102 = some (.aload_n 0, 0, 0, 0) := by decide +kernel
theorem L_169_103 : a_look 169 103 = some (.iload_n 1, 0, 0, 0) := by decide +kernel
theorem L_169_104 : a_look 169 104 = some (.invokevirtual 214, 167, 2, 3404) := by decide +kernel
theorem L_169_107 : a_look 169 107 = some (.ireturn, 0, 0, 0) := by decide +kernel
theorem L_169_108 : a_look 169 108 = some (.aload_n 0, 0, 0, 0) := by decide +kernel
theorem L_169_109 : a_look 169 109 = some (.getfield 7, 7, 0, 321) := by decide +kernel
theorem L_169_112 : a_look 169 112 = some (.iconst 4, 0, 0, 0) := by decide +kernel
theorem L_169_113 : a_look 169 113 = some (.iaload, 0, 0, 0) := by decide +kernel
theorem L_169_114 : a_look 169 114 = some (.ireturn, 0, 0, 0) := by decide +kernel
theorem L_169_115 : a_look 169 115 = some (.aload_n 0, 0, 0, 0) := by decide +kernel
theorem L_169_116 : a_look 169 116 = some (.getfield 33, 7, 5, 713) := by decide +kernel
theorem L_169_119 : a_look 169 119 = some (.ireturn, 0, 0, 0) := by decide +kernel
theorem L_169_120 : a_look 169 120 = some (.aload_n 0, 0, 0, 0) := by decide +kernel
theorem L_169_121 : a_look 169 121 = some (.getfield 152, 7, 8, 2222) := by decide +kernel
theorem L_169_124 : a_look 169 124 = some (.ireturn, 0, 0, 0) := by decide +kernel
theorem L_169_125 : a_look 169 125 = some (.aload_n 0, 0, 0, 0) := by decide +kernel
theorem L_169_126 : a_look 169 126 = some (.getfield 7, 7, 0, 321) := by decide +kernel
theorem L_169_129 : a_look 169 129 = some (.iconst 5, 0, 0, 0) := by decide +kernel
theorem L_169_130 : a_look 169 130 = some (.iload_n 1, 0, 0, 0) := by decide +kernel
theorem L_169_131 : a_look 169 131 = some (.iadd, 0, 0, 0) := by decide +kernel
theorem L_169_132 : a_look 169 132 = some (.bipush 13, 0, 0, 0) := by decide +kernel
theorem L_169_134 : a_look 169 134 = some (.isub, 0, 0, 0) := by decide +kernel
theorem L_169_135 : a_look 169 135 = some (.iaload, 0, 0, 0) := by decide +kernel
theorem L_169_136 : a_look 169 136 = some (.ireturn, 0, 0, 0) := by decide +kernel
theorem L_169_137 : a_look 169 137 = some (.bipush (-2), 0, 0, 0) := by decide +kernel
theorem L_169_139 : a_look 169 139 = some (.ireturn, 0, 0, 0) := by decide +kernel
theorem L_170_0 : a_look 170 0 = some (.iload_n 1, 0, 0, 0) := by decide +kernel
theorem L_170_1 : a_look 170 1 = some (.invokestatic 115, 109, 1, 705) := by decide +kernel
theorem L_170_4 : a_look 170 4 = some (.ifCond .eq 10, 14, 0, 0) := by decide +kernel
theorem L_170_7 : a_look 170 7 = some (.iload_n 2, 0, 0, 0) := by decide +kernel
theorem L_170_8 : a_look 170 8 = some (.invokestatic 121, 110, 1, 1307) := by decide +kernel
theorem L_170_11 : a_look 170 11 = some (.ifCond .ne 6, 17, 0, 0) := by decide +kernel
theorem L_170_14 : a_look 170 14 = some (.bipush (-2), 0, 0, 0) := by decide +kernel
theorem L_170_16 : a_look 170 16 = some (.ireturn, 0, 0, 0) := by decide +kernel
theorem L_170_17 : a_look 170 17 = some (.iconst 0, 0, 0, 0) := by decide +kernel
theorem L_170_18 : a_look 170 18 = some (.istore_n 3, 0, 0, 0) := by decide +kernel
theorem L_170_19 : a_look 170 19 = some (.iconst 0, 0, 0, 0) := by decide +kernel
theorem L_170_20 : a_look 170 20 = some (.istore 4, 0, 0, 0) := by decide +kernel
theorem L_170_22 : a_look 170 22 = some (.iload 4, 0, 0, 0) := by decide +kernel
theorem L_170_24 : a_look 170 24 = some (.bipush 100, 0, 0, 0) := by decide +kernel
theorem L_170_26 : a_look 170 26 = some (.if_icmp .ge 46, 72, 0, 0) := by decide +kernel
theorem L_170_29 : a_look 170 29 = some (.iload_n 3, 0, 0, 0) := by decide +kernel
theorem L_170_30 : a_look 170 30 = some (.aload_n 0, 0, 0, 0) := by decide +kernel
theorem L_170_31 : a_look 170 31 = some (.iload_n 1, 0, 0, 0) := by decide +kernel
theorem L_170_32 : a_look 170 32 = some (.bipush 10, 0, 0, 0) := by decide +kernel
theorem L_170_34 : a_look 170 34 = some (.iload 4, 0, 0, 0) := by decide +kernel
theorem L_170_36 : a_look 170 36 = some (.bipush 10, 0, 0, 0) := by decide +kernel
theorem L_170_38 : a_look 170 38 = some (.idiv, 0, 0, 0) := by decide +kernel
theorem L_170_39 : a_look 170 39 = some (.imul, 0, 0, 0) := by decide +kernel
theorem L_170_40 : a_look 170 40 = some (.iconst 5, 0, 0, 0) := by decide +kernel
theorem L_170_41 : a_look 170 41 = some (.iadd, 0, 0, 0) := by decide +kernel
theorem L_170_42 : a_look 170 42 = some (.bipush 10, 0, 0, 0) := by decide +kernel
theorem L_170_44 : a_look 170 44 = some (.iload 4, 0, 0, 0) := by decide +kernel
theorem L_170_46 : a_look 170 46 = some (.bipush 10, 0, 0, 0) := by decide +kernel
theorem L_170_48 : a_look 170 48 = some (.irem, 0, 0, 0) := by decide +kernel
theorem L_170_49 : a_look 170 49 = some (.imul, 0, 0, 0) := by decide +kernel
theorem L_170_50 : a_look 170 50 = some (.iconst 5, 0, 0, 0) := by decide +kernel
theorem L_170_51 : a_look 170 51 = some (.iadd, 0, 0, 0) := by decide +kernel
theorem L_170_52 : a_look 170 52 = some (.iload_n 2, 0, 0, 0) := by decide +kernel
theorem L_170_53 : a_look 170 53 = some (.invokevirtual 76, 118, 5, 1018) := by decide +kernel
theorem L_170_56 : a_look 170 56 = some (.ifCond .eq 7, 63, 0, 0) := by decide +kernel
theorem L_170_59 : a_look 170 59 = some (.iconst 1, 0, 0, 0) := by decide +kernel
theorem L_170_60 : a_look 170 60 = some (.goto 4, 64, 0, 0) := by decide +kernel
theorem L_170_63 : a_look 170 63 = some (.iconst 0, 0, 0, 0) := by decide +kernel
theorem L_170_64 : a_look 170 64 = some (.iadd, 0, 0, 0) := by decide +kernel
theorem L_170_65 : a_look 170 65 = some (.istore_n 3, 0, 0, 0) := by decide +kernel
theorem L_170_66 : a_look 170 66 = some (.iinc 4 1, 0, 0, 0) := by decide +kernel
theorem L_170_69 : a_look 170 69 = some (.goto (-47), 22, 0, 0) := by decide +kernel
theorem L_170_72 : a_look 170 72 = some (.iload_n 3, 0, 0, 0) := by decide +kernel
theorem L_170_73 : a_look 170 73 = some (.ireturn, 0, 0, 0) := by decide +kernel
theorem L_171_0 : a_look 171 0 = some (.iload_n 1, 0, 0, 0) := by decide +kernel
theorem L_171_1 : a_look 171 1 = some (.invokestatic 115, 109, 1, 705) := by decide +kernel
theorem L_171_4 : a_look 171 4 = some (.ifCond .eq 19, 23, 0, 0) := by decide +kernel
theorem L_171_7 : a_look 171 7 = some (.iload_n 2, 0, 0, 0) := by decide +kernel
theorem L_171_8 : a_look 171 8 = some (.iload_n 3, 0, 0, 0) := by decide +kernel
theorem L_171_9 : a_look 171 9 = some (.invokestatic 112, 108, 2, 623) := by decide +kernel
theorem L_171_12 : a_look 171 12 = some (.ifCond .eq 11, 23, 0, 0) := by decide +kernel
theorem L_171_15 : a_look 171 15 = some (.iload 4, 0, 0, 0) := by decide +kernel
theorem L_171_17 : a_look 171 17 = some (.invokestatic 121, 110, 1, 1307) := by decide +kernel
theorem L_171_20 : a_look 171 20 = some (.ifCond .ne 6, 26, 0, 0) := by decide +kernel
theorem L_171_23 : a_look 171 23 = some (.bipush (-2), 0, 0, 0) := by decide +kernel
theorem L_171_25 : a_look 171 25 = some (.ireturn, 0, 0, 0) := by decide +kernel
theorem L_171_26 : a_look 171 26 = some (.aload_n 0, 0, 0, 0) := by decide +kernel
theorem L_171_27 : a_look 171 27 = some (.getfield 7, 7, 0, 321) := by decide +kernel
theorem L_171_30 : a_look 171 30 = some (.iconst 0, 0, 0, 0) := by decide +kernel
theorem L_171_31 : a_look 171 31 = some (.iaload, 0, 0, 0) := by decide +kernel
theorem L_171_32 : a_look 171 32 = some (.istore 5, 0, 0, 0) := by decide +kernel
theorem L_171_34 : a_look 171 34 = some (.aload_n 0, 0, 0, 0) := by decide +kernel
theorem L_171_35 : a_look 171 35 = some (.iload_n 1, 0, 0, 0) := by decide +kernel
theorem L_171_36 : a_look 171 36 = some (.iload_n 2, 0, 0, 0) := by decide +kernel
theorem L_171_37 : a_look 171 37 = some (.iload_n 3, 0, 0, 0) := by decide +kernel
theorem L_171_38 : a_look 171 38 = some (.iload 4, 0, 0, 0) := by decide +kernel
theorem L_171_40 : a_look 171 40 = some (.invokevirtual 66, 116, 5, 1022) := by decide +kernel
theorem L_171_43 : a_look 171 43 = some (.istore 6, 0, 0, 0) := by decide +kernel
theorem L_171_45 : a_look 171 45 = some (.iload 6, 0, 0, 0) := by decide +kernel
theorem L_171_47 : a_look 171 47 = some (.ifCond .ne 31, 78, 0, 0) := by decide +kernel
theorem L_171_50 : a_look 171 50 = some (.iload 5, 0, 0, 0) := by decide +kernel
theorem L_171_52 : a_look 171 52 = some (.sipush 9999, 0, 0, 0) := by decide +kernel
theorem L_171_55 : a_look 171 55 = some (.if_icmp .gt 23, 78, 0, 0) := by decide +kernel
theorem L_171_58 : a_look 171 58 = some (.aload_n 0, 0, 0, 0) := by decide +kernel
theorem L_171_59 : a_look 171 59 = some (.iload_n 1, 0, 0, 0) := by decide +kernel
theorem L_171_60 : a_look 171 60 = some (.iload_n 2, 0, 0, 0) := by decide +kernel
theorem L_171_61 : a_look 171 61 = some (.iload_n 3, 0, 0, 0) := by decide +kernel
theorem L_171_62 : a_look 171 62 = some (.iload 4, 0, 0, 0) := by decide +kernel
theorem L_171_64 : a_look 171 64 = some (.iload 5, 0, 0, 0) := by decide +kernel
theorem L_171_66 : a_look 171 66 = some (.invokevirtual 70, 117, 6, 1119) := by decide +kernel
theorem L_171_69 : a_look 171 69 = some (.ifCond .eq 9, 78, 0, 0) := by decide +kernel
theorem L_171_72 : a_look 171 72 = some (.iinc 5 1, 0, 0, 0) := by decide +kernel
theorem L_171_75 : a_look 171 75 = some (.goto (-30), 45, 0, 0) := by decide +kernel
theorem L_171_78 : a_look 171 78 = some (.iload 6, 0, 0, 0) := by decide +kernel
theorem L_171_80 : a_look 171 80 = some (.ifCond .ne 11, 91, 0, 0) := by decide +kernel
theorem L_171_83 : a_look 171 83 = some (.iload 5, 0, 0, 0) := by decide +kernel
theorem L_171_85 : a_look 171 85 = some (.sipush 9999, 0, 0, 0) := by decide +kernel
theorem L_171_88 : a_look 171 88 = some (.if_icmp .le 8, 96, 0, 0) := by decide +kernel
theorem L_171_91 : a_look 171 91 = some (.bipush (-6), 0, 0, 0) := by decide +kernel
theorem L_171_93 : a_look 171 93 = some (.goto 5, 98, 0, 0) := by decide +kernel
theorem L_171_96 : a_look 171 96 = some (.iload 5, 0, 0, 0) := by decide +kernel
theorem L_171_98 : a_look 171 98 = some (.ireturn, 0, 0, 0) := by decide +kernel
theorem L_172_0 : a_look 172 0 = some (.aload_n 0, 0, 0, 0) := by decide +kernel
theorem L_172_1 : a_look 172 1 = some (.iload_n 1, 0, 0, 0) := by decide +kernel
theorem L_172_2 : a_look 172 2 = some (.invokevirtual 124, 101, 2, 1503) := by decide +kernel
theorem L_172_5 : a_look 172 5 = some (.ifCond .ne 5, 10, 0, 0) := by decide +kernel
theorem L_172_8 : a_look 172 8 = some (.iconst (-1), 0, 0, 0) := by decide +kernel
theorem L_172_9 : a_look 172 9 = some (.ireturn, 0, 0, 0) := by decide +kernel
theorem L_172_10 : a_look 172 10 = some (.aload_n 0, 0, 0, 0) := by decide +kernel
theorem L_172_11 : a_look 172 11 = some (.iload_n 1, 0, 0, 0) := by decide +kernel
theorem L_172_12 : a_look 172 12 = some (.iconst 4, 0, 0, 0) := by decide +kernel
theorem L_172_13 : a_look 172 13 = some (.invokevirtual 41, 104, 3, 1106) := by decide +kernel
theorem L_172_16 : a_look 172 16 = some (.iconst 1, 0, 0, 0) := by decide +kernel
theorem L_172_17 : a_look 172 17 = some (.if_icmp .ne 6, 23, 0, 0) := by decide +kernel
theorem L_172_20 : a_look 172 20 = some (.bipush (-3), 0, 0, 0) := by decide +kernel
theorem L_172_22 : a_look 172 22 = some (.ireturn, 0, 0, 0) := by decide +kernel
theorem L_172_23 : a_look 172 23 = some (.iconst 0, 0, 0, 0) := by decide +kernel
theorem L_172_24 : a_look 172 24 = some (.istore_n 2, 0, 0, 0) := by decide +kernel
theorem L_172_25 : a_look 172 25 = some (.aload_n 0, 0, 0, 0) := by decide +kernel
theorem L_172_26 : a_look 172 26 = some (.getfield 7, 7, 0, 321) := by decide +kernel
theorem L_172_29 : a_look 172 29 = some (.bipush 8, 0, 0, 0) := by decide +kernel
theorem L_172_31 : a_look 172 31 = some (.iconst 5, 0, 0, 0) := by decide +kernel
theorem L_172_32 : a_look 172 32 = some (.iload_n 1, 0, 0, 0) := by decide +kernel
theorem L_172_33 : a_look 172 33 = some (.imul, 0, 0, 0) := by decide +kernel
theorem L_172_34 : a_look 172 34 = some (.iadd, 0, 0, 0) := by decide +kernel
theorem L_172_35 : a_look 172 35 = some (.iconst 4, 0, 0, 0) := by decide +kernel
theorem L_172_36 : a_look 172 36 = some (.iadd, 0, 0, 0) := by decide +kernel
theorem L_172_37 : a_look 172 37 = some (.iconst 1, 0, 0, 0) := by decide +kernel
theorem L_172_38 : a_look 172 38 = some (.iastore, 0, 0, 0) := by decide +kernel
theorem L_172_39 : a_look 172 39 = some (.iconst 0, 0, 0, 0) := by decide +kernel
theorem L_172_40 : a_look 172 40 = some (.istore_n 3, 0, 0, 0) := by decide +kernel
theorem L_172_41 : a_look 172 41 = some (.iload_n 3, 0, 0, 0) := by decide +kernel
theorem L_172_42 : a_look 172 42 = some (.aload_n 0, 0, 0, 0) := by decide +kernel
theorem L_172_43 : a_look 172 43 = some (.getfield 7, 7, 0, 321) := by decide +kernel
theorem L_172_46 : a_look 172 46 = some (.iconst 3, 0, 0, 0) := by decide +kernel
theorem L_172_47 : a_look 172 47 = some (.iaload, 0, 0, 0) := by decide +kernel
theorem L_172_48 : a_look 172 48 = some (.if_icmp .ge 45, 93, 0, 0) := by decide +kernel
theorem L_172_51 : a_look 172 51 = some (.iload_n 2, 0, 0, 0) := by decide +kernel
theorem L_172_52 : a_look 172 52 = some (.aload_n 0, 0, 0, 0) := by decide +kernel
theorem L_172_53 : a_look 172 53 = some (.iload_n 3, 0, 0, 0) := by decide +kernel
theorem L_172_54 : a_look 172 54 = some (.invokevirtual 88, 120, 2, 1002) := by decide +kernel
theorem L_172_57 : a_look 172 57 = some (.ifCond .eq 27, 84, 0, 0) := by decide +kernel
theorem L_172_60 : a_look 172 60 = some (.aload_n 0, 0, 0, 0) := by decide +kernel
theorem L_172_61 : a_look 172 61 = some (.iload_n 3, 0, 0, 0) := by decide +kernel
theorem L_172_62 : a_look 172 62 = some (.bipush 6, 0, 0, 0) := by decide +kernel
theorem L_172_64 : a_look 172 64 = some (.invokevirtual 73, 106, 3, 1006) := by decide +kernel
theorem L_172_67 : a_look 172 67 = some (.bipush (-6), 0, 0, 0) := by decide +kernel
theorem L_172_69 : a_look 172 69 = some (.if_icmp .ne 15, 84, 0, 0) := by decide +kernel
theorem L_172_72 : a_look 172 72 = some (.aload_n 0, 0, 0, 0) := by decide +kernel
theorem L_172_73 : a_look 172 73 = some (.iload_n 3, 0, 0, 0) := by decide +kernel
theorem L_172_74 : a_look 172 74 = some (.invokevirtual 92, 124, 2, 1010) := by decide +kernel
theorem L_172_77 : a_look 172 77 = some (.ifCond .ne 7, 84, 0, 0) := by decide +kernel
theorem L_172_80 : a_look 172 80 = some (.iconst 1, 0, 0, 0) := by decide +kernel
theorem L_172_81 : a_look 172 81 = some (.goto 4, 85, 0, 0) := by decide +kernel
theorem L_172_84 : a_look 172 84 = some (.iconst 0, 0, 0, 0) := by decide +kernel
theorem L_172_85 : a_look 172 85 = some (.iadd, 0, 0, 0) := by decide +kernel
theorem L_172_86 : a_look 172 86 = some (.istore_n 2, 0, 0, 0) := by decide +kernel
theorem L_172_87 : a_look 172 87 = some (.iinc 3 1, 0, 0, 0) := by decide +kernel
theorem L_172_90 : a_look 172 90 = some (.goto (-49), 41, 0, 0) := by decide +kernel
theorem L_172_93 : a_look 172 93 = some (.aload_n 0, 0, 0, 0) := by decide +kernel
theorem L_172_94 : a_look 172 94 = some (.getfield 7, 7, 0, 321) := by decide +kernel
theorem L_172_97 : a_look 172 97 = some (.bipush 8, 0, 0, 0) := by decide +kernel
theorem L_172_99 : a_look 172 99 = some (.iconst 5, 0, 0, 0) := by decide +kernel
theorem L_172_100 : a_look 172 100 = some (.iload_n 1, 0, 0, 0) := by decide +kernel
theorem L_172_101 : a_look 172 101 = some (.imul, 0, 0, 0) := by decide +kernel
theorem L_172_102 : a_look 172 102 = some (.iadd, 0, 0, 0) := by decide +kernel
theorem L_172_103 : a_look 172 103 = some (.iconst 4, 0, 0, 0) := by decide +kernel
theorem L_172_104 : a_look 172 104 = some (.iadd, 0, 0, 0) := by decide +kernel
theorem L_172_105 : a_look 172 105 = some (.iconst 0, 0, 0, 0) := by decide +kernel
theorem L_172_106 : a_look 172 106 = some (.iastore, 0, 0, 0) := by decide +kernel
theorem L_172_107 : a_look 172 107 = some (.iload_n 2, 0, 0, 0) := by decide +kernel
theorem L_172_108 : a_look 172 108 = some (.ireturn, 0, 0, 0) := by decide +kernel
theorem L_173_0 : a_look 173 0 = some (.aload_n 0, 0, 0, 0) := by decide +kernel
theorem L_173_1 : a_look 173 1 = some (.iload_n 1, 0, 0, 0) := by decide +kernel
theorem L_173_2 : a_look 173 2 = some (.invokevirtual 137, 103, 2, 1808) := by decide +kernel
theorem L_173_5 : a_look 173 5 = some (.ifCond .ne 5, 10, 0, 0) := by decide +kernel
theorem L_173_8 : a_look 173 8 = some (.iconst (-1), 0, 0, 0) := by decide +kernel
theorem L_173_9 : a_look 173 9 = some (.ireturn, 0, 0, 0) := by decide +kernel
theorem L_173_10 : a_look 173 10 = some (.iload_n 2, 0, 0, 0) := by decide +kernel
theorem L_173_11 : a_look 173 11 = some (.iconst 0, 0, 0, 0) := by decide +kernel
theorem L_173_12 : a_look 173 12 = some (.bipush 99, 0, 0, 0) := by decide +kernel
theorem L_173_14 : a_look 173 14 = some (.invokestatic 37, 97, 3, 702) := by decide +kernel
theorem L_173_17 : a_look 173 17 = some (.ifCond .ne 6, 23, 0, 0) := by decide +kernel
theorem L_173_20 : a_look 173 20 = some (.bipush (-2), 0, 0, 0) := by decide +kernel
theorem L_173_22 : a_look 173 22 = some (.ireturn, 0, 0, 0) := by decide +kernel
theorem L_173_23 : a_look 173 23 = some (.aload_n 0, 0, 0, 0) := by decide +kernel
theorem L_173_24 : a_look 173 24 = some (.invokevirtual 217, 99, 1, 3521) := by decide +kernel
theorem L_173_27 : a_look 173 27 = some (.iconst 0, 0, 0, 0) := by decide +kernel
theorem L_173_28 : a_look 173 28 = some (.istore_n 3, 0, 0, 0) := by decide +kernel
theorem L_173_29 : a_look 173 29 = some (.iconst 0, 0, 0, 0) := by decide +kernel
theorem L_173_30 : a_look 173 30 = some (.istore 4, 0, 0, 0) := by decide +kernel
theorem L_173_32 : a_look 173 32 = some (.iload 4, 0, 0, 0) := by decide +kernel
theorem L_173_34 : a_look 173 34 = some (.iload_n 2, 0, 0, 0) := by decide +kernel
theorem L_173_35 : a_look 173 35 = some (.if_icmp .ge 16, 51, 0, 0) := by decide +kernel
theorem L_173_38 : a_look 173 38 = some (.iload_n 3, 0, 0, 0) := by decide +kernel
theorem L_173_39 : a_look 173 39 = some (.aload_n 0, 0, 0, 0) := by decide +kernel
theorem L_173_40 : a_look 173 40 = some (.invokevirtual 149, 130, 1, 2201) := by decide +kernel
theorem L_173_43 : a_look 173 43 = some (.iadd, 0, 0, 0) := by decide +kernel
theorem L_173_44 : a_look 173 44 = some (.istore_n 3, 0, 0, 0) := by decide +kernel
theorem L_173_45 : a_look 173 45 = some (.iinc 4 1, 0, 0, 0) := by decide +kernel
theorem L_173_48 : a_look 173 48 = some (.goto (-16), 32, 0, 0) := by decide +kernel
theorem L_173_51 : a_look 173 51 = some (.iload_n 3, 0, 0, 0) := by decide +kernel
theorem L_173_52 : a_look 173 52 = some (.ifCond .ge 8, 60, 0, 0) := by decide +kernel
theorem L_173_55 : a_look 173 55 = some (.bipush (-6), 0, 0, 0) := by decide +kernel
theorem L_173_57 : a_look 173 57 = some (.goto 9, 66, 0, 0) := by decide +kernel
theorem L_173_60 : a_look 173 60 = some (.aload_n 0, 0, 0, 0) := by decide +kernel
theorem L_173_61 : a_look 173 61 = some (.iload_n 1, 0, 0, 0) := by decide +kernel
theorem L_173_62 : a_look 173 62 = some (.iconst 3, 0, 0, 0) := by decide +kernel
theorem L_173_63 : a_look 173 63 = some (.invokevirtual 73, 106, 3, 1006) := by decide +kernel
theorem L_173_66 : a_look 173 66 = some (.istore 4, 0, 0, 0) := by decide +kernel
theorem L_173_68 : a_look 173 68 = some (.aload_n 0, 0, 0, 0) := by decide +kernel
theorem L_173_69 : a_look 173 69 = some (.invokevirtual 220, 100, 1, 3601) := by decide +kernel
theorem L_173_72 : a_look 173 72 = some (.iload 4, 0, 0, 0) := by decide +kernel
theorem L_173_74 : a_look 173 74 = some (.ireturn, 0, 0, 0) := by decide +kernel
theorem L_174_0 : a_look 174 0 = some (.aload_n 0, 0, 0, 0) := by decide +kernel
theorem L_174_1 : a_look 174 1 = some (.invokevirtual 217, 99, 1, 3521) := by decide +kernel
theorem L_174_4 : a_look 174 4 = some (.iconst 0, 0, 0, 0) := by decide +kernel
theorem L_174_5 : a_look 174 5 = some (.istore_n 1, 0, 0, 0) := by decide +kernel
theorem L_174_6 : a_look 174 6 = some (.iconst 0, 0, 0, 0) := by decide +kernel
theorem L_174_7 : a_look 174 7 = some (.istore_n 2, 0, 0, 0) := by decide +kernel
theorem L_174_8 : a_look 174 8 = some (.iload_n 1, 0, 0, 0) := by decide +kernel
theorem L_174_9 : a_look 174 9 = some (.bipush 50, 0, 0, 0) := by decide +kernel
theorem L_174_11 : a_look 174 11 = some (.if_icmp .gt 23, 34, 0, 0) := by decide +kernel
theorem L_174_14 : a_look 174 14 = some (.aload_n 0, 0, 0, 0) := by decide +kernel
theorem L_174_15 : a_look 174 15 = some (.invokevirtual 127, 127, 1, 1507) := by decide +kernel
theorem L_174_18 : a_look 174 18 = some (.ifCond .le 16, 34, 0, 0) := by decide +kernel
theorem L_174_21 : a_look 174 21 = some (.iload_n 2, 0, 0, 0) := by decide +kernel
theorem L_174_22 : a_look 174 22 = some (.aload_n 0, 0, 0, 0) := by decide +kernel
theorem L_174_23 : a_look 174 23 = some (.invokevirtual 149, 130, 1, 2201) := by decide +kernel
theorem L_174_26 : a_look 174 26 = some (.iadd, 0, 0, 0) := by decide +kernel
theorem L_174_27 : a_look 174 27 = some (.istore_n 2, 0, 0, 0) := by decide +kernel
theorem L_174_28 : a_look 174 28 = some (.iinc 1 1, 0, 0, 0) := by decide +kernel
theorem L_174_31 : a_look 174 31 = some (.goto (-23), 8, 0, 0) := by decide +kernel
theorem L_174_34 : a_look 174 34 = some (.aload_n 0, 0, 0, 0) := by decide +kernel
theorem L_174_35 : a_look 174 35 = some (.invokevirtual 220, 100, 1, 3601) := by decide +kernel
theorem L_174_38 : a_look 174 38 = some (.iload_n 1, 0, 0, 0) := by decide +kernel
theorem L_174_39 : a_look 174 39 = some (.bipush 50, 0, 0, 0) := by decide +kernel
theorem L_174_41 : a_look 174 41 = some (.if_icmp .gt 7, 48, 0, 0) := by decide +kernel
theorem L_174_44 : a_look 174 44 = some (.iload_n 2, 0, 0, 0) := by decide +kernel
theorem L_174_45 : a_look 174 45 = some (.ifCond .ge 8, 53, 0, 0) := by decide +kernel
theorem L_174_48 : a_look 174 48 = some (.bipush (-6), 0, 0, 0) := by decide +kernel
theorem L_174_50 : a_look 174 50 = some (.goto 4, 54, 0, 0) := by decide +kernel
theorem L_174_53 : a_look 174 53 = some (.iload_n 1, 0, 0, 0) := by decide +kernel
theorem L_174_54 : a_look 174 54 = some (.ireturn, 0, 0, 0) := by decide +kernel
