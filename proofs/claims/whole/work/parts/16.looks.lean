/-! code rows -/
theorem L_98_0 : a_look 98 0 = some (.aload_n 0, 0, 0, 0) := by decide +kernel
theorem L_98_1 : a_look 98 1 = some (.getfield 29, 7, 6, 712) := by decide +kernel
theorem L_98_4 : a_look 98 4 = some (.ifCond .eq 4, 8, 0, 0) := by decide +kernel
theorem L_98_7 : a_look 98 7 = some (.return_, 0, 0, 0) := by decide +kernel
theorem L_98_8 : a_look 98 8 = some (.aload_n 0, 0, 0, 0) := by decide +kernel
theorem L_98_9 : a_look 98 9 = some (.getfield 33, 7, 5, 713) := by decide +kernel
theorem L_98_12 : a_look 98 12 = some (.iconst 5, 0, 0, 0) := by decide +kernel
theorem L_98_13 : a_look 98 13 = some (.if_icmp .ne 44, 57, 0, 0) := by decide +kernel
theorem L_98_16 : a_look 98 16 = some (.iconst 0, 0, 0, 0) := by decide +kernel
theorem L_98_17 : a_look 98 17 = some (.istore_n 1, 0, 0, 0) := by decide +kernel
theorem L_98_18 : a_look 98 18 = some (.iload_n 1, 0, 0, 0) := by decide +kernel
theorem L_98_19 : a_look 98 19 = some (.sipush 1056, 0, 0, 0) := by decide +kernel
theorem L_98_22 : a_look 98 22 = some (.if_icmp .ge 25, 47, 0, 0) := by decide +kernel
theorem L_98_25 : a_look 98 25 = some (.aload_n 0, 0, 0, 0) := by decide +kernel
theorem L_98_26 : a_look 98 26 = some (.getfield 13, 7, 1, 322) := by decide +kernel
theorem L_98_29 : a_look 98 29 = some (.iload_n 1, 0, 0, 0) := by decide +kernel
theorem L_98_30 : a_look 98 30 = some (.aload_n 0, 0, 0, 0) := by decide +kernel
theorem L_98_31 : a_look 98 31 = some (.getfield 13, 7, 1, 322) := by decide +kernel
theorem L_98_34 : a_look 98 34 = some (.iload_n 1, 0, 0, 0) := by decide +kernel
theorem L_98_35 : a_look 98 35 = some (.sipush 264, 0, 0, 0) := by decide +kernel
theorem L_98_38 : a_look 98 38 = some (.iadd, 0, 0, 0) := by decide +kernel
theorem L_98_39 : a_look 98 39 = some (.iaload, 0, 0, 0) := by decide +kernel
theorem L_98_40 : a_look 98 40 = some (.iastore, 0, 0, 0) := by decide +kernel
theorem L_98_41 : a_look 98 41 = some (.iinc 1 1, 0, 0, 0) := by decide +kernel
theorem L_98_44 : a_look 98 44 = some (.goto (-26), 18, 0, 0) := by decide +kernel
theorem L_98_47 : a_look 98 47 = some (.aload_n 0, 0, 0, 0) := by decide +kernel
theorem L_98_48 : a_look 98 48 = some (.dup, 0, 0, 0) := by decide +kernel
theorem L_98_49 : a_look 98 49 = some (.getfield 33, 7, 5, 713) := by decide +kernel
theorem L_98_52 : a_look 98 52 = some (.iconst 1, 0, 0, 0) := by decide +kernel
theorem L_98_53 : a_look 98 53 = some (.isub, 0, 0, 0) := by decide +kernel
theorem L_98_54 : a_look 98 54 = some (.putfield 33, 7, 5, 713) := by decide +kernel
theorem L_98_57 : a_look 98 57 = some (.iconst 0, 0, 0, 0) := by decide +kernel
theorem L_98_58 : a_look 98 58 = some (.istore_n 1, 0, 0, 0) := by decide +kernel
theorem L_98_59 : a_look 98 59 = some (.iload_n 1, 0, 0, 0) := by decide +kernel
theorem L_98_60 : a_look 98 60 = some (.sipush 264, 0, 0, 0) := by decide +kernel
theorem L_98_63 : a_look 98 63 = some (.if_icmp .ge 30, 93, 0, 0) := by decide +kernel
theorem L_98_66 : a_look 98 66 = some (.aload_n 0, 0, 0, 0) := by decide +kernel
theorem L_98_67 : a_look 98 67 = some (.getfield 13, 7, 1, 322) := by decide +kernel
theorem L_98_70 : a_look 98 70 = some (.sipush 264, 0, 0, 0) := by decide +kernel
theorem L_98_73 : a_look 98 73 = some (.aload_n 0, 0, 0, 0) := by decide +kernel
theorem L_98_74 : a_look 98 74 = some (.getfield 33, 7, 5, 713) := by decide +kernel
theorem L_98_77 : a_look 98 77 = some (.imul, 0, 0, 0) := by decide +kernel
theorem L_98_78 : a_look 98 78 = some (.iload_n 1, 0, 0, 0) := by decide +kernel
theorem L_98_79 : a_look 98 79 = some (.iadd, 0, 0, 0) := by decide +kernel
theorem L_98_80 : a_look 98 80 = some (.aload_n 0, 0, 0, 0) := by decide +kernel
theorem L_98_81 : a_look 98 81 = some (.getfield 7, 7, 0, 321) := by decide +kernel
theorem L_98_84 : a_look 98 84 = some (.iload_n 1, 0, 0, 0) := by decide +kernel
theorem L_98_85 : a_look 98 85 = some (.iaload, 0, 0, 0) := by decide +kernel
theorem L_98_86 : a_look 98 86 = some (.iastore, 0, 0, 0) := by decide +kernel
theorem L_98_87 : a_look 98 87 = some (.iinc 1 1, 0, 0, 0) := by decide +kernel
theorem L_98_90 : a_look 98 90 = some (.goto (-31), 59, 0, 0) := by decide +kernel
theorem L_98_93 : a_look 98 93 = some (.aload_n 0, 0, 0, 0) := by decide +kernel
theorem L_98_94 : a_look 98 94 = some (.dup, 0, 0, 0) := by decide +kernel
theorem L_98_95 : a_look 98 95 = some (.getfield 33, 7, 5, 713) := by decide +kernel
theorem L_98_98 : a_look 98 98 = some (.iconst 1, 0, 0, 0) := by decide +kernel
theorem L_98_99 : a_look 98 99 = some (.iadd, 0, 0, 0) := by decide +kernel
theorem L_98_100 : a_look 98 100 = some (.putfield 33, 7, 5, 713) := by decide +kernel
theorem L_98_103 : a_look 98 103 = some (.return_, 0, 0, 0) := by decide +kernel
theorem L_99_0 : a_look 99 0 = some (.iconst 0, 0, 0, 0) := by decide +kernel
theorem L_99_1 : a_look 99 1 = some (.istore_n 1, 0, 0, 0) := by decide +kernel
theorem L_99_2 : a_look 99 2 = some (.iload_n 1, 0, 0, 0) := by decide +kernel
theorem L_99_3 : a_look 99 3 = some (.sipush 264, 0, 0, 0) := by decide +kernel
theorem L_99_6 : a_look 99 6 = some (.if_icmp .ge 21, 27, 0, 0) := by decide +kernel
theorem L_99_9 : a_look 99 9 = some (.aload_n 0, 0, 0, 0) := by decide +kernel
theorem L_99_10 : a_look 99 10 = some (.getfield 23, 7, 4, 401) := by decide +kernel
theorem L_99_13 : a_look 99 13 = some (.iload_n 1, 0, 0, 0) := by decide +kernel
theorem L_99_14 : a_look 99 14 = some (.aload_n 0, 0, 0, 0) := by decide +kernel
theorem L_99_15 : a_look 99 15 = some (.getfield 7, 7, 0, 321) := by decide +kernel
theorem L_99_18 : a_look 99 18 = some (.iload_n 1, 0, 0, 0) := by decide +kernel
theorem L_99_19 : a_look 99 19 = some (.iaload, 0, 0, 0) := by decide +kernel
theorem L_99_20 : a_look 99 20 = some (.iastore, 0, 0, 0) := by decide +kernel
theorem L_99_21 : a_look 99 21 = some (.iinc 1 1, 0, 0, 0) := by decide +kernel
theorem L_99_24 : a_look 99 24 = some (.goto (-22), 2, 0, 0) := by decide +kernel
theorem L_99_27 : a_look 99 27 = some (.return_, 0, 0, 0) := by decide +kernel
theorem L_100_0 : a_look 100 0 = some (.iconst 0, 0, 0, 0) := by decide +kernel
theorem L_100_1 : a_look 100 1 = some (.istore_n 1, 0, 0, 0) := by decide +kernel
theorem L_100_2 : a_look 100 2 = some (.iload_n 1, 0, 0, 0) := by decide +kernel
theorem L_100_3 : a_look 100 3 = some (.sipush 264, 0, 0, 0) := by decide +kernel
theorem L_100_6 : a_look 100 6 = some (.if_icmp .ge 21, 27, 0, 0) := by decide +kernel
theorem L_100_9 : a_look 100 9 = some (.aload_n 0, 0, 0, 0) := by decide +kernel
theorem L_100_10 : a_look 100 10 = some (.getfield 7, 7, 0, 321) := by decide +kernel
theorem L_100_13 : a_look 100 13 = some (.iload_n 1, 0, 0, 0) := by decide +kernel
theorem L_100_14 : a_look 100 14 = some (.aload_n 0, 0, 0, 0) := by decide +kernel
theorem L_100_15 : a_look 100 15 = some (.getfield 23, 7, 4, 401) := by decide +kernel
theorem L_100_18 : a_look 100 18 = some (.iload_n 1, 0, 0, 0) := by decide +kernel
theorem L_100_19 : a_look 100 19 = some (.iaload, 0, 0, 0) := by decide +kernel
theorem L_100_20 : a_look 100 20 = some (.iastore, 0, 0, 0) := by decide +kernel
theorem L_100_21 : a_look 100 21 = some (.iinc 1 1, 0, 0, 0) := by decide +kernel
theorem L_100_24 : a_look 100 24 = some (.goto (-22), 2, 0, 0) := by decide +kernel
theorem L_100_27 : a_look 100 27 = some (.return_, 0, 0, 0) := by decide +kernel
theorem L_114_0 : a_look 114 0 = some (.aload_n 0, 0, 0, 0) := by decide +kernel
theorem L_114_1 : a_look 114 1 = some (.iload_n 1, 0, 0, 0) := by decide +kernel
theorem L_114_2 : a_look 114 2 = some (.iconst 2, 0, 0, 0) := by decide +kernel
theorem L_114_3 : a_look 114 3 = some (.invokevirtual 41, 104, 3, 1106) := by decide +kernel
theorem L_114_6 : a_look 114 6 = some (.iload_n 2, 0, 0, 0) := by decide +kernel
theorem L_114_7 : a_look 114 7 = some (.isub, 0, 0, 0) := by decide +kernel
theorem L_114_8 : a_look 114 8 = some (.istore 6, 0, 0, 0) := by decide +kernel
theorem L_114_10 : a_look 114 10 = some (.aload_n 0, 0, 0, 0) := by decide +kernel
theorem L_114_11 : a_look 114 11 = some (.iload_n 1, 0, 0, 0) := by decide +kernel
theorem L_114_12 : a_look 114 12 = some (.iconst 4, 0, 0, 0) := by decide +kernel
theorem L_114_13 : a_look 114 13 = some (.invokevirtual 41, 104, 3, 1106) := by decide +kernel
theorem L_114_16 : a_look 114 16 = some (.ifCond .eq 13, 29, 0, 0) := by decide +kernel
theorem L_114_19 : a_look 114 19 = some (.iload 6, 0, 0, 0) := by decide +kernel
theorem L_114_21 : a_look 114 21 = some (.iconst (-1), 0, 0, 0) := by decide +kernel
theorem L_114_22 : a_look 114 22 = some (.iconst 1, 0, 0, 0) := by decide +kernel
theorem L_114_23 : a_look 114 23 = some (.invokestatic 37, 97, 3, 702) := by decide +kernel
theorem L_114_26 : a_look 114 26 = some (.ifCond .ne 5, 31, 0, 0) := by decide +kernel
theorem L_114_29 : a_look 114 29 = some (.iconst 0, 0, 0, 0) := by decide +kernel
theorem L_114_30 : a_look 114 30 = some (.ireturn, 0, 0, 0) := by decide +kernel
theorem L_114_31 : a_look 114 31 = some (.aload_n 0, 0, 0, 0) := by decide +kernel
theorem L_114_32 : a_look 114 32 = some (.iload_n 1, 0, 0, 0) := by decide +kernel
theorem L_114_33 : a_look 114 33 = some (.iconst 3, 0, 0, 0) := by decide +kernel
theorem L_114_34 : a_look 114 34 = some (.invokevirtual 41, 104, 3, 1106) := by decide +kernel
theorem L_114_37 : a_look 114 37 = some (.invokestatic 45, 111, 1, 1110) := by decide +kernel
theorem L_114_40 : a_look 114 40 = some (.istore 7, 0, 0, 0) := by decide +kernel
theorem L_114_42 : a_look 114 42 = some (.iload 6, 0, 0, 0) := by decide +kernel
theorem L_114_44 : a_look 114 44 = some (.ifCond .ne 8, 52, 0, 0) := by decide +kernel
theorem L_114_47 : a_look 114 47 = some (.iload 7, 0, 0, 0) := by decide +kernel
theorem L_114_49 : a_look 114 49 = some (.goto 15, 64, 0, 0) := by decide +kernel
theorem L_114_52 : a_look 114 52 = some (.iload 7, 0, 0, 0) := by decide +kernel
theorem L_114_54 : a_look 114 54 = some (.aload_n 0, 0, 0, 0) := by decide +kernel
theorem L_114_55 : a_look 114 55 = some (.getfield 7, 7, 0, 321) := by decide +kernel
theorem L_114_58 : a_look 114 58 = some (.iconst 5, 0, 0, 0) := by decide +kernel
theorem L_114_59 : a_look 114 59 = some (.iaload, 0, 0, 0) := by decide +kernel
theorem L_114_60 : a_look 114 60 = some (.imul, 0, 0, 0) := by decide +kernel
theorem L_114_61 : a_look 114 61 = some (.bipush 100, 0, 0, 0) := by decide +kernel
theorem L_114_63 : a_look 114 63 = some (.idiv, 0, 0, 0) := by decide +kernel
theorem L_114_64 : a_look 114 64 = some (.istore 8, 0, 0, 0) := by decide +kernel
theorem L_114_66 : a_look 114 66 = some (.iload_n 3, 0, 0, 0) := by decide +kernel
theorem L_114_67 : a_look 114 67 = some (.iload 4, 0, 0, 0) := by decide +kernel
theorem L_114_69 : a_look 114 69 = some (.aload_n 0, 0, 0, 0) := by decide +kernel
theorem L_114_70 : a_look 114 70 = some (.iload_n 1, 0, 0, 0) := by decide +kernel
theorem L_114_71 : a_look 114 71 = some (.iconst 0, 0, 0, 0) := by decide +kernel
theorem L_114_72 : a_look 114 72 = some (.invokevirtual 41, 104, 3, 1106) := by decide +kernel
theorem L_114_75 : a_look 114 75 = some (.aload_n 0, 0, 0, 0) := by decide +kernel
theorem L_114_76 : a_look 114 76 = some (.iload_n 1, 0, 0, 0) := by decide +kernel
theorem L_114_77 : a_look 114 77 = some (.iconst 1, 0, 0, 0) := by decide +kernel
theorem L_114_78 : a_look 114 78 = some (.invokevirtual 41, 104, 3, 1106) := by decide +kernel
theorem L_114_81 : a_look 114 81 = some (.iload 8, 0, 0, 0) := by decide +kernel
theorem L_114_83 : a_look 114 83 = some (.iload 5, 0, 0, 0) := by decide +kernel
theorem L_114_85 : a_look 114 85 = some (.invokestatic 49, 112, 1, 1113) := by decide +kernel
theorem L_114_88 : a_look 114 88 = some (.iadd, 0, 0, 0) := by decide +kernel
theorem L_114_89 : a_look 114 89 = some (.invokestatic 52, 113, 5, 1116) := by decide +kernel
theorem L_114_92 : a_look 114 92 = some (.ireturn, 0, 0, 0) := by decide +kernel
theorem L_115_0 : a_look 115 0 = some (.aload_n 0, 0, 0, 0) := by decide +kernel
theorem L_115_1 : a_look 115 1 = some (.iload_n 1, 0, 0, 0) := by decide +kernel
theorem L_115_2 : a_look 115 2 = some (.bipush 6, 0, 0, 0) := by decide +kernel
theorem L_115_4 : a_look 115 4 = some (.invokevirtual 56, 105, 3, 1123) := by decide +kernel
theorem L_115_7 : a_look 115 7 = some (.ifCond .ne 28, 35, 0, 0) := by decide +kernel
theorem L_115_10 : a_look 115 10 = some (.iload_n 2, 0, 0, 0) := by decide +kernel
theorem L_115_11 : a_look 115 11 = some (.aload_n 0, 0, 0, 0) := by decide +kernel
theorem L_115_12 : a_look 115 12 = some (.iload_n 1, 0, 0, 0) := by decide +kernel
theorem L_115_13 : a_look 115 13 = some (.iconst 4, 0, 0, 0) := by decide +kernel
theorem L_115_14 : a_look 115 14 = some (.invokevirtual 56, 105, 3, 1123) := by decide +kernel
theorem L_115_17 : a_look 115 17 = some (.aload_n 0, 0, 0, 0) := by decide +kernel
theorem L_115_18 : a_look 115 18 = some (.iload_n 1, 0, 0, 0) := by decide +kernel
theorem L_115_19 : a_look 115 19 = some (.iconst 5, 0, 0, 0) := by decide +kernel
theorem L_115_20 : a_look 115 20 = some (.invokevirtual 56, 105, 3, 1123) := by decide +kernel
theorem L_115_23 : a_look 115 23 = some (.iconst 1, 0, 0, 0) := by decide +kernel
theorem L_115_24 : a_look 115 24 = some (.isub, 0, 0, 0) := by decide +kernel
theorem L_115_25 : a_look 115 25 = some (.invokestatic 37, 97, 3, 702) := by decide +kernel
theorem L_115_28 : a_look 115 28 = some (.ifCond .eq 7, 35, 0, 0) := by decide +kernel
theorem L_115_31 : a_look 115 31 = some (.iconst 1, 0, 0, 0) := by decide +kernel
theorem L_115_32 : a_look 115 32 = some (.goto 4, 36, 0, 0) := by decide +kernel
theorem L_115_35 : a_look 115 35 = some (.iconst 0, 0, 0, 0) := by decide +kernel
theorem L_115_36 : a_look 115 36 = some (.ireturn, 0, 0, 0) := by decide +kernel
theorem L_116_0 : a_look 116 0 = some (.iconst 0, 0, 0, 0) := by decide +kernel
theorem L_116_1 : a_look 116 1 = some (.istore 5, 0, 0, 0) := by decide +kernel
theorem L_116_3 : a_look 116 3 = some (.iconst 0, 0, 0, 0) := by decide +kernel
theorem L_116_4 : a_look 116 4 = some (.istore 6, 0, 0, 0) := by decide +kernel
theorem L_116_6 : a_look 116 6 = some (.iload 6, 0, 0, 0) := by decide +kernel
theorem L_116_8 : a_look 116 8 = some (.aload_n 0, 0, 0, 0) := by decide +kernel
theorem L_116_9 : a_look 116 9 = some (.getfield 7, 7, 0, 321) := by decide +kernel
theorem L_116_12 : a_look 116 12 = some (.iconst 1, 0, 0, 0) := by decide +kernel
theorem L_116_13 : a_look 116 13 = some (.iaload, 0, 0, 0) := by decide +kernel
theorem L_116_14 : a_look 116 14 = some (.if_icmp .ge 35, 49, 0, 0) := by decide +kernel
theorem L_116_17 : a_look 116 17 = some (.iload 5, 0, 0, 0) := by decide +kernel
theorem L_116_19 : a_look 116 19 = some (.ifCond .ne 17, 36, 0, 0) := by decide +kernel
theorem L_116_22 : a_look 116 22 = some (.aload_n 0, 0, 0, 0) := by decide +kernel
theorem L_116_23 : a_look 116 23 = some (.iload 6, 0, 0, 0) := by decide +kernel
theorem L_116_25 : a_look 116 25 = some (.iload_n 1, 0, 0, 0) := by decide +kernel
theorem L_116_26 : a_look 116 26 = some (.iload_n 2, 0, 0, 0) := by decide +kernel
theorem L_116_27 : a_look 116 27 = some (.iload_n 3, 0, 0, 0) := by decide +kernel
theorem L_116_28 : a_look 116 28 = some (.iload 4, 0, 0, 0) := by decide +kernel
theorem L_116_30 : a_look 116 30 = some (.invokevirtual 59, 114, 6, 1102) := by decide +kernel
theorem L_116_33 : a_look 116 33 = some (.ifCond .eq 7, 40, 0, 0) := by decide +kernel
theorem L_116_36 : a_look 116 36 = some (.iconst 1, 0, 0, 0) := by decide +kernel
theorem L_116_37 : a_look 116 37 = some (.goto 4, 41, 0, 0) := by decide +kernel
theorem L_116_40 : a_look 116 40 = some (.iconst 0, 0, 0, 0) := by decide +kernel
theorem L_116_41 : a_look 116 41 = some (.istore 5, 0, 0, 0) := by decide +kernel
theorem L_116_43 : a_look 116 43 = some (.iinc 6 1, 0, 0, 0) := by decide +kernel
theorem L_116_46 : a_look 116 46 = some (.goto (-40), 6, 0, 0) := by decide +kernel
theorem L_116_49 : a_look 116 49 = some (.iload 5, 0, 0, 0) := by decide +kernel
theorem L_116_51 : a_look 116 51 = some (.ireturn, 0, 0, 0) := by decide +kernel
theorem L_117_0 : a_look 117 0 = some (.iconst 0, 0, 0, 0) := by decide +kernel
theorem L_117_1 : a_look 117 1 = some (.istore 6, 0, 0, 0) := by decide +kernel
theorem L_117_3 : a_look 117 3 = some (.iconst 0, 0, 0, 0) := by decide +kernel
theorem L_117_4 : a_look 117 4 = some (.istore 7, 0, 0, 0) := by decide +kernel
theorem L_117_6 : a_look 117 6 = some (.iload 7, 0, 0, 0) := by decide +kernel
theorem L_117_8 : a_look 117 8 = some (.aload_n 0, 0, 0, 0) := by decide +kernel
theorem L_117_9 : a_look 117 9 = some (.getfield 7, 7, 0, 321) := by decide +kernel
theorem L_117_12 : a_look 117 12 = some (.iconst 2, 0, 0, 0) := by decide +kernel
theorem L_117_13 : a_look 117 13 = some (.iaload, 0, 0, 0) := by decide +kernel
theorem L_117_14 : a_look 117 14 = some (.if_icmp .ge 90, 104, 0, 0) := by decide +kernel
theorem L_117_17 : a_look 117 17 = some (.aload_n 0, 0, 0, 0) := by decide +kernel
theorem L_117_18 : a_look 117 18 = some (.iload 7, 0, 0, 0) := by decide +kernel
theorem L_117_20 : a_look 117 20 = some (.iconst 3, 0, 0, 0) := by decide +kernel
theorem L_117_21 : a_look 117 21 = some (.invokevirtual 56, 105, 3, 1123) := by decide +kernel
theorem L_117_24 : a_look 117 24 = some (.iload_n 1, 0, 0, 0) := by decide +kernel
theorem L_117_25 : a_look 117 25 = some (.if_icmp .ne 42, 67, 0, 0) := by decide +kernel
theorem L_117_28 : a_look 117 28 = some (.iload_n 2, 0, 0, 0) := by decide +kernel
theorem L_117_29 : a_look 117 29 = some (.iload_n 3, 0, 0, 0) := by decide +kernel
theorem L_117_30 : a_look 117 30 = some (.aload_n 0, 0, 0, 0) := by decide +kernel
theorem L_117_31 : a_look 117 31 = some (.iload 7, 0, 0, 0) := by decide +kernel
theorem L_117_33 : a_look 117 33 = some (.iconst 0, 0, 0, 0) := by decide +kernel
theorem L_117_34 : a_look 117 34 = some (.invokevirtual 56, 105, 3, 1123) := by decide +kernel
theorem L_117_37 : a_look 117 37 = some (.aload_n 0, 0, 0, 0) := by decide +kernel
theorem L_117_38 : a_look 117 38 = some (.iload 7, 0, 0, 0) := by decide +kernel
theorem L_117_40 : a_look 117 40 = some (.iconst 1, 0, 0, 0) := by decide +kernel
theorem L_117_41 : a_look 117 41 = some (.invokevirtual 56, 105, 3, 1123) := by decide +kernel
theorem L_117_44 : a_look 117 44 = some (.aload_n 0, 0, 0, 0) := by decide +kernel
theorem L_117_45 : a_look 117 45 = some (.iload 7, 0, 0, 0) := by decide +kernel
theorem L_117_47 : a_look 117 47 = some (.iconst 2, 0, 0, 0) := by decide +kernel
theorem L_117_48 : a_look 117 48 = some (.invokevirtual 56, 105, 3, 1123) := by decide +kernel
theorem L_117_51 : a_look 117 51 = some (.iload 4, 0, 0, 0) := by decide +kernel
theorem L_117_53 : a_look 117 53 = some (.invokestatic 49, 112, 1, 1113) := by decide +kernel
theorem L_117_56 : a_look 117 56 = some (.iadd, 0, 0, 0) := by decide +kernel
theorem L_117_57 : a_look 117 57 = some (.invokestatic 52, 113, 5, 1116) := by decide +kernel
theorem L_117_60 : a_look 117 60 = some (.ifCond .eq 7, 67, 0, 0) := by decide +kernel
theorem L_117_63 : a_look 117 63 = some (.iconst 1, 0, 0, 0) := by decide +kernel
theorem L_117_64 : a_look 117 64 = some (.goto 4, 68, 0, 0) := by decide +kernel
theorem L_117_67 : a_look 117 67 = some (.iconst 0, 0, 0, 0) := by decide +kernel
theorem L_117_68 : a_look 117 68 = some (.istore 8, 0, 0, 0) := by decide +kernel
theorem L_117_70 : a_look 117 70 = some (.iload 6, 0, 0, 0) := by decide +kernel
theorem L_117_72 : a_look 117 72 = some (.ifCond .ne 19, 91, 0, 0) := by decide +kernel
theorem L_117_75 : a_look 117 75 = some (.iload 8, 0, 0, 0) := by decide +kernel
theorem L_117_77 : a_look 117 77 = some (.ifCond .eq 18, 95, 0, 0) := by decide +kernel
theorem L_117_80 : a_look 117 80 = some (.aload_n 0, 0, 0, 0) := by decide +kernel
theorem L_117_81 : a_look 117 81 = some (.iload 7, 0, 0, 0) := by decide +kernel
theorem L_117_83 : a_look 117 83 = some (.iload 5, 0, 0, 0) := by decide +kernel
theorem L_117_85 : a_look 117 85 = some (.invokevirtual 62, 115, 3, 1203) := by decide +kernel
theorem L_117_88 : a_look 117 88 = some (.ifCond .eq 7, 95, 0, 0) := by decide +kernel
theorem L_117_91 : a_look 117 91 = some (.iconst 1, 0, 0, 0) := by decide +kernel
theorem L_117_92 : a_look 117 92 = some (.goto 4, 96, 0, 0) := by decide +kernel
theorem L_117_95 : a_look 117 95 = some (.iconst 0, 0, 0, 0) := by decide +kernel
theorem L_117_96 : a_look 117 96 = some (.istore 6, 0, 0, 0) := by decide +kernel
theorem L_117_98 : a_look 117 98 = some (.iinc 7 1, 0, 0, 0) := by decide +kernel
theorem L_117_101 : a_look 117 101 = some (.goto (-95), 6, 0, 0) := by decide +kernel
theorem L_117_104 : a_look 117 104 = some (.iload 6, 0, 0, 0) := by decide +kernel
theorem L_117_106 : a_look 117 106 = some (.ireturn, 0, 0, 0) := by decide +kernel
theorem L_118_0 : a_look 118 0 = some (.aload_n 0, 0, 0, 0) := by decide +kernel
theorem L_118_1 : a_look 118 1 = some (.iload_n 1, 0, 0, 0) := by decide +kernel
theorem L_118_2 : a_look 118 2 = some (.iload_n 2, 0, 0, 0) := by decide +kernel
theorem L_118_3 : a_look 118 3 = some (.iload_n 3, 0, 0, 0) := by decide +kernel
theorem L_118_4 : a_look 118 4 = some (.iload 4, 0, 0, 0) := by decide +kernel
theorem L_118_6 : a_look 118 6 = some (.invokevirtual 66, 116, 5, 1022) := by decide +kernel
theorem L_118_9 : a_look 118 9 = some (.ifCond .ne 25, 34, 0, 0) := by decide +kernel
theorem L_118_12 : a_look 118 12 = some (.aload_n 0, 0, 0, 0) := by decide +kernel
theorem L_118_13 : a_look 118 13 = some (.iload_n 1, 0, 0, 0) := by decide +kernel
theorem L_118_14 : a_look 118 14 = some (.iload_n 2, 0, 0, 0) := by decide +kernel
theorem L_118_15 : a_look 118 15 = some (.iload_n 3, 0, 0, 0) := by decide +kernel
theorem L_118_16 : a_look 118 16 = some (.iload 4, 0, 0, 0) := by decide +kernel
theorem L_118_18 : a_look 118 18 = some (.aload_n 0, 0, 0, 0) := by decide +kernel
theorem L_118_19 : a_look 118 19 = some (.getfield 7, 7, 0, 321) := by decide +kernel
theorem L_118_22 : a_look 118 22 = some (.iconst 0, 0, 0, 0) := by decide +kernel
theorem L_118_23 : a_look 118 23 = some (.iaload, 0, 0, 0) := by decide +kernel
theorem L_118_24 : a_look 118 24 = some (.invokevirtual 70, 117, 6, 1119) := by decide +kernel
theorem L_118_27 : a_look 118 27 = some (.ifCond .ne 7, 34, 0, 0) := by decide +kernel
theorem L_118_30 : a_look 118 30 = some (.iconst 1, 0, 0, 0) := by decide +kernel
theorem L_118_31 : a_look 118 31 = some (.goto 4, 35, 0, 0) := by decide +kernel
theorem L_118_34 : a_look 118 34 = some (.iconst 0, 0, 0, 0) := by decide +kernel
theorem L_118_35 : a_look 118 35 = some (.ireturn, 0, 0, 0) := by decide +kernel
theorem L_119_0 : a_look 119 0 = some (.aload_n 0, 0, 0, 0) := by decide +kernel
theorem L_119_1 : a_look 119 1 = some (.iload_n 2, 0, 0, 0) := by decide +kernel
theorem L_119_2 : a_look 119 2 = some (.aload_n 0, 0, 0, 0) := by decide +kernel
theorem L_119_3 : a_look 119 3 = some (.iload_n 1, 0, 0, 0) := by decide +kernel
theorem L_119_4 : a_look 119 4 = some (.iconst 0, 0, 0, 0) := by decide +kernel
theorem L_119_5 : a_look 119 5 = some (.invokevirtual 73, 106, 3, 1006) := by decide +kernel
theorem L_119_8 : a_look 119 8 = some (.aload_n 0, 0, 0, 0) := by decide +kernel
theorem L_119_9 : a_look 119 9 = some (.iload_n 1, 0, 0, 0) := by decide +kernel
theorem L_119_10 : a_look 119 10 = some (.iconst 1, 0, 0, 0) := by decide +kernel
theorem L_119_11 : a_look 119 11 = some (.invokevirtual 73, 106, 3, 1006) := by decide +kernel
theorem L_119_14 : a_look 119 14 = some (.iload_n 3, 0, 0, 0) := by decide +kernel
theorem L_119_15 : a_look 119 15 = some (.invokevirtual 76, 118, 5, 1018) := by decide +kernel
theorem L_119_18 : a_look 119 18 = some (.ireturn, 0, 0, 0) := by decide +kernel
theorem L_121_0 : a_look 121 0 = some (.iconst 1, 0, 0, 0) := by decide +kernel
theorem L_121_1 : a_look 121 1 = some (.istore 4, 0, 0, 0) := by decide +kernel
theorem L_121_3 : a_look 121 3 = some (.iconst 0, 0, 0, 0) := by decide +kernel
theorem L_121_4 : a_look 121 4 = some (.istore 5, 0, 0, 0) := by decide +kernel
theorem L_121_6 : a_look 121 6 = some (.iload 5, 0, 0, 0) := by decide +kernel
theorem L_121_8 : a_look 121 8 = some (.aload_n 0, 0, 0, 0) := by decide +kernel
theorem L_121_9 : a_look 121 9 = some (.getfield 7, 7, 0, 321) := by decide +kernel
theorem L_121_12 : a_look 121 12 = some (.iconst 3, 0, 0, 0) := by decide +kernel
theorem L_121_13 : a_look 121 13 = some (.iaload, 0, 0, 0) := by decide +kernel
theorem L_121_14 : a_look 121 14 = some (.if_icmp .ge 89, 103, 0, 0) := by decide +kernel
theorem L_121_17 : a_look 121 17 = some (.iload 5, 0, 0, 0) := by decide +kernel
theorem L_121_19 : a_look 121 19 = some (.iload_n 1, 0, 0, 0) := by decide +kernel
theorem L_121_20 : a_look 121 20 = some (.if_icmp .eq 77, 97, 0, 0) := by decide +kernel
theorem L_121_23 : a_look 121 23 = some (.aload_n 0, 0, 0, 0) := by decide +kernel
theorem L_121_24 : a_look 121 24 = some (.iload 5, 0, 0, 0) := by decide +kernel
theorem L_121_26 : a_look 121 26 = some (.iconst 3, 0, 0, 0) := by decide +kernel
theorem L_121_27 : a_look 121 27 = some (.invokevirtual 73, 106, 3, 1006) := by decide +kernel
theorem L_121_30 : a_look 121 30 = some (.iload_n 2, 0, 0, 0) := by decide +kernel
theorem L_121_31 : a_look 121 31 = some (.if_icmp .ne 66, 97, 0, 0) := by decide +kernel
theorem L_121_34 : a_look 121 34 = some (.iload_n 3, 0, 0, 0) := by decide +kernel
theorem L_121_35 : a_look 121 35 = some (.invokestatic 49, 112, 1, 1113) := by decide +kernel
theorem L_121_38 : a_look 121 38 = some (.aload_n 0, 0, 0, 0) := by decide +kernel
theorem L_121_39 : a_look 121 39 = some (.iload 5, 0, 0, 0) := by decide +kernel
theorem L_121_41 : a_look 121 41 = some (.iconst 4, 0, 0, 0) := by decide +kernel
theorem L_121_42 : a_look 121 42 = some (.invokevirtual 73, 106, 3, 1006) := by decide +kernel
theorem L_121_45 : a_look 121 45 = some (.invokestatic 49, 112, 1, 1113) := by decide +kernel
theorem L_121_48 : a_look 121 48 = some (.iadd, 0, 0, 0) := by decide +kernel
theorem L_121_49 : a_look 121 49 = some (.istore 6, 0, 0, 0) := by decide +kernel
theorem L_121_51 : a_look 121 51 = some (.iload 4, 0, 0, 0) := by decide +kernel
theorem L_121_53 : a_look 121 53 = some (.ifCond .eq 41, 94, 0, 0) := by decide +kernel
theorem L_121_56 : a_look 121 56 = some (.aload_n 0, 0, 0, 0) := by decide +kernel
theorem L_121_57 : a_look 121 57 = some (.iload_n 1, 0, 0, 0) := by decide +kernel
theorem L_121_58 : a_look 121 58 = some (.iconst 0, 0, 0, 0) := by decide +kernel
theorem L_121_59 : a_look 121 59 = some (.invokevirtual 73, 106, 3, 1006) := by decide +kernel
theorem L_121_62 : a_look 121 62 = some (.aload_n 0, 0, 0, 0) := by decide +kernel
theorem L_121_63 : a_look 121 63 = some (.iload_n 1, 0, 0, 0) := by decide +kernel
theorem L_121_64 : a_look 121 64 = some (.iconst 1, 0, 0, 0) := by decide +kernel
theorem L_121_65 : a_look 121 65 = some (.invokevirtual 73, 106, 3, 1006) := by decide +kernel
theorem L_121_68 : a_look 121 68 = some (.aload_n 0, 0, 0, 0) := by decide +kernel
theorem L_121_69 : a_look 121 69 = some (.iload 5, 0, 0, 0) := by decide +kernel
theorem L_121_71 : a_look 121 71 = some (.iconst 0, 0, 0, 0) := by decide +kernel
theorem L_121_72 : a_look 121 72 = some (.invokevirtual 73, 106, 3, 1006) := by decide +kernel
theorem L_121_75 : a_look 121 75 = some (.aload_n 0, 0, 0, 0) := by decide +kernel
theorem L_121_76 : a_look 121 76 = some (.iload 5, 0, 0, 0) := by decide +kernel
theorem L_121_78 : a_look 121 78 = some (.iconst 1, 0, 0, 0) := by decide +kernel
theorem L_121_79 : a_look 121 79 = some (.invokevirtual 73, 106, 3, 1006) := by decide +kernel
theorem L_121_82 : a_look 121 82 = some (.iload 6, 0, 0, 0) := by decide +kernel
theorem L_121_84 : a_look 121 84 = some (.invokestatic 52, 113, 5, 1116) := by decide +kernel
theorem L_121_87 : a_look 121 87 = some (.ifCond .ne 7, 94, 0, 0) := by decide +kernel
theorem L_121_90 : a_look 121 90 = some (.iconst 1, 0, 0, 0) := by decide +kernel
theorem L_121_91 : a_look 121 91 = some (.goto 4, 95, 0, 0) := by decide +kernel
theorem L_121_94 : a_look 121 94 = some (.iconst 0, 0, 0, 0) := by decide +kernel
theorem L_121_95 : a_look 121 95 = some (.istore 4, 0, 0, 0) := by decide +kernel
theorem L_121_97 : a_look 121 97 = some (.iinc 5 1, 0, 0, 0) := by decide +kernel
theorem L_121_100 : a_look 121 100 = some (.goto (-94), 6, 0, 0) := by decide +kernel
theorem L_121_103 : a_look 121 103 = some (.iload 4, 0, 0, 0) := by decide +kernel
theorem L_121_105 : a_look 121 105 = some (.ireturn, 0, 0, 0) := by decide +kernel
theorem L_122_0 : a_look 122 0 = some (.iconst 0, 0, 0, 0) := by decide +kernel
theorem L_122_1 : a_look 122 1 = some (.istore_n 3, 0, 0, 0) := by decide +kernel
theorem L_122_2 : a_look 122 2 = some (.iconst 0, 0, 0, 0) := by decide +kernel
theorem L_122_3 : a_look 122 3 = some (.istore 4, 0, 0, 0) := by decide +kernel
theorem L_122_5 : a_look 122 5 = some (.iload 4, 0, 0, 0) := by decide +kernel
theorem L_122_7 : a_look 122 7 = some (.aload_n 0, 0, 0, 0) := by decide +kernel
theorem L_122_8 : a_look 122 8 = some (.getfield 7, 7, 0, 321) := by decide +kernel
theorem L_122_11 : a_look 122 11 = some (.iconst 3, 0, 0, 0) := by decide +kernel
theorem L_122_12 : a_look 122 12 = some (.iaload, 0, 0, 0) := by decide +kernel
theorem L_122_13 : a_look 122 13 = some (.if_icmp .ge 34, 47, 0, 0) := by decide +kernel
theorem L_122_16 : a_look 122 16 = some (.iload_n 3, 0, 0, 0) := by decide +kernel
theorem L_122_17 : a_look 122 17 = some (.iload 4, 0, 0, 0) := by decide +kernel
theorem L_122_19 : a_look 122 19 = some (.iload_n 1, 0, 0, 0) := by decide +kernel
theorem L_122_20 : a_look 122 20 = some (.if_icmp .eq 18, 38, 0, 0) := by decide +kernel
theorem L_122_23 : a_look 122 23 = some (.aload_n 0, 0, 0, 0) := by decide +kernel
theorem L_122_24 : a_look 122 24 = some (.iload 4, 0, 0, 0) := by decide +kernel
theorem L_122_26 : a_look 122 26 = some (.iconst 3, 0, 0, 0) := by decide +kernel
theorem L_122_27 : a_look 122 27 = some (.invokevirtual 73, 106, 3, 1006) := by decide +kernel
theorem L_122_30 : a_look 122 30 = some (.iload_n 2, 0, 0, 0) := by decide +kernel
theorem L_122_31 : a_look 122 31 = some (.if_icmp .ne 7, 38, 0, 0) := by decide +kernel
theorem L_122_34 : a_look 122 34 = some (.iconst 1, 0, 0, 0) := by decide +kernel
theorem L_122_35 : a_look 122 35 = some (.goto 4, 39, 0, 0) := by decide +kernel
theorem L_122_38 : a_look 122 38 = some (.iconst 0, 0, 0, 0) := by decide +kernel
theorem L_122_39 : a_look 122 39 = some (.iadd, 0, 0, 0) := by decide +kernel
theorem L_122_40 : a_look 122 40 = some (.istore_n 3, 0, 0, 0) := by decide +kernel
theorem L_122_41 : a_look 122 41 = some (.iinc 4 1, 0, 0, 0) := by decide +kernel
theorem L_122_44 : a_look 122 44 = some (.goto (-39), 5, 0, 0) := by decide +kernel
theorem L_122_47 : a_look 122 47 = some (.iload_n 3, 0, 0, 0) := by decide +kernel
theorem L_122_48 : a_look 122 48 = some (.ireturn, 0, 0, 0) := by decide +kernel
theorem L_123_0 : a_look 123 0 = some (.bipush (-6), 0, 0, 0) := by decide +kernel
theorem L_123_2 : a_look 123 2 = some (.istore_n 3, 0, 0, 0) := by decide +kernel
theorem L_123_3 : a_look 123 3 = some (.iconst 0, 0, 0, 0) := by decide +kernel
theorem L_123_4 : a_look 123 4 = some (.istore 4, 0, 0, 0) := by decide +kernel
theorem L_123_6 : a_look 123 6 = some (.iconst 0, 0, 0, 0) := by decide +kernel
theorem L_123_7 : a_look 123 7 = some (.istore 5, 0, 0, 0) := by decide +kernel
theorem L_123_9 : a_look 123 9 = some (.iload 5, 0, 0, 0) := by decide +kernel
theorem L_123_11 : a_look 123 11 = some (.bipush 8, 0, 0, 0) := by decide +kernel
theorem L_123_13 : a_look 123 13 = some (.if_icmp .ge 86, 99, 0, 0) := by decide +kernel
theorem L_123_16 : a_look 123 16 = some (.aload_n 0, 0, 0, 0) := by decide +kernel
theorem L_123_17 : a_look 123 17 = some (.iload_n 1, 0, 0, 0) := by decide +kernel
theorem L_123_18 : a_look 123 18 = some (.iload 5, 0, 0, 0) := by decide +kernel
theorem L_123_20 : a_look 123 20 = some (.iload_n 2, 0, 0, 0) := by decide +kernel
theorem L_123_21 : a_look 123 21 = some (.invokevirtual 79, 119, 4, 1014) := by decide +kernel
theorem L_123_24 : a_look 123 24 = some (.ifCond .eq 69, 93, 0, 0) := by decide +kernel
theorem L_123_27 : a_look 123 27 = some (.aload_n 0, 0, 0, 0) := by decide +kernel
theorem L_123_28 : a_look 123 28 = some (.iload_n 1, 0, 0, 0) := by decide +kernel
theorem L_123_29 : a_look 123 29 = some (.iload 5, 0, 0, 0) := by decide +kernel
theorem L_123_31 : a_look 123 31 = some (.iload_n 2, 0, 0, 0) := by decide +kernel
theorem L_123_32 : a_look 123 32 = some (.invokevirtual 82, 121, 4, 1900) := by decide +kernel
theorem L_123_35 : a_look 123 35 = some (.ifCond .eq 58, 93, 0, 0) := by decide +kernel
theorem L_123_38 : a_look 123 38 = some (.aload_n 0, 0, 0, 0) := by decide +kernel
theorem L_123_39 : a_look 123 39 = some (.iload_n 1, 0, 0, 0) := by decide +kernel
theorem L_123_40 : a_look 123 40 = some (.iload 5, 0, 0, 0) := by decide +kernel
theorem L_123_42 : a_look 123 42 = some (.invokevirtual 85, 122, 3, 1904) := by decide +kernel
theorem L_123_45 : a_look 123 45 = some (.istore 6, 0, 0, 0) := by decide +kernel
theorem L_123_47 : a_look 123 47 = some (.iload_n 3, 0, 0, 0) := by decide +kernel
theorem L_123_48 : a_look 123 48 = some (.bipush (-6), 0, 0, 0) := by decide +kernel
theorem L_123_50 : a_look 123 50 = some (.if_icmp .eq 10, 60, 0, 0) := by decide +kernel
theorem L_123_53 : a_look 123 53 = some (.iload 6, 0, 0, 0) := by decide +kernel
theorem L_123_55 : a_look 123 55 = some (.iload 4, 0, 0, 0) := by decide +kernel
theorem L_123_57 : a_look 123 57 = some (.if_icmp .ge 7, 64, 0, 0) := by decide +kernel
theorem L_123_60 : a_look 123 60 = some (.iconst 1, 0, 0, 0) := by decide +kernel
theorem L_123_61 : a_look 123 61 = some (.goto 4, 65, 0, 0) := by decide +kernel
theorem L_123_64 : a_look 123 64 = some (.iconst 0, 0, 0, 0) := by decide +kernel
theorem L_123_65 : a_look 123 65 = some (.istore 7, 0, 0, 0) := by decide +kernel
theorem L_123_67 : a_look 123 67 = some (.iload 7, 0, 0, 0) := by decide +kernel
theorem L_123_69 : a_look 123 69 = some (.ifCond .eq 8, 77, 0, 0) := by decide +kernel
theorem L_123_72 : a_look 123 72 = some (.iload 5, 0, 0, 0) := by decide +kernel
theorem L_123_74 : a_look 123 74 = some (.goto 4, 78, 0, 0) := by decide +kernel
theorem L_123_77 : a_look 123 77 = some (.iload_n 3, 0, 0, 0) := by decide +kernel
theorem L_123_78 : a_look 123 78 = some (.istore_n 3, 0, 0, 0) := by decide +kernel
theorem L_123_79 : a_look 123 79 = some (.iload 7, 0, 0, 0) := by decide +kernel
theorem L_123_81 : a_look 123 81 = some (.ifCond .eq 8, 89, 0, 0) := by decide +kernel
theorem L_123_84 : a_look 123 84 = some (.iload 6, 0, 0, 0) := by decide +kernel
theorem L_123_86 : a_look 123 86 = some (.goto 5, 91, 0, 0) := by decide +kernel
theorem L_123_89 : a_look 123 89 = some (.iload 4, 0, 0, 0) := by decide +kernel
theorem L_123_91 : a_look 123 91 = some (.istore 4, 0, 0, 0) := by decide +kernel
theorem L_123_93 : a_look 123 93 = some (.iinc 5 1, 0, 0, 0) := by decide +kernel
theorem L_123_96 : a_look 123 96 = some (.goto (-87), 9, 0, 0) := by decide +kernel
theorem L_123_99 : a_look 123 99 = some (.iload_n 3, 0, 0, 0) := by decide +kernel
theorem L_123_100 : a_look 123 100 = some (.ireturn, 0, 0, 0) := by decide +kernel
theorem L_124_0 : a_look 124 0 = some (.aload_n 0, 0, 0, 0) := by decide +kernel
theorem L_124_1 : a_look 124 1 = some (.iload_n 1, 0, 0, 0) := by decide +kernel
theorem L_124_2 : a_look 124 2 = some (.aload_n 0, 0, 0, 0) := by decide +kernel
theorem L_124_3 : a_look 124 3 = some (.iload_n 1, 0, 0, 0) := by decide +kernel
theorem L_124_4 : a_look 124 4 = some (.iconst 3, 0, 0, 0) := by decide +kernel
theorem L_124_5 : a_look 124 5 = some (.invokevirtual 73, 106, 3, 1006) := by decide +kernel
theorem L_124_8 : a_look 124 8 = some (.aload_n 0, 0, 0, 0) := by decide +kernel
theorem L_124_9 : a_look 124 9 = some (.iload_n 1, 0, 0, 0) := by decide +kernel
theorem L_124_10 : a_look 124 10 = some (.iconst 4, 0, 0, 0) := by decide +kernel
theorem L_124_11 : a_look 124 11 = some (.invokevirtual 73, 106, 3, 1006) := by decide +kernel
theorem L_124_14 : a_look 124 14 = some (.invokevirtual 79, 119, 4, 1014) := by decide +kernel
theorem L_124_17 : a_look 124 17 = some (.ireturn, 0, 0, 0) := by decide +kernel
theorem L_125_0 : a_look 125 0 = some (.iconst 0, 0, 0, 0) := by decide +kernel
theorem L_125_1 : a_look 125 1 = some (.istore_n 1, 0, 0, 0) := by decide +kernel
theorem L_125_2 : a_look 125 2 = some (.iload_n 1, 0, 0, 0) := by decide +kernel
theorem L_125_3 : a_look 125 3 = some (.aload_n 0, 0, 0, 0) := by decide +kernel
theorem L_125_4 : a_look 125 4 = some (.getfield 7, 7, 0, 321) := by decide +kernel
theorem L_125_7 : a_look 125 7 = some (.iconst 3, 0, 0, 0) := by decide +kernel
theorem L_125_8 : a_look 125 8 = some (.iaload, 0, 0, 0) := by decide +kernel
theorem L_125_9 : a_look 125 9 = some (.if_icmp .ge 67, 76, 0, 0) := by decide +kernel
theorem L_125_12 : a_look 125 12 = some (.aload_n 0, 0, 0, 0) := by decide +kernel
theorem L_125_13 : a_look 125 13 = some (.iload_n 1, 0, 0, 0) := by decide +kernel
theorem L_125_14 : a_look 125 14 = some (.invokevirtual 88, 120, 2, 1002) := by decide +kernel
theorem L_125_17 : a_look 125 17 = some (.ifCond .eq 53, 70, 0, 0) := by decide +kernel
theorem L_125_20 : a_look 125 20 = some (.aload_n 0, 0, 0, 0) := by decide +kernel
theorem L_125_21 : a_look 125 21 = some (.iload_n 1, 0, 0, 0) := by decide +kernel
theorem L_125_22 : a_look 125 22 = some (.invokevirtual 92, 124, 2, 1010) := by decide +kernel
theorem L_125_25 : a_look 125 25 = some (.istore_n 2, 0, 0, 0) := by decide +kernel
theorem L_125_26 : a_look 125 26 = some (.aload_n 0, 0, 0, 0) := by decide +kernel
theorem L_125_27 : a_look 125 27 = some (.iload_n 1, 0, 0, 0) := by decide +kernel
theorem L_125_28 : a_look 125 28 = some (.bipush 6, 0, 0, 0) := by decide +kernel
theorem L_125_30 : a_look 125 30 = some (.iload_n 2, 0, 0, 0) := by decide +kernel
theorem L_125_31 : a_look 125 31 = some (.ifCond .eq 8, 39, 0, 0) := by decide +kernel
theorem L_125_34 : a_look 125 34 = some (.bipush (-6), 0, 0, 0) := by decide +kernel
theorem L_125_36 : a_look 125 36 = some (.goto 31, 67, 0, 0) := by decide +kernel
theorem L_125_39 : a_look 125 39 = some (.aload_n 0, 0, 0, 0) := by decide +kernel
theorem L_125_40 : a_look 125 40 = some (.iload_n 1, 0, 0, 0) := by decide +kernel
theorem L_125_41 : a_look 125 41 = some (.bipush 6, 0, 0, 0) := by decide +kernel
theorem L_125_43 : a_look 125 43 = some (.invokevirtual 73, 106, 3, 1006) := by decide +kernel
theorem L_125_46 : a_look 125 46 = some (.bipush (-6), 0, 0, 0) := by decide +kernel
theorem L_125_48 : a_look 125 48 = some (.if_icmp .ne 12, 60, 0, 0) := by decide +kernel
theorem L_125_51 : a_look 125 51 = some (.aload_n 0, 0, 0, 0) := by decide +kernel
theorem L_125_52 : a_look 125 52 = some (.getfield 7, 7, 0, 321) := by decide +kernel
theorem L_125_55 : a_look 125 55 = some (.iconst 0, 0, 0, 0) := by decide +kernel
theorem L_125_56 : a_look 125 56 = some (.iaload, 0, 0, 0) := by decide +kernel
theorem L_125_57 : a_look 125 57 = some (.goto 10, 67, 0, 0) := by decide +kernel
theorem L_125_60 : a_look 125 60 = some (.aload_n 0, 0, 0, 0) := by decide +kernel
theorem L_125_61 : a_look 125 61 = some (.iload_n 1, 0, 0, 0) := by decide +kernel
theorem L_125_62 : a_look 125 62 = some (.bipush 6, 0, 0, 0) := by decide +kernel
theorem L_125_64 : a_look 125 64 = some (.invokevirtual 73, 106, 3, 1006) := by decide +kernel
theorem L_125_67 : a_look 125 67 = some (.invokevirtual 95, 107, 4, 1207) := by decide +kernel
theorem L_125_70 : a_look 125 70 = some (.iinc 1 1, 0, 0, 0) := by decide +kernel
theorem L_125_73 : a_look 125 73 = some (.goto (-71), 2, 0, 0) := by decide +kernel
theorem L_125_76 : a_look 125 76 = some (.return_, 0, 0, 0) := by decide +kernel
theorem L_127_0 : a_look 127 0 = some (.iconst 0, 0, 0, 0) := by decide +kernel
theorem L_127_1 : a_look 127 1 = some (.istore_n 1, 0, 0, 0) := by decide +kernel
theorem L_127_2 : a_look 127 2 = some (.iconst 0, 0, 0, 0) := by decide +kernel
theorem L_127_3 : a_look 127 3 = some (.istore_n 2, 0, 0, 0) := by decide +kernel
theorem L_127_4 : a_look 127 4 = some (.iload_n 2, 0, 0, 0) := by decide +kernel
theorem L_127_5 : a_look 127 5 = some (.aload_n 0, 0, 0, 0) := by decide +kernel
theorem L_127_6 : a_look 127 6 = some (.getfield 7, 7, 0, 321) := by decide +kernel
theorem L_127_9 : a_look 127 9 = some (.iconst 3, 0, 0, 0) := by decide +kernel
theorem L_127_10 : a_look 127 10 = some (.iaload, 0, 0, 0) := by decide +kernel
theorem L_127_11 : a_look 127 11 = some (.if_icmp .ge 29, 40, 0, 0) := by decide +kernel
theorem L_127_14 : a_look 127 14 = some (.iload_n 1, 0, 0, 0) := by decide +kernel
theorem L_127_15 : a_look 127 15 = some (.aload_n 0, 0, 0, 0) := by decide +kernel
theorem L_127_16 : a_look 127 16 = some (.iload_n 2, 0, 0, 0) := by decide +kernel
theorem L_127_17 : a_look 127 17 = some (.bipush 6, 0, 0, 0) := by decide +kernel
theorem L_127_19 : a_look 127 19 = some (.invokevirtual 73, 106, 3, 1006) := by decide +kernel
theorem L_127_22 : a_look 127 22 = some (.bipush (-6), 0, 0, 0) := by decide +kernel
theorem L_127_24 : a_look 127 24 = some (.if_icmp .eq 7, 31, 0, 0) := by decide +kernel
theorem L_127_27 : a_look 127 27 = some (.iconst 1, 0, 0, 0) := by decide +kernel
theorem L_127_28 : a_look 127 28 = some (.goto 4, 32, 0, 0) := by decide +kernel
theorem L_127_31 : a_look 127 31 = some (.iconst 0, 0, 0, 0) := by decide +kernel
theorem L_127_32 : a_look 127 32 = some (.iadd, 0, 0, 0) := by decide +kernel
theorem L_127_33 : a_look 127 33 = some (.istore_n 1, 0, 0, 0) := by decide +kernel
theorem L_127_34 : a_look 127 34 = some (.iinc 2 1, 0, 0, 0) := by decide +kernel
theorem L_127_37 : a_look 127 37 = some (.goto (-33), 4, 0, 0) := by decide +kernel
theorem L_127_40 : a_look 127 40 = some (.iload_n 1, 0, 0, 0) := by decide +kernel
theorem L_127_41 : a_look 127 41 = some (.ireturn, 0, 0, 0) := by decide +kernel
theorem L_128_0 : a_look 128 0 = some (.iconst 0, 0, 0, 0) := by decide +kernel
theorem L_128_1 : a_look 128 1 = some (.istore_n 1, 0, 0, 0) := by decide +kernel
theorem L_128_2 : a_look 128 2 = some (.iconst 0, 0, 0, 0) := by decide +kernel
theorem L_128_3 : a_look 128 3 = some (.istore_n 2, 0, 0, 0) := by decide +kernel
theorem L_128_4 : a_look 128 4 = some (.iload_n 2, 0, 0, 0) := by decide +kernel
theorem L_128_5 : a_look 128 5 = some (.aload_n 0, 0, 0, 0) := by decide +kernel
theorem L_128_6 : a_look 128 6 = some (.getfield 7, 7, 0, 321) := by decide +kernel
theorem L_128_9 : a_look 128 9 = some (.iconst 3, 0, 0, 0) := by decide +kernel
theorem L_128_10 : a_look 128 10 = some (.iaload, 0, 0, 0) := by decide +kernel
theorem L_128_11 : a_look 128 11 = some (.if_icmp .ge 25, 36, 0, 0) := by decide +kernel
theorem L_128_14 : a_look 128 14 = some (.iload_n 1, 0, 0, 0) := by decide +kernel
theorem L_128_15 : a_look 128 15 = some (.aload_n 0, 0, 0, 0) := by decide +kernel
theorem L_128_16 : a_look 128 16 = some (.iload_n 2, 0, 0, 0) := by decide +kernel
theorem L_128_17 : a_look 128 17 = some (.invokevirtual 88, 120, 2, 1002) := by decide +kernel
theorem L_128_20 : a_look 128 20 = some (.ifCond .eq 7, 27, 0, 0) := by decide +kernel
theorem L_128_23 : a_look 128 23 = some (.iconst 1, 0, 0, 0) := by decide +kernel
theorem L_128_24 : a_look 128 24 = some (.goto 4, 28, 0, 0) := by decide +kernel
theorem L_128_27 : a_look 128 27 = some (.iconst 0, 0, 0, 0) := by decide +kernel
theorem L_128_28 : a_look 128 28 = some (.iadd, 0, 0, 0) := by decide +kernel
theorem L_128_29 : a_look 128 29 = some (.istore_n 1, 0, 0, 0) := by decide +kernel
theorem L_128_30 : a_look 128 30 = some (.iinc 2 1, 0, 0, 0) := by decide +kernel
theorem L_128_33 : a_look 128 33 = some (.goto (-29), 4, 0, 0) := by decide +kernel
theorem L_128_36 : a_look 128 36 = some (.iload_n 1, 0, 0, 0) := by decide +kernel
theorem L_128_37 : a_look 128 37 = some (.ireturn, 0, 0, 0) := by decide +kernel
theorem L_129_0 : a_look 129 0 = some (.aload_n 0, 0, 0, 0) := by decide +kernel
theorem L_129_1 : a_look 129 1 = some (.iload_n 1, 0, 0, 0) := by decide +kernel
theorem L_129_2 : a_look 129 2 = some (.iconst 4, 0, 0, 0) := by decide +kernel
theorem L_129_3 : a_look 129 3 = some (.invokevirtual 73, 106, 3, 1006) := by decide +kernel
theorem L_129_6 : a_look 129 6 = some (.istore_n 2, 0, 0, 0) := by decide +kernel
theorem L_129_7 : a_look 129 7 = some (.iload_n 2, 0, 0, 0) := by decide +kernel
theorem L_129_8 : a_look 129 8 = some (.ifCond .lt 63, 71, 0, 0) := by decide +kernel
theorem L_129_11 : a_look 129 11 = some (.aload_n 0, 0, 0, 0) := by decide +kernel
theorem L_129_12 : a_look 129 12 = some (.iload_n 1, 0, 0, 0) := by decide +kernel
theorem L_129_13 : a_look 129 13 = some (.iload_n 2, 0, 0, 0) := by decide +kernel
theorem L_129_14 : a_look 129 14 = some (.invokevirtual 99, 123, 3, 1820) := by decide +kernel
theorem L_129_17 : a_look 129 17 = some (.istore_n 3, 0, 0, 0) := by decide +kernel
theorem L_129_18 : a_look 129 18 = some (.iload_n 3, 0, 0, 0) := by decide +kernel
theorem L_129_19 : a_look 129 19 = some (.bipush (-6), 0, 0, 0) := by decide +kernel
theorem L_129_21 : a_look 129 21 = some (.if_icmp .eq 44, 65, 0, 0) := by decide +kernel
theorem L_129_24 : a_look 129 24 = some (.aload_n 0, 0, 0, 0) := by decide +kernel
theorem L_129_25 : a_look 129 25 = some (.iload_n 1, 0, 0, 0) := by decide +kernel
theorem L_129_26 : a_look 129 26 = some (.iconst 3, 0, 0, 0) := by decide +kernel
theorem L_129_27 : a_look 129 27 = some (.iload_n 3, 0, 0, 0) := by decide +kernel
theorem L_129_28 : a_look 129 28 = some (.invokevirtual 95, 107, 4, 1207) := by decide +kernel
theorem L_129_31 : a_look 129 31 = some (.aload_n 0, 0, 0, 0) := by decide +kernel
theorem L_129_32 : a_look 129 32 = some (.iload_n 1, 0, 0, 0) := by decide +kernel
theorem L_129_33 : a_look 129 33 = some (.iconst 4, 0, 0, 0) := by decide +kernel
theorem L_129_34 : a_look 129 34 = some (.iload_n 2, 0, 0, 0) := by decide +kernel
theorem L_129_35 : a_look 129 35 = some (.invokevirtual 95, 107, 4, 1207) := by decide +kernel
theorem L_129_38 : a_look 129 38 = some (.aload_n 0, 0, 0, 0) := by decide +kernel
theorem L_129_39 : a_look 129 39 = some (.iload_n 1, 0, 0, 0) := by decide +kernel
theorem L_129_40 : a_look 129 40 = some (.bipush 6, 0, 0, 0) := by decide +kernel
theorem L_129_42 : a_look 129 42 = some (.bipush (-6), 0, 0, 0) := by decide +kernel
theorem L_129_44 : a_look 129 44 = some (.invokevirtual 95, 107, 4, 1207) := by decide +kernel
theorem L_129_47 : a_look 129 47 = some (.aload_n 0, 0, 0, 0) := by decide +kernel
theorem L_129_48 : a_look 129 48 = some (.iload_n 1, 0, 0, 0) := by decide +kernel
theorem L_129_49 : a_look 129 49 = some (.bipush 7, 0, 0, 0) := by decide +kernel
theorem L_129_51 : a_look 129 51 = some (.aload_n 0, 0, 0, 0) := by decide +kernel
theorem L_129_52 : a_look 129 52 = some (.iload_n 1, 0, 0, 0) := by decide +kernel
theorem L_129_53 : a_look 129 53 = some (.bipush 7, 0, 0, 0) := by decide +kernel
theorem L_129_55 : a_look 129 55 = some (.invokevirtual 73, 106, 3, 1006) := by decide +kernel
theorem L_129_58 : a_look 129 58 = some (.iconst 1, 0, 0, 0) := by decide +kernel
theorem L_129_59 : a_look 129 59 = some (.iadd, 0, 0, 0) := by decide +kernel
theorem L_129_60 : a_look 129 60 = some (.invokevirtual 95, 107, 4, 1207) := by decide +kernel
theorem L_129_63 : a_look 129 63 = some (.iconst 1, 0, 0, 0) := by decide +kernel
theorem L_129_64 : a_look 129 64 = some (.ireturn, 0, 0, 0) := by decide +kernel
theorem L_129_65 : a_look 129 65 = some (.iinc 2 (-1), 0, 0, 0) := by decide +kernel
theorem L_129_68 : a_look 129 68 = some (.goto (-61), 7, 0, 0) := by decide +kernel
theorem L_129_71 : a_look 129 71 = some (.aload_n 0, 0, 0, 0) := by decide +kernel
theorem L_129_72 : a_look 129 72 = some (.iload_n 1, 0, 0, 0) := by decide +kernel
theorem L_129_73 : a_look 129 73 = some (.invokevirtual 102, 126, 2, 1310) := by decide +kernel
theorem L_129_76 : a_look 129 76 = some (.aload_n 0, 0, 0, 0) := by decide +kernel
theorem L_129_77 : a_look 129 77 = some (.iload_n 1, 0, 0, 0) := by decide +kernel
theorem L_129_78 : a_look 129 78 = some (.bipush 8, 0, 0, 0) := by decide +kernel
theorem L_129_80 : a_look 129 80 = some (.aload_n 0, 0, 0, 0) := by decide +kernel
theorem L_129_81 : a_look 129 81 = some (.iload_n 1, 0, 0, 0) := by decide +kernel
theorem L_129_82 : a_look 129 82 = some (.bipush 8, 0, 0, 0) := by decide +kernel
theorem L_129_84 : a_look 129 84 = some (.invokevirtual 73, 106, 3, 1006) := by decide +kernel
theorem L_129_87 : a_look 129 87 = some (.iconst 1, 0, 0, 0) := by decide +kernel
theorem L_129_88 : a_look 129 88 = some (.iadd, 0, 0, 0) := by decide +kernel
theorem L_129_89 : a_look 129 89 = some (.invokevirtual 95, 107, 4, 1207) := by decide +kernel
theorem L_129_92 : a_look 129 92 = some (.iconst 0, 0, 0, 0) := by decide +kernel
theorem L_129_93 : a_look 129 93 = some (.ireturn, 0, 0, 0) := by decide +kernel
theorem L_130_0 : a_look 130 0 = some (.aload_n 0, 0, 0, 0) := by decide +kernel
theorem L_130_1 : a_look 130 1 = some (.getfield 7, 7, 0, 321) := by decide +kernel
theorem L_130_4 : a_look 130 4 = some (.iconst 0, 0, 0, 0) := by decide +kernel
theorem L_130_5 : a_look 130 5 = some (.dup2, 0, 0, 0) := by decide +kernel
theorem L_130_6 : a_look 130 6 = some (.iaload, 0, 0, 0) := by decide +kernel
theorem L_130_7 : a_look 130 7 = some (.iconst 1, 0, 0, 0) := by decide +kernel
theorem L_130_8 : a_look 130 8 = some (.iadd, 0, 0, 0) := by decide +kernel
theorem L_130_9 : a_look 130 9 = some (.iastore, 0, 0, 0) := by decide +kernel
theorem L_130_10 : a_look 130 10 = some (.iconst 0, 0, 0, 0) := by decide +kernel
theorem L_130_11 : a_look 130 11 = some (.istore_n 1, 0, 0, 0) := by decide +kernel
theorem L_130_12 : a_look 130 12 = some (.iconst 0, 0, 0, 0) := by decide +kernel
theorem L_130_13 : a_look 130 13 = some (.istore_n 2, 0, 0, 0) := by decide +kernel
theorem L_130_14 : a_look 130 14 = some (.iload_n 2, 0, 0, 0) := by decide +kernel
theorem L_130_15 : a_look 130 15 = some (.aload_n 0, 0, 0, 0) := by decide +kernel
theorem L_130_16 : a_look 130 16 = some (.getfield 7, 7, 0, 321) := by decide +kernel
theorem L_130_19 : a_look 130 19 = some (.iconst 3, 0, 0, 0) := by decide +kernel
theorem L_130_20 : a_look 130 20 = some (.iaload, 0, 0, 0) := by decide +kernel
theorem L_130_21 : a_look 130 21 = some (.if_icmp .ge 37, 58, 0, 0) := by decide +kernel
theorem L_130_24 : a_look 130 24 = some (.aload_n 0, 0, 0, 0) := by decide +kernel
theorem L_130_25 : a_look 130 25 = some (.iload_n 2, 0, 0, 0) := by decide +kernel
theorem L_130_26 : a_look 130 26 = some (.invokevirtual 88, 120, 2, 1002) := by decide +kernel
theorem L_130_29 : a_look 130 29 = some (.ifCond .eq 23, 52, 0, 0) := by decide +kernel
theorem L_130_32 : a_look 130 32 = some (.aload_n 0, 0, 0, 0) := by decide +kernel
theorem L_130_33 : a_look 130 33 = some (.iload_n 2, 0, 0, 0) := by decide +kernel
theorem L_130_34 : a_look 130 34 = some (.iconst 5, 0, 0, 0) := by decide +kernel
theorem L_130_35 : a_look 130 35 = some (.invokevirtual 73, 106, 3, 1006) := by decide +kernel
theorem L_130_38 : a_look 130 38 = some (.aload_n 0, 0, 0, 0) := by decide +kernel
theorem L_130_39 : a_look 130 39 = some (.getfield 7, 7, 0, 321) := by decide +kernel
theorem L_130_42 : a_look 130 42 = some (.iconst 0, 0, 0, 0) := by decide +kernel
theorem L_130_43 : a_look 130 43 = some (.iaload, 0, 0, 0) := by decide +kernel
theorem L_130_44 : a_look 130 44 = some (.if_icmp .gt 8, 52, 0, 0) := by decide +kernel
theorem L_130_47 : a_look 130 47 = some (.aload_n 0, 0, 0, 0) := by decide +kernel
theorem L_130_48 : a_look 130 48 = some (.iload_n 2, 0, 0, 0) := by decide +kernel
theorem L_130_49 : a_look 130 49 = some (.invokevirtual 102, 126, 2, 1310) := by decide +kernel
theorem L_130_52 : a_look 130 52 = some (.iinc 2 1, 0, 0, 0) := by decide +kernel
theorem L_130_55 : a_look 130 55 = some (.goto (-41), 14, 0, 0) := by decide +kernel
theorem L_130_58 : a_look 130 58 = some (.aload_n 0, 0, 0, 0) := by decide +kernel
theorem L_130_59 : a_look 130 59 = some (.invokevirtual 106, 125, 1, 922) := by decide +kernel
theorem L_130_62 : a_look 130 62 = some (.iconst 0, 0, 0, 0) := by decide +kernel
theorem L_130_63 : a_look 130 63 = some (.istore_n 2, 0, 0, 0) := by decide +kernel
theorem L_130_64 : a_look 130 64 = some (.iload_n 2, 0, 0, 0) := by decide +kernel
theorem L_130_65 : a_look 130 65 = some (.aload_n 0, 0, 0, 0) := by decide +kernel
theorem L_130_66 : a_look 130 66 = some (.getfield 7, 7, 0, 321) := by decide +kernel
theorem L_130_69 : a_look 130 69 = some (.iconst 3, 0, 0, 0) := by decide +kernel
theorem L_130_70 : a_look 130 70 = some (.iaload, 0, 0, 0) := by decide +kernel
theorem L_130_71 : a_look 130 71 = some (.if_icmp .ge 48, 119, 0, 0) := by decide +kernel
theorem L_130_74 : a_look 130 74 = some (.aload_n 0, 0, 0, 0) := by decide +kernel
theorem L_130_75 : a_look 130 75 = some (.getfield 7, 7, 0, 321) := by decide +kernel
theorem L_130_78 : a_look 130 78 = some (.iconst 0, 0, 0, 0) := by decide +kernel
theorem L_130_79 : a_look 130 79 = some (.iaload, 0, 0, 0) := by decide +kernel
theorem L_130_80 : a_look 130 80 = some (.iload_n 2, 0, 0, 0) := by decide +kernel
theorem L_130_81 : a_look 130 81 = some (.iadd, 0, 0, 0) := by decide +kernel
theorem L_130_82 : a_look 130 82 = some (.aload_n 0, 0, 0, 0) := by decide +kernel
theorem L_130_83 : a_look 130 83 = some (.getfield 7, 7, 0, 321) := by decide +kernel
theorem L_130_86 : a_look 130 86 = some (.bipush 6, 0, 0, 0) := by decide +kernel
theorem L_130_88 : a_look 130 88 = some (.iaload, 0, 0, 0) := by decide +kernel
theorem L_130_89 : a_look 130 89 = some (.irem, 0, 0, 0) := by decide +kernel
theorem L_130_90 : a_look 130 90 = some (.ifCond .ne 23, 113, 0, 0) := by decide +kernel
theorem L_130_93 : a_look 130 93 = some (.aload_n 0, 0, 0, 0) := by decide +kernel
theorem L_130_94 : a_look 130 94 = some (.iload_n 2, 0, 0, 0) := by decide +kernel
theorem L_130_95 : a_look 130 95 = some (.bipush 6, 0, 0, 0) := by decide +kernel
theorem L_130_97 : a_look 130 97 = some (.invokevirtual 73, 106, 3, 1006) := by decide +kernel
theorem L_130_100 : a_look 130 100 = some (.bipush (-6), 0, 0, 0) := by decide +kernel
theorem L_130_102 : a_look 130 102 = some (.if_icmp .eq 11, 113, 0, 0) := by decide +kernel
theorem L_130_105 : a_look 130 105 = some (.iload_n 1, 0, 0, 0) := by decide +kernel
theorem L_130_106 : a_look 130 106 = some (.aload_n 0, 0, 0, 0) := by decide +kernel
theorem L_130_107 : a_look 130 107 = some (.iload_n 2, 0, 0, 0) := by decide +kernel
theorem L_130_108 : a_look 130 108 = some (.invokevirtual 109, 129, 2, 2205) := by decide +kernel
theorem L_130_111 : a_look 130 111 = some (.iadd, 0, 0, 0) := by decide +kernel
theorem L_130_112 : a_look 130 112 = some (.istore_n 1, 0, 0, 0) := by decide +kernel
theorem L_130_113 : a_look 130 113 = some (.iinc 2 1, 0, 0, 0) := by decide +kernel
theorem L_130_116 : a_look 130 116 = some (.goto (-52), 64, 0, 0) := by decide +kernel
theorem L_130_119 : a_look 130 119 = some (.iconst 0, 0, 0, 0) := by decide +kernel
theorem L_130_120 : a_look 130 120 = some (.istore_n 2, 0, 0, 0) := by decide +kernel
theorem L_130_121 : a_look 130 121 = some (.iload_n 2, 0, 0, 0) := by decide +kernel
theorem L_130_122 : a_look 130 122 = some (.aload_n 0, 0, 0, 0) := by decide +kernel
theorem L_130_123 : a_look 130 123 = some (.getfield 7, 7, 0, 321) := by decide +kernel
theorem L_130_126 : a_look 130 126 = some (.iconst 3, 0, 0, 0) := by decide +kernel
theorem L_130_127 : a_look 130 127 = some (.iaload, 0, 0, 0) := by decide +kernel
theorem L_130_128 : a_look 130 128 = some (.if_icmp .ge 66, 194, 0, 0) := by decide +kernel
theorem L_130_131 : a_look 130 131 = some (.aload_n 0, 0, 0, 0) := by decide +kernel
theorem L_130_132 : a_look 130 132 = some (.iload_n 2, 0, 0, 0) := by decide +kernel
theorem L_130_133 : a_look 130 133 = some (.bipush 6, 0, 0, 0) := by decide +kernel
theorem L_130_135 : a_look 130 135 = some (.invokevirtual 73, 106, 3, 1006) := by decide +kernel
theorem L_130_138 : a_look 130 138 = some (.bipush (-6), 0, 0, 0) := by decide +kernel
theorem L_130_140 : a_look 130 140 = some (.if_icmp .eq 48, 188, 0, 0) := by decide +kernel
theorem L_130_143 : a_look 130 143 = some (.aload_n 0, 0, 0, 0) := by decide +kernel
theorem L_130_144 : a_look 130 144 = some (.iload_n 2, 0, 0, 0) := by decide +kernel
theorem L_130_145 : a_look 130 145 = some (.bipush 6, 0, 0, 0) := by decide +kernel
theorem L_130_147 : a_look 130 147 = some (.invokevirtual 73, 106, 3, 1006) := by decide +kernel
theorem L_130_150 : a_look 130 150 = some (.aload_n 0, 0, 0, 0) := by decide +kernel
theorem L_130_151 : a_look 130 151 = some (.getfield 7, 7, 0, 321) := by decide +kernel
theorem L_130_154 : a_look 130 154 = some (.iconst 0, 0, 0, 0) := by decide +kernel
theorem L_130_155 : a_look 130 155 = some (.iaload, 0, 0, 0) := by decide +kernel
theorem L_130_156 : a_look 130 156 = some (.aload_n 0, 0, 0, 0) := by decide +kernel
theorem L_130_157 : a_look 130 157 = some (.getfield 7, 7, 0, 321) := by decide +kernel
theorem L_130_160 : a_look 130 160 = some (.bipush 7, 0, 0, 0) := by decide +kernel
theorem L_130_162 : a_look 130 162 = some (.iaload, 0, 0, 0) := by decide +kernel
theorem L_130_163 : a_look 130 163 = some (.isub, 0, 0, 0) := by decide +kernel
theorem L_130_164 : a_look 130 164 = some (.if_icmp .gt 24, 188, 0, 0) := by decide +kernel
theorem L_130_167 : a_look 130 167 = some (.aload_n 0, 0, 0, 0) := by decide +kernel
theorem L_130_168 : a_look 130 168 = some (.iload_n 2, 0, 0, 0) := by decide +kernel
theorem L_130_169 : a_look 130 169 = some (.invokevirtual 102, 126, 2, 1310) := by decide +kernel
theorem L_130_172 : a_look 130 172 = some (.aload_n 0, 0, 0, 0) := by decide +kernel
theorem L_130_173 : a_look 130 173 = some (.iload_n 2, 0, 0, 0) := by decide +kernel
theorem L_130_174 : a_look 130 174 = some (.bipush 9, 0, 0, 0) := by decide +kernel
theorem L_130_176 : a_look 130 176 = some (.aload_n 0, 0, 0, 0) := by decide +kernel
theorem L_130_177 : a_look 130 177 = some (.iload_n 2, 0, 0, 0) := by decide +kernel
theorem L_130_178 : a_look 130 178 = some (.bipush 9, 0, 0, 0) := by decide +kernel
theorem L_130_180 : a_look 130 180 = some (.invokevirtual 73, 106, 3, 1006) := by decide +kernel
theorem L_130_183 : a_look 130 183 = some (.iconst 1, 0, 0, 0) := by decide +kernel
theorem L_130_184 : a_look 130 184 = some (.iadd, 0, 0, 0) := by decide +kernel
theorem L_130_185 : a_look 130 185 = some (.invokevirtual 95, 107, 4, 1207) := by decide +kernel
theorem L_130_188 : a_look 130 188 = some (.iinc 2 1, 0, 0, 0) := by decide +kernel
theorem L_130_191 : a_look 130 191 = some (.goto (-70), 121, 0, 0) := by decide +kernel
theorem L_130_194 : a_look 130 194 = some (.iload_n 1, 0, 0, 0) := by decide +kernel
theorem L_130_195 : a_look 130 195 = some (.ireturn, 0, 0, 0) := by decide +kernel
theorem L_131_0 : a_look 131 0 = some (.iload_n 1, 0, 0, 0) := by decide +kernel
theorem L_131_1 : a_look 131 1 = some (.iload_n 2, 0, 0, 0) := by decide +kernel
theorem L_131_2 : a_look 131 2 = some (.invokestatic 112, 108, 2, 623) := by decide +kernel
theorem L_131_5 : a_look 131 5 = some (.ifCond .eq 20, 25, 0, 0) := by decide +kernel
theorem L_131_8 : a_look 131 8 = some (.iload_n 3, 0, 0, 0) := by decide +kernel
theorem L_131_9 : a_look 131 9 = some (.invokestatic 115, 109, 1, 705) := by decide +kernel
theorem L_131_12 : a_look 131 12 = some (.ifCond .eq 13, 25, 0, 0) := by decide +kernel
theorem L_131_15 : a_look 131 15 = some (.iload 4, 0, 0, 0) := by decide +kernel
theorem L_131_17 : a_look 131 17 = some (.iconst 0, 0, 0, 0) := by decide +kernel
theorem L_131_18 : a_look 131 18 = some (.iconst 4, 0, 0, 0) := by decide +kernel
theorem L_131_19 : a_look 131 19 = some (.invokestatic 37, 97, 3, 702) := by decide +kernel
theorem L_131_22 : a_look 131 22 = some (.ifCond .ne 6, 28, 0, 0) := by decide +kernel
theorem L_131_25 : a_look 131 25 = some (.bipush (-2), 0, 0, 0) := by decide +kernel
theorem L_131_27 : a_look 131 27 = some (.ireturn, 0, 0, 0) := by decide +kernel
theorem L_131_28 : a_look 131 28 = some (.aload_n 0, 0, 0, 0) := by decide +kernel
theorem L_131_29 : a_look 131 29 = some (.getfield 7, 7, 0, 321) := by decide +kernel
theorem L_131_32 : a_look 131 32 = some (.iconst 1, 0, 0, 0) := by decide +kernel
theorem L_131_33 : a_look 131 33 = some (.iaload, 0, 0, 0) := by decide +kernel
theorem L_131_34 : a_look 131 34 = some (.bipush 8, 0, 0, 0) := by decide +kernel
theorem L_131_36 : a_look 131 36 = some (.if_icmp .ne 6, 42, 0, 0) := by decide +kernel
theorem L_131_39 : a_look 131 39 = some (.bipush (-4), 0, 0, 0) := by decide +kernel
theorem L_131_41 : a_look 131 41 = some (.ireturn, 0, 0, 0) := by decide +kernel
theorem L_131_42 : a_look 131 42 = some (.aload_n 0, 0, 0, 0) := by decide +kernel
theorem L_131_43 : a_look 131 43 = some (.invokevirtual 118, 98, 1, 708) := by decide +kernel
theorem L_131_46 : a_look 131 46 = some (.bipush 8, 0, 0, 0) := by decide +kernel
theorem L_131_48 : a_look 131 48 = some (.iconst 5, 0, 0, 0) := by decide +kernel
theorem L_131_49 : a_look 131 49 = some (.aload_n 0, 0, 0, 0) := by decide +kernel
theorem L_131_50 : a_look 131 50 = some (.getfield 7, 7, 0, 321) := by decide +kernel
theorem L_131_53 : a_look 131 53 = some (.iconst 1, 0, 0, 0) := by decide +kernel
theorem L_131_54 : a_look 131 54 = some (.iaload, 0, 0, 0) := by decide +kernel
theorem L_131_55 : a_look 131 55 = some (.imul, 0, 0, 0) := by decide +kernel
theorem L_131_56 : a_look 131 56 = some (.iadd, 0, 0, 0) := by decide +kernel
theorem L_131_57 : a_look 131 57 = some (.istore 5, 0, 0, 0) := by decide +kernel
theorem L_131_59 : a_look 131 59 = some (.aload_n 0, 0, 0, 0) := by decide +kernel
theorem L_131_60 : a_look 131 60 = some (.getfield 7, 7, 0, 321) := by decide +kernel
theorem L_131_63 : a_look 131 63 = some (.iload 5, 0, 0, 0) := by decide +kernel
theorem L_131_65 : a_look 131 65 = some (.iconst 0, 0, 0, 0) := by decide +kernel
theorem L_131_66 : a_look 131 66 = some (.iadd, 0, 0, 0) := by decide +kernel
theorem L_131_67 : a_look 131 67 = some (.iload_n 1, 0, 0, 0) := by decide +kernel
theorem L_131_68 : a_look 131 68 = some (.iastore, 0, 0, 0) := by decide +kernel
theorem L_131_69 : a_look 131 69 = some (.aload_n 0, 0, 0, 0) := by decide +kernel
theorem L_131_70 : a_look 131 70 = some (.getfield 7, 7, 0, 321) := by decide +kernel
theorem L_131_73 : a_look 131 73 = some (.iload 5, 0, 0, 0) := by decide +kernel
theorem L_131_75 : a_look 131 75 = some (.iconst 1, 0, 0, 0) := by decide +kernel
theorem L_131_76 : a_look 131 76 = some (.iadd, 0, 0, 0) := by decide +kernel
theorem L_131_77 : a_look 131 77 = some (.iload_n 2, 0, 0, 0) := by decide +kernel
theorem L_131_78 : a_look 131 78 = some (.iastore, 0, 0, 0) := by decide +kernel
theorem L_131_79 : a_look 131 79 = some (.aload_n 0, 0, 0, 0) := by decide +kernel
theorem L_131_80 : a_look 131 80 = some (.getfield 7, 7, 0, 321) := by decide +kernel
theorem L_131_83 : a_look 131 83 = some (.iload 5, 0, 0, 0) := by decide +kernel
theorem L_131_85 : a_look 131 85 = some (.iconst 2, 0, 0, 0) := by decide +kernel
theorem L_131_86 : a_look 131 86 = some (.iadd, 0, 0, 0) := by decide +kernel
theorem L_131_87 : a_look 131 87 = some (.iload_n 3, 0, 0, 0) := by decide +kernel
theorem L_131_88 : a_look 131 88 = some (.iastore, 0, 0, 0) := by decide +kernel
theorem L_131_89 : a_look 131 89 = some (.aload_n 0, 0, 0, 0) := by decide +kernel
theorem L_131_90 : a_look 131 90 = some (.getfield 7, 7, 0, 321) := by decide +kernel
theorem L_131_93 : a_look 131 93 = some (.iload 5, 0, 0, 0) := by decide +kernel
theorem L_131_95 : a_look 131 95 = some (.iconst 3, 0, 0, 0) := by decide +kernel
theorem L_131_96 : a_look 131 96 = some (.iadd, 0, 0, 0) := by decide +kernel
theorem L_131_97 : a_look 131 97 = some (.iload 4, 0, 0, 0) := by decide +kernel
theorem L_131_99 : a_look 131 99 = some (.iastore, 0, 0, 0) := by decide +kernel
theorem L_131_100 : a_look 131 100 = some (.aload_n 0, 0, 0, 0) := by decide +kernel
theorem L_131_101 : a_look 131 101 = some (.getfield 7, 7, 0, 321) := by decide +kernel
theorem L_131_104 : a_look 131 104 = some (.iload 5, 0, 0, 0) := by decide +kernel
theorem L_131_106 : a_look 131 106 = some (.iconst 4, 0, 0, 0) := by decide +kernel
theorem L_131_107 : a_look 131 107 = some (.iadd, 0, 0, 0) := by decide +kernel
theorem L_131_108 : a_look 131 108 = some (.iconst 0, 0, 0, 0) := by decide +kernel
theorem L_131_109 : a_look 131 109 = some (.iastore, 0, 0, 0) := by decide +kernel
theorem L_131_110 : a_look 131 110 = some (.aload_n 0, 0, 0, 0) := by decide +kernel
theorem L_131_111 : a_look 131 111 = some (.getfield 7, 7, 0, 321) := by decide +kernel
theorem L_131_114 : a_look 131 114 = some (.iconst 1, 0, 0, 0) := by decide +kernel
theorem L_131_115 : a_look 131 115 = some (.dup2, 0, 0, 0) := by decide +kernel
theorem L_131_116 : a_look 131 116 = some (.iaload, 0, 0, 0) := by decide +kernel
theorem L_131_117 : a_look 131 117 = some (.iconst 1, 0, 0, 0) := by decide +kernel
theorem L_131_118 : a_look 131 118 = some (.iadd, 0, 0, 0) := by decide +kernel
theorem L_131_119 : a_look 131 119 = some (.iastore, 0, 0, 0) := by decide +kernel
theorem L_131_120 : a_look 131 120 = some (.aload_n 0, 0, 0, 0) := by decide +kernel
theorem L_131_121 : a_look 131 121 = some (.getfield 7, 7, 0, 321) := by decide +kernel
theorem L_131_124 : a_look 131 124 = some (.iconst 1, 0, 0, 0) := by decide +kernel
theorem L_131_125 : a_look 131 125 = some (.iaload, 0, 0, 0) := by decide +kernel
theorem L_131_126 : a_look 131 126 = some (.iconst 1, 0, 0, 0) := by decide +kernel
theorem L_131_127 : a_look 131 127 = some (.isub, 0, 0, 0) := by decide +kernel
theorem L_131_128 : a_look 131 128 = some (.ireturn, 0, 0, 0) := by decide +kernel
theorem L_132_0 : a_look 132 0 = some (.iload_n 1, 0, 0, 0) := by decide +kernel
theorem L_132_1 : a_look 132 1 = some (.iload_n 2, 0, 0, 0) := by decide +kernel
theorem L_132_2 : a_look 132 2 = some (.invokestatic 112, 108, 2, 623) := by decide +kernel
theorem L_132_5 : a_look 132 5 = some (.ifCond .eq 53, 58, 0, 0) := by decide +kernel
theorem L_132_8 : a_look 132 8 = some (.iload_n 3, 0, 0, 0) := by decide +kernel
theorem L_132_9 : a_look 132 9 = some (.iconst 1, 0, 0, 0) := by decide +kernel
theorem L_132_10 : a_look 132 10 = some (.bipush 30, 0, 0, 0) := by decide +kernel
theorem L_132_12 : a_look 132 12 = some (.invokestatic 37, 97, 3, 702) := by decide +kernel
theorem L_132_15 : a_look 132 15 = some (.ifCond .eq 43, 58, 0, 0) := by decide +kernel
theorem L_132_18 : a_look 132 18 = some (.iload 4, 0, 0, 0) := by decide +kernel
theorem L_132_20 : a_look 132 20 = some (.invokestatic 115, 109, 1, 705) := by decide +kernel
theorem L_132_23 : a_look 132 23 = some (.ifCond .eq 35, 58, 0, 0) := by decide +kernel
theorem L_132_26 : a_look 132 26 = some (.iload 5, 0, 0, 0) := by decide +kernel
theorem L_132_28 : a_look 132 28 = some (.aload_n 0, 0, 0, 0) := by decide +kernel
theorem L_132_29 : a_look 132 29 = some (.getfield 7, 7, 0, 321) := by decide +kernel
theorem L_132_32 : a_look 132 32 = some (.iconst 0, 0, 0, 0) := by decide +kernel
theorem L_132_33 : a_look 132 33 = some (.iaload, 0, 0, 0) := by decide +kernel
theorem L_132_34 : a_look 132 34 = some (.sipush 9998, 0, 0, 0) := by decide +kernel
theorem L_132_37 : a_look 132 37 = some (.invokestatic 37, 97, 3, 702) := by decide +kernel
theorem L_132_40 : a_look 132 40 = some (.ifCond .eq 18, 58, 0, 0) := by decide +kernel
theorem L_132_43 : a_look 132 43 = some (.iload 6, 0, 0, 0) := by decide +kernel
theorem L_132_45 : a_look 132 45 = some (.iload 5, 0, 0, 0) := by decide +kernel
theorem L_132_47 : a_look 132 47 = some (.if_icmp .le 11, 58, 0, 0) := by decide +kernel
theorem L_132_50 : a_look 132 50 = some (.iload 6, 0, 0, 0) := by decide +kernel
theorem L_132_52 : a_look 132 52 = some (.sipush 9999, 0, 0, 0) := by decide +kernel
theorem L_132_55 : a_look 132 55 = some (.if_icmp .le 6, 61, 0, 0) := by decide +kernel
theorem L_132_58 : a_look 132 58 = some (.bipush (-2), 0, 0, 0) := by decide +kernel
theorem L_132_60 : a_look 132 60 = some (.ireturn, 0, 0, 0) := by decide +kernel
theorem L_132_61 : a_look 132 61 = some (.aload_n 0, 0, 0, 0) := by decide +kernel
theorem L_132_62 : a_look 132 62 = some (.getfield 7, 7, 0, 321) := by decide +kernel
theorem L_132_65 : a_look 132 65 = some (.iconst 2, 0, 0, 0) := by decide +kernel
theorem L_132_66 : a_look 132 66 = some (.iaload, 0, 0, 0) := by decide +kernel
theorem L_132_67 : a_look 132 67 = some (.bipush 8, 0, 0, 0) := by decide +kernel
theorem L_132_69 : a_look 132 69 = some (.if_icmp .ne 6, 75, 0, 0) := by decide +kernel
theorem L_132_72 : a_look 132 72 = some (.bipush (-4), 0, 0, 0) := by decide +kernel
theorem L_132_74 : a_look 132 74 = some (.ireturn, 0, 0, 0) := by decide +kernel
theorem L_132_75 : a_look 132 75 = some (.aload_n 0, 0, 0, 0) := by decide +kernel
theorem L_132_76 : a_look 132 76 = some (.invokevirtual 118, 98, 1, 708) := by decide +kernel
theorem L_132_79 : a_look 132 79 = some (.bipush 48, 0, 0, 0) := by decide +kernel
theorem L_132_81 : a_look 132 81 = some (.bipush 7, 0, 0, 0) := by decide +kernel
theorem L_132_83 : a_look 132 83 = some (.aload_n 0, 0, 0, 0) := by decide +kernel
theorem L_132_84 : a_look 132 84 = some (.getfield 7, 7, 0, 321) := by decide +kernel
theorem L_132_87 : a_look 132 87 = some (.iconst 2, 0, 0, 0) := by decide +kernel
theorem L_132_88 : a_look 132 88 = some (.iaload, 0, 0, 0) := by decide +kernel
theorem L_132_89 : a_look 132 89 = some (.imul, 0, 0, 0) := by decide +kernel
theorem L_132_90 : a_look 132 90 = some (.iadd, 0, 0, 0) := by decide +kernel
theorem L_132_91 : a_look 132 91 = some (.istore 7, 0, 0, 0) := by decide +kernel
theorem L_132_93 : a_look 132 93 = some (.aload_n 0, 0, 0, 0) := by decide +kernel
theorem L_132_94 : a_look 132 94 = some (.getfield 7, 7, 0, 321) := by decide +kernel
theorem L_132_97 : a_look 132 97 = some (.iload 7, 0, 0, 0) := by decide +kernel
theorem L_132_99 : a_look 132 99 = some (.iconst 0, 0, 0, 0) := by decide +kernel
theorem L_132_100 : a_look 132 100 = some (.iadd, 0, 0, 0) := by decide +kernel
theorem L_132_101 : a_look 132 101 = some (.iload_n 1, 0, 0, 0) := by decide +kernel
theorem L_132_102 : a_look 132 102 = some (.iastore, 0, 0, 0) := by decide +kernel
theorem L_132_103 : a_look 132 103 = some (.aload_n 0, 0, 0, 0) := by decide +kernel
theorem L_132_104 : a_look 132 104 = some (.getfield 7, 7, 0, 321) := by decide +kernel
theorem L_132_107 : a_look 132 107 = some (.iload 7, 0, 0, 0) := by decide +kernel
theorem L_132_109 : a_look 132 109 = some (.iconst 1, 0, 0, 0) := by decide +kernel
theorem L_132_110 : a_look 132 110 = some (.iadd, 0, 0, 0) := by decide +kernel
theorem L_132_111 : a_look 132 111 = some (.iload_n 2, 0, 0, 0) := by decide +kernel
theorem L_132_112 : a_look 132 112 = some (.iastore, 0, 0, 0) := by decide +kernel
theorem L_132_113 : a_look 132 113 = some (.aload_n 0, 0, 0, 0) := by decide +kernel
theorem L_132_114 : a_look 132 114 = some (.getfield 7, 7, 0, 321) := by decide +kernel
theorem L_132_117 : a_look 132 117 = some (.iload 7, 0, 0, 0) := by decide +kernel
theorem L_132_119 : a_look 132 119 = some (.iconst 2, 0, 0, 0) := by decide +kernel
theorem L_132_120 : a_look 132 120 = some (.iadd, 0, 0, 0) := by decide +kernel
theorem L_132_121 : a_look 132 121 = some (.iload_n 3, 0, 0, 0) := by decide +kernel
theorem L_132_122 : a_look 132 122 = some (.iastore, 0, 0, 0) := by decide +kernel
theorem L_132_123 : a_look 132 123 = some (.aload_n 0, 0, 0, 0) := by decide +kernel
theorem L_132_124 : a_look 132 124 = some (.getfield 7, 7, 0, 321) := by decide +kernel
theorem L_132_127 : a_look 132 127 = some (.iload 7, 0, 0, 0) := by decide +kernel
theorem L_132_129 : a_look 132 129 = some (.iconst 3, 0, 0, 0) := by decide +kernel
theorem L_132_130 : a_look 132 130 = some (.iadd, 0, 0, 0) := by decide +kernel
theorem L_132_131 : a_look 132 131 = some (.iload 4, 0, 0, 0) := by decide +kernel
theorem L_132_133 : a_look 132 133 = some (.iastore, 0, 0, 0) := by decide +kernel
theorem L_132_134 : a_look 132 134 = some (.aload_n 0, 0, 0, 0) := by decide +kernel
theorem L_132_135 : a_look 132 135 = some (.getfield 7, 7, 0, 321) := by decide +kernel
theorem L_132_138 : a_look 132 138 = some (.iload 7, 0, 0, 0) := by decide +kernel
theorem L_132_140 : a_look 132 140 = some (.iconst 4, 0, 0, 0) := by decide +kernel
theorem L_132_141 : a_look 132 141 = some (.iadd, 0, 0, 0) := by decide +kernel
theorem L_132_142 : a_look 132 142 = some (.iload 5, 0, 0, 0) := by decide +kernel
theorem L_132_144 : a_look 132 144 = some (.iastore, 0, 0, 0) := by decide +kernel
theorem L_132_145 : a_look 132 145 = some (.aload_n 0, 0, 0, 0) := by decide +kernel
theorem L_132_146 : a_look 132 146 = some (.getfield 7, 7, 0, 321) := by decide +kernel
theorem L_132_149 : a_look 132 149 = some (.iload 7, 0, 0, 0) := by decide +kernel
theorem L_132_151 : a_look 132 151 = some (.iconst 5, 0, 0, 0) := by decide +kernel
theorem L_132_152 : a_look 132 152 = some (.iadd, 0, 0, 0) := by decide +kernel
theorem L_132_153 : a_look 132 153 = some (.iload 6, 0, 0, 0) := by decide +kernel
theorem L_132_155 : a_look 132 155 = some (.iastore, 0, 0, 0) := by decide +kernel
theorem L_132_156 : a_look 132 156 = some (.aload_n 0, 0, 0, 0) := by decide +kernel
theorem L_132_157 : a_look 132 157 = some (.getfield 7, 7, 0, 321) := by decide +kernel
theorem L_132_160 : a_look 132 160 = some (.iload 7, 0, 0, 0) := by decide +kernel
theorem L_132_162 : a_look 132 162 = some (.bipush 6, 0, 0, 0) := by decide +kernel
theorem L_132_164 : a_look 132 164 = some (.iadd, 0, 0, 0) := by decide +kernel
theorem L_132_165 : a_look 132 165 = some (.iconst 0, 0, 0, 0) := by decide +kernel
theorem L_132_166 : a_look 132 166 = some (.iastore, 0, 0, 0) := by decide +kernel
theorem L_132_167 : a_look 132 167 = some (.aload_n 0, 0, 0, 0) := by decide +kernel
theorem L_132_168 : a_look 132 168 = some (.getfield 7, 7, 0, 321) := by decide +kernel
theorem L_132_171 : a_look 132 171 = some (.iconst 2, 0, 0, 0) := by decide +kernel
theorem L_132_172 : a_look 132 172 = some (.dup2, 0, 0, 0) := by decide +kernel
theorem L_132_173 : a_look 132 173 = some (.iaload, 0, 0, 0) := by decide +kernel
theorem L_132_174 : a_look 132 174 = some (.iconst 1, 0, 0, 0) := by decide +kernel
theorem L_132_175 : a_look 132 175 = some (.iadd, 0, 0, 0) := by decide +kernel
theorem L_132_176 : a_look 132 176 = some (.iastore, 0, 0, 0) := by decide +kernel
theorem L_132_177 : a_look 132 177 = some (.aload_n 0, 0, 0, 0) := by decide +kernel
theorem L_132_178 : a_look 132 178 = some (.invokevirtual 106, 125, 1, 922) := by decide +kernel
theorem L_132_181 : a_look 132 181 = some (.aload_n 0, 0, 0, 0) := by decide +kernel
theorem L_132_182 : a_look 132 182 = some (.getfield 7, 7, 0, 321) := by decide +kernel
theorem L_132_185 : a_look 132 185 = some (.iconst 2, 0, 0, 0) := by decide +kernel
theorem L_132_186 : a_look 132 186 = some (.iaload, 0, 0, 0) := by decide +kernel
theorem L_132_187 : a_look 132 187 = some (.iconst 1, 0, 0, 0) := by decide +kernel
theorem L_132_188 : a_look 132 188 = some (.isub, 0, 0, 0) := by decide +kernel
theorem L_132_189 : a_look 132 189 = some (.ireturn, 0, 0, 0) := by decide +kernel
theorem L_133_0 : a_look 133 0 = some (.iload_n 1, 0, 0, 0) := by decide +kernel
theorem L_133_1 : a_look 133 1 = some (.iload_n 2, 0, 0, 0) := by decide +kernel
theorem L_133_2 : a_look 133 2 = some (.invokestatic 112, 108, 2, 623) := by decide +kernel
theorem L_133_5 : a_look 133 5 = some (.ifCond .eq 10, 15, 0, 0) := by decide +kernel
theorem L_133_8 : a_look 133 8 = some (.iload_n 3, 0, 0, 0) := by decide +kernel
theorem L_133_9 : a_look 133 9 = some (.invokestatic 121, 110, 1, 1307) := by decide +kernel
theorem L_133_12 : a_look 133 12 = some (.ifCond .ne 6, 18, 0, 0) := by decide +kernel
theorem L_133_15 : a_look 133 15 = some (.bipush (-2), 0, 0, 0) := by decide +kernel
theorem L_133_17 : a_look 133 17 = some (.ireturn, 0, 0, 0) := by decide +kernel
theorem L_133_18 : a_look 133 18 = some (.aload_n 0, 0, 0, 0) := by decide +kernel
theorem L_133_19 : a_look 133 19 = some (.getfield 7, 7, 0, 321) := by decide +kernel
theorem L_133_22 : a_look 133 22 = some (.iconst 3, 0, 0, 0) := by decide +kernel
theorem L_133_23 : a_look 133 23 = some (.iaload, 0, 0, 0) := by decide +kernel
theorem L_133_24 : a_look 133 24 = some (.bipush 16, 0, 0, 0) := by decide +kernel
theorem L_133_26 : a_look 133 26 = some (.if_icmp .ne 6, 32, 0, 0) := by decide +kernel
theorem L_133_29 : a_look 133 29 = some (.bipush (-4), 0, 0, 0) := by decide +kernel
theorem L_133_31 : a_look 133 31 = some (.ireturn, 0, 0, 0) := by decide +kernel
theorem L_133_32 : a_look 133 32 = some (.aload_n 0, 0, 0, 0) := by decide +kernel
theorem L_133_33 : a_look 133 33 = some (.invokevirtual 118, 98, 1, 708) := by decide +kernel
theorem L_133_36 : a_look 133 36 = some (.aload_n 0, 0, 0, 0) := by decide +kernel
theorem L_133_37 : a_look 133 37 = some (.getfield 7, 7, 0, 321) := by decide +kernel
theorem L_133_40 : a_look 133 40 = some (.iconst 3, 0, 0, 0) := by decide +kernel
theorem L_133_41 : a_look 133 41 = some (.iaload, 0, 0, 0) := by decide +kernel
theorem L_133_42 : a_look 133 42 = some (.istore 4, 0, 0, 0) := by decide +kernel
theorem L_133_44 : a_look 133 44 = some (.aload_n 0, 0, 0, 0) := by decide +kernel
theorem L_133_45 : a_look 133 45 = some (.iload 4, 0, 0, 0) := by decide +kernel
theorem L_133_47 : a_look 133 47 = some (.iconst 0, 0, 0, 0) := by decide +kernel
theorem L_133_48 : a_look 133 48 = some (.iload_n 1, 0, 0, 0) := by decide +kernel
theorem L_133_49 : a_look 133 49 = some (.invokevirtual 95, 107, 4, 1207) := by decide +kernel
theorem L_133_52 : a_look 133 52 = some (.aload_n 0, 0, 0, 0) := by decide +kernel
theorem L_133_53 : a_look 133 53 = some (.iload 4, 0, 0, 0) := by decide +kernel
theorem L_133_55 : a_look 133 55 = some (.iconst 1, 0, 0, 0) := by decide +kernel
theorem L_133_56 : a_look 133 56 = some (.iload_n 2, 0, 0, 0) := by decide +kernel
theorem L_133_57 : a_look 133 57 = some (.invokevirtual 95, 107, 4, 1207) := by decide +kernel
theorem L_133_60 : a_look 133 60 = some (.aload_n 0, 0, 0, 0) := by decide +kernel
theorem L_133_61 : a_look 133 61 = some (.iload 4, 0, 0, 0) := by decide +kernel
theorem L_133_63 : a_look 133 63 = some (.iconst 2, 0, 0, 0) := by decide +kernel
theorem L_133_64 : a_look 133 64 = some (.iload_n 3, 0, 0, 0) := by decide +kernel
theorem L_133_65 : a_look 133 65 = some (.invokevirtual 95, 107, 4, 1207) := by decide +kernel
theorem L_133_68 : a_look 133 68 = some (.aload_n 0, 0, 0, 0) := by decide +kernel
theorem L_133_69 : a_look 133 69 = some (.iload 4, 0, 0, 0) := by decide +kernel
theorem L_133_71 : a_look 133 71 = some (.invokevirtual 102, 126, 2, 1310) := by decide +kernel
theorem L_133_74 : a_look 133 74 = some (.aload_n 0, 0, 0, 0) := by decide +kernel
theorem L_133_75 : a_look 133 75 = some (.iload 4, 0, 0, 0) := by decide +kernel
theorem L_133_77 : a_look 133 77 = some (.bipush 7, 0, 0, 0) := by decide +kernel
theorem L_133_79 : a_look 133 79 = some (.iconst 0, 0, 0, 0) := by decide +kernel
theorem L_133_80 : a_look 133 80 = some (.invokevirtual 95, 107, 4, 1207) := by decide +kernel
theorem L_133_83 : a_look 133 83 = some (.aload_n 0, 0, 0, 0) := by decide +kernel
theorem L_133_84 : a_look 133 84 = some (.iload 4, 0, 0, 0) := by decide +kernel
theorem L_133_86 : a_look 133 86 = some (.bipush 8, 0, 0, 0) := by decide +kernel
theorem L_133_88 : a_look 133 88 = some (.iconst 0, 0, 0, 0) := by decide +kernel
theorem L_133_89 : a_look 133 89 = some (.invokevirtual 95, 107, 4, 1207) := by decide +kernel
theorem L_133_92 : a_look 133 92 = some (.aload_n 0, 0, 0, 0) := by decide +kernel
theorem L_133_93 : a_look 133 93 = some (.iload 4, 0, 0, 0) := by decide +kernel
theorem L_133_95 : a_look 133 95 = some (.bipush 9, 0, 0, 0) := by decide +kernel
theorem L_133_97 : a_look 133 97 = some (.iconst 0, 0, 0, 0) := by decide +kernel
theorem L_133_98 : a_look 133 98 = some (.invokevirtual 95, 107, 4, 1207) := by decide +kernel
theorem L_133_101 : a_look 133 101 = some (.aload_n 0, 0, 0, 0) := by decide +kernel
theorem L_133_102 : a_look 133 102 = some (.getfield 7, 7, 0, 321) := by decide +kernel
theorem L_133_105 : a_look 133 105 = some (.iconst 3, 0, 0, 0) := by decide +kernel
theorem L_133_106 : a_look 133 106 = some (.dup2, 0, 0, 0) := by decide +kernel
theorem L_133_107 : a_look 133 107 = some (.iaload, 0, 0, 0) := by decide +kernel
theorem L_133_108 : a_look 133 108 = some (.iconst 1, 0, 0, 0) := by decide +kernel
theorem L_133_109 : a_look 133 109 = some (.iadd, 0, 0, 0) := by decide +kernel
theorem L_133_110 : a_look 133 110 = some (.iastore, 0, 0, 0) := by decide +kernel
theorem L_133_111 : a_look 133 111 = some (.iload 4, 0, 0, 0) := by decide +kernel
theorem L_133_113 : a_look 133 113 = some (.ireturn, 0, 0, 0) := by decide +kernel
theorem L_134_0 : a_look 134 0 = some (.iload_n 1, 0, 0, 0) := by decide +kernel
theorem L_134_1 : a_look 134 1 = some (.iconst 0, 0, 0, 0) := by decide +kernel
theorem L_134_2 : a_look 134 2 = some (.iconst 2, 0, 0, 0) := by decide +kernel
theorem L_134_3 : a_look 134 3 = some (.invokestatic 37, 97, 3, 702) := by decide +kernel
theorem L_134_6 : a_look 134 6 = some (.ifCond .ne 5, 11, 0, 0) := by decide +kernel
theorem L_134_9 : a_look 134 9 = some (.iconst (-1), 0, 0, 0) := by decide +kernel
theorem L_134_10 : a_look 134 10 = some (.ireturn, 0, 0, 0) := by decide +kernel
theorem L_134_11 : a_look 134 11 = some (.iload_n 1, 0, 0, 0) := by decide +kernel
theorem L_134_12 : a_look 134 12 = some (.ifCond .ne 16, 28, 0, 0) := by decide +kernel
theorem L_134_15 : a_look 134 15 = some (.iload_n 2, 0, 0, 0) := by decide +kernel
theorem L_134_16 : a_look 134 16 = some (.iconst 0, 0, 0, 0) := by decide +kernel
theorem L_134_17 : a_look 134 17 = some (.bipush 100, 0, 0, 0) := by decide +kernel
theorem L_134_19 : a_look 134 19 = some (.invokestatic 37, 97, 3, 702) := by decide +kernel
theorem L_134_22 : a_look 134 22 = some (.ifCond .eq 34, 56, 0, 0) := by decide +kernel
theorem L_134_25 : a_look 134 25 = some (.goto 34, 59, 0, 0) := by decide +kernel
theorem L_134_28 : a_look 134 28 = some (.iload_n 1, 0, 0, 0) := by decide +kernel
theorem L_134_29 : a_look 134 29 = some (.iconst 1, 0, 0, 0) := by decide +kernel
theorem L_134_30 : a_look 134 30 = some (.if_icmp .ne 16, 46, 0, 0) := by decide +kernel
theorem L_134_33 : a_look 134 33 = some (.iload_n 2, 0, 0, 0) := by decide +kernel
theorem L_134_34 : a_look 134 34 = some (.iconst 1, 0, 0, 0) := by decide +kernel
theorem L_134_35 : a_look 134 35 = some (.bipush 12, 0, 0, 0) := by decide +kernel
theorem L_134_37 : a_look 134 37 = some (.invokestatic 37, 97, 3, 702) := by decide +kernel
theorem L_134_40 : a_look 134 40 = some (.ifCond .eq 16, 56, 0, 0) := by decide +kernel
theorem L_134_43 : a_look 134 43 = some (.goto 16, 59, 0, 0) := by decide +kernel
theorem L_134_46 : a_look 134 46 = some (.iload_n 2, 0, 0, 0) := by decide +kernel
theorem L_134_47 : a_look 134 47 = some (.iconst 0, 0, 0, 0) := by decide +kernel
theorem L_134_48 : a_look 134 48 = some (.bipush 20, 0, 0, 0) := by decide +kernel
theorem L_134_50 : a_look 134 50 = some (.invokestatic 37, 97, 3, 702) := by decide +kernel
theorem L_134_53 : a_look 134 53 = some (.ifCond .ne 6, 59, 0, 0) := by decide +kernel
theorem L_134_56 : a_look 134 56 = some (.bipush (-2), 0, 0, 0) := by decide +kernel
theorem L_134_58 : a_look 134 58 = some (.ireturn, 0, 0, 0) := by decide +kernel
theorem L_134_59 : a_look 134 59 = some (.aload_n 0, 0, 0, 0) := by decide +kernel
theorem L_134_60 : a_look 134 60 = some (.invokevirtual 118, 98, 1, 708) := by decide +kernel
theorem L_134_63 : a_look 134 63 = some (.aload_n 0, 0, 0, 0) := by decide +kernel
theorem L_134_64 : a_look 134 64 = some (.getfield 7, 7, 0, 321) := by decide +kernel
theorem L_134_67 : a_look 134 67 = some (.iconst 5, 0, 0, 0) := by decide +kernel
theorem L_134_68 : a_look 134 68 = some (.iload_n 1, 0, 0, 0) := by decide +kernel
theorem L_134_69 : a_look 134 69 = some (.iadd, 0, 0, 0) := by decide +kernel
theorem L_134_70 : a_look 134 70 = some (.iaload, 0, 0, 0) := by decide +kernel
theorem L_134_71 : a_look 134 71 = some (.istore_n 3, 0, 0, 0) := by decide +kernel
theorem L_134_72 : a_look 134 72 = some (.aload_n 0, 0, 0, 0) := by decide +kernel
theorem L_134_73 : a_look 134 73 = some (.getfield 7, 7, 0, 321) := by decide +kernel
theorem L_134_76 : a_look 134 76 = some (.iconst 5, 0, 0, 0) := by decide +kernel
theorem L_134_77 : a_look 134 77 = some (.iload_n 1, 0, 0, 0) := by decide +kernel
theorem L_134_78 : a_look 134 78 = some (.iadd, 0, 0, 0) := by decide +kernel
theorem L_134_79 : a_look 134 79 = some (.iload_n 2, 0, 0, 0) := by decide +kernel
theorem L_134_80 : a_look 134 80 = some (.iastore, 0, 0, 0) := by decide +kernel
theorem L_134_81 : a_look 134 81 = some (.aload_n 0, 0, 0, 0) := by decide +kernel
theorem L_134_82 : a_look 134 82 = some (.invokevirtual 106, 125, 1, 922) := by decide +kernel
theorem L_134_85 : a_look 134 85 = some (.iload_n 3, 0, 0, 0) := by decide +kernel
theorem L_134_86 : a_look 134 86 = some (.ireturn, 0, 0, 0) := by decide +kernel
theorem L_135_0 : a_look 135 0 = some (.aload_n 0, 0, 0, 0) := by decide +kernel
theorem L_135_1 : a_look 135 1 = some (.iload_n 1, 0, 0, 0) := by decide +kernel
theorem L_135_2 : a_look 135 2 = some (.invokevirtual 124, 101, 2, 1503) := by decide +kernel
theorem L_135_5 : a_look 135 5 = some (.ifCond .ne 5, 10, 0, 0) := by decide +kernel
theorem L_135_8 : a_look 135 8 = some (.iconst (-1), 0, 0, 0) := by decide +kernel
theorem L_135_9 : a_look 135 9 = some (.ireturn, 0, 0, 0) := by decide +kernel
theorem L_135_10 : a_look 135 10 = some (.aload_n 0, 0, 0, 0) := by decide +kernel
theorem L_135_11 : a_look 135 11 = some (.iload_n 1, 0, 0, 0) := by decide +kernel
theorem L_135_12 : a_look 135 12 = some (.iconst 4, 0, 0, 0) := by decide +kernel
theorem L_135_13 : a_look 135 13 = some (.invokevirtual 41, 104, 3, 1106) := by decide +kernel
theorem L_135_16 : a_look 135 16 = some (.iload_n 2, 0, 0, 0) := by decide +kernel
theorem L_135_17 : a_look 135 17 = some (.if_icmp .ne 6, 23, 0, 0) := by decide +kernel
theorem L_135_20 : a_look 135 20 = some (.bipush (-3), 0, 0, 0) := by decide +kernel
theorem L_135_22 : a_look 135 22 = some (.ireturn, 0, 0, 0) := by decide +kernel
theorem L_135_23 : a_look 135 23 = some (.aload_n 0, 0, 0, 0) := by decide +kernel
theorem L_135_24 : a_look 135 24 = some (.invokevirtual 118, 98, 1, 708) := by decide +kernel
theorem L_135_27 : a_look 135 27 = some (.aload_n 0, 0, 0, 0) := by decide +kernel
theorem L_135_28 : a_look 135 28 = some (.getfield 7, 7, 0, 321) := by decide +kernel
theorem L_135_31 : a_look 135 31 = some (.bipush 8, 0, 0, 0) := by decide +kernel
theorem L_135_33 : a_look 135 33 = some (.iconst 5, 0, 0, 0) := by decide +kernel
theorem L_135_34 : a_look 135 34 = some (.iload_n 1, 0, 0, 0) := by decide +kernel
theorem L_135_35 : a_look 135 35 = some (.imul, 0, 0, 0) := by decide +kernel
theorem L_135_36 : a_look 135 36 = some (.iadd, 0, 0, 0) := by decide +kernel
theorem L_135_37 : a_look 135 37 = some (.iconst 4, 0, 0, 0) := by decide +kernel
theorem L_135_38 : a_look 135 38 = some (.iadd, 0, 0, 0) := by decide +kernel
theorem L_135_39 : a_look 135 39 = some (.iload_n 2, 0, 0, 0) := by decide +kernel
theorem L_135_40 : a_look 135 40 = some (.iastore, 0, 0, 0) := by decide +kernel
theorem L_135_41 : a_look 135 41 = some (.aload_n 0, 0, 0, 0) := by decide +kernel
theorem L_135_42 : a_look 135 42 = some (.invokevirtual 106, 125, 1, 922) := by decide +kernel
theorem L_135_45 : a_look 135 45 = some (.aload_n 0, 0, 0, 0) := by decide +kernel
theorem L_135_46 : a_look 135 46 = some (.invokevirtual 127, 127, 1, 1507) := by decide +kernel
theorem L_135_49 : a_look 135 49 = some (.ireturn, 0, 0, 0) := by decide +kernel
