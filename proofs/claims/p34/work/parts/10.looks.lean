/-! code rows of the leaves -/
theorem L_93_0 : a_look 93 0 = some (.iload_n 0, 0, 0, 0) := by decide +kernel
theorem L_93_1 : a_look 93 1 = some (.iload_n 1, 0, 0, 0) := by decide +kernel
theorem L_93_2 : a_look 93 2 = some (.if_icmp .lt 8, 10, 0, 0) := by decide +kernel
theorem L_93_5 : a_look 93 5 = some (.iload_n 0, 0, 0, 0) := by decide +kernel
theorem L_93_6 : a_look 93 6 = some (.iload_n 2, 0, 0, 0) := by decide +kernel
theorem L_93_7 : a_look 93 7 = some (.if_icmp .le 7, 14, 0, 0) := by decide +kernel
theorem L_93_10 : a_look 93 10 = some (.iconst 1, 0, 0, 0) := by decide +kernel
theorem L_93_11 : a_look 93 11 = some (.goto 4, 15, 0, 0) := by decide +kernel
theorem L_93_14 : a_look 93 14 = some (.iconst 0, 0, 0, 0) := by decide +kernel
theorem L_93_15 : a_look 93 15 = some (.ireturn, 0, 0, 0) := by decide +kernel
theorem L_94_0 : a_look 94 0 = some (.iload_n 0, 0, 0, 0) := by decide +kernel
theorem L_94_1 : a_look 94 1 = some (.iconst 0, 0, 0, 0) := by decide +kernel
theorem L_94_2 : a_look 94 2 = some (.bipush 99, 0, 0, 0) := by decide +kernel
theorem L_94_4 : a_look 94 4 = some (.invokestatic 122, 93, 3, 420) := by decide +kernel
theorem L_94_7 : a_look 94 7 = some (.ifCond .ne 13, 20, 0, 0) := by decide +kernel
theorem L_94_10 : a_look 94 10 = some (.iload_n 1, 0, 0, 0) := by decide +kernel
theorem L_94_11 : a_look 94 11 = some (.iconst 0, 0, 0, 0) := by decide +kernel
theorem L_94_12 : a_look 94 12 = some (.bipush 99, 0, 0, 0) := by decide +kernel
theorem L_94_14 : a_look 94 14 = some (.invokestatic 122, 93, 3, 420) := by decide +kernel
theorem L_94_17 : a_look 94 17 = some (.ifCond .eq 7, 24, 0, 0) := by decide +kernel
theorem L_94_20 : a_look 94 20 = some (.iconst 1, 0, 0, 0) := by decide +kernel
theorem L_94_21 : a_look 94 21 = some (.goto 4, 25, 0, 0) := by decide +kernel
theorem L_94_24 : a_look 94 24 = some (.iconst 0, 0, 0, 0) := by decide +kernel
theorem L_94_25 : a_look 94 25 = some (.ireturn, 0, 0, 0) := by decide +kernel
theorem L_95_0 : a_look 95 0 = some (.iload_n 0, 0, 0, 0) := by decide +kernel
theorem L_95_1 : a_look 95 1 = some (.iload_n 0, 0, 0, 0) := by decide +kernel
theorem L_95_2 : a_look 95 2 = some (.imul, 0, 0, 0) := by decide +kernel
theorem L_95_3 : a_look 95 3 = some (.iload_n 1, 0, 0, 0) := by decide +kernel
theorem L_95_4 : a_look 95 4 = some (.iload_n 1, 0, 0, 0) := by decide +kernel
theorem L_95_5 : a_look 95 5 = some (.imul, 0, 0, 0) := by decide +kernel
theorem L_95_6 : a_look 95 6 = some (.iadd, 0, 0, 0) := by decide +kernel
theorem L_95_7 : a_look 95 7 = some (.iload_n 2, 0, 0, 0) := by decide +kernel
theorem L_95_8 : a_look 95 8 = some (.iload_n 2, 0, 0, 0) := by decide +kernel
theorem L_95_9 : a_look 95 9 = some (.imul, 0, 0, 0) := by decide +kernel
theorem L_95_10 : a_look 95 10 = some (.if_icmp .gt 7, 17, 0, 0) := by decide +kernel
theorem L_95_13 : a_look 95 13 = some (.iconst 1, 0, 0, 0) := by decide +kernel
theorem L_95_14 : a_look 95 14 = some (.goto 4, 18, 0, 0) := by decide +kernel
theorem L_95_17 : a_look 95 17 = some (.iconst 0, 0, 0, 0) := by decide +kernel
theorem L_95_18 : a_look 95 18 = some (.ireturn, 0, 0, 0) := by decide +kernel
theorem L_9_0 : a_look 9 0 = some (.iload_n 1, 0, 0, 0) := by decide +kernel
theorem L_9_1 : a_look 9 1 = some (.ifCond .lt 15, 16, 0, 0) := by decide +kernel
theorem L_9_4 : a_look 9 4 = some (.iload_n 1, 0, 0, 0) := by decide +kernel
theorem L_9_5 : a_look 9 5 = some (.aload_n 0, 0, 0, 0) := by decide +kernel
theorem L_9_6 : a_look 9 6 = some (.getfield 42, 1, 10, 611) := by decide +kernel
theorem L_9_9 : a_look 9 9 = some (.if_icmp .ge 7, 16, 0, 0) := by decide +kernel
theorem L_9_12 : a_look 9 12 = some (.iconst 1, 0, 0, 0) := by decide +kernel
theorem L_9_13 : a_look 9 13 = some (.goto 4, 17, 0, 0) := by decide +kernel
theorem L_9_16 : a_look 9 16 = some (.iconst 0, 0, 0, 0) := by decide +kernel
theorem L_9_17 : a_look 9 17 = some (.ireturn, 0, 0, 0) := by decide +kernel
theorem L_23_0 : a_look 23 0 = some (.iload_n 1, 0, 0, 0) := by decide +kernel
theorem L_23_1 : a_look 23 1 = some (.ifCond .lt 15, 16, 0, 0) := by decide +kernel
theorem L_23_4 : a_look 23 4 = some (.iload_n 1, 0, 0, 0) := by decide +kernel
theorem L_23_5 : a_look 23 5 = some (.aload_n 0, 0, 0, 0) := by decide +kernel
theorem L_23_6 : a_look 23 6 = some (.getfield 33, 2, 7, 606) := by decide +kernel
theorem L_23_9 : a_look 23 9 = some (.if_icmp .ge 7, 16, 0, 0) := by decide +kernel
theorem L_23_12 : a_look 23 12 = some (.iconst 1, 0, 0, 0) := by decide +kernel
theorem L_23_13 : a_look 23 13 = some (.goto 4, 17, 0, 0) := by decide +kernel
theorem L_23_16 : a_look 23 16 = some (.iconst 0, 0, 0, 0) := by decide +kernel
theorem L_23_17 : a_look 23 17 = some (.ireturn, 0, 0, 0) := by decide +kernel
theorem L_56_0 : a_look 56 0 = some (.iload_n 1, 0, 0, 0) := by decide +kernel
theorem L_56_1 : a_look 56 1 = some (.ifCond .lt 15, 16, 0, 0) := by decide +kernel
theorem L_56_4 : a_look 56 4 = some (.iload_n 1, 0, 0, 0) := by decide +kernel
theorem L_56_5 : a_look 56 5 = some (.aload_n 0, 0, 0, 0) := by decide +kernel
theorem L_56_6 : a_look 56 6 = some (.getfield 27, 5, 5, 419) := by decide +kernel
theorem L_56_9 : a_look 56 9 = some (.if_icmp .ge 7, 16, 0, 0) := by decide +kernel
theorem L_56_12 : a_look 56 12 = some (.iconst 1, 0, 0, 0) := by decide +kernel
theorem L_56_13 : a_look 56 13 = some (.goto 4, 17, 0, 0) := by decide +kernel
theorem L_56_16 : a_look 56 16 = some (.iconst 0, 0, 0, 0) := by decide +kernel
theorem L_56_17 : a_look 56 17 = some (.ireturn, 0, 0, 0) := by decide +kernel
theorem L_10_0 : a_look 10 0 = some (.aload_n 0, 0, 0, 0) := by decide +kernel
theorem L_10_1 : a_look 10 1 = some (.getfield 21, 1, 3, 220) := by decide +kernel
theorem L_10_4 : a_look 10 4 = some (.iload_n 1, 0, 0, 0) := by decide +kernel
theorem L_10_5 : a_look 10 5 = some (.iaload, 0, 0, 0) := by decide +kernel
theorem L_10_6 : a_look 10 6 = some (.iconst (-1), 0, 0, 0) := by decide +kernel
theorem L_10_7 : a_look 10 7 = some (.if_icmp .eq 7, 14, 0, 0) := by decide +kernel
theorem L_10_10 : a_look 10 10 = some (.iconst 1, 0, 0, 0) := by decide +kernel
theorem L_10_11 : a_look 10 11 = some (.goto 4, 15, 0, 0) := by decide +kernel
theorem L_10_14 : a_look 10 14 = some (.iconst 0, 0, 0, 0) := by decide +kernel
theorem L_10_15 : a_look 10 15 = some (.ireturn, 0, 0, 0) := by decide +kernel
theorem L_11_0 : a_look 11 0 = some (.aload_n 0, 0, 0, 0) := by decide +kernel
theorem L_11_1 : a_look 11 1 = some (.getfield 30, 1, 6, 223) := by decide +kernel
theorem L_11_4 : a_look 11 4 = some (.iload_n 1, 0, 0, 0) := by decide +kernel
theorem L_11_5 : a_look 11 5 = some (.iaload, 0, 0, 0) := by decide +kernel
theorem L_11_6 : a_look 11 6 = some (.iconst (-1), 0, 0, 0) := by decide +kernel
theorem L_11_7 : a_look 11 7 = some (.if_icmp .eq 7, 14, 0, 0) := by decide +kernel
theorem L_11_10 : a_look 11 10 = some (.iconst 1, 0, 0, 0) := by decide +kernel
theorem L_11_11 : a_look 11 11 = some (.goto 4, 15, 0, 0) := by decide +kernel
theorem L_11_14 : a_look 11 14 = some (.iconst 0, 0, 0, 0) := by decide +kernel
theorem L_11_15 : a_look 11 15 = some (.ireturn, 0, 0, 0) := by decide +kernel
theorem L_12_0 : a_look 12 0 = some (.aload_n 0, 0, 0, 0) := by decide +kernel
theorem L_12_1 : a_look 12 1 = some (.getfield 21, 1, 3, 220) := by decide +kernel
theorem L_12_4 : a_look 12 4 = some (.iload_n 1, 0, 0, 0) := by decide +kernel
theorem L_12_5 : a_look 12 5 = some (.iload_n 2, 0, 0, 0) := by decide +kernel
theorem L_12_6 : a_look 12 6 = some (.iastore, 0, 0, 0) := by decide +kernel
theorem L_12_7 : a_look 12 7 = some (.aload_n 0, 0, 0, 0) := by decide +kernel
theorem L_12_8 : a_look 12 8 = some (.getfield 24, 1, 4, 221) := by decide +kernel
theorem L_12_11 : a_look 12 11 = some (.iload_n 1, 0, 0, 0) := by decide +kernel
theorem L_12_12 : a_look 12 12 = some (.iload_n 3, 0, 0, 0) := by decide +kernel
theorem L_12_13 : a_look 12 13 = some (.iastore, 0, 0, 0) := by decide +kernel
theorem L_12_14 : a_look 12 14 = some (.aload_n 0, 0, 0, 0) := by decide +kernel
theorem L_12_15 : a_look 12 15 = some (.getfield 30, 1, 6, 223) := by decide +kernel
theorem L_12_18 : a_look 12 18 = some (.iload_n 1, 0, 0, 0) := by decide +kernel
theorem L_12_19 : a_look 12 19 = some (.iconst (-1), 0, 0, 0) := by decide +kernel
theorem L_12_20 : a_look 12 20 = some (.iastore, 0, 0, 0) := by decide +kernel
theorem L_12_21 : a_look 12 21 = some (.return_, 0, 0, 0) := by decide +kernel
theorem L_13_0 : a_look 13 0 = some (.aload_n 0, 0, 0, 0) := by decide +kernel
theorem L_13_1 : a_look 13 1 = some (.getfield 21, 1, 3, 220) := by decide +kernel
theorem L_13_4 : a_look 13 4 = some (.iload_n 1, 0, 0, 0) := by decide +kernel
theorem L_13_5 : a_look 13 5 = some (.iconst (-1), 0, 0, 0) := by decide +kernel
theorem L_13_6 : a_look 13 6 = some (.iastore, 0, 0, 0) := by decide +kernel
theorem L_13_7 : a_look 13 7 = some (.aload_n 0, 0, 0, 0) := by decide +kernel
theorem L_13_8 : a_look 13 8 = some (.getfield 30, 1, 6, 223) := by decide +kernel
theorem L_13_11 : a_look 13 11 = some (.iload_n 1, 0, 0, 0) := by decide +kernel
theorem L_13_12 : a_look 13 12 = some (.iconst (-1), 0, 0, 0) := by decide +kernel
theorem L_13_13 : a_look 13 13 = some (.iastore, 0, 0, 0) := by decide +kernel
theorem L_13_14 : a_look 13 14 = some (.return_, 0, 0, 0) := by decide +kernel
theorem L_24_0 : a_look 24 0 = some (.aload_n 0, 0, 0, 0) := by decide +kernel
theorem L_24_1 : a_look 24 1 = some (.getfield 30, 2, 6, 213) := by decide +kernel
theorem L_24_4 : a_look 24 4 = some (.iload_n 1, 0, 0, 0) := by decide +kernel
theorem L_24_5 : a_look 24 5 = some (.iaload, 0, 0, 0) := by decide +kernel
theorem L_24_6 : a_look 24 6 = some (.ifCond .ne 27, 33, 0, 0) := by decide +kernel
theorem L_24_9 : a_look 24 9 = some (.aload_n 0, 0, 0, 0) := by decide +kernel
theorem L_24_10 : a_look 24 10 = some (.getfield 24, 2, 4, 211) := by decide +kernel
theorem L_24_13 : a_look 24 13 = some (.iload_n 1, 0, 0, 0) := by decide +kernel
theorem L_24_14 : a_look 24 14 = some (.iaload, 0, 0, 0) := by decide +kernel
theorem L_24_15 : a_look 24 15 = some (.iload_n 2, 0, 0, 0) := by decide +kernel
theorem L_24_16 : a_look 24 16 = some (.if_icmp .gt 17, 33, 0, 0) := by decide +kernel
theorem L_24_19 : a_look 24 19 = some (.iload_n 2, 0, 0, 0) := by decide +kernel
theorem L_24_20 : a_look 24 20 = some (.aload_n 0, 0, 0, 0) := by decide +kernel
theorem L_24_21 : a_look 24 21 = some (.getfield 27, 2, 5, 212) := by decide +kernel
theorem L_24_24 : a_look 24 24 = some (.iload_n 1, 0, 0, 0) := by decide +kernel
theorem L_24_25 : a_look 24 25 = some (.iaload, 0, 0, 0) := by decide +kernel
theorem L_24_26 : a_look 24 26 = some (.if_icmp .ge 7, 33, 0, 0) := by decide +kernel
theorem L_24_29 : a_look 24 29 = some (.iconst 1, 0, 0, 0) := by decide +kernel
theorem L_24_30 : a_look 24 30 = some (.goto 4, 34, 0, 0) := by decide +kernel
theorem L_24_33 : a_look 24 33 = some (.iconst 0, 0, 0, 0) := by decide +kernel
theorem L_24_34 : a_look 24 34 = some (.ireturn, 0, 0, 0) := by decide +kernel
theorem L_45_0 : a_look 45 0 = some (.aload_n 0, 0, 0, 0) := by decide +kernel
theorem L_45_1 : a_look 45 1 = some (.getfield 53, 4, 4, 510) := by decide +kernel
theorem L_45_4 : a_look 45 4 = some (.iload_n 1, 0, 0, 0) := by decide +kernel
theorem L_45_5 : a_look 45 5 = some (.iadd, 0, 0, 0) := by decide +kernel
theorem L_45_6 : a_look 45 6 = some (.aload_n 0, 0, 0, 0) := by decide +kernel
theorem L_45_7 : a_look 45 7 = some (.getfield 32, 4, 3, 119) := by decide +kernel
theorem L_45_10 : a_look 45 10 = some (.iconst 1, 0, 0, 0) := by decide +kernel
theorem L_45_11 : a_look 45 11 = some (.iaload, 0, 0, 0) := by decide +kernel
theorem L_45_12 : a_look 45 12 = some (.irem, 0, 0, 0) := by decide +kernel
theorem L_45_13 : a_look 45 13 = some (.ifCond .ne 7, 20, 0, 0) := by decide +kernel
theorem L_45_16 : a_look 45 16 = some (.iconst 1, 0, 0, 0) := by decide +kernel
theorem L_45_17 : a_look 45 17 = some (.goto 4, 21, 0, 0) := by decide +kernel
theorem L_45_20 : a_look 45 20 = some (.iconst 0, 0, 0, 0) := by decide +kernel
theorem L_45_21 : a_look 45 21 = some (.ireturn, 0, 0, 0) := by decide +kernel
theorem L_98_0 : a_look 98 0 = some (.iload_n 0, 0, 0, 0) := by decide +kernel
theorem L_98_1 : a_look 98 1 = some (.ldc 8, 2147483647, 0, 4) := by decide +kernel
theorem L_98_3 : a_look 98 3 = some (.iand, 0, 0, 0) := by decide +kernel
theorem L_98_4 : a_look 98 4 = some (.iload_n 1, 0, 0, 0) := by decide +kernel
theorem L_98_5 : a_look 98 5 = some (.irem, 0, 0, 0) := by decide +kernel
theorem L_98_6 : a_look 98 6 = some (.ireturn, 0, 0, 0) := by decide +kernel
theorem L_99_0 : a_look 99 0 = some (.iload_n 0, 0, 0, 0) := by decide +kernel
theorem L_99_1 : a_look 99 1 = some (.iconst 2, 0, 0, 0) := by decide +kernel
theorem L_99_2 : a_look 99 2 = some (.if_icmp .ge 11, 13, 0, 0) := by decide +kernel
theorem L_99_5 : a_look 99 5 = some (.iconst 1, 0, 0, 0) := by decide +kernel
theorem L_99_6 : a_look 99 6 = some (.iconst 2, 0, 0, 0) := by decide +kernel
theorem L_99_7 : a_look 99 7 = some (.iload_n 0, 0, 0, 0) := by decide +kernel
theorem L_99_8 : a_look 99 8 = some (.imul, 0, 0, 0) := by decide +kernel
theorem L_99_9 : a_look 99 9 = some (.iadd, 0, 0, 0) := by decide +kernel
theorem L_99_10 : a_look 99 10 = some (.goto 15, 25, 0, 0) := by decide +kernel
theorem L_99_13 : a_look 99 13 = some (.iload_n 0, 0, 0, 0) := by decide +kernel
theorem L_99_14 : a_look 99 14 = some (.iconst 2, 0, 0, 0) := by decide +kernel
theorem L_99_15 : a_look 99 15 = some (.if_icmp .ne 8, 23, 0, 0) := by decide +kernel
theorem L_99_18 : a_look 99 18 = some (.bipush 6, 0, 0, 0) := by decide +kernel
theorem L_99_20 : a_look 99 20 = some (.goto 5, 25, 0, 0) := by decide +kernel
theorem L_99_23 : a_look 99 23 = some (.bipush 10, 0, 0, 0) := by decide +kernel
theorem L_99_25 : a_look 99 25 = some (.ireturn, 0, 0, 0) := by decide +kernel
theorem L_100_0 : a_look 100 0 = some (.iload_n 0, 0, 0, 0) := by decide +kernel
theorem L_100_1 : a_look 100 1 = some (.iconst 3, 0, 0, 0) := by decide +kernel
theorem L_100_2 : a_look 100 2 = some (.if_icmp .ge 13, 15, 0, 0) := by decide +kernel
theorem L_100_5 : a_look 100 5 = some (.iload_n 0, 0, 0, 0) := by decide +kernel
theorem L_100_6 : a_look 100 6 = some (.iconst 2, 0, 0, 0) := by decide +kernel
theorem L_100_7 : a_look 100 7 = some (.iadd, 0, 0, 0) := by decide +kernel
theorem L_100_8 : a_look 100 8 = some (.iload_n 0, 0, 0, 0) := by decide +kernel
theorem L_100_9 : a_look 100 9 = some (.iconst 2, 0, 0, 0) := by decide +kernel
theorem L_100_10 : a_look 100 10 = some (.iadd, 0, 0, 0) := by decide +kernel
theorem L_100_11 : a_look 100 11 = some (.imul, 0, 0, 0) := by decide +kernel
theorem L_100_12 : a_look 100 12 = some (.goto 10, 22, 0, 0) := by decide +kernel
theorem L_100_15 : a_look 100 15 = some (.bipush 14, 0, 0, 0) := by decide +kernel
theorem L_100_17 : a_look 100 17 = some (.iload_n 0, 0, 0, 0) := by decide +kernel
theorem L_100_18 : a_look 100 18 = some (.imul, 0, 0, 0) := by decide +kernel
theorem L_100_19 : a_look 100 19 = some (.bipush 16, 0, 0, 0) := by decide +kernel
theorem L_100_21 : a_look 100 21 = some (.isub, 0, 0, 0) := by decide +kernel
theorem L_100_22 : a_look 100 22 = some (.ireturn, 0, 0, 0) := by decide +kernel
theorem L_101_0 : a_look 101 0 = some (.iload_n 0, 0, 0, 0) := by decide +kernel
theorem L_101_1 : a_look 101 1 = some (.iload_n 2, 0, 0, 0) := by decide +kernel
theorem L_101_2 : a_look 101 2 = some (.if_icmp .le 9, 11, 0, 0) := by decide +kernel
theorem L_101_5 : a_look 101 5 = some (.iload_n 0, 0, 0, 0) := by decide +kernel
theorem L_101_6 : a_look 101 6 = some (.iload_n 2, 0, 0, 0) := by decide +kernel
theorem L_101_7 : a_look 101 7 = some (.isub, 0, 0, 0) := by decide +kernel
theorem L_101_8 : a_look 101 8 = some (.goto 6, 14, 0, 0) := by decide +kernel
theorem L_101_11 : a_look 101 11 = some (.iload_n 2, 0, 0, 0) := by decide +kernel
theorem L_101_12 : a_look 101 12 = some (.iload_n 0, 0, 0, 0) := by decide +kernel
theorem L_101_13 : a_look 101 13 = some (.isub, 0, 0, 0) := by decide +kernel
theorem L_101_14 : a_look 101 14 = some (.istore 5, 0, 0, 0) := by decide +kernel
theorem L_101_16 : a_look 101 16 = some (.iload_n 1, 0, 0, 0) := by decide +kernel
theorem L_101_17 : a_look 101 17 = some (.iload_n 3, 0, 0, 0) := by decide +kernel
theorem L_101_18 : a_look 101 18 = some (.if_icmp .le 9, 27, 0, 0) := by decide +kernel
theorem L_101_21 : a_look 101 21 = some (.iload_n 1, 0, 0, 0) := by decide +kernel
theorem L_101_22 : a_look 101 22 = some (.iload_n 3, 0, 0, 0) := by decide +kernel
theorem L_101_23 : a_look 101 23 = some (.isub, 0, 0, 0) := by decide +kernel
theorem L_101_24 : a_look 101 24 = some (.goto 6, 30, 0, 0) := by decide +kernel
theorem L_101_27 : a_look 101 27 = some (.iload_n 3, 0, 0, 0) := by decide +kernel
theorem L_101_28 : a_look 101 28 = some (.iload_n 1, 0, 0, 0) := by decide +kernel
theorem L_101_29 : a_look 101 29 = some (.isub, 0, 0, 0) := by decide +kernel
theorem L_101_30 : a_look 101 30 = some (.istore 6, 0, 0, 0) := by decide +kernel
theorem L_101_32 : a_look 101 32 = some (.iload 5, 0, 0, 0) := by decide +kernel
theorem L_101_34 : a_look 101 34 = some (.iload 5, 0, 0, 0) := by decide +kernel
theorem L_101_36 : a_look 101 36 = some (.imul, 0, 0, 0) := by decide +kernel
theorem L_101_37 : a_look 101 37 = some (.iload 6, 0, 0, 0) := by decide +kernel
theorem L_101_39 : a_look 101 39 = some (.iload 6, 0, 0, 0) := by decide +kernel
theorem L_101_41 : a_look 101 41 = some (.imul, 0, 0, 0) := by decide +kernel
theorem L_101_42 : a_look 101 42 = some (.iadd, 0, 0, 0) := by decide +kernel
theorem L_101_43 : a_look 101 43 = some (.iload 4, 0, 0, 0) := by decide +kernel
theorem L_101_45 : a_look 101 45 = some (.iload 4, 0, 0, 0) := by decide +kernel
theorem L_101_47 : a_look 101 47 = some (.imul, 0, 0, 0) := by decide +kernel
theorem L_101_48 : a_look 101 48 = some (.if_icmp .gt 7, 55, 0, 0) := by decide +kernel
theorem L_101_51 : a_look 101 51 = some (.iconst 1, 0, 0, 0) := by decide +kernel
theorem L_101_52 : a_look 101 52 = some (.goto 4, 56, 0, 0) := by decide +kernel
theorem L_101_55 : a_look 101 55 = some (.iconst 0, 0, 0, 0) := by decide +kernel
theorem L_101_56 : a_look 101 56 = some (.ireturn, 0, 0, 0) := by decide +kernel
