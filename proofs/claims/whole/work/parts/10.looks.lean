/-! code rows of the leaves -/
theorem L_93_0 : a_look 93 0 = some (.iload_n 0, 0, 0, 0) := by decide +kernel
theorem L_93_1 : a_look 93 1 = some (.iload_n 1, 0, 0, 0) := by decide +kernel
theorem L_93_2 : a_look 93 2 = some (.if_icmp .lt 8, 10, 0, 0) := by decide +kernel
theorem L_93_5 : a_look 93 5 = some (.iload_n 0, 0, 0, 0) := by decide +kernel
theorem L_93_6 : a_look 93 6 = some (.iload_n 2, 0, 0, 0) := by decide +kernel
theorem L_93_7 : a_look 93 7 = some (.if_icmp .le 7, 14, 0, 0) := by decide +kernel
theorem L_93_10 : a_look 93 10 = some (.iconst 1, 0, 0, 0) := by decide +kernel
theorem L_93_11 : a_look 93 11 = some (.goto 4, 15, 0, 0) := by decide +kernel
theorem L_93_14 : a_look 93 14 = some (.iconst 0, 0, 0, 0) := by decide +kernel
theorem L_93_15 : a_look 93 15 = some (.ireturn, 0, 0, 0) := by decide +kernel
theorem L_94_0 : a_look 94 0 = some (.iload_n 0, 0, 0, 0) := by decide +kernel
theorem L_94_1 : a_look 94 1 = some (.iconst 0, 0, 0, 0) := by decide +kernel
theorem L_94_2 : a_look 94 2 = some (.bipush 99, 0, 0, 0) := by decide +kernel
theorem L_94_4 : a_look 94 4 = some (.invokestatic 122, 93, 3, 608) := by decide +kernel
theorem L_94_7 : a_look 94 7 = some (.ifCond .ne 13, 20, 0, 0) := by decide +kernel
theorem L_94_10 : a_look 94 10 = some (.iload_n 1, 0, 0, 0) := by decide +kernel
theorem L_94_11 : a_look 94 11 = some (.iconst 0, 0, 0, 0) := by decide +kernel
theorem L_94_12 : a_look 94 12 = some (.bipush 99, 0, 0, 0) := by decide +kernel
theorem L_94_14 : a_look 94 14 = some (.invokestatic 122, 93, 3, 608) := by decide +kernel
theorem L_94_17 : a_look 94 17 = some (.ifCond .eq 7, 24, 0, 0) := by decide +kernel
theorem L_94_20 : a_look 94 20 = some (.iconst 1, 0, 0, 0) := by decide +kernel
theorem L_94_21 : a_look 94 21 = some (.goto 4, 25, 0, 0) := by decide +kernel
theorem L_94_24 : a_look 94 24 = some (.iconst 0, 0, 0, 0) := by decide +kernel
theorem L_94_25 : a_look 94 25 = some (.ireturn, 0, 0, 0) := by decide +kernel
theorem L_95_0 : a_look 95 0 = some (.iload_n 0, 0, 0, 0) := by decide +kernel
theorem L_95_1 : a_look 95 1 = some (.iload_n 0, 0, 0, 0) := by decide +kernel
theorem L_95_2 : a_look 95 2 = some (.imul, 0, 0, 0) := by decide +kernel
theorem L_95_3 : a_look 95 3 = some (.iload_n 1, 0, 0, 0) := by decide +kernel
theorem L_95_4 : a_look 95 4 = some (.iload_n 1, 0, 0, 0) := by decide +kernel
theorem L_95_5 : a_look 95 5 = some (.imul, 0, 0, 0) := by decide +kernel
theorem L_95_6 : a_look 95 6 = some (.iadd, 0, 0, 0) := by decide +kernel
theorem L_95_7 : a_look 95 7 = some (.iload_n 2, 0, 0, 0) := by decide +kernel
theorem L_95_8 : a_look 95 8 = some (.iload_n 2, 0, 0, 0) := by decide +kernel
theorem L_95_9 : a_look 95 9 = some (.imul, 0, 0, 0) := by decide +kernel
theorem L_95_10 : a_look 95 10 = some (.if_icmp .gt 7, 17, 0, 0) := by decide +kernel
theorem L_95_13 : a_look 95 13 = some (.iconst 1, 0, 0, 0) := by decide +kernel
theorem L_95_14 : a_look 95 14 = some (.goto 4, 18, 0, 0) := by decide +kernel
theorem L_95_17 : a_look 95 17 = some (.iconst 0, 0, 0, 0) := by decide +kernel
theorem L_95_18 : a_look 95 18 = some (.ireturn, 0, 0, 0) := by decide +kernel
theorem L_97_0 : a_look 97 0 = some (.iload_n 0, 0, 0, 0) := by decide +kernel
theorem L_97_1 : a_look 97 1 = some (.iload_n 1, 0, 0, 0) := by decide +kernel
theorem L_97_2 : a_look 97 2 = some (.if_icmp .lt 12, 14, 0, 0) := by decide +kernel
theorem L_97_5 : a_look 97 5 = some (.iload_n 0, 0, 0, 0) := by decide +kernel
theorem L_97_6 : a_look 97 6 = some (.iload_n 2, 0, 0, 0) := by decide +kernel
theorem L_97_7 : a_look 97 7 = some (.if_icmp .gt 7, 14, 0, 0) := by decide +kernel
theorem L_97_10 : a_look 97 10 = some (.iconst 1, 0, 0, 0) := by decide +kernel
theorem L_97_11 : a_look 97 11 = some (.goto 4, 15, 0, 0) := by decide +kernel
theorem L_97_14 : a_look 97 14 = some (.iconst 0, 0, 0, 0) := by decide +kernel
theorem L_97_15 : a_look 97 15 = some (.ireturn, 0, 0, 0) := by decide +kernel
theorem L_9_0 : a_look 9 0 = some (.iload_n 1, 0, 0, 0) := by decide +kernel
theorem L_9_1 : a_look 9 1 = some (.ifCond .lt 15, 16, 0, 0) := by decide +kernel
theorem L_9_4 : a_look 9 4 = some (.iload_n 1, 0, 0, 0) := by decide +kernel
theorem L_9_5 : a_look 9 5 = some (.aload_n 0, 0, 0, 0) := by decide +kernel
theorem L_9_6 : a_look 9 6 = some (.getfield 42, 1, 10, 519) := by decide +kernel
theorem L_9_9 : a_look 9 9 = some (.if_icmp .ge 7, 16, 0, 0) := by decide +kernel
theorem L_9_12 : a_look 9 12 = some (.iconst 1, 0, 0, 0) := by decide +kernel
theorem L_9_13 : a_look 9 13 = some (.goto 4, 17, 0, 0) := by decide +kernel
theorem L_9_16 : a_look 9 16 = some (.iconst 0, 0, 0, 0) := by decide +kernel
theorem L_9_17 : a_look 9 17 = some (.ireturn, 0, 0, 0) := by decide +kernel
theorem L_23_0 : a_look 23 0 = some (.iload_n 1, 0, 0, 0) := by decide +kernel
theorem L_23_1 : a_look 23 1 = some (.ifCond .lt 15, 16, 0, 0) := by decide +kernel
theorem L_23_4 : a_look 23 4 = some (.iload_n 1, 0, 0, 0) := by decide +kernel
theorem L_23_5 : a_look 23 5 = some (.aload_n 0, 0, 0, 0) := by decide +kernel
theorem L_23_6 : a_look 23 6 = some (.getfield 33, 2, 7, 514) := by decide +kernel
theorem L_23_9 : a_look 23 9 = some (.if_icmp .ge 7, 16, 0, 0) := by decide +kernel
theorem L_23_12 : a_look 23 12 = some (.iconst 1, 0, 0, 0) := by decide +kernel
theorem L_23_13 : a_look 23 13 = some (.goto 4, 17, 0, 0) := by decide +kernel
theorem L_23_16 : a_look 23 16 = some (.iconst 0, 0, 0, 0) := by decide +kernel
theorem L_23_17 : a_look 23 17 = some (.ireturn, 0, 0, 0) := by decide +kernel
theorem L_56_0 : a_look 56 0 = some (.iload_n 1, 0, 0, 0) := by decide +kernel
theorem L_56_1 : a_look 56 1 = some (.ifCond .lt 15, 16, 0, 0) := by decide +kernel
theorem L_56_4 : a_look 56 4 = some (.iload_n 1, 0, 0, 0) := by decide +kernel
theorem L_56_5 : a_look 56 5 = some (.aload_n 0, 0, 0, 0) := by decide +kernel
theorem L_56_6 : a_look 56 6 = some (.getfield 27, 5, 5, 423) := by decide +kernel
theorem L_56_9 : a_look 56 9 = some (.if_icmp .ge 7, 16, 0, 0) := by decide +kernel
theorem L_56_12 : a_look 56 12 = some (.iconst 1, 0, 0, 0) := by decide +kernel
theorem L_56_13 : a_look 56 13 = some (.goto 4, 17, 0, 0) := by decide +kernel
theorem L_56_16 : a_look 56 16 = some (.iconst 0, 0, 0, 0) := by decide +kernel
theorem L_56_17 : a_look 56 17 = some (.ireturn, 0, 0, 0) := by decide +kernel
theorem L_10_0 : a_look 10 0 = some (.aload_n 0, 0, 0, 0) := by decide +kernel
theorem L_10_1 : a_look 10 1 = some (.getfield 21, 1, 3, 222) := by decide +kernel
theorem L_10_4 : a_look 10 4 = some (.iload_n 1, 0, 0, 0) := by decide +kernel
theorem L_10_5 : a_look 10 5 = some (.iaload, 0, 0, 0) := by decide +kernel
theorem L_10_6 : a_look 10 6 = some (.iconst (-1), 0, 0, 0) := by decide +kernel
theorem L_10_7 : a_look 10 7 = some (.if_icmp .eq 7, 14, 0, 0) := by decide +kernel
theorem L_10_10 : a_look 10 10 = some (.iconst 1, 0, 0, 0) := by decide +kernel
theorem L_10_11 : a_look 10 11 = some (.goto 4, 15, 0, 0) := by decide +kernel
theorem L_10_14 : a_look 10 14 = some (.iconst 0, 0, 0, 0) := by decide +kernel
theorem L_10_15 : a_look 10 15 = some (.ireturn, 0, 0, 0) := by decide +kernel
theorem L_11_0 : a_look 11 0 = some (.aload_n 0, 0, 0, 0) := by decide +kernel
theorem L_11_1 : a_look 11 1 = some (.getfield 30, 1, 6, 301) := by decide +kernel
theorem L_11_4 : a_look 11 4 = some (.iload_n 1, 0, 0, 0) := by decide +kernel
theorem L_11_5 : a_look 11 5 = some (.iaload, 0, 0, 0) := by decide +kernel
theorem L_11_6 : a_look 11 6 = some (.iconst (-1), 0, 0, 0) := by decide +kernel
theorem L_11_7 : a_look 11 7 = some (.if_icmp .eq 7, 14, 0, 0) := by decide +kernel
theorem L_11_10 : a_look 11 10 = some (.iconst 1, 0, 0, 0) := by decide +kernel
theorem L_11_11 : a_look 11 11 = some (.goto 4, 15, 0, 0) := by decide +kernel
theorem L_11_14 : a_look 11 14 = some (.iconst 0, 0, 0, 0) := by decide +kernel
theorem L_11_15 : a_look 11 15 = some (.ireturn, 0, 0, 0) := by decide +kernel
theorem L_12_0 : a_look 12 0 = some (.aload_n 0, 0, 0, 0) := by decide +kernel
theorem L_12_1 : a_look 12 1 = some (.getfield 21, 1, 3, 222) := by decide +kernel
theorem L_12_4 : a_look 12 4 = some (.iload_n 1, 0, 0, 0) := by decide +kernel
theorem L_12_5 : a_look 12 5 = some (.iload_n 2, 0, 0, 0) := by decide +kernel
theorem L_12_6 : a_look 12 6 = some (.iastore, 0, 0, 0) := by decide +kernel
theorem L_12_7 : a_look 12 7 = some (.aload_n 0, 0, 0, 0) := by decide +kernel
theorem L_12_8 : a_look 12 8 = some (.getfield 24, 1, 4, 223) := by decide +kernel
theorem L_12_11 : a_look 12 11 = some (.iload_n 1, 0, 0, 0) := by decide +kernel
theorem L_12_12 : a_look 12 12 = some (.iload_n 3, 0, 0, 0) := by decide +kernel
theorem L_12_13 : a_look 12 13 = some (.iastore, 0, 0, 0) := by decide +kernel
theorem L_12_14 : a_look 12 14 = some (.aload_n 0, 0, 0, 0) := by decide +kernel
theorem L_12_15 : a_look 12 15 = some (.getfield 30, 1, 6, 301) := by decide +kernel
theorem L_12_18 : a_look 12 18 = some (.iload_n 1, 0, 0, 0) := by decide +kernel
theorem L_12_19 : a_look 12 19 = some (.iconst (-1), 0, 0, 0) := by decide +kernel
theorem L_12_20 : a_look 12 20 = some (.iastore, 0, 0, 0) := by decide +kernel
theorem L_12_21 : a_look 12 21 = some (.return_, 0, 0, 0) := by decide +kernel
theorem L_13_0 : a_look 13 0 = some (.aload_n 0, 0, 0, 0) := by decide +kernel
theorem L_13_1 : a_look 13 1 = some (.getfield 21, 1, 3, 222) := by decide +kernel
theorem L_13_4 : a_look 13 4 = some (.iload_n 1, 0, 0, 0) := by decide +kernel
theorem L_13_5 : a_look 13 5 = some (.iconst (-1), 0, 0, 0) := by decide +kernel
theorem L_13_6 : a_look 13 6 = some (.iastore, 0, 0, 0) := by decide +kernel
theorem L_13_7 : a_look 13 7 = some (.aload_n 0, 0, 0, 0) := by decide +kernel
theorem L_13_8 : a_look 13 8 = some (.getfield 30, 1, 6, 301) := by decide +kernel
theorem L_13_11 : a_look 13 11 = some (.iload_n 1, 0, 0, 0) := by decide +kernel
theorem L_13_12 : a_look 13 12 = some (.iconst (-1), 0, 0, 0) := by decide +kernel
theorem L_13_13 : a_look 13 13 = some (.iastore, 0, 0, 0) := by decide +kernel
theorem L_13_14 : a_look 13 14 = some (.return_, 0, 0, 0) := by decide +kernel
theorem L_24_0 : a_look 24 0 = some (.aload_n 0, 0, 0, 0) := by decide +kernel
theorem L_24_1 : a_look 24 1 = some (.getfield 30, 2, 6, 215) := by decide +kernel
theorem L_24_4 : a_look 24 4 = some (.iload_n 1, 0, 0, 0) := by decide +kernel
theorem L_24_5 : a_look 24 5 = some (.iaload, 0, 0, 0) := by decide +kernel
theorem L_24_6 : a_look 24 6 = some (.ifCond .ne 27, 33, 0, 0) := by decide +kernel
theorem L_24_9 : a_look 24 9 = some (.aload_n 0, 0, 0, 0) := by decide +kernel
theorem L_24_10 : a_look 24 10 = some (.getfield 24, 2, 4, 213) := by decide +kernel
theorem L_24_13 : a_look 24 13 = some (.iload_n 1, 0, 0, 0) := by decide +kernel
theorem L_24_14 : a_look 24 14 = some (.iaload, 0, 0, 0) := by decide +kernel
theorem L_24_15 : a_look 24 15 = some (.iload_n 2, 0, 0, 0) := by decide +kernel
theorem L_24_16 : a_look 24 16 = some (.if_icmp .gt 17, 33, 0, 0) := by decide +kernel
theorem L_24_19 : a_look 24 19 = some (.iload_n 2, 0, 0, 0) := by decide +kernel
theorem L_24_20 : a_look 24 20 = some (.aload_n 0, 0, 0, 0) := by decide +kernel
theorem L_24_21 : a_look 24 21 = some (.getfield 27, 2, 5, 214) := by decide +kernel
theorem L_24_24 : a_look 24 24 = some (.iload_n 1, 0, 0, 0) := by decide +kernel
theorem L_24_25 : a_look 24 25 = some (.iaload, 0, 0, 0) := by decide +kernel
theorem L_24_26 : a_look 24 26 = some (.if_icmp .ge 7, 33, 0, 0) := by decide +kernel
theorem L_24_29 : a_look 24 29 = some (.iconst 1, 0, 0, 0) := by decide +kernel
theorem L_24_30 : a_look 24 30 = some (.goto 4, 34, 0, 0) := by decide +kernel
theorem L_24_33 : a_look 24 33 = some (.iconst 0, 0, 0, 0) := by decide +kernel
theorem L_24_34 : a_look 24 34 = some (.ireturn, 0, 0, 0) := by decide +kernel
theorem L_45_0 : a_look 45 0 = some (.aload_n 0, 0, 0, 0) := by decide +kernel
theorem L_45_1 : a_look 45 1 = some (.getfield 53, 4, 4, 417) := by decide +kernel
theorem L_45_4 : a_look 45 4 = some (.iload_n 1, 0, 0, 0) := by decide +kernel
theorem L_45_5 : a_look 45 5 = some (.iadd, 0, 0, 0) := by decide +kernel
theorem L_45_6 : a_look 45 6 = some (.aload_n 0, 0, 0, 0) := by decide +kernel
theorem L_45_7 : a_look 45 7 = some (.getfield 32, 4, 3, 121) := by decide +kernel
theorem L_45_10 : a_look 45 10 = some (.iconst 1, 0, 0, 0) := by decide +kernel
theorem L_45_11 : a_look 45 11 = some (.iaload, 0, 0, 0) := by decide +kernel
theorem L_45_12 : a_look 45 12 = some (.irem, 0, 0, 0) := by decide +kernel
theorem L_45_13 : a_look 45 13 = some (.ifCond .ne 7, 20, 0, 0) := by decide +kernel
theorem L_45_16 : a_look 45 16 = some (.iconst 1, 0, 0, 0) := by decide +kernel
theorem L_45_17 : a_look 45 17 = some (.goto 4, 21, 0, 0) := by decide +kernel
theorem L_45_20 : a_look 45 20 = some (.iconst 0, 0, 0, 0) := by decide +kernel
theorem L_45_21 : a_look 45 21 = some (.ireturn, 0, 0, 0) := by decide +kernel
theorem L_4_0 : a_look 4 0 = some (.aload_n 0, 0, 0, 0) := by decide +kernel
theorem L_4_1 : a_look 4 1 = some (.getfield 15, 0, 3, 316) := by decide +kernel
theorem L_4_4 : a_look 4 4 = some (.bipush (-6), 0, 0, 0) := by decide +kernel
theorem L_4_6 : a_look 4 6 = some (.if_icmp .ne 18, 24, 0, 0) := by decide +kernel
theorem L_4_9 : a_look 4 9 = some (.aload_n 0, 0, 0, 0) := by decide +kernel
theorem L_4_10 : a_look 4 10 = some (.getfield 36, 0, 2, 2323) := by decide +kernel
theorem L_4_13 : a_look 4 13 = some (.aload_n 0, 0, 0, 0) := by decide +kernel
theorem L_4_14 : a_look 4 14 = some (.getfield 23, 0, 1, 2217) := by decide +kernel
theorem L_4_17 : a_look 4 17 = some (.if_icmp .ge 7, 24, 0, 0) := by decide +kernel
theorem L_4_20 : a_look 4 20 = some (.iconst 1, 0, 0, 0) := by decide +kernel
theorem L_4_21 : a_look 4 21 = some (.goto 4, 25, 0, 0) := by decide +kernel
theorem L_4_24 : a_look 4 24 = some (.iconst 0, 0, 0, 0) := by decide +kernel
theorem L_4_25 : a_look 4 25 = some (.ireturn, 0, 0, 0) := by decide +kernel
theorem L_8_0 : a_look 8 0 = some (.iload_n 1, 0, 0, 0) := by decide +kernel
theorem L_8_1 : a_look 8 1 = some (.aload_n 0, 0, 0, 0) := by decide +kernel
theorem L_8_2 : a_look 8 2 = some (.getfield 23, 0, 1, 2217) := by decide +kernel
theorem L_8_5 : a_look 8 5 = some (.if_icmp .ge 29, 34, 0, 0) := by decide +kernel
theorem L_8_8 : a_look 8 8 = some (.aload_n 0, 0, 0, 0) := by decide +kernel
theorem L_8_9 : a_look 8 9 = some (.getfield 9, 0, 0, 315) := by decide +kernel
theorem L_8_12 : a_look 8 12 = some (.iload_n 1, 0, 0, 0) := by decide +kernel
theorem L_8_13 : a_look 8 13 = some (.iaload, 0, 0, 0) := by decide +kernel
theorem L_8_14 : a_look 8 14 = some (.bipush 48, 0, 0, 0) := by decide +kernel
theorem L_8_16 : a_look 8 16 = some (.if_icmp .lt 18, 34, 0, 0) := by decide +kernel
theorem L_8_19 : a_look 8 19 = some (.aload_n 0, 0, 0, 0) := by decide +kernel
theorem L_8_20 : a_look 8 20 = some (.getfield 9, 0, 0, 315) := by decide +kernel
theorem L_8_23 : a_look 8 23 = some (.iload_n 1, 0, 0, 0) := by decide +kernel
theorem L_8_24 : a_look 8 24 = some (.iaload, 0, 0, 0) := by decide +kernel
theorem L_8_25 : a_look 8 25 = some (.bipush 57, 0, 0, 0) := by decide +kernel
theorem L_8_27 : a_look 8 27 = some (.if_icmp .gt 7, 34, 0, 0) := by decide +kernel
theorem L_8_30 : a_look 8 30 = some (.iconst 1, 0, 0, 0) := by decide +kernel
theorem L_8_31 : a_look 8 31 = some (.goto 4, 35, 0, 0) := by decide +kernel
theorem L_8_34 : a_look 8 34 = some (.iconst 0, 0, 0, 0) := by decide +kernel
theorem L_8_35 : a_look 8 35 = some (.ireturn, 0, 0, 0) := by decide +kernel
theorem L_101_0 : a_look 101 0 = some (.iload_n 1, 0, 0, 0) := by decide +kernel
theorem L_101_1 : a_look 101 1 = some (.ifCond .lt 17, 18, 0, 0) := by decide +kernel
theorem L_101_4 : a_look 101 4 = some (.iload_n 1, 0, 0, 0) := by decide +kernel
theorem L_101_5 : a_look 101 5 = some (.aload_n 0, 0, 0, 0) := by decide +kernel
theorem L_101_6 : a_look 101 6 = some (.getfield 7, 7, 0, 321) := by decide +kernel
theorem L_101_9 : a_look 101 9 = some (.iconst 1, 0, 0, 0) := by decide +kernel
theorem L_101_10 : a_look 101 10 = some (.iaload, 0, 0, 0) := by decide +kernel
theorem L_101_11 : a_look 101 11 = some (.if_icmp .ge 7, 18, 0, 0) := by decide +kernel
theorem L_101_14 : a_look 101 14 = some (.iconst 1, 0, 0, 0) := by decide +kernel
theorem L_101_15 : a_look 101 15 = some (.goto 4, 19, 0, 0) := by decide +kernel
theorem L_101_18 : a_look 101 18 = some (.iconst 0, 0, 0, 0) := by decide +kernel
theorem L_101_19 : a_look 101 19 = some (.ireturn, 0, 0, 0) := by decide +kernel
theorem L_102_0 : a_look 102 0 = some (.iload_n 1, 0, 0, 0) := by decide +kernel
theorem L_102_1 : a_look 102 1 = some (.ifCond .lt 17, 18, 0, 0) := by decide +kernel
theorem L_102_4 : a_look 102 4 = some (.iload_n 1, 0, 0, 0) := by decide +kernel
theorem L_102_5 : a_look 102 5 = some (.aload_n 0, 0, 0, 0) := by decide +kernel
theorem L_102_6 : a_look 102 6 = some (.getfield 7, 7, 0, 321) := by decide +kernel
theorem L_102_9 : a_look 102 9 = some (.iconst 2, 0, 0, 0) := by decide +kernel
theorem L_102_10 : a_look 102 10 = some (.iaload, 0, 0, 0) := by decide +kernel
theorem L_102_11 : a_look 102 11 = some (.if_icmp .ge 7, 18, 0, 0) := by decide +kernel
theorem L_102_14 : a_look 102 14 = some (.iconst 1, 0, 0, 0) := by decide +kernel
theorem L_102_15 : a_look 102 15 = some (.goto 4, 19, 0, 0) := by decide +kernel
theorem L_102_18 : a_look 102 18 = some (.iconst 0, 0, 0, 0) := by decide +kernel
theorem L_102_19 : a_look 102 19 = some (.ireturn, 0, 0, 0) := by decide +kernel
theorem L_103_0 : a_look 103 0 = some (.iload_n 1, 0, 0, 0) := by decide +kernel
theorem L_103_1 : a_look 103 1 = some (.ifCond .lt 17, 18, 0, 0) := by decide +kernel
theorem L_103_4 : a_look 103 4 = some (.iload_n 1, 0, 0, 0) := by decide +kernel
theorem L_103_5 : a_look 103 5 = some (.aload_n 0, 0, 0, 0) := by decide +kernel
theorem L_103_6 : a_look 103 6 = some (.getfield 7, 7, 0, 321) := by decide +kernel
theorem L_103_9 : a_look 103 9 = some (.iconst 3, 0, 0, 0) := by decide +kernel
theorem L_103_10 : a_look 103 10 = some (.iaload, 0, 0, 0) := by decide +kernel
theorem L_103_11 : a_look 103 11 = some (.if_icmp .ge 7, 18, 0, 0) := by decide +kernel
theorem L_103_14 : a_look 103 14 = some (.iconst 1, 0, 0, 0) := by decide +kernel
theorem L_103_15 : a_look 103 15 = some (.goto 4, 19, 0, 0) := by decide +kernel
theorem L_103_18 : a_look 103 18 = some (.iconst 0, 0, 0, 0) := by decide +kernel
theorem L_103_19 : a_look 103 19 = some (.ireturn, 0, 0, 0) := by decide +kernel
theorem L_104_0 : a_look 104 0 = some (.aload_n 0, 0, 0, 0) := by decide +kernel
theorem L_104_1 : a_look 104 1 = some (.getfield 7, 7, 0, 321) := by decide +kernel
theorem L_104_4 : a_look 104 4 = some (.bipush 8, 0, 0, 0) := by decide +kernel
theorem L_104_6 : a_look 104 6 = some (.iconst 5, 0, 0, 0) := by decide +kernel
theorem L_104_7 : a_look 104 7 = some (.iload_n 1, 0, 0, 0) := by decide +kernel
theorem L_104_8 : a_look 104 8 = some (.imul, 0, 0, 0) := by decide +kernel
theorem L_104_9 : a_look 104 9 = some (.iadd, 0, 0, 0) := by decide +kernel
theorem L_104_10 : a_look 104 10 = some (.iload_n 2, 0, 0, 0) := by decide +kernel
theorem L_104_11 : a_look 104 11 = some (.iadd, 0, 0, 0) := by decide +kernel
theorem L_104_12 : a_look 104 12 = some (.iaload, 0, 0, 0) := by decide +kernel
theorem L_104_13 : a_look 104 13 = some (.ireturn, 0, 0, 0) := by decide +kernel
theorem L_105_0 : a_look 105 0 = some (.aload_n 0, 0, 0, 0) := by decide +kernel
theorem L_105_1 : a_look 105 1 = some (.getfield 7, 7, 0, 321) := by decide +kernel
theorem L_105_4 : a_look 105 4 = some (.bipush 48, 0, 0, 0) := by decide +kernel
theorem L_105_6 : a_look 105 6 = some (.bipush 7, 0, 0, 0) := by decide +kernel
theorem L_105_8 : a_look 105 8 = some (.iload_n 1, 0, 0, 0) := by decide +kernel
theorem L_105_9 : a_look 105 9 = some (.imul, 0, 0, 0) := by decide +kernel
theorem L_105_10 : a_look 105 10 = some (.iadd, 0, 0, 0) := by decide +kernel
theorem L_105_11 : a_look 105 11 = some (.iload_n 2, 0, 0, 0) := by decide +kernel
theorem L_105_12 : a_look 105 12 = some (.iadd, 0, 0, 0) := by decide +kernel
theorem L_105_13 : a_look 105 13 = some (.iaload, 0, 0, 0) := by decide +kernel
theorem L_105_14 : a_look 105 14 = some (.ireturn, 0, 0, 0) := by decide +kernel
theorem L_106_0 : a_look 106 0 = some (.aload_n 0, 0, 0, 0) := by decide +kernel
theorem L_106_1 : a_look 106 1 = some (.getfield 7, 7, 0, 321) := by decide +kernel
theorem L_106_4 : a_look 106 4 = some (.bipush 104, 0, 0, 0) := by decide +kernel
theorem L_106_6 : a_look 106 6 = some (.bipush 10, 0, 0, 0) := by decide +kernel
theorem L_106_8 : a_look 106 8 = some (.iload_n 1, 0, 0, 0) := by decide +kernel
theorem L_106_9 : a_look 106 9 = some (.imul, 0, 0, 0) := by decide +kernel
theorem L_106_10 : a_look 106 10 = some (.iadd, 0, 0, 0) := by decide +kernel
theorem L_106_11 : a_look 106 11 = some (.iload_n 2, 0, 0, 0) := by decide +kernel
theorem L_106_12 : a_look 106 12 = some (.iadd, 0, 0, 0) := by decide +kernel
theorem L_106_13 : a_look 106 13 = some (.iaload, 0, 0, 0) := by decide +kernel
theorem L_106_14 : a_look 106 14 = some (.ireturn, 0, 0, 0) := by decide +kernel
theorem L_107_0 : a_look 107 0 = some (.aload_n 0, 0, 0, 0) := by decide +kernel
theorem L_107_1 : a_look 107 1 = some (.getfield 7, 7, 0, 321) := by decide +kernel
theorem L_107_4 : a_look 107 4 = some (.bipush 104, 0, 0, 0) := by decide +kernel
theorem L_107_6 : a_look 107 6 = some (.bipush 10, 0, 0, 0) := by decide +kernel
theorem L_107_8 : a_look 107 8 = some (.iload_n 1, 0, 0, 0) := by decide +kernel
theorem L_107_9 : a_look 107 9 = some (.imul, 0, 0, 0) := by decide +kernel
theorem L_107_10 : a_look 107 10 = some (.iadd, 0, 0, 0) := by decide +kernel
theorem L_107_11 : a_look 107 11 = some (.iload_n 2, 0, 0, 0) := by decide +kernel
theorem L_107_12 : a_look 107 12 = some (.iadd, 0, 0, 0) := by decide +kernel
theorem L_107_13 : a_look 107 13 = some (.iload_n 3, 0, 0, 0) := by decide +kernel
theorem L_107_14 : a_look 107 14 = some (.iastore, 0, 0, 0) := by decide +kernel
theorem L_107_15 : a_look 107 15 = some (.return_, 0, 0, 0) := by decide +kernel
theorem L_108_0 : a_look 108 0 = some (.iload_n 0, 0, 0, 0) := by decide +kernel
theorem L_108_1 : a_look 108 1 = some (.iconst 0, 0, 0, 0) := by decide +kernel
theorem L_108_2 : a_look 108 2 = some (.bipush 99, 0, 0, 0) := by decide +kernel
theorem L_108_4 : a_look 108 4 = some (.invokestatic 37, 97, 3, 702) := by decide +kernel
theorem L_108_7 : a_look 108 7 = some (.ifCond .eq 17, 24, 0, 0) := by decide +kernel
theorem L_108_10 : a_look 108 10 = some (.iload_n 1, 0, 0, 0) := by decide +kernel
theorem L_108_11 : a_look 108 11 = some (.iconst 0, 0, 0, 0) := by decide +kernel
theorem L_108_12 : a_look 108 12 = some (.bipush 99, 0, 0, 0) := by decide +kernel
theorem L_108_14 : a_look 108 14 = some (.invokestatic 37, 97, 3, 702) := by decide +kernel
theorem L_108_17 : a_look 108 17 = some (.ifCond .eq 7, 24, 0, 0) := by decide +kernel
theorem L_108_20 : a_look 108 20 = some (.iconst 1, 0, 0, 0) := by decide +kernel
theorem L_108_21 : a_look 108 21 = some (.goto 4, 25, 0, 0) := by decide +kernel
theorem L_108_24 : a_look 108 24 = some (.iconst 0, 0, 0, 0) := by decide +kernel
theorem L_108_25 : a_look 108 25 = some (.ireturn, 0, 0, 0) := by decide +kernel
theorem L_109_0 : a_look 109 0 = some (.iload_n 0, 0, 0, 0) := by decide +kernel
theorem L_109_1 : a_look 109 1 = some (.iconst 0, 0, 0, 0) := by decide +kernel
theorem L_109_2 : a_look 109 2 = some (.bipush 7, 0, 0, 0) := by decide +kernel
theorem L_109_4 : a_look 109 4 = some (.invokestatic 37, 97, 3, 702) := by decide +kernel
theorem L_109_7 : a_look 109 7 = some (.ireturn, 0, 0, 0) := by decide +kernel
theorem L_110_0 : a_look 110 0 = some (.iload_n 0, 0, 0, 0) := by decide +kernel
theorem L_110_1 : a_look 110 1 = some (.iconst 0, 0, 0, 0) := by decide +kernel
theorem L_110_2 : a_look 110 2 = some (.iconst 3, 0, 0, 0) := by decide +kernel
theorem L_110_3 : a_look 110 3 = some (.invokestatic 37, 97, 3, 702) := by decide +kernel
theorem L_110_6 : a_look 110 6 = some (.ireturn, 0, 0, 0) := by decide +kernel
theorem L_111_0 : a_look 111 0 = some (.iload_n 0, 0, 0, 0) := by decide +kernel
theorem L_111_1 : a_look 111 1 = some (.ifCond .ne 7, 8, 0, 0) := by decide +kernel
theorem L_111_4 : a_look 111 4 = some (.iconst 4, 0, 0, 0) := by decide +kernel
theorem L_111_5 : a_look 111 5 = some (.goto 35, 40, 0, 0) := by decide +kernel
theorem L_111_8 : a_look 111 8 = some (.iload_n 0, 0, 0, 0) := by decide +kernel
theorem L_111_9 : a_look 111 9 = some (.iconst 1, 0, 0, 0) := by decide +kernel
theorem L_111_10 : a_look 111 10 = some (.if_icmp .ne 8, 18, 0, 0) := by decide +kernel
theorem L_111_13 : a_look 111 13 = some (.bipush 9, 0, 0, 0) := by decide +kernel
theorem L_111_15 : a_look 111 15 = some (.goto 25, 40, 0, 0) := by decide +kernel
theorem L_111_18 : a_look 111 18 = some (.iload_n 0, 0, 0, 0) := by decide +kernel
theorem L_111_19 : a_look 111 19 = some (.iconst 2, 0, 0, 0) := by decide +kernel
theorem L_111_20 : a_look 111 20 = some (.if_icmp .ne 8, 28, 0, 0) := by decide +kernel
theorem L_111_23 : a_look 111 23 = some (.bipush 16, 0, 0, 0) := by decide +kernel
theorem L_111_25 : a_look 111 25 = some (.goto 15, 40, 0, 0) := by decide +kernel
theorem L_111_28 : a_look 111 28 = some (.iload_n 0, 0, 0, 0) := by decide +kernel
theorem L_111_29 : a_look 111 29 = some (.iconst 3, 0, 0, 0) := by decide +kernel
theorem L_111_30 : a_look 111 30 = some (.if_icmp .ne 8, 38, 0, 0) := by decide +kernel
theorem L_111_33 : a_look 111 33 = some (.bipush 26, 0, 0, 0) := by decide +kernel
theorem L_111_35 : a_look 111 35 = some (.goto 5, 40, 0, 0) := by decide +kernel
theorem L_111_38 : a_look 111 38 = some (.bipush 40, 0, 0, 0) := by decide +kernel
theorem L_111_40 : a_look 111 40 = some (.ireturn, 0, 0, 0) := by decide +kernel
theorem L_112_0 : a_look 112 0 = some (.iload_n 0, 0, 0, 0) := by decide +kernel
theorem L_112_1 : a_look 112 1 = some (.ifCond .ne 7, 8, 0, 0) := by decide +kernel
theorem L_112_4 : a_look 112 4 = some (.iconst 1, 0, 0, 0) := by decide +kernel
theorem L_112_5 : a_look 112 5 = some (.goto 24, 29, 0, 0) := by decide +kernel
theorem L_112_8 : a_look 112 8 = some (.iload_n 0, 0, 0, 0) := by decide +kernel
theorem L_112_9 : a_look 112 9 = some (.iconst 1, 0, 0, 0) := by decide +kernel
theorem L_112_10 : a_look 112 10 = some (.if_icmp .ne 7, 17, 0, 0) := by decide +kernel
theorem L_112_13 : a_look 112 13 = some (.iconst 3, 0, 0, 0) := by decide +kernel
theorem L_112_14 : a_look 112 14 = some (.goto 15, 29, 0, 0) := by decide +kernel
theorem L_112_17 : a_look 112 17 = some (.iload_n 0, 0, 0, 0) := by decide +kernel
theorem L_112_18 : a_look 112 18 = some (.iconst 2, 0, 0, 0) := by decide +kernel
theorem L_112_19 : a_look 112 19 = some (.if_icmp .ne 8, 27, 0, 0) := by decide +kernel
theorem L_112_22 : a_look 112 22 = some (.bipush 6, 0, 0, 0) := by decide +kernel
theorem L_112_24 : a_look 112 24 = some (.goto 5, 29, 0, 0) := by decide +kernel
theorem L_112_27 : a_look 112 27 = some (.bipush 10, 0, 0, 0) := by decide +kernel
theorem L_112_29 : a_look 112 29 = some (.ireturn, 0, 0, 0) := by decide +kernel
theorem L_113_0 : a_look 113 0 = some (.iload_n 0, 0, 0, 0) := by decide +kernel
theorem L_113_1 : a_look 113 1 = some (.iload_n 2, 0, 0, 0) := by decide +kernel
theorem L_113_2 : a_look 113 2 = some (.isub, 0, 0, 0) := by decide +kernel
theorem L_113_3 : a_look 113 3 = some (.iload_n 0, 0, 0, 0) := by decide +kernel
theorem L_113_4 : a_look 113 4 = some (.iload_n 2, 0, 0, 0) := by decide +kernel
theorem L_113_5 : a_look 113 5 = some (.isub, 0, 0, 0) := by decide +kernel
theorem L_113_6 : a_look 113 6 = some (.imul, 0, 0, 0) := by decide +kernel
theorem L_113_7 : a_look 113 7 = some (.iload_n 1, 0, 0, 0) := by decide +kernel
theorem L_113_8 : a_look 113 8 = some (.iload_n 3, 0, 0, 0) := by decide +kernel
theorem L_113_9 : a_look 113 9 = some (.isub, 0, 0, 0) := by decide +kernel
theorem L_113_10 : a_look 113 10 = some (.iload_n 1, 0, 0, 0) := by decide +kernel
theorem L_113_11 : a_look 113 11 = some (.iload_n 3, 0, 0, 0) := by decide +kernel
theorem L_113_12 : a_look 113 12 = some (.isub, 0, 0, 0) := by decide +kernel
theorem L_113_13 : a_look 113 13 = some (.imul, 0, 0, 0) := by decide +kernel
theorem L_113_14 : a_look 113 14 = some (.iadd, 0, 0, 0) := by decide +kernel
theorem L_113_15 : a_look 113 15 = some (.iload 4, 0, 0, 0) := by decide +kernel
theorem L_113_17 : a_look 113 17 = some (.iload 4, 0, 0, 0) := by decide +kernel
theorem L_113_19 : a_look 113 19 = some (.imul, 0, 0, 0) := by decide +kernel
theorem L_113_20 : a_look 113 20 = some (.if_icmp .gt 7, 27, 0, 0) := by decide +kernel
theorem L_113_23 : a_look 113 23 = some (.iconst 1, 0, 0, 0) := by decide +kernel
theorem L_113_24 : a_look 113 24 = some (.goto 4, 28, 0, 0) := by decide +kernel
theorem L_113_27 : a_look 113 27 = some (.iconst 0, 0, 0, 0) := by decide +kernel
theorem L_113_28 : a_look 113 28 = some (.ireturn, 0, 0, 0) := by decide +kernel
theorem L_120_0 : a_look 120 0 = some (.aload_n 0, 0, 0, 0) := by decide +kernel
theorem L_120_1 : a_look 120 1 = some (.iload_n 1, 0, 0, 0) := by decide +kernel
theorem L_120_2 : a_look 120 2 = some (.iconst 3, 0, 0, 0) := by decide +kernel
theorem L_120_3 : a_look 120 3 = some (.invokevirtual 73, 106, 3, 1006) := by decide +kernel
theorem L_120_6 : a_look 120 6 = some (.bipush (-6), 0, 0, 0) := by decide +kernel
theorem L_120_8 : a_look 120 8 = some (.if_icmp .eq 7, 15, 0, 0) := by decide +kernel
theorem L_120_11 : a_look 120 11 = some (.iconst 1, 0, 0, 0) := by decide +kernel
theorem L_120_12 : a_look 120 12 = some (.goto 4, 16, 0, 0) := by decide +kernel
theorem L_120_15 : a_look 120 15 = some (.iconst 0, 0, 0, 0) := by decide +kernel
theorem L_120_16 : a_look 120 16 = some (.ireturn, 0, 0, 0) := by decide +kernel
theorem L_126_0 : a_look 126 0 = some (.aload_n 0, 0, 0, 0) := by decide +kernel
theorem L_126_1 : a_look 126 1 = some (.iload_n 1, 0, 0, 0) := by decide +kernel
theorem L_126_2 : a_look 126 2 = some (.iconst 3, 0, 0, 0) := by decide +kernel
theorem L_126_3 : a_look 126 3 = some (.bipush (-6), 0, 0, 0) := by decide +kernel
theorem L_126_5 : a_look 126 5 = some (.invokevirtual 95, 107, 4, 1207) := by decide +kernel
theorem L_126_8 : a_look 126 8 = some (.aload_n 0, 0, 0, 0) := by decide +kernel
theorem L_126_9 : a_look 126 9 = some (.iload_n 1, 0, 0, 0) := by decide +kernel
theorem L_126_10 : a_look 126 10 = some (.iconst 4, 0, 0, 0) := by decide +kernel
theorem L_126_11 : a_look 126 11 = some (.bipush (-6), 0, 0, 0) := by decide +kernel
theorem L_126_13 : a_look 126 13 = some (.invokevirtual 95, 107, 4, 1207) := by decide +kernel
theorem L_126_16 : a_look 126 16 = some (.aload_n 0, 0, 0, 0) := by decide +kernel
theorem L_126_17 : a_look 126 17 = some (.iload_n 1, 0, 0, 0) := by decide +kernel
theorem L_126_18 : a_look 126 18 = some (.iconst 5, 0, 0, 0) := by decide +kernel
theorem L_126_19 : a_look 126 19 = some (.bipush (-6), 0, 0, 0) := by decide +kernel
theorem L_126_21 : a_look 126 21 = some (.invokevirtual 95, 107, 4, 1207) := by decide +kernel
theorem L_126_24 : a_look 126 24 = some (.aload_n 0, 0, 0, 0) := by decide +kernel
theorem L_126_25 : a_look 126 25 = some (.iload_n 1, 0, 0, 0) := by decide +kernel
theorem L_126_26 : a_look 126 26 = some (.bipush 6, 0, 0, 0) := by decide +kernel
theorem L_126_28 : a_look 126 28 = some (.bipush (-6), 0, 0, 0) := by decide +kernel
theorem L_126_30 : a_look 126 30 = some (.invokevirtual 95, 107, 4, 1207) := by decide +kernel
theorem L_126_33 : a_look 126 33 = some (.return_, 0, 0, 0) := by decide +kernel
theorem L_147_0 : a_look 147 0 = some (.aload_n 0, 0, 0, 0) := by decide +kernel
theorem L_147_1 : a_look 147 1 = some (.getfield 155, 7, 9, 2504) := by decide +kernel
theorem L_147_4 : a_look 147 4 = some (.aload_n 0, 0, 0, 0) := by decide +kernel
theorem L_147_5 : a_look 147 5 = some (.getfield 152, 7, 8, 2222) := by decide +kernel
theorem L_147_8 : a_look 147 8 = some (.if_icmp .ge 24, 32, 0, 0) := by decide +kernel
theorem L_147_11 : a_look 147 11 = some (.aload_n 0, 0, 0, 0) := by decide +kernel
theorem L_147_12 : a_look 147 12 = some (.getfield 26, 7, 7, 402) := by decide +kernel
theorem L_147_15 : a_look 147 15 = some (.aload_n 0, 0, 0, 0) := by decide +kernel
theorem L_147_16 : a_look 147 16 = some (.getfield 155, 7, 9, 2504) := by decide +kernel
theorem L_147_19 : a_look 147 19 = some (.iaload, 0, 0, 0) := by decide +kernel
theorem L_147_20 : a_look 147 20 = some (.iload_n 1, 0, 0, 0) := by decide +kernel
theorem L_147_21 : a_look 147 21 = some (.iload_n 2, 0, 0, 0) := by decide +kernel
theorem L_147_22 : a_look 147 22 = some (.invokestatic 37, 97, 3, 702) := by decide +kernel
theorem L_147_25 : a_look 147 25 = some (.ifCond .eq 7, 32, 0, 0) := by decide +kernel
theorem L_147_28 : a_look 147 28 = some (.iconst 1, 0, 0, 0) := by decide +kernel
theorem L_147_29 : a_look 147 29 = some (.goto 4, 33, 0, 0) := by decide +kernel
theorem L_147_32 : a_look 147 32 = some (.iconst 0, 0, 0, 0) := by decide +kernel
theorem L_147_33 : a_look 147 33 = some (.ireturn, 0, 0, 0) := by decide +kernel
