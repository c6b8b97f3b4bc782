/-! code rows -/
theorem L_60_0 : a_look 60 0 = some (.aload_n 0, 0, 0, 0) := by decide +kernel
theorem L_60_1 : a_look 60 1 = some (.getfield 22, 6, 2, 19) := by decide +kernel
theorem L_60_4 : a_look 60 4 = some (.aload_n 0, 0, 0, 0) := by decide +kernel
theorem L_60_5 : a_look 60 5 = some (.getfield 10, 6, 0, 14) := by decide +kernel
theorem L_60_8 : a_look 60 8 = some (.invokevirtual 41, 27, 2, 1207) := by decide +kernel
theorem L_60_11 : a_look 60 11 = some (.aload_n 0, 0, 0, 0) := by decide +kernel
theorem L_60_12 : a_look 60 12 = some (.aload_n 0, 0, 0, 0) := by decide +kernel
theorem L_60_13 : a_look 60 13 = some (.getfield 10, 6, 0, 14) := by decide +kernel
theorem L_60_16 : a_look 60 16 = some (.iload_n 1, 0, 0, 0) := by decide +kernel
theorem L_60_17 : a_look 60 17 = some (.iload_n 2, 0, 0, 0) := by decide +kernel
theorem L_60_18 : a_look 60 18 = some (.iload_n 3, 0, 0, 0) := by decide +kernel
theorem L_60_19 : a_look 60 19 = some (.iload 4, 0, 0, 0) := by decide +kernel
theorem L_60_21 : a_look 60 21 = some (.invokevirtual 45, 31, 5, 1214) := by decide +kernel
theorem L_60_24 : a_look 60 24 = some (.invokevirtual 49, 91, 2, 1220) := by decide +kernel
theorem L_60_27 : a_look 60 27 = some (.ireturn, 0, 0, 0) := by decide +kernel
theorem L_61_0 : a_look 61 0 = some (.aload_n 0, 0, 0, 0) := by decide +kernel
theorem L_61_1 : a_look 61 1 = some (.getfield 22, 6, 2, 19) := by decide +kernel
theorem L_61_4 : a_look 61 4 = some (.aload_n 0, 0, 0, 0) := by decide +kernel
theorem L_61_5 : a_look 61 5 = some (.getfield 10, 6, 0, 14) := by decide +kernel
theorem L_61_8 : a_look 61 8 = some (.invokevirtual 41, 27, 2, 1207) := by decide +kernel
theorem L_61_11 : a_look 61 11 = some (.aload_n 0, 0, 0, 0) := by decide +kernel
theorem L_61_12 : a_look 61 12 = some (.aload_n 0, 0, 0, 0) := by decide +kernel
theorem L_61_13 : a_look 61 13 = some (.getfield 10, 6, 0, 14) := by decide +kernel
theorem L_61_16 : a_look 61 16 = some (.iload_n 1, 0, 0, 0) := by decide +kernel
theorem L_61_17 : a_look 61 17 = some (.iload_n 2, 0, 0, 0) := by decide +kernel
theorem L_61_18 : a_look 61 18 = some (.iload_n 3, 0, 0, 0) := by decide +kernel
theorem L_61_19 : a_look 61 19 = some (.iload 4, 0, 0, 0) := by decide +kernel
theorem L_61_21 : a_look 61 21 = some (.iload 5, 0, 0, 0) := by decide +kernel
theorem L_61_23 : a_look 61 23 = some (.iload 6, 0, 0, 0) := by decide +kernel
theorem L_61_25 : a_look 61 25 = some (.invokevirtual 53, 32, 7, 1308) := by decide +kernel
theorem L_61_28 : a_look 61 28 = some (.invokevirtual 49, 91, 2, 1220) := by decide +kernel
theorem L_61_31 : a_look 61 31 = some (.ireturn, 0, 0, 0) := by decide +kernel
theorem L_62_0 : a_look 62 0 = some (.aload_n 0, 0, 0, 0) := by decide +kernel
theorem L_62_1 : a_look 62 1 = some (.getfield 22, 6, 2, 19) := by decide +kernel
theorem L_62_4 : a_look 62 4 = some (.aload_n 0, 0, 0, 0) := by decide +kernel
theorem L_62_5 : a_look 62 5 = some (.getfield 10, 6, 0, 14) := by decide +kernel
theorem L_62_8 : a_look 62 8 = some (.invokevirtual 41, 27, 2, 1207) := by decide +kernel
theorem L_62_11 : a_look 62 11 = some (.aload_n 0, 0, 0, 0) := by decide +kernel
theorem L_62_12 : a_look 62 12 = some (.aload_n 0, 0, 0, 0) := by decide +kernel
theorem L_62_13 : a_look 62 13 = some (.getfield 10, 6, 0, 14) := by decide +kernel
theorem L_62_16 : a_look 62 16 = some (.iload_n 1, 0, 0, 0) := by decide +kernel
theorem L_62_17 : a_look 62 17 = some (.iload_n 2, 0, 0, 0) := by decide +kernel
theorem L_62_18 : a_look 62 18 = some (.iload_n 3, 0, 0, 0) := by decide +kernel
theorem L_62_19 : a_look 62 19 = some (.invokevirtual 57, 33, 4, 1406) := by decide +kernel
theorem L_62_22 : a_look 62 22 = some (.invokevirtual 49, 91, 2, 1220) := by decide +kernel
theorem L_62_25 : a_look 62 25 = some (.ireturn, 0, 0, 0) := by decide +kernel
theorem L_63_0 : a_look 63 0 = some (.aload_n 0, 0, 0, 0) := by decide +kernel
theorem L_63_1 : a_look 63 1 = some (.getfield 22, 6, 2, 19) := by decide +kernel
theorem L_63_4 : a_look 63 4 = some (.aload_n 0, 0, 0, 0) := by decide +kernel
theorem L_63_5 : a_look 63 5 = some (.getfield 10, 6, 0, 14) := by decide +kernel
theorem L_63_8 : a_look 63 8 = some (.invokevirtual 41, 27, 2, 1207) := by decide +kernel
theorem L_63_11 : a_look 63 11 = some (.aload_n 0, 0, 0, 0) := by decide +kernel
theorem L_63_12 : a_look 63 12 = some (.aload_n 0, 0, 0, 0) := by decide +kernel
theorem L_63_13 : a_look 63 13 = some (.getfield 10, 6, 0, 14) := by decide +kernel
theorem L_63_16 : a_look 63 16 = some (.iload_n 1, 0, 0, 0) := by decide +kernel
theorem L_63_17 : a_look 63 17 = some (.iload_n 2, 0, 0, 0) := by decide +kernel
theorem L_63_18 : a_look 63 18 = some (.invokevirtual 61, 34, 3, 1523) := by decide +kernel
theorem L_63_21 : a_look 63 21 = some (.invokevirtual 49, 91, 2, 1220) := by decide +kernel
theorem L_63_24 : a_look 63 24 = some (.ireturn, 0, 0, 0) := by decide +kernel
theorem L_64_0 : a_look 64 0 = some (.aload_n 0, 0, 0, 0) := by decide +kernel
theorem L_64_1 : a_look 64 1 = some (.getfield 22, 6, 2, 19) := by decide +kernel
theorem L_64_4 : a_look 64 4 = some (.aload_n 0, 0, 0, 0) := by decide +kernel
theorem L_64_5 : a_look 64 5 = some (.getfield 10, 6, 0, 14) := by decide +kernel
theorem L_64_8 : a_look 64 8 = some (.invokevirtual 41, 27, 2, 1207) := by decide +kernel
theorem L_64_11 : a_look 64 11 = some (.aload_n 0, 0, 0, 0) := by decide +kernel
theorem L_64_12 : a_look 64 12 = some (.aload_n 0, 0, 0, 0) := by decide +kernel
theorem L_64_13 : a_look 64 13 = some (.getfield 10, 6, 0, 14) := by decide +kernel
theorem L_64_16 : a_look 64 16 = some (.iload_n 1, 0, 0, 0) := by decide +kernel
theorem L_64_17 : a_look 64 17 = some (.iconst 1, 0, 0, 0) := by decide +kernel
theorem L_64_18 : a_look 64 18 = some (.invokevirtual 65, 35, 3, 1501) := by decide +kernel
theorem L_64_21 : a_look 64 21 = some (.invokevirtual 49, 91, 2, 1220) := by decide +kernel
theorem L_64_24 : a_look 64 24 = some (.ireturn, 0, 0, 0) := by decide +kernel
theorem L_65_0 : a_look 65 0 = some (.aload_n 0, 0, 0, 0) := by decide +kernel
theorem L_65_1 : a_look 65 1 = some (.getfield 22, 6, 2, 19) := by decide +kernel
theorem L_65_4 : a_look 65 4 = some (.aload_n 0, 0, 0, 0) := by decide +kernel
theorem L_65_5 : a_look 65 5 = some (.getfield 10, 6, 0, 14) := by decide +kernel
theorem L_65_8 : a_look 65 8 = some (.invokevirtual 41, 27, 2, 1207) := by decide +kernel
theorem L_65_11 : a_look 65 11 = some (.aload_n 0, 0, 0, 0) := by decide +kernel
theorem L_65_12 : a_look 65 12 = some (.aload_n 0, 0, 0, 0) := by decide +kernel
theorem L_65_13 : a_look 65 13 = some (.getfield 10, 6, 0, 14) := by decide +kernel
theorem L_65_16 : a_look 65 16 = some (.iload_n 1, 0, 0, 0) := by decide +kernel
theorem L_65_17 : a_look 65 17 = some (.iconst 0, 0, 0, 0) := by decide +kernel
theorem L_65_18 : a_look 65 18 = some (.invokevirtual 65, 35, 3, 1501) := by decide +kernel
theorem L_65_21 : a_look 65 21 = some (.invokevirtual 49, 91, 2, 1220) := by decide +kernel
theorem L_65_24 : a_look 65 24 = some (.ireturn, 0, 0, 0) := by decide +kernel
theorem L_66_0 : a_look 66 0 = some (.aload_n 0, 0, 0, 0) := by decide +kernel
theorem L_66_1 : a_look 66 1 = some (.getfield 22, 6, 2, 19) := by decide +kernel
theorem L_66_4 : a_look 66 4 = some (.aload_n 0, 0, 0, 0) := by decide +kernel
theorem L_66_5 : a_look 66 5 = some (.getfield 10, 6, 0, 14) := by decide +kernel
theorem L_66_8 : a_look 66 8 = some (.invokevirtual 41, 27, 2, 1207) := by decide +kernel
theorem L_66_11 : a_look 66 11 = some (.aload_n 0, 0, 0, 0) := by decide +kernel
theorem L_66_12 : a_look 66 12 = some (.aload_n 0, 0, 0, 0) := by decide +kernel
theorem L_66_13 : a_look 66 13 = some (.getfield 10, 6, 0, 14) := by decide +kernel
theorem L_66_16 : a_look 66 16 = some (.iload_n 1, 0, 0, 0) := by decide +kernel
theorem L_66_17 : a_look 66 17 = some (.invokevirtual 68, 36, 2, 1514) := by decide +kernel
theorem L_66_20 : a_look 66 20 = some (.invokevirtual 49, 91, 2, 1220) := by decide +kernel
theorem L_66_23 : a_look 66 23 = some (.ireturn, 0, 0, 0) := by decide +kernel
theorem L_67_0 : a_look 67 0 = some (.aload_n 0, 0, 0, 0) := by decide +kernel
theorem L_67_1 : a_look 67 1 = some (.getfield 22, 6, 2, 19) := by decide +kernel
theorem L_67_4 : a_look 67 4 = some (.aload_n 0, 0, 0, 0) := by decide +kernel
theorem L_67_5 : a_look 67 5 = some (.getfield 10, 6, 0, 14) := by decide +kernel
theorem L_67_8 : a_look 67 8 = some (.invokevirtual 41, 27, 2, 1207) := by decide +kernel
theorem L_67_11 : a_look 67 11 = some (.aload_n 0, 0, 0, 0) := by decide +kernel
theorem L_67_12 : a_look 67 12 = some (.aload_n 0, 0, 0, 0) := by decide +kernel
theorem L_67_13 : a_look 67 13 = some (.getfield 10, 6, 0, 14) := by decide +kernel
theorem L_67_16 : a_look 67 16 = some (.iload_n 1, 0, 0, 0) := by decide +kernel
theorem L_67_17 : a_look 67 17 = some (.iload_n 2, 0, 0, 0) := by decide +kernel
theorem L_67_18 : a_look 67 18 = some (.iload_n 3, 0, 0, 0) := by decide +kernel
theorem L_67_19 : a_look 67 19 = some (.invokevirtual 71, 37, 4, 1607) := by decide +kernel
theorem L_67_22 : a_look 67 22 = some (.invokevirtual 49, 91, 2, 1220) := by decide +kernel
theorem L_67_25 : a_look 67 25 = some (.ireturn, 0, 0, 0) := by decide +kernel
theorem L_68_0 : a_look 68 0 = some (.aload_n 0, 0, 0, 0) := by decide +kernel
theorem L_68_1 : a_look 68 1 = some (.getfield 22, 6, 2, 19) := by decide +kernel
theorem L_68_4 : a_look 68 4 = some (.aload_n 0, 0, 0, 0) := by decide +kernel
theorem L_68_5 : a_look 68 5 = some (.getfield 10, 6, 0, 14) := by decide +kernel
theorem L_68_8 : a_look 68 8 = some (.invokevirtual 41, 27, 2, 1207) := by decide +kernel
theorem L_68_11 : a_look 68 11 = some (.aload_n 0, 0, 0, 0) := by decide +kernel
theorem L_68_12 : a_look 68 12 = some (.aload_n 0, 0, 0, 0) := by decide +kernel
theorem L_68_13 : a_look 68 13 = some (.getfield 10, 6, 0, 14) := by decide +kernel
theorem L_68_16 : a_look 68 16 = some (.iload_n 1, 0, 0, 0) := by decide +kernel
theorem L_68_17 : a_look 68 17 = some (.iload_n 2, 0, 0, 0) := by decide +kernel
theorem L_68_18 : a_look 68 18 = some (.invokevirtual 74, 38, 3, 1714) := by decide +kernel
theorem L_68_21 : a_look 68 21 = some (.invokevirtual 49, 91, 2, 1220) := by decide +kernel
theorem L_68_24 : a_look 68 24 = some (.ireturn, 0, 0, 0) := by decide +kernel
theorem L_69_0 : a_look 69 0 = some (.aload_n 0, 0, 0, 0) := by decide +kernel
theorem L_69_1 : a_look 69 1 = some (.getfield 22, 6, 2, 19) := by decide +kernel
theorem L_69_4 : a_look 69 4 = some (.aload_n 0, 0, 0, 0) := by decide +kernel
theorem L_69_5 : a_look 69 5 = some (.getfield 10, 6, 0, 14) := by decide +kernel
theorem L_69_8 : a_look 69 8 = some (.invokevirtual 41, 27, 2, 1207) := by decide +kernel
theorem L_69_11 : a_look 69 11 = some (.aload_n 0, 0, 0, 0) := by decide +kernel
theorem L_69_12 : a_look 69 12 = some (.aload_n 0, 0, 0, 0) := by decide +kernel
theorem L_69_13 : a_look 69 13 = some (.getfield 10, 6, 0, 14) := by decide +kernel
theorem L_69_16 : a_look 69 16 = some (.iload_n 1, 0, 0, 0) := by decide +kernel
theorem L_69_17 : a_look 69 17 = some (.invokevirtual 77, 39, 2, 1722) := by decide +kernel
theorem L_69_20 : a_look 69 20 = some (.invokevirtual 49, 91, 2, 1220) := by decide +kernel
theorem L_69_23 : a_look 69 23 = some (.ireturn, 0, 0, 0) := by decide +kernel
theorem L_70_0 : a_look 70 0 = some (.aload_n 0, 0, 0, 0) := by decide +kernel
theorem L_70_1 : a_look 70 1 = some (.getfield 22, 6, 2, 19) := by decide +kernel
theorem L_70_4 : a_look 70 4 = some (.aload_n 0, 0, 0, 0) := by decide +kernel
theorem L_70_5 : a_look 70 5 = some (.getfield 10, 6, 0, 14) := by decide +kernel
theorem L_70_8 : a_look 70 8 = some (.invokevirtual 41, 27, 2, 1207) := by decide +kernel
theorem L_70_11 : a_look 70 11 = some (.aload_n 0, 0, 0, 0) := by decide +kernel
theorem L_70_12 : a_look 70 12 = some (.aload_n 0, 0, 0, 0) := by decide +kernel
theorem L_70_13 : a_look 70 13 = some (.getfield 10, 6, 0, 14) := by decide +kernel
theorem L_70_16 : a_look 70 16 = some (.iload_n 1, 0, 0, 0) := by decide +kernel
theorem L_70_17 : a_look 70 17 = some (.invokevirtual 80, 40, 2, 1815) := by decide +kernel
theorem L_70_20 : a_look 70 20 = some (.invokevirtual 49, 91, 2, 1220) := by decide +kernel
theorem L_70_23 : a_look 70 23 = some (.ireturn, 0, 0, 0) := by decide +kernel
theorem L_78_0 : a_look 78 0 = some (.aload_n 0, 0, 0, 0) := by decide +kernel
theorem L_78_1 : a_look 78 1 = some (.getfield 10, 6, 0, 14) := by decide +kernel
theorem L_78_4 : a_look 78 4 = some (.getfield 132, 4, 0, 414) := by decide +kernel
theorem L_78_7 : a_look 78 7 = some (.iload_n 1, 0, 0, 0) := by decide +kernel
theorem L_78_8 : a_look 78 8 = some (.invokevirtual 136, 56, 2, 415) := by decide +kernel
theorem L_78_11 : a_look 78 11 = some (.ifCond .ne 5, 16, 0, 0) := by decide +kernel
theorem L_78_14 : a_look 78 14 = some (.iconst (-1), 0, 0, 0) := by decide +kernel
theorem L_78_15 : a_look 78 15 = some (.ireturn, 0, 0, 0) := by decide +kernel
theorem L_78_16 : a_look 78 16 = some (.iload_n 2, 0, 0, 0) := by decide +kernel
theorem L_78_17 : a_look 78 17 = some (.iconst 0, 0, 0, 0) := by decide +kernel
theorem L_78_18 : a_look 78 18 = some (.bipush 6, 0, 0, 0) := by decide +kernel
theorem L_78_20 : a_look 78 20 = some (.invokestatic 122, 93, 3, 420) := by decide +kernel
theorem L_78_23 : a_look 78 23 = some (.ifCond .eq 6, 29, 0, 0) := by decide +kernel
theorem L_78_26 : a_look 78 26 = some (.bipush (-2), 0, 0, 0) := by decide +kernel
theorem L_78_28 : a_look 78 28 = some (.ireturn, 0, 0, 0) := by decide +kernel
theorem L_78_29 : a_look 78 29 = some (.iload_n 2, 0, 0, 0) := by decide +kernel
theorem L_78_30 : a_look 78 30 = some (.bipush 6, 0, 0, 0) := by decide +kernel
theorem L_78_32 : a_look 78 32 = some (.if_icmp .ne 9, 41, 0, 0) := by decide +kernel
theorem L_78_35 : a_look 78 35 = some (.aload_n 0, 0, 0, 0) := by decide +kernel
theorem L_78_36 : a_look 78 36 = some (.iload_n 1, 0, 0, 0) := by decide +kernel
theorem L_78_37 : a_look 78 37 = some (.invokevirtual 142, 92, 2, 423) := by decide +kernel
theorem L_78_40 : a_look 78 40 = some (.ireturn, 0, 0, 0) := by decide +kernel
theorem L_78_41 : a_look 78 41 = some (.aload_n 0, 0, 0, 0) := by decide +kernel
theorem L_78_42 : a_look 78 42 = some (.getfield 10, 6, 0, 14) := by decide +kernel
theorem L_78_45 : a_look 78 45 = some (.getfield 132, 4, 0, 414) := by decide +kernel
theorem L_78_48 : a_look 78 48 = some (.iload_n 1, 0, 0, 0) := by decide +kernel
theorem L_78_49 : a_look 78 49 = some (.iload_n 2, 0, 0, 0) := by decide +kernel
theorem L_78_50 : a_look 78 50 = some (.invokevirtual 145, 57, 3, 801) := by decide +kernel
theorem L_78_53 : a_look 78 53 = some (.ireturn, 0, 0, 0) := by decide +kernel
theorem L_79_0 : a_look 79 0 = some (.aload_n 0, 0, 0, 0) := by decide +kernel
theorem L_79_1 : a_look 79 1 = some (.getfield 10, 6, 0, 14) := by decide +kernel
theorem L_79_4 : a_look 79 4 = some (.getfield 148, 4, 1, 809) := by decide +kernel
theorem L_79_7 : a_look 79 7 = some (.iload_n 1, 0, 0, 0) := by decide +kernel
theorem L_79_8 : a_look 79 8 = some (.invokevirtual 152, 23, 2, 811) := by decide +kernel
theorem L_79_11 : a_look 79 11 = some (.ifCond .ne 5, 16, 0, 0) := by decide +kernel
theorem L_79_14 : a_look 79 14 = some (.iconst (-1), 0, 0, 0) := by decide +kernel
theorem L_79_15 : a_look 79 15 = some (.ireturn, 0, 0, 0) := by decide +kernel
theorem L_79_16 : a_look 79 16 = some (.iload_n 2, 0, 0, 0) := by decide +kernel
theorem L_79_17 : a_look 79 17 = some (.iconst 0, 0, 0, 0) := by decide +kernel
theorem L_79_18 : a_look 79 18 = some (.bipush 7, 0, 0, 0) := by decide +kernel
theorem L_79_20 : a_look 79 20 = some (.invokestatic 122, 93, 3, 420) := by decide +kernel
theorem L_79_23 : a_look 79 23 = some (.ifCond .eq 6, 29, 0, 0) := by decide +kernel
theorem L_79_26 : a_look 79 26 = some (.bipush (-2), 0, 0, 0) := by decide +kernel
theorem L_79_28 : a_look 79 28 = some (.ireturn, 0, 0, 0) := by decide +kernel
theorem L_79_29 : a_look 79 29 = some (.aload_n 0, 0, 0, 0) := by decide +kernel
theorem L_79_30 : a_look 79 30 = some (.getfield 10, 6, 0, 14) := by decide +kernel
theorem L_79_33 : a_look 79 33 = some (.getfield 148, 4, 1, 809) := by decide +kernel
theorem L_79_36 : a_look 79 36 = some (.iload_n 1, 0, 0, 0) := by decide +kernel
theorem L_79_37 : a_look 79 37 = some (.iload_n 2, 0, 0, 0) := by decide +kernel
theorem L_79_38 : a_look 79 38 = some (.aload_n 0, 0, 0, 0) := by decide +kernel
theorem L_79_39 : a_look 79 39 = some (.getfield 10, 6, 0, 14) := by decide +kernel
theorem L_79_42 : a_look 79 42 = some (.getfield 129, 4, 4, 810) := by decide +kernel
theorem L_79_45 : a_look 79 45 = some (.invokevirtual 155, 25, 4, 815) := by decide +kernel
theorem L_79_48 : a_look 79 48 = some (.ireturn, 0, 0, 0) := by decide +kernel
theorem L_80_0 : a_look 80 0 = some (.aload_n 0, 0, 0, 0) := by decide +kernel
theorem L_80_1 : a_look 80 1 = some (.getfield 10, 6, 0, 14) := by decide +kernel
theorem L_80_4 : a_look 80 4 = some (.getfield 157, 4, 2, 504) := by decide +kernel
theorem L_80_7 : a_look 80 7 = some (.iload_n 1, 0, 0, 0) := by decide +kernel
theorem L_80_8 : a_look 80 8 = some (.invokevirtual 161, 9, 2, 900) := by decide +kernel
theorem L_80_11 : a_look 80 11 = some (.ifCond .ne 5, 16, 0, 0) := by decide +kernel
theorem L_80_14 : a_look 80 14 = some (.iconst (-1), 0, 0, 0) := by decide +kernel
theorem L_80_15 : a_look 80 15 = some (.ireturn, 0, 0, 0) := by decide +kernel
theorem L_80_16 : a_look 80 16 = some (.iload_n 2, 0, 0, 0) := by decide +kernel
theorem L_80_17 : a_look 80 17 = some (.iconst 0, 0, 0, 0) := by decide +kernel
theorem L_80_18 : a_look 80 18 = some (.bipush 10, 0, 0, 0) := by decide +kernel
theorem L_80_20 : a_look 80 20 = some (.invokestatic 122, 93, 3, 420) := by decide +kernel
theorem L_80_23 : a_look 80 23 = some (.ifCond .eq 6, 29, 0, 0) := by decide +kernel
theorem L_80_26 : a_look 80 26 = some (.bipush (-2), 0, 0, 0) := by decide +kernel
theorem L_80_28 : a_look 80 28 = some (.ireturn, 0, 0, 0) := by decide +kernel
theorem L_80_29 : a_look 80 29 = some (.iload_n 2, 0, 0, 0) := by decide +kernel
theorem L_80_30 : a_look 80 30 = some (.bipush 10, 0, 0, 0) := by decide +kernel
theorem L_80_32 : a_look 80 32 = some (.if_icmp .ne 12, 44, 0, 0) := by decide +kernel
theorem L_80_35 : a_look 80 35 = some (.aload_n 0, 0, 0, 0) := by decide +kernel
theorem L_80_36 : a_look 80 36 = some (.getfield 10, 6, 0, 14) := by decide +kernel
theorem L_80_39 : a_look 80 39 = some (.iload_n 1, 0, 0, 0) := by decide +kernel
theorem L_80_40 : a_look 80 40 = some (.invokevirtual 164, 46, 2, 904) := by decide +kernel
theorem L_80_43 : a_look 80 43 = some (.ireturn, 0, 0, 0) := by decide +kernel
theorem L_80_44 : a_look 80 44 = some (.aload_n 0, 0, 0, 0) := by decide +kernel
theorem L_80_45 : a_look 80 45 = some (.getfield 10, 6, 0, 14) := by decide +kernel
theorem L_80_48 : a_look 80 48 = some (.getfield 157, 4, 2, 504) := by decide +kernel
theorem L_80_51 : a_look 80 51 = some (.iload_n 1, 0, 0, 0) := by decide +kernel
theorem L_80_52 : a_look 80 52 = some (.iload_n 2, 0, 0, 0) := by decide +kernel
theorem L_80_53 : a_look 80 53 = some (.invokevirtual 167, 14, 3, 908) := by decide +kernel
theorem L_80_56 : a_look 80 56 = some (.ireturn, 0, 0, 0) := by decide +kernel
theorem L_84_0 : a_look 84 0 = some (.iload_n 1, 0, 0, 0) := by decide +kernel
theorem L_84_1 : a_look 84 1 = some (.iconst 0, 0, 0, 0) := by decide +kernel
theorem L_84_2 : a_look 84 2 = some (.bipush 7, 0, 0, 0) := by decide +kernel
theorem L_84_4 : a_look 84 4 = some (.invokestatic 122, 93, 3, 420) := by decide +kernel
theorem L_84_7 : a_look 84 7 = some (.ifCond .eq 6, 13, 0, 0) := by decide +kernel
theorem L_84_10 : a_look 84 10 = some (.bipush (-2), 0, 0, 0) := by decide +kernel
theorem L_84_12 : a_look 84 12 = some (.ireturn, 0, 0, 0) := by decide +kernel
theorem L_84_13 : a_look 84 13 = some (.aload_n 0, 0, 0, 0) := by decide +kernel
theorem L_84_14 : a_look 84 14 = some (.getfield 10, 6, 0, 14) := by decide +kernel
theorem L_84_17 : a_look 84 17 = some (.getfield 157, 4, 2, 504) := by decide +kernel
theorem L_84_20 : a_look 84 20 = some (.iload_n 1, 0, 0, 0) := by decide +kernel
theorem L_84_21 : a_look 84 21 = some (.invokevirtual 182, 16, 2, 921) := by decide +kernel
theorem L_84_24 : a_look 84 24 = some (.ireturn, 0, 0, 0) := by decide +kernel
theorem L_85_0 : a_look 85 0 = some (.iload_n 1, 0, 0, 0) := by decide +kernel
theorem L_85_1 : a_look 85 1 = some (.iconst 0, 0, 0, 0) := by decide +kernel
theorem L_85_2 : a_look 85 2 = some (.bipush 15, 0, 0, 0) := by decide +kernel
theorem L_85_4 : a_look 85 4 = some (.invokestatic 122, 93, 3, 420) := by decide +kernel
theorem L_85_7 : a_look 85 7 = some (.ifCond .eq 6, 13, 0, 0) := by decide +kernel
theorem L_85_10 : a_look 85 10 = some (.bipush (-2), 0, 0, 0) := by decide +kernel
theorem L_85_12 : a_look 85 12 = some (.ireturn, 0, 0, 0) := by decide +kernel
theorem L_85_13 : a_look 85 13 = some (.iload_n 1, 0, 0, 0) := by decide +kernel
theorem L_85_14 : a_look 85 14 = some (.bipush 11, 0, 0, 0) := by decide +kernel
theorem L_85_16 : a_look 85 16 = some (.if_icmp .ne 11, 27, 0, 0) := by decide +kernel
theorem L_85_19 : a_look 85 19 = some (.aload_n 0, 0, 0, 0) := by decide +kernel
theorem L_85_20 : a_look 85 20 = some (.getfield 22, 6, 2, 19) := by decide +kernel
theorem L_85_23 : a_look 85 23 = some (.getfield 116, 3, 2, 1008) := by decide +kernel
theorem L_85_26 : a_look 85 26 = some (.ireturn, 0, 0, 0) := by decide +kernel
theorem L_85_27 : a_look 85 27 = some (.iload_n 1, 0, 0, 0) := by decide +kernel
theorem L_85_28 : a_look 85 28 = some (.bipush 12, 0, 0, 0) := by decide +kernel
theorem L_85_30 : a_look 85 30 = some (.if_icmp .ne 11, 41, 0, 0) := by decide +kernel
theorem L_85_33 : a_look 85 33 = some (.aload_n 0, 0, 0, 0) := by decide +kernel
theorem L_85_34 : a_look 85 34 = some (.getfield 37, 6, 5, 102) := by decide +kernel
theorem L_85_37 : a_look 85 37 = some (.getfield 185, 0, 1, 1009) := by decide +kernel
theorem L_85_40 : a_look 85 40 = some (.ireturn, 0, 0, 0) := by decide +kernel
theorem L_85_41 : a_look 85 41 = some (.aload_n 0, 0, 0, 0) := by decide +kernel
theorem L_85_42 : a_look 85 42 = some (.getfield 10, 6, 0, 14) := by decide +kernel
theorem L_85_45 : a_look 85 45 = some (.iload_n 1, 0, 0, 0) := by decide +kernel
theorem L_85_46 : a_look 85 46 = some (.invokevirtual 188, 55, 2, 1010) := by decide +kernel
theorem L_85_49 : a_look 85 49 = some (.ireturn, 0, 0, 0) := by decide +kernel
theorem L_91_0 : a_look 91 0 = some (.iload_n 1, 0, 0, 0) := by decide +kernel
theorem L_91_1 : a_look 91 1 = some (.ifCond .lt 10, 11, 0, 0) := by decide +kernel
theorem L_91_4 : a_look 91 4 = some (.aload_n 0, 0, 0, 0) := by decide +kernel
theorem L_91_5 : a_look 91 5 = some (.getfield 22, 6, 2, 19) := by decide +kernel
theorem L_91_8 : a_look 91 8 = some (.invokevirtual 215, 28, 1, 1300) := by decide +kernel
theorem L_91_11 : a_look 91 11 = some (.iload_n 1, 0, 0, 0) := by decide +kernel
theorem L_91_12 : a_look 91 12 = some (.ireturn, 0, 0, 0) := by decide +kernel
theorem L_92_0 : a_look 92 0 = some (.aload_n 0, 0, 0, 0) := by decide +kernel
theorem L_92_1 : a_look 92 1 = some (.getfield 16, 6, 1, 15) := by decide +kernel
theorem L_92_4 : a_look 92 4 = some (.aload_n 0, 0, 0, 0) := by decide +kernel
theorem L_92_5 : a_look 92 5 = some (.getfield 10, 6, 0, 14) := by decide +kernel
theorem L_92_8 : a_look 92 8 = some (.invokevirtual 126, 30, 2, 506) := by decide +kernel
theorem L_92_11 : a_look 92 11 = some (.aload_n 0, 0, 0, 0) := by decide +kernel
theorem L_92_12 : a_look 92 12 = some (.getfield 16, 6, 1, 15) := by decide +kernel
theorem L_92_15 : a_look 92 15 = some (.getfield 132, 4, 0, 414) := by decide +kernel
theorem L_92_18 : a_look 92 18 = some (.getfield 196, 5, 4, 503) := by decide +kernel
theorem L_92_21 : a_look 92 21 = some (.iload_n 1, 0, 0, 0) := by decide +kernel
theorem L_92_22 : a_look 92 22 = some (.iconst 0, 0, 0, 0) := by decide +kernel
theorem L_92_23 : a_look 92 23 = some (.iastore, 0, 0, 0) := by decide +kernel
theorem L_92_24 : a_look 92 24 = some (.iconst 0, 0, 0, 0) := by decide +kernel
theorem L_92_25 : a_look 92 25 = some (.istore_n 2, 0, 0, 0) := by decide +kernel
theorem L_92_26 : a_look 92 26 = some (.iconst 0, 0, 0, 0) := by decide +kernel
theorem L_92_27 : a_look 92 27 = some (.istore_n 3, 0, 0, 0) := by decide +kernel
theorem L_92_28 : a_look 92 28 = some (.iload_n 3, 0, 0, 0) := by decide +kernel
theorem L_92_29 : a_look 92 29 = some (.aload_n 0, 0, 0, 0) := by decide +kernel
theorem L_92_30 : a_look 92 30 = some (.getfield 10, 6, 0, 14) := by decide +kernel
theorem L_92_33 : a_look 92 33 = some (.getfield 157, 4, 2, 504) := by decide +kernel
theorem L_92_36 : a_look 92 36 = some (.getfield 199, 1, 10, 505) := by decide +kernel
theorem L_92_39 : a_look 92 39 = some (.if_icmp .ge 48, 87, 0, 0) := by decide +kernel
theorem L_92_42 : a_look 92 42 = some (.aload_n 0, 0, 0, 0) := by decide +kernel
theorem L_92_43 : a_look 92 43 = some (.getfield 10, 6, 0, 14) := by decide +kernel
theorem L_92_46 : a_look 92 46 = some (.getfield 157, 4, 2, 504) := by decide +kernel
theorem L_92_49 : a_look 92 49 = some (.iload_n 3, 0, 0, 0) := by decide +kernel
theorem L_92_50 : a_look 92 50 = some (.invokevirtual 206, 10, 2, 612) := by decide +kernel
theorem L_92_53 : a_look 92 53 = some (.ifCond .eq 28, 81, 0, 0) := by decide +kernel
theorem L_92_56 : a_look 92 56 = some (.aload_n 0, 0, 0, 0) := by decide +kernel
theorem L_92_57 : a_look 92 57 = some (.getfield 10, 6, 0, 14) := by decide +kernel
theorem L_92_60 : a_look 92 60 = some (.iload_n 3, 0, 0, 0) := by decide +kernel
theorem L_92_61 : a_look 92 61 = some (.invokevirtual 218, 52, 2, 616) := by decide +kernel
theorem L_92_64 : a_look 92 64 = some (.ifCond .ne 17, 81, 0, 0) := by decide +kernel
theorem L_92_67 : a_look 92 67 = some (.aload_n 0, 0, 0, 0) := by decide +kernel
theorem L_92_68 : a_look 92 68 = some (.getfield 16, 6, 1, 15) := by decide +kernel
theorem L_92_71 : a_look 92 71 = some (.iload_n 3, 0, 0, 0) := by decide +kernel
theorem L_92_72 : a_look 92 72 = some (.invokevirtual 218, 52, 2, 616) := by decide +kernel
theorem L_92_75 : a_look 92 75 = some (.ifCond .eq 6, 81, 0, 0) := by decide +kernel
theorem L_92_78 : a_look 92 78 = some (.iinc 2 1, 0, 0, 0) := by decide +kernel
theorem L_92_81 : a_look 92 81 = some (.iinc 3 1, 0, 0, 0) := by decide +kernel
theorem L_92_84 : a_look 92 84 = some (.goto (-56), 28, 0, 0) := by decide +kernel
theorem L_92_87 : a_look 92 87 = some (.iload_n 2, 0, 0, 0) := by decide +kernel
theorem L_92_88 : a_look 92 88 = some (.ireturn, 0, 0, 0) := by decide +kernel
