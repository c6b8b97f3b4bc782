/-! code rows -/
theorem L_60_0 : a_look 60 0 = some (.aload_n 0, 0, 0, 0) := by decide +kernel
theorem L_60_1 : a_look 60 1 = some (.getfield 22, 6, 2, 20) := by decide +kernel
theorem L_60_4 : a_look 60 4 = some (.aload_n 0, 0, 0, 0) := by decide +kernel
theorem L_60_5 : a_look 60 5 = some (.getfield 10, 6, 0, 15) := by decide +kernel
theorem L_60_8 : a_look 60 8 = some (.invokevirtual 41, 27, 2, 407) := by decide +kernel
theorem L_60_11 : a_look 60 11 = some (.aload_n 0, 0, 0, 0) := by decide +kernel
theorem L_60_12 : a_look 60 12 = some (.aload_n 0, 0, 0, 0) := by decide +kernel
theorem L_60_13 : a_look 60 13 = some (.getfield 10, 6, 0, 15) := by decide +kernel
theorem L_60_16 : a_look 60 16 = some (.iload_n 1, 0, 0, 0) := by decide +kernel
theorem L_60_17 : a_look 60 17 = some (.iload_n 2, 0, 0, 0) := by decide +kernel
theorem L_60_18 : a_look 60 18 = some (.iload_n 3, 0, 0, 0) := by decide +kernel
theorem L_60_19 : a_look 60 19 = some (.iload 4, 0, 0, 0) := by decide +kernel
theorem L_60_21 : a_look 60 21 = some (.invokevirtual 45, 31, 5, 520) := by decide +kernel
theorem L_60_24 : a_look 60 24 = some (.invokevirtual 49, 91, 2, 611) := by decide +kernel
theorem L_60_27 : a_look 60 27 = some (.ireturn, 0, 0, 0) := by decide +kernel
theorem L_61_0 : a_look 61 0 = some (.aload_n 0, 0, 0, 0) := by decide +kernel
theorem L_61_1 : a_look 61 1 = some (.getfield 22, 6, 2, 20) := by decide +kernel
theorem L_61_4 : a_look 61 4 = some (.aload_n 0, 0, 0, 0) := by decide +kernel
theorem L_61_5 : a_look 61 5 = some (.getfield 10, 6, 0, 15) := by decide +kernel
theorem L_61_8 : a_look 61 8 = some (.invokevirtual 41, 27, 2, 407) := by decide +kernel
theorem L_61_11 : a_look 61 11 = some (.aload_n 0, 0, 0, 0) := by decide +kernel
theorem L_61_12 : a_look 61 12 = some (.aload_n 0, 0, 0, 0) := by decide +kernel
theorem L_61_13 : a_look 61 13 = some (.getfield 10, 6, 0, 15) := by decide +kernel
theorem L_61_16 : a_look 61 16 = some (.iload_n 1, 0, 0, 0) := by decide +kernel
theorem L_61_17 : a_look 61 17 = some (.iload_n 2, 0, 0, 0) := by decide +kernel
theorem L_61_18 : a_look 61 18 = some (.iload_n 3, 0, 0, 0) := by decide +kernel
theorem L_61_19 : a_look 61 19 = some (.iload 4, 0, 0, 0) := by decide +kernel
theorem L_61_21 : a_look 61 21 = some (.iload 5, 0, 0, 0) := by decide +kernel
theorem L_61_23 : a_look 61 23 = some (.iload 6, 0, 0, 0) := by decide +kernel
theorem L_61_25 : a_look 61 25 = some (.invokevirtual 53, 32, 7, 718) := by decide +kernel
theorem L_61_28 : a_look 61 28 = some (.invokevirtual 49, 91, 2, 611) := by decide +kernel
theorem L_61_31 : a_look 61 31 = some (.ireturn, 0, 0, 0) := by decide +kernel
theorem L_62_0 : a_look 62 0 = some (.aload_n 0, 0, 0, 0) := by decide +kernel
theorem L_62_1 : a_look 62 1 = some (.getfield 22, 6, 2, 20) := by decide +kernel
theorem L_62_4 : a_look 62 4 = some (.aload_n 0, 0, 0, 0) := by decide +kernel
theorem L_62_5 : a_look 62 5 = some (.getfield 10, 6, 0, 15) := by decide +kernel
theorem L_62_8 : a_look 62 8 = some (.invokevirtual 41, 27, 2, 407) := by decide +kernel
theorem L_62_11 : a_look 62 11 = some (.aload_n 0, 0, 0, 0) := by decide +kernel
theorem L_62_12 : a_look 62 12 = some (.aload_n 0, 0, 0, 0) := by decide +kernel
theorem L_62_13 : a_look 62 13 = some (.getfield 10, 6, 0, 15) := by decide +kernel
theorem L_62_16 : a_look 62 16 = some (.iload_n 1, 0, 0, 0) := by decide +kernel
theorem L_62_17 : a_look 62 17 = some (.iload_n 2, 0, 0, 0) := by decide +kernel
theorem L_62_18 : a_look 62 18 = some (.iload_n 3, 0, 0, 0) := by decide +kernel
theorem L_62_19 : a_look 62 19 = some (.invokevirtual 57, 33, 4, 1215) := by decide +kernel
theorem L_62_22 : a_look 62 22 = some (.invokevirtual 49, 91, 2, 611) := by decide +kernel
theorem L_62_25 : a_look 62 25 = some (.ireturn, 0, 0, 0) := by decide +kernel
theorem L_63_0 : a_look 63 0 = some (.aload_n 0, 0, 0, 0) := by decide +kernel
theorem L_63_1 : a_look 63 1 = some (.getfield 22, 6, 2, 20) := by decide +kernel
theorem L_63_4 : a_look 63 4 = some (.aload_n 0, 0, 0, 0) := by decide +kernel
theorem L_63_5 : a_look 63 5 = some (.getfield 10, 6, 0, 15) := by decide +kernel
theorem L_63_8 : a_look 63 8 = some (.invokevirtual 41, 27, 2, 407) := by decide +kernel
theorem L_63_11 : a_look 63 11 = some (.aload_n 0, 0, 0, 0) := by decide +kernel
theorem L_63_12 : a_look 63 12 = some (.aload_n 0, 0, 0, 0) := by decide +kernel
theorem L_63_13 : a_look 63 13 = some (.getfield 10, 6, 0, 15) := by decide +kernel
theorem L_63_16 : a_look 63 16 = some (.iload_n 1, 0, 0, 0) := by decide +kernel
theorem L_63_17 : a_look 63 17 = some (.iload_n 2, 0, 0, 0) := by decide +kernel
theorem L_63_18 : a_look 63 18 = some (.invokevirtual 61, 34, 3, 1318) := by decide +kernel
theorem L_63_21 : a_look 63 21 = some (.invokevirtual 49, 91, 2, 611) := by decide +kernel
theorem L_63_24 : a_look 63 24 = some (.ireturn, 0, 0, 0) := by decide +kernel
theorem L_64_0 : a_look 64 0 = some (.aload_n 0, 0, 0, 0) := by decide +kernel
theorem L_64_1 : a_look 64 1 = some (.getfield 22, 6, 2, 20) := by decide +kernel
theorem L_64_4 : a_look 64 4 = some (.aload_n 0, 0, 0, 0) := by decide +kernel
theorem L_64_5 : a_look 64 5 = some (.getfield 10, 6, 0, 15) := by decide +kernel
theorem L_64_8 : a_look 64 8 = some (.invokevirtual 41, 27, 2, 407) := by decide +kernel
theorem L_64_11 : a_look 64 11 = some (.aload_n 0, 0, 0, 0) := by decide +kernel
theorem L_64_12 : a_look 64 12 = some (.aload_n 0, 0, 0, 0) := by decide +kernel
theorem L_64_13 : a_look 64 13 = some (.getfield 10, 6, 0, 15) := by decide +kernel
theorem L_64_16 : a_look 64 16 = some (.iload_n 1, 0, 0, 0) := by decide +kernel
theorem L_64_17 : a_look 64 17 = some (.iconst 1, 0, 0, 0) := by decide +kernel
theorem L_64_18 : a_look 64 18 = some (.invokevirtual 65, 35, 3, 1406) := by decide +kernel
theorem L_64_21 : a_look 64 21 = some (.invokevirtual 49, 91, 2, 611) := by decide +kernel
theorem L_64_24 : a_look 64 24 = some (.ireturn, 0, 0, 0) := by decide +kernel
theorem L_65_0 : a_look 65 0 = some (.aload_n 0, 0, 0, 0) := by decide +kernel
theorem L_65_1 : a_look 65 1 = some (.getfield 22, 6, 2, 20) := by decide +kernel
theorem L_65_4 : a_look 65 4 = some (.aload_n 0, 0, 0, 0) := by decide +kernel
theorem L_65_5 : a_look 65 5 = some (.getfield 10, 6, 0, 15) := by decide +kernel
theorem L_65_8 : a_look 65 8 = some (.invokevirtual 41, 27, 2, 407) := by decide +kernel
theorem L_65_11 : a_look 65 11 = some (.aload_n 0, 0, 0, 0) := by decide +kernel
theorem L_65_12 : a_look 65 12 = some (.aload_n 0, 0, 0, 0) := by decide +kernel
theorem L_65_13 : a_look 65 13 = some (.getfield 10, 6, 0, 15) := by decide +kernel
theorem L_65_16 : a_look 65 16 = some (.iload_n 1, 0, 0, 0) := by decide +kernel
theorem L_65_17 : a_look 65 17 = some (.iconst 0, 0, 0, 0) := by decide +kernel
theorem L_65_18 : a_look 65 18 = some (.invokevirtual 65, 35, 3, 1406) := by decide +kernel
theorem L_65_21 : a_look 65 21 = some (.invokevirtual 49, 91, 2, 611) := by decide +kernel
theorem L_65_24 : a_look 65 24 = some (.ireturn, 0, 0, 0) := by decide +kernel
theorem L_66_0 : a_look 66 0 = some (.aload_n 0, 0, 0, 0) := by decide +kernel
theorem L_66_1 : a_look 66 1 = some (.getfield 22, 6, 2, 20) := by decide +kernel
theorem L_66_4 : a_look 66 4 = some (.aload_n 0, 0, 0, 0) := by decide +kernel
theorem L_66_5 : a_look 66 5 = some (.getfield 10, 6, 0, 15) := by decide +kernel
theorem L_66_8 : a_look 66 8 = some (.invokevirtual 41, 27, 2, 407) := by decide +kernel
theorem L_66_11 : a_look 66 11 = some (.aload_n 0, 0, 0, 0) := by decide +kernel
theorem L_66_12 : a_look 66 12 = some (.aload_n 0, 0, 0, 0) := by decide +kernel
theorem L_66_13 : a_look 66 13 = some (.getfield 10, 6, 0, 15) := by decide +kernel
theorem L_66_16 : a_look 66 16 = some (.iload_n 1, 0, 0, 0) := by decide +kernel
theorem L_66_17 : a_look 66 17 = some (.invokevirtual 68, 36, 2, 1523) := by decide +kernel
theorem L_66_20 : a_look 66 20 = some (.invokevirtual 49, 91, 2, 611) := by decide +kernel
theorem L_66_23 : a_look 66 23 = some (.ireturn, 0, 0, 0) := by decide +kernel
theorem L_67_0 : a_look 67 0 = some (.aload_n 0, 0, 0, 0) := by decide +kernel
theorem L_67_1 : a_look 67 1 = some (.getfield 22, 6, 2, 20) := by decide +kernel
theorem L_67_4 : a_look 67 4 = some (.aload_n 0, 0, 0, 0) := by decide +kernel
theorem L_67_5 : a_look 67 5 = some (.getfield 10, 6, 0, 15) := by decide +kernel
theorem L_67_8 : a_look 67 8 = some (.invokevirtual 41, 27, 2, 407) := by decide +kernel
theorem L_67_11 : a_look 67 11 = some (.aload_n 0, 0, 0, 0) := by decide +kernel
theorem L_67_12 : a_look 67 12 = some (.aload_n 0, 0, 0, 0) := by decide +kernel
theorem L_67_13 : a_look 67 13 = some (.getfield 10, 6, 0, 15) := by decide +kernel
theorem L_67_16 : a_look 67 16 = some (.iload_n 1, 0, 0, 0) := by decide +kernel
theorem L_67_17 : a_look 67 17 = some (.iload_n 2, 0, 0, 0) := by decide +kernel
theorem L_67_18 : a_look 67 18 = some (.iload_n 3, 0, 0, 0) := by decide +kernel
theorem L_67_19 : a_look 67 19 = some (.invokevirtual 71, 37, 4, 1619) := by decide +kernel
theorem L_67_22 : a_look 67 22 = some (.invokevirtual 49, 91, 2, 611) := by decide +kernel
theorem L_67_25 : a_look 67 25 = some (.ireturn, 0, 0, 0) := by decide +kernel
theorem L_68_0 : a_look 68 0 = some (.aload_n 0, 0, 0, 0) := by decide +kernel
theorem L_68_1 : a_look 68 1 = some (.getfield 22, 6, 2, 20) := by decide +kernel
theorem L_68_4 : a_look 68 4 = some (.aload_n 0, 0, 0, 0) := by decide +kernel
theorem L_68_5 : a_look 68 5 = some (.getfield 10, 6, 0, 15) := by decide +kernel
theorem L_68_8 : a_look 68 8 = some (.invokevirtual 41, 27, 2, 407) := by decide +kernel
theorem L_68_11 : a_look 68 11 = some (.aload_n 0, 0, 0, 0) := by decide +kernel
theorem L_68_12 : a_look 68 12 = some (.aload_n 0, 0, 0, 0) := by decide +kernel
theorem L_68_13 : a_look 68 13 = some (.getfield 10, 6, 0, 15) := by decide +kernel
theorem L_68_16 : a_look 68 16 = some (.iload_n 1, 0, 0, 0) := by decide +kernel
theorem L_68_17 : a_look 68 17 = some (.iload_n 2, 0, 0, 0) := by decide +kernel
theorem L_68_18 : a_look 68 18 = some (.invokevirtual 74, 38, 3, 1912) := by decide +kernel
theorem L_68_21 : a_look 68 21 = some (.invokevirtual 49, 91, 2, 611) := by decide +kernel
theorem L_68_24 : a_look 68 24 = some (.ireturn, 0, 0, 0) := by decide +kernel
theorem L_69_0 : a_look 69 0 = some (.aload_n 0, 0, 0, 0) := by decide +kernel
theorem L_69_1 : a_look 69 1 = some (.getfield 22, 6, 2, 20) := by decide +kernel
theorem L_69_4 : a_look 69 4 = some (.aload_n 0, 0, 0, 0) := by decide +kernel
theorem L_69_5 : a_look 69 5 = some (.getfield 10, 6, 0, 15) := by decide +kernel
theorem L_69_8 : a_look 69 8 = some (.invokevirtual 41, 27, 2, 407) := by decide +kernel
theorem L_69_11 : a_look 69 11 = some (.aload_n 0, 0, 0, 0) := by decide +kernel
theorem L_69_12 : a_look 69 12 = some (.aload_n 0, 0, 0, 0) := by decide +kernel
theorem L_69_13 : a_look 69 13 = some (.getfield 10, 6, 0, 15) := by decide +kernel
theorem L_69_16 : a_look 69 16 = some (.iload_n 1, 0, 0, 0) := by decide +kernel
theorem L_69_17 : a_look 69 17 = some (.invokevirtual 77, 39, 2, 2000) := by decide +kernel
theorem L_69_20 : a_look 69 20 = some (.invokevirtual 49, 91, 2, 611) := by decide +kernel
theorem L_69_23 : a_look 69 23 = some (.ireturn, 0, 0, 0) := by decide +kernel
theorem L_70_0 : a_look 70 0 = some (.aload_n 0, 0, 0, 0) := by decide +kernel
theorem L_70_1 : a_look 70 1 = some (.getfield 22, 6, 2, 20) := by decide +kernel
theorem L_70_4 : a_look 70 4 = some (.aload_n 0, 0, 0, 0) := by decide +kernel
theorem L_70_5 : a_look 70 5 = some (.getfield 10, 6, 0, 15) := by decide +kernel
theorem L_70_8 : a_look 70 8 = some (.invokevirtual 41, 27, 2, 407) := by decide +kernel
theorem L_70_11 : a_look 70 11 = some (.aload_n 0, 0, 0, 0) := by decide +kernel
theorem L_70_12 : a_look 70 12 = some (.aload_n 0, 0, 0, 0) := by decide +kernel
theorem L_70_13 : a_look 70 13 = some (.getfield 10, 6, 0, 15) := by decide +kernel
theorem L_70_16 : a_look 70 16 = some (.iload_n 1, 0, 0, 0) := by decide +kernel
theorem L_70_17 : a_look 70 17 = some (.invokevirtual 80, 40, 2, 2021) := by decide +kernel
theorem L_70_20 : a_look 70 20 = some (.invokevirtual 49, 91, 2, 611) := by decide +kernel
theorem L_70_23 : a_look 70 23 = some (.ireturn, 0, 0, 0) := by decide +kernel
theorem L_71_0 : a_look 71 0 = some (.aload_n 0, 0, 0, 0) := by decide +kernel
theorem L_71_1 : a_look 71 1 = some (.getfield 37, 6, 5, 103) := by decide +kernel
theorem L_71_4 : a_look 71 4 = some (.iload_n 1, 0, 0, 0) := by decide +kernel
theorem L_71_5 : a_look 71 5 = some (.invokevirtual 83, 0, 2, 2213) := by decide +kernel
theorem L_71_8 : a_look 71 8 = some (.ireturn, 0, 0, 0) := by decide +kernel
theorem L_72_0 : a_look 72 0 = some (.aload_n 0, 0, 0, 0) := by decide +kernel
theorem L_72_1 : a_look 72 1 = some (.getfield 37, 6, 5, 103) := by decide +kernel
theorem L_72_4 : a_look 72 4 = some (.invokevirtual 86, 1, 1, 2303) := by decide +kernel
theorem L_72_7 : a_look 72 7 = some (.ireturn, 0, 0, 0) := by decide +kernel
theorem L_73_0 : a_look 73 0 = some (.aload_n 0, 0, 0, 0) := by decide +kernel
theorem L_73_1 : a_look 73 1 = some (.getfield 37, 6, 5, 103) := by decide +kernel
theorem L_73_4 : a_look 73 4 = some (.invokevirtual 90, 2, 1, 2315) := by decide +kernel
theorem L_73_7 : a_look 73 7 = some (.ireturn, 0, 0, 0) := by decide +kernel
theorem L_74_0 : a_look 74 0 = some (.aload_n 0, 0, 0, 0) := by decide +kernel
theorem L_74_1 : a_look 74 1 = some (.getfield 37, 6, 5, 103) := by decide +kernel
theorem L_74_4 : a_look 74 4 = some (.invokevirtual 90, 2, 1, 2315) := by decide +kernel
theorem L_74_7 : a_look 74 7 = some (.bipush (-6), 0, 0, 0) := by decide +kernel
theorem L_74_9 : a_look 74 9 = some (.if_icmp .eq 6, 15, 0, 0) := by decide +kernel
theorem L_74_12 : a_look 74 12 = some (.bipush (-3), 0, 0, 0) := by decide +kernel
theorem L_74_14 : a_look 74 14 = some (.ireturn, 0, 0, 0) := by decide +kernel
theorem L_74_15 : a_look 74 15 = some (.aload_n 0, 0, 0, 0) := by decide +kernel
theorem L_74_16 : a_look 74 16 = some (.getfield 22, 6, 2, 20) := by decide +kernel
theorem L_74_19 : a_look 74 19 = some (.aload_n 0, 0, 0, 0) := by decide +kernel
theorem L_74_20 : a_look 74 20 = some (.getfield 10, 6, 0, 15) := by decide +kernel
theorem L_74_23 : a_look 74 23 = some (.invokevirtual 41, 27, 2, 407) := by decide +kernel
theorem L_74_26 : a_look 74 26 = some (.iconst 0, 0, 0, 0) := by decide +kernel
theorem L_74_27 : a_look 74 27 = some (.istore_n 1, 0, 0, 0) := by decide +kernel
theorem L_74_28 : a_look 74 28 = some (.iconst 0, 0, 0, 0) := by decide +kernel
theorem L_74_29 : a_look 74 29 = some (.istore_n 2, 0, 0, 0) := by decide +kernel
theorem L_74_30 : a_look 74 30 = some (.aload_n 0, 0, 0, 0) := by decide +kernel
theorem L_74_31 : a_look 74 31 = some (.getfield 37, 6, 5, 103) := by decide +kernel
theorem L_74_34 : a_look 74 34 = some (.invokevirtual 93, 3, 1, 2608) := by decide +kernel
theorem L_74_37 : a_look 74 37 = some (.iconst 0, 0, 0, 0) := by decide +kernel
theorem L_74_38 : a_look 74 38 = some (.istore_n 3, 0, 0, 0) := by decide +kernel
theorem L_74_39 : a_look 74 39 = some (.iload_n 3, 0, 0, 0) := by decide +kernel
theorem L_74_40 : a_look 74 40 = some (.bipush 80, 0, 0, 0) := by decide +kernel
theorem L_74_42 : a_look 74 42 = some (.if_icmp .ge 190, 232, 0, 0) := by decide +kernel
theorem L_74_45 : a_look 74 45 = some (.aload_n 0, 0, 0, 0) := by decide +kernel
theorem L_74_46 : a_look 74 46 = some (.getfield 37, 6, 5, 103) := by decide +kernel
theorem L_74_49 : a_look 74 49 = some (.invokevirtual 96, 4, 1, 2609) := by decide +kernel
theorem L_74_52 : a_look 74 52 = some (.ifCond .eq 180, 232, 0, 0) := by decide +kernel
theorem L_74_55 : a_look 74 55 = some (.iload_n 2, 0, 0, 0) := by decide +kernel
theorem L_74_56 : a_look 74 56 = some (.ifCond .lt 176, 232, 0, 0) := by decide +kernel
theorem L_74_59 : a_look 74 59 = some (.aload_n 0, 0, 0, 0) := by decide +kernel
theorem L_74_60 : a_look 74 60 = some (.getfield 37, 6, 5, 103) := by decide +kernel
theorem L_74_63 : a_look 74 63 = some (.invokevirtual 100, 5, 1, 2610) := by decide +kernel
theorem L_74_66 : a_look 74 66 = some (.aload_n 0, 0, 0, 0) := by decide +kernel
theorem L_74_67 : a_look 74 67 = some (.getfield 37, 6, 5, 103) := by decide +kernel
theorem L_74_70 : a_look 74 70 = some (.getfield 103, 0, 4, 2604) := by decide +kernel
theorem L_74_73 : a_look 74 73 = some (.lookupswitch 131 #[(103, 75), (108, 43), (119, 93), (122, 112)], 0, 43, 0) := by decide +kernel
theorem L_74_116 : a_look 74 116 = some (.aload_n 0, 0, 0, 0) := by decide +kernel
theorem L_74_117 : a_look 74 117 = some (.getfield 10, 6, 0, 15) := by decide +kernel
theorem L_74_120 : a_look 74 120 = some (.aload_n 0, 0, 0, 0) := by decide +kernel
theorem L_74_121 : a_look 74 121 = some (.getfield 37, 6, 5, 103) := by decide +kernel
theorem L_74_124 : a_look 74 124 = some (.getfield 107, 0, 5, 2605) := by decide +kernel
theorem L_74_127 : a_look 74 127 = some (.aload_n 0, 0, 0, 0) := by decide +kernel
theorem L_74_128 : a_look 74 128 = some (.getfield 37, 6, 5, 103) := by decide +kernel
theorem L_74_131 : a_look 74 131 = some (.getfield 110, 0, 6, 2606) := by decide +kernel
theorem L_74_134 : a_look 74 134 = some (.aload_n 0, 0, 0, 0) := by decide +kernel
theorem L_74_135 : a_look 74 135 = some (.getfield 37, 6, 5, 103) := by decide +kernel
theorem L_74_138 : a_look 74 138 = some (.getfield 113, 0, 7, 2607) := by decide +kernel
theorem L_74_141 : a_look 74 141 = some (.invokevirtual 71, 37, 4, 1619) := by decide +kernel
theorem L_74_144 : a_look 74 144 = some (.istore_n 2, 0, 0, 0) := by decide +kernel
theorem L_74_145 : a_look 74 145 = some (.goto 74, 219, 0, 0) := by decide +kernel
theorem L_74_148 : a_look 74 148 = some (.aload_n 0, 0, 0, 0) := by decide +kernel
theorem L_74_149 : a_look 74 149 = some (.getfield 10, 6, 0, 15) := by decide +kernel
theorem L_74_152 : a_look 74 152 = some (.aload_n 0, 0, 0, 0) := by decide +kernel
theorem L_74_153 : a_look 74 153 = some (.getfield 37, 6, 5, 103) := by decide +kernel
theorem L_74_156 : a_look 74 156 = some (.getfield 107, 0, 5, 2605) := by decide +kernel
theorem L_74_159 : a_look 74 159 = some (.invokevirtual 77, 39, 2, 2000) := by decide +kernel
theorem L_74_162 : a_look 74 162 = some (.istore_n 2, 0, 0, 0) := by decide +kernel
theorem L_74_163 : a_look 74 163 = some (.goto 56, 219, 0, 0) := by decide +kernel
theorem L_74_166 : a_look 74 166 = some (.aload_n 0, 0, 0, 0) := by decide +kernel
theorem L_74_167 : a_look 74 167 = some (.getfield 10, 6, 0, 15) := by decide +kernel
theorem L_74_170 : a_look 74 170 = some (.aload_n 0, 0, 0, 0) := by decide +kernel
theorem L_74_171 : a_look 74 171 = some (.getfield 37, 6, 5, 103) := by decide +kernel
theorem L_74_174 : a_look 74 174 = some (.getfield 107, 0, 5, 2605) := by decide +kernel
theorem L_74_177 : a_look 74 177 = some (.iconst 1, 0, 0, 0) := by decide +kernel
theorem L_74_178 : a_look 74 178 = some (.invokevirtual 65, 35, 3, 1406) := by decide +kernel
theorem L_74_181 : a_look 74 181 = some (.istore_n 2, 0, 0, 0) := by decide +kernel
theorem L_74_182 : a_look 74 182 = some (.goto 37, 219, 0, 0) := by decide +kernel
theorem L_74_185 : a_look 74 185 = some (.aload_n 0, 0, 0, 0) := by decide +kernel
theorem L_74_186 : a_look 74 186 = some (.getfield 10, 6, 0, 15) := by decide +kernel
theorem L_74_189 : a_look 74 189 = some (.aload_n 0, 0, 0, 0) := by decide +kernel
theorem L_74_190 : a_look 74 190 = some (.getfield 37, 6, 5, 103) := by decide +kernel
theorem L_74_193 : a_look 74 193 = some (.getfield 107, 0, 5, 2605) := by decide +kernel
theorem L_74_196 : a_look 74 196 = some (.iconst 0, 0, 0, 0) := by decide +kernel
theorem L_74_197 : a_look 74 197 = some (.invokevirtual 65, 35, 3, 1406) := by decide +kernel
theorem L_74_200 : a_look 74 200 = some (.istore_n 2, 0, 0, 0) := by decide +kernel
theorem L_74_201 : a_look 74 201 = some (.goto 18, 219, 0, 0) := by decide +kernel
theorem L_74_204 : a_look 74 204 = some (.aload_n 0, 0, 0, 0) := by decide +kernel
theorem L_74_205 : a_look 74 205 = some (.getfield 10, 6, 0, 15) := by decide +kernel
theorem L_74_208 : a_look 74 208 = some (.aload_n 0, 0, 0, 0) := by decide +kernel
theorem L_74_209 : a_look 74 209 = some (.getfield 37, 6, 5, 103) := by decide +kernel
theorem L_74_212 : a_look 74 212 = some (.getfield 107, 0, 5, 2605) := by decide +kernel
theorem L_74_215 : a_look 74 215 = some (.invokevirtual 80, 40, 2, 2021) := by decide +kernel
theorem L_74_218 : a_look 74 218 = some (.istore_n 2, 0, 0, 0) := by decide +kernel
theorem L_74_219 : a_look 74 219 = some (.iload_n 2, 0, 0, 0) := by decide +kernel
theorem L_74_220 : a_look 74 220 = some (.ifCond .lt 6, 226, 0, 0) := by decide +kernel
theorem L_74_223 : a_look 74 223 = some (.iinc 1 1, 0, 0, 0) := by decide +kernel
theorem L_74_226 : a_look 74 226 = some (.iinc 3 1, 0, 0, 0) := by decide +kernel
theorem L_74_229 : a_look 74 229 = some (.goto (-190), 39, 0, 0) := by decide +kernel
theorem L_74_232 : a_look 74 232 = some (.aload_n 0, 0, 0, 0) := by decide +kernel
theorem L_74_233 : a_look 74 233 = some (.iload_n 1, 0, 0, 0) := by decide +kernel
theorem L_74_234 : a_look 74 234 = some (.invokevirtual 49, 91, 2, 611) := by decide +kernel
theorem L_74_237 : a_look 74 237 = some (.ireturn, 0, 0, 0) := by decide +kernel
theorem L_75_0 : a_look 75 0 = some (.aload_n 0, 0, 0, 0) := by decide +kernel
theorem L_75_1 : a_look 75 1 = some (.getfield 22, 6, 2, 20) := by decide +kernel
theorem L_75_4 : a_look 75 4 = some (.getfield 116, 3, 2, 2705) := by decide +kernel
theorem L_75_7 : a_look 75 7 = some (.ifCond .ne 6, 13, 0, 0) := by decide +kernel
theorem L_75_10 : a_look 75 10 = some (.bipush (-3), 0, 0, 0) := by decide +kernel
theorem L_75_12 : a_look 75 12 = some (.ireturn, 0, 0, 0) := by decide +kernel
theorem L_75_13 : a_look 75 13 = some (.aload_n 0, 0, 0, 0) := by decide +kernel
theorem L_75_14 : a_look 75 14 = some (.getfield 22, 6, 2, 20) := by decide +kernel
theorem L_75_17 : a_look 75 17 = some (.aload_n 0, 0, 0, 0) := by decide +kernel
theorem L_75_18 : a_look 75 18 = some (.getfield 10, 6, 0, 15) := by decide +kernel
theorem L_75_21 : a_look 75 21 = some (.invokevirtual 119, 29, 2, 2706) := by decide +kernel
theorem L_75_24 : a_look 75 24 = some (.aload_n 0, 0, 0, 0) := by decide +kernel
theorem L_75_25 : a_look 75 25 = some (.getfield 22, 6, 2, 20) := by decide +kernel
theorem L_75_28 : a_look 75 28 = some (.getfield 116, 3, 2, 2705) := by decide +kernel
theorem L_75_31 : a_look 75 31 = some (.ireturn, 0, 0, 0) := by decide +kernel
theorem L_76_0 : a_look 76 0 = some (.iload_n 1, 0, 0, 0) := by decide +kernel
theorem L_76_1 : a_look 76 1 = some (.iconst 0, 0, 0, 0) := by decide +kernel
theorem L_76_2 : a_look 76 2 = some (.iconst 1, 0, 0, 0) := by decide +kernel
theorem L_76_3 : a_look 76 3 = some (.invokestatic 122, 93, 3, 608) := by decide +kernel
theorem L_76_6 : a_look 76 6 = some (.ifCond .eq 5, 11, 0, 0) := by decide +kernel
theorem L_76_9 : a_look 76 9 = some (.iconst (-1), 0, 0, 0) := by decide +kernel
theorem L_76_10 : a_look 76 10 = some (.ireturn, 0, 0, 0) := by decide +kernel
theorem L_76_11 : a_look 76 11 = some (.aload_n 0, 0, 0, 0) := by decide +kernel
theorem L_76_12 : a_look 76 12 = some (.getfield 26, 6, 3, 21) := by decide +kernel
theorem L_76_15 : a_look 76 15 = some (.iload_n 1, 0, 0, 0) := by decide +kernel
theorem L_76_16 : a_look 76 16 = some (.aaload, 0, 0, 0) := by decide +kernel
theorem L_76_17 : a_look 76 17 = some (.aload_n 0, 0, 0, 0) := by decide +kernel
theorem L_76_18 : a_look 76 18 = some (.getfield 10, 6, 0, 15) := by decide +kernel
theorem L_76_21 : a_look 76 21 = some (.invokevirtual 126, 30, 2, 2719) := by decide +kernel
theorem L_76_24 : a_look 76 24 = some (.aload_n 0, 0, 0, 0) := by decide +kernel
theorem L_76_25 : a_look 76 25 = some (.getfield 30, 6, 4, 23) := by decide +kernel
theorem L_76_28 : a_look 76 28 = some (.iload_n 1, 0, 0, 0) := by decide +kernel
theorem L_76_29 : a_look 76 29 = some (.iconst 1, 0, 0, 0) := by decide +kernel
theorem L_76_30 : a_look 76 30 = some (.bastore, 0, 0, 0) := by decide +kernel
theorem L_76_31 : a_look 76 31 = some (.aload_n 0, 0, 0, 0) := by decide +kernel
theorem L_76_32 : a_look 76 32 = some (.getfield 10, 6, 0, 15) := by decide +kernel
theorem L_76_35 : a_look 76 35 = some (.getfield 129, 4, 4, 2718) := by decide +kernel
theorem L_76_38 : a_look 76 38 = some (.ireturn, 0, 0, 0) := by decide +kernel
theorem L_77_0 : a_look 77 0 = some (.iload_n 1, 0, 0, 0) := by decide +kernel
theorem L_77_1 : a_look 77 1 = some (.iconst 0, 0, 0, 0) := by decide +kernel
theorem L_77_2 : a_look 77 2 = some (.iconst 1, 0, 0, 0) := by decide +kernel
theorem L_77_3 : a_look 77 3 = some (.invokestatic 122, 93, 3, 608) := by decide +kernel
theorem L_77_6 : a_look 77 6 = some (.ifCond .eq 5, 11, 0, 0) := by decide +kernel
theorem L_77_9 : a_look 77 9 = some (.iconst (-1), 0, 0, 0) := by decide +kernel
theorem L_77_10 : a_look 77 10 = some (.ireturn, 0, 0, 0) := by decide +kernel
theorem L_77_11 : a_look 77 11 = some (.aload_n 0, 0, 0, 0) := by decide +kernel
theorem L_77_12 : a_look 77 12 = some (.getfield 30, 6, 4, 23) := by decide +kernel
theorem L_77_15 : a_look 77 15 = some (.iload_n 1, 0, 0, 0) := by decide +kernel
theorem L_77_16 : a_look 77 16 = some (.baload, 0, 0, 0) := by decide +kernel
theorem L_77_17 : a_look 77 17 = some (.ifCond .ne 6, 23, 0, 0) := by decide +kernel
theorem L_77_20 : a_look 77 20 = some (.bipush (-3), 0, 0, 0) := by decide +kernel
theorem L_77_22 : a_look 77 22 = some (.ireturn, 0, 0, 0) := by decide +kernel
theorem L_77_23 : a_look 77 23 = some (.aload_n 0, 0, 0, 0) := by decide +kernel
theorem L_77_24 : a_look 77 24 = some (.getfield 22, 6, 2, 20) := by decide +kernel
theorem L_77_27 : a_look 77 27 = some (.aload_n 0, 0, 0, 0) := by decide +kernel
theorem L_77_28 : a_look 77 28 = some (.getfield 10, 6, 0, 15) := by decide +kernel
theorem L_77_31 : a_look 77 31 = some (.invokevirtual 41, 27, 2, 407) := by decide +kernel
theorem L_77_34 : a_look 77 34 = some (.aload_n 0, 0, 0, 0) := by decide +kernel
theorem L_77_35 : a_look 77 35 = some (.getfield 10, 6, 0, 15) := by decide +kernel
theorem L_77_38 : a_look 77 38 = some (.aload_n 0, 0, 0, 0) := by decide +kernel
theorem L_77_39 : a_look 77 39 = some (.getfield 26, 6, 3, 21) := by decide +kernel
theorem L_77_42 : a_look 77 42 = some (.iload_n 1, 0, 0, 0) := by decide +kernel
theorem L_77_43 : a_look 77 43 = some (.aaload, 0, 0, 0) := by decide +kernel
theorem L_77_44 : a_look 77 44 = some (.invokevirtual 126, 30, 2, 2719) := by decide +kernel
theorem L_77_47 : a_look 77 47 = some (.aload_n 0, 0, 0, 0) := by decide +kernel
theorem L_77_48 : a_look 77 48 = some (.aload_n 0, 0, 0, 0) := by decide +kernel
theorem L_77_49 : a_look 77 49 = some (.getfield 10, 6, 0, 15) := by decide +kernel
theorem L_77_52 : a_look 77 52 = some (.getfield 129, 4, 4, 2718) := by decide +kernel
theorem L_77_55 : a_look 77 55 = some (.invokevirtual 49, 91, 2, 611) := by decide +kernel
theorem L_77_58 : a_look 77 58 = some (.ireturn, 0, 0, 0) := by decide +kernel
theorem L_78_0 : a_look 78 0 = some (.aload_n 0, 0, 0, 0) := by decide +kernel
theorem L_78_1 : a_look 78 1 = some (.getfield 10, 6, 0, 15) := by decide +kernel
theorem L_78_4 : a_look 78 4 = some (.getfield 132, 4, 0, 2812) := by decide +kernel
theorem L_78_7 : a_look 78 7 = some (.iload_n 1, 0, 0, 0) := by decide +kernel
theorem L_78_8 : a_look 78 8 = some (.invokevirtual 136, 56, 2, 2813) := by decide +kernel
theorem L_78_11 : a_look 78 11 = some (.ifCond .ne 5, 16, 0, 0) := by decide +kernel
theorem L_78_14 : a_look 78 14 = some (.iconst (-1), 0, 0, 0) := by decide +kernel
theorem L_78_15 : a_look 78 15 = some (.ireturn, 0, 0, 0) := by decide +kernel
theorem L_78_16 : a_look 78 16 = some (.iload_n 2, 0, 0, 0) := by decide +kernel
theorem L_78_17 : a_look 78 17 = some (.iconst 0, 0, 0, 0) := by decide +kernel
theorem L_78_18 : a_look 78 18 = some (.bipush 6, 0, 0, 0) := by decide +kernel
theorem L_78_20 : a_look 78 20 = some (.invokestatic 122, 93, 3, 608) := by decide +kernel
theorem L_78_23 : a_look 78 23 = some (.ifCond .eq 6, 29, 0, 0) := by decide +kernel
theorem L_78_26 : a_look 78 26 = some (.bipush (-2), 0, 0, 0) := by decide +kernel
theorem L_78_28 : a_look 78 28 = some (.ireturn, 0, 0, 0) := by decide +kernel
theorem L_78_29 : a_look 78 29 = some (.iload_n 2, 0, 0, 0) := by decide +kernel
theorem L_78_30 : a_look 78 30 = some (.bipush 6, 0, 0, 0) := by decide +kernel
theorem L_78_32 : a_look 78 32 = some (.if_icmp .ne 9, 41, 0, 0) := by decide +kernel
theorem L_78_35 : a_look 78 35 = some (.aload_n 0, 0, 0, 0) := by decide +kernel
theorem L_78_36 : a_look 78 36 = some (.iload_n 1, 0, 0, 0) := by decide +kernel
theorem L_78_37 : a_look 78 37 = some (.invokevirtual 142, 92, 2, 2814) := by decide +kernel
theorem L_78_40 : a_look 78 40 = some (.ireturn, 0, 0, 0) := by decide +kernel
theorem L_78_41 : a_look 78 41 = some (.aload_n 0, 0, 0, 0) := by decide +kernel
theorem L_78_42 : a_look 78 42 = some (.getfield 10, 6, 0, 15) := by decide +kernel
theorem L_78_45 : a_look 78 45 = some (.getfield 132, 4, 0, 2812) := by decide +kernel
theorem L_78_48 : a_look 78 48 = some (.iload_n 1, 0, 0, 0) := by decide +kernel
theorem L_78_49 : a_look 78 49 = some (.iload_n 2, 0, 0, 0) := by decide +kernel
theorem L_78_50 : a_look 78 50 = some (.invokevirtual 145, 57, 3, 2823) := by decide +kernel
theorem L_78_53 : a_look 78 53 = some (.ireturn, 0, 0, 0) := by decide +kernel
theorem L_79_0 : a_look 79 0 = some (.aload_n 0, 0, 0, 0) := by decide +kernel
theorem L_79_1 : a_look 79 1 = some (.getfield 10, 6, 0, 15) := by decide +kernel
theorem L_79_4 : a_look 79 4 = some (.getfield 148, 4, 1, 2915) := by decide +kernel
theorem L_79_7 : a_look 79 7 = some (.iload_n 1, 0, 0, 0) := by decide +kernel
theorem L_79_8 : a_look 79 8 = some (.invokevirtual 152, 23, 2, 2916) := by decide +kernel
theorem L_79_11 : a_look 79 11 = some (.ifCond .ne 5, 16, 0, 0) := by decide +kernel
theorem L_79_14 : a_look 79 14 = some (.iconst (-1), 0, 0, 0) := by decide +kernel
theorem L_79_15 : a_look 79 15 = some (.ireturn, 0, 0, 0) := by decide +kernel
theorem L_79_16 : a_look 79 16 = some (.iload_n 2, 0, 0, 0) := by decide +kernel
theorem L_79_17 : a_look 79 17 = some (.iconst 0, 0, 0, 0) := by decide +kernel
theorem L_79_18 : a_look 79 18 = some (.bipush 7, 0, 0, 0) := by decide +kernel
theorem L_79_20 : a_look 79 20 = some (.invokestatic 122, 93, 3, 608) := by decide +kernel
theorem L_79_23 : a_look 79 23 = some (.ifCond .eq 6, 29, 0, 0) := by decide +kernel
theorem L_79_26 : a_look 79 26 = some (.bipush (-2), 0, 0, 0) := by decide +kernel
theorem L_79_28 : a_look 79 28 = some (.ireturn, 0, 0, 0) := by decide +kernel
theorem L_79_29 : a_look 79 29 = some (.aload_n 0, 0, 0, 0) := by decide +kernel
theorem L_79_30 : a_look 79 30 = some (.getfield 10, 6, 0, 15) := by decide +kernel
theorem L_79_33 : a_look 79 33 = some (.getfield 148, 4, 1, 2915) := by decide +kernel
theorem L_79_36 : a_look 79 36 = some (.iload_n 1, 0, 0, 0) := by decide +kernel
theorem L_79_37 : a_look 79 37 = some (.iload_n 2, 0, 0, 0) := by decide +kernel
theorem L_79_38 : a_look 79 38 = some (.aload_n 0, 0, 0, 0) := by decide +kernel
theorem L_79_39 : a_look 79 39 = some (.getfield 10, 6, 0, 15) := by decide +kernel
theorem L_79_42 : a_look 79 42 = some (.getfield 129, 4, 4, 2718) := by decide +kernel
theorem L_79_45 : a_look 79 45 = some (.invokevirtual 155, 25, 4, 2917) := by decide +kernel
theorem L_79_48 : a_look 79 48 = some (.ireturn, 0, 0, 0) := by decide +kernel
theorem L_80_0 : a_look 80 0 = some (.aload_n 0, 0, 0, 0) := by decide +kernel
theorem L_80_1 : a_look 80 1 = some (.getfield 10, 6, 0, 15) := by decide +kernel
theorem L_80_4 : a_look 80 4 = some (.getfield 157, 4, 2, 2819) := by decide +kernel
theorem L_80_7 : a_look 80 7 = some (.iload_n 1, 0, 0, 0) := by decide +kernel
theorem L_80_8 : a_look 80 8 = some (.invokevirtual 161, 9, 2, 3006) := by decide +kernel
theorem L_80_11 : a_look 80 11 = some (.ifCond .ne 5, 16, 0, 0) := by decide +kernel
theorem L_80_14 : a_look 80 14 = some (.iconst (-1), 0, 0, 0) := by decide +kernel
theorem L_80_15 : a_look 80 15 = some (.ireturn, 0, 0, 0) := by decide +kernel
theorem L_80_16 : a_look 80 16 = some (.iload_n 2, 0, 0, 0) := by decide +kernel
theorem L_80_17 : a_look 80 17 = some (.iconst 0, 0, 0, 0) := by decide +kernel
theorem L_80_18 : a_look 80 18 = some (.bipush 10, 0, 0, 0) := by decide +kernel
theorem L_80_20 : a_look 80 20 = some (.invokestatic 122, 93, 3, 608) := by decide +kernel
theorem L_80_23 : a_look 80 23 = some (.ifCond .eq 6, 29, 0, 0) := by decide +kernel
theorem L_80_26 : a_look 80 26 = some (.bipush (-2), 0, 0, 0) := by decide +kernel
theorem L_80_28 : a_look 80 28 = some (.ireturn, 0, 0, 0) := by decide +kernel
theorem L_80_29 : a_look 80 29 = some (.iload_n 2, 0, 0, 0) := by decide +kernel
theorem L_80_30 : a_look 80 30 = some (.bipush 10, 0, 0, 0) := by decide +kernel
theorem L_80_32 : a_look 80 32 = some (.if_icmp .ne 12, 44, 0, 0) := by decide +kernel
theorem L_80_35 : a_look 80 35 = some (.aload_n 0, 0, 0, 0) := by decide +kernel
theorem L_80_36 : a_look 80 36 = some (.getfield 10, 6, 0, 15) := by decide +kernel
theorem L_80_39 : a_look 80 39 = some (.iload_n 1, 0, 0, 0) := by decide +kernel
theorem L_80_40 : a_look 80 40 = some (.invokevirtual 164, 46, 2, 3007) := by decide +kernel
theorem L_80_43 : a_look 80 43 = some (.ireturn, 0, 0, 0) := by decide +kernel
theorem L_80_44 : a_look 80 44 = some (.aload_n 0, 0, 0, 0) := by decide +kernel
theorem L_80_45 : a_look 80 45 = some (.getfield 10, 6, 0, 15) := by decide +kernel
theorem L_80_48 : a_look 80 48 = some (.getfield 157, 4, 2, 2819) := by decide +kernel
theorem L_80_51 : a_look 80 51 = some (.iload_n 1, 0, 0, 0) := by decide +kernel
theorem L_80_52 : a_look 80 52 = some (.iload_n 2, 0, 0, 0) := by decide +kernel
theorem L_80_53 : a_look 80 53 = some (.invokevirtual 167, 14, 3, 3011) := by decide +kernel
theorem L_80_56 : a_look 80 56 = some (.ireturn, 0, 0, 0) := by decide +kernel
theorem L_81_0 : a_look 81 0 = some (.iload_n 1, 0, 0, 0) := by decide +kernel
theorem L_81_1 : a_look 81 1 = some (.iconst 0, 0, 0, 0) := by decide +kernel
theorem L_81_2 : a_look 81 2 = some (.bipush 7, 0, 0, 0) := by decide +kernel
theorem L_81_4 : a_look 81 4 = some (.invokestatic 122, 93, 3, 608) := by decide +kernel
theorem L_81_7 : a_look 81 7 = some (.ifCond .ne 11, 18, 0, 0) := by decide +kernel
theorem L_81_10 : a_look 81 10 = some (.iload_n 2, 0, 0, 0) := by decide +kernel
theorem L_81_11 : a_look 81 11 = some (.iload_n 3, 0, 0, 0) := by decide +kernel
theorem L_81_12 : a_look 81 12 = some (.invokestatic 168, 94, 2, 3103) := by decide +kernel
theorem L_81_15 : a_look 81 15 = some (.ifCond .eq 6, 21, 0, 0) := by decide +kernel
theorem L_81_18 : a_look 81 18 = some (.bipush (-2), 0, 0, 0) := by decide +kernel
theorem L_81_20 : a_look 81 20 = some (.ireturn, 0, 0, 0) := by decide +kernel
theorem L_81_21 : a_look 81 21 = some (.iconst 3, 0, 0, 0) := by decide +kernel
theorem L_81_22 : a_look 81 22 = some (.istore 4, 0, 0, 0) := by decide +kernel
theorem L_81_24 : a_look 81 24 = some (.iload 4, 0, 0, 0) := by decide +kernel
theorem L_81_26 : a_look 81 26 = some (.ifCond .lt 27, 53, 0, 0) := by decide +kernel
theorem L_81_29 : a_look 81 29 = some (.aload_n 0, 0, 0, 0) := by decide +kernel
theorem L_81_30 : a_look 81 30 = some (.getfield 10, 6, 0, 15) := by decide +kernel
theorem L_81_33 : a_look 81 33 = some (.iload_n 1, 0, 0, 0) := by decide +kernel
theorem L_81_34 : a_look 81 34 = some (.iload 4, 0, 0, 0) := by decide +kernel
theorem L_81_36 : a_look 81 36 = some (.iload_n 2, 0, 0, 0) := by decide +kernel
theorem L_81_37 : a_look 81 37 = some (.iload_n 3, 0, 0, 0) := by decide +kernel
theorem L_81_38 : a_look 81 38 = some (.invokevirtual 172, 53, 5, 3104) := by decide +kernel
theorem L_81_41 : a_look 81 41 = some (.ifCond .eq 6, 47, 0, 0) := by decide +kernel
theorem L_81_44 : a_look 81 44 = some (.iload 4, 0, 0, 0) := by decide +kernel
theorem L_81_46 : a_look 81 46 = some (.ireturn, 0, 0, 0) := by decide +kernel
theorem L_81_47 : a_look 81 47 = some (.iinc 4 (-1), 0, 0, 0) := by decide +kernel
theorem L_81_50 : a_look 81 50 = some (.goto (-26), 24, 0, 0) := by decide +kernel
theorem L_81_53 : a_look 81 53 = some (.bipush (-6), 0, 0, 0) := by decide +kernel
theorem L_81_55 : a_look 81 55 = some (.ireturn, 0, 0, 0) := by decide +kernel
theorem L_82_0 : a_look 82 0 = some (.aload_n 0, 0, 0, 0) := by decide +kernel
theorem L_82_1 : a_look 82 1 = some (.getfield 10, 6, 0, 15) := by decide +kernel
theorem L_82_4 : a_look 82 4 = some (.getfield 157, 4, 2, 2819) := by decide +kernel
theorem L_82_7 : a_look 82 7 = some (.iload_n 1, 0, 0, 0) := by decide +kernel
theorem L_82_8 : a_look 82 8 = some (.invokevirtual 161, 9, 2, 3006) := by decide +kernel
theorem L_82_11 : a_look 82 11 = some (.ifCond .ne 5, 16, 0, 0) := by decide +kernel
theorem L_82_14 : a_look 82 14 = some (.iconst (-1), 0, 0, 0) := by decide +kernel
theorem L_82_15 : a_look 82 15 = some (.ireturn, 0, 0, 0) := by decide +kernel
theorem L_82_16 : a_look 82 16 = some (.iload_n 2, 0, 0, 0) := by decide +kernel
theorem L_82_17 : a_look 82 17 = some (.iconst 0, 0, 0, 0) := by decide +kernel
theorem L_82_18 : a_look 82 18 = some (.iconst 3, 0, 0, 0) := by decide +kernel
theorem L_82_19 : a_look 82 19 = some (.invokestatic 122, 93, 3, 608) := by decide +kernel
theorem L_82_22 : a_look 82 22 = some (.ifCond .eq 6, 28, 0, 0) := by decide +kernel
theorem L_82_25 : a_look 82 25 = some (.bipush (-2), 0, 0, 0) := by decide +kernel
theorem L_82_27 : a_look 82 27 = some (.ireturn, 0, 0, 0) := by decide +kernel
theorem L_82_28 : a_look 82 28 = some (.aload_n 0, 0, 0, 0) := by decide +kernel
theorem L_82_29 : a_look 82 29 = some (.getfield 10, 6, 0, 15) := by decide +kernel
theorem L_82_32 : a_look 82 32 = some (.iload_n 1, 0, 0, 0) := by decide +kernel
theorem L_82_33 : a_look 82 33 = some (.iload_n 2, 0, 0, 0) := by decide +kernel
theorem L_82_34 : a_look 82 34 = some (.invokevirtual 176, 50, 3, 3113) := by decide +kernel
theorem L_82_37 : a_look 82 37 = some (.ireturn, 0, 0, 0) := by decide +kernel
theorem L_83_0 : a_look 83 0 = some (.iload_n 1, 0, 0, 0) := by decide +kernel
theorem L_83_1 : a_look 83 1 = some (.ifCond .ge 6, 7, 0, 0) := by decide +kernel
theorem L_83_4 : a_look 83 4 = some (.bipush (-2), 0, 0, 0) := by decide +kernel
theorem L_83_6 : a_look 83 6 = some (.ireturn, 0, 0, 0) := by decide +kernel
theorem L_83_7 : a_look 83 7 = some (.aload_n 0, 0, 0, 0) := by decide +kernel
theorem L_83_8 : a_look 83 8 = some (.getfield 10, 6, 0, 15) := by decide +kernel
theorem L_83_11 : a_look 83 11 = some (.getfield 157, 4, 2, 2819) := by decide +kernel
theorem L_83_14 : a_look 83 14 = some (.iload_n 1, 0, 0, 0) := by decide +kernel
theorem L_83_15 : a_look 83 15 = some (.invokevirtual 179, 19, 2, 3122) := by decide +kernel
theorem L_83_18 : a_look 83 18 = some (.ireturn, 0, 0, 0) := by decide +kernel
theorem L_84_0 : a_look 84 0 = some (.iload_n 1, 0, 0, 0) := by decide +kernel
theorem L_84_1 : a_look 84 1 = some (.iconst 0, 0, 0, 0) := by decide +kernel
theorem L_84_2 : a_look 84 2 = some (.bipush 7, 0, 0, 0) := by decide +kernel
theorem L_84_4 : a_look 84 4 = some (.invokestatic 122, 93, 3, 608) := by decide +kernel
theorem L_84_7 : a_look 84 7 = some (.ifCond .eq 6, 13, 0, 0) := by decide +kernel
theorem L_84_10 : a_look 84 10 = some (.bipush (-2), 0, 0, 0) := by decide +kernel
theorem L_84_12 : a_look 84 12 = some (.ireturn, 0, 0, 0) := by decide +kernel
theorem L_84_13 : a_look 84 13 = some (.aload_n 0, 0, 0, 0) := by decide +kernel
theorem L_84_14 : a_look 84 14 = some (.getfield 10, 6, 0, 15) := by decide +kernel
theorem L_84_17 : a_look 84 17 = some (.getfield 157, 4, 2, 2819) := by decide +kernel
theorem L_84_20 : a_look 84 20 = some (.iload_n 1, 0, 0, 0) := by decide +kernel
theorem L_84_21 : a_look 84 21 = some (.invokevirtual 182, 16, 2, 3222) := by decide +kernel
theorem L_84_24 : a_look 84 24 = some (.ireturn, 0, 0, 0) := by decide +kernel
theorem L_85_0 : a_look 85 0 = some (.iload_n 1, 0, 0, 0) := by decide +kernel
theorem L_85_1 : a_look 85 1 = some (.iconst 0, 0, 0, 0) := by decide +kernel
theorem L_85_2 : a_look 85 2 = some (.bipush 15, 0, 0, 0) := by decide +kernel
theorem L_85_4 : a_look 85 4 = some (.invokestatic 122, 93, 3, 608) := by decide +kernel
theorem L_85_7 : a_look 85 7 = some (.ifCond .eq 6, 13, 0, 0) := by decide +kernel
theorem L_85_10 : a_look 85 10 = some (.bipush (-2), 0, 0, 0) := by decide +kernel
theorem L_85_12 : a_look 85 12 = some (.ireturn, 0, 0, 0) := by decide +kernel
theorem L_85_13 : a_look 85 13 = some (.iload_n 1, 0, 0, 0) := by decide +kernel
theorem L_85_14 : a_look 85 14 = some (.bipush 11, 0, 0, 0) := by decide +kernel
theorem L_85_16 : a_look 85 16 = some (.if_icmp .ne 11, 27, 0, 0) := by decide +kernel
theorem L_85_19 : a_look 85 19 = some (.aload_n 0, 0, 0, 0) := by decide +kernel
theorem L_85_20 : a_look 85 20 = some (.getfield 22, 6, 2, 20) := by decide +kernel
theorem L_85_23 : a_look 85 23 = some (.getfield 116, 3, 2, 2705) := by decide +kernel
theorem L_85_26 : a_look 85 26 = some (.ireturn, 0, 0, 0) := by decide +kernel
theorem L_85_27 : a_look 85 27 = some (.iload_n 1, 0, 0, 0) := by decide +kernel
theorem L_85_28 : a_look 85 28 = some (.bipush 12, 0, 0, 0) := by decide +kernel
theorem L_85_30 : a_look 85 30 = some (.if_icmp .ne 11, 41, 0, 0) := by decide +kernel
theorem L_85_33 : a_look 85 33 = some (.aload_n 0, 0, 0, 0) := by decide +kernel
theorem L_85_34 : a_look 85 34 = some (.getfield 37, 6, 5, 103) := by decide +kernel
theorem L_85_37 : a_look 85 37 = some (.getfield 185, 0, 1, 3307) := by decide +kernel
theorem L_85_40 : a_look 85 40 = some (.ireturn, 0, 0, 0) := by decide +kernel
theorem L_85_41 : a_look 85 41 = some (.aload_n 0, 0, 0, 0) := by decide +kernel
theorem L_85_42 : a_look 85 42 = some (.getfield 10, 6, 0, 15) := by decide +kernel
theorem L_85_45 : a_look 85 45 = some (.iload_n 1, 0, 0, 0) := by decide +kernel
theorem L_85_46 : a_look 85 46 = some (.invokevirtual 188, 55, 2, 3308) := by decide +kernel
theorem L_85_49 : a_look 85 49 = some (.ireturn, 0, 0, 0) := by decide +kernel
theorem L_86_0 : a_look 86 0 = some (.iload_n 1, 0, 0, 0) := by decide +kernel
theorem L_86_1 : a_look 86 1 = some (.iconst 0, 0, 0, 0) := by decide +kernel
theorem L_86_2 : a_look 86 2 = some (.bipush 7, 0, 0, 0) := by decide +kernel
theorem L_86_4 : a_look 86 4 = some (.invokestatic 122, 93, 3, 608) := by decide +kernel
theorem L_86_7 : a_look 86 7 = some (.ifCond .ne 12, 19, 0, 0) := by decide +kernel
theorem L_86_10 : a_look 86 10 = some (.iload_n 2, 0, 0, 0) := by decide +kernel
theorem L_86_11 : a_look 86 11 = some (.iconst 0, 0, 0, 0) := by decide +kernel
theorem L_86_12 : a_look 86 12 = some (.iconst 3, 0, 0, 0) := by decide +kernel
theorem L_86_13 : a_look 86 13 = some (.invokestatic 122, 93, 3, 608) := by decide +kernel
theorem L_86_16 : a_look 86 16 = some (.ifCond .eq 6, 22, 0, 0) := by decide +kernel
theorem L_86_19 : a_look 86 19 = some (.bipush (-2), 0, 0, 0) := by decide +kernel
theorem L_86_21 : a_look 86 21 = some (.ireturn, 0, 0, 0) := by decide +kernel
theorem L_86_22 : a_look 86 22 = some (.iconst 0, 0, 0, 0) := by decide +kernel
theorem L_86_23 : a_look 86 23 = some (.istore_n 3, 0, 0, 0) := by decide +kernel
theorem L_86_24 : a_look 86 24 = some (.iconst 5, 0, 0, 0) := by decide +kernel
theorem L_86_25 : a_look 86 25 = some (.istore 4, 0, 0, 0) := by decide +kernel
theorem L_86_27 : a_look 86 27 = some (.iload 4, 0, 0, 0) := by decide +kernel
theorem L_86_29 : a_look 86 29 = some (.bipush 99, 0, 0, 0) := by decide +kernel
theorem L_86_31 : a_look 86 31 = some (.if_icmp .gt 44, 75, 0, 0) := by decide +kernel
theorem L_86_34 : a_look 86 34 = some (.iconst 5, 0, 0, 0) := by decide +kernel
theorem L_86_35 : a_look 86 35 = some (.istore 5, 0, 0, 0) := by decide +kernel
theorem L_86_37 : a_look 86 37 = some (.iload 5, 0, 0, 0) := by decide +kernel
theorem L_86_39 : a_look 86 39 = some (.bipush 99, 0, 0, 0) := by decide +kernel
theorem L_86_41 : a_look 86 41 = some (.if_icmp .gt 28, 69, 0, 0) := by decide +kernel
theorem L_86_44 : a_look 86 44 = some (.aload_n 0, 0, 0, 0) := by decide +kernel
theorem L_86_45 : a_look 86 45 = some (.getfield 10, 6, 0, 15) := by decide +kernel
theorem L_86_48 : a_look 86 48 = some (.iload_n 1, 0, 0, 0) := by decide +kernel
theorem L_86_49 : a_look 86 49 = some (.iload_n 2, 0, 0, 0) := by decide +kernel
theorem L_86_50 : a_look 86 50 = some (.iload 4, 0, 0, 0) := by decide +kernel
theorem L_86_52 : a_look 86 52 = some (.iload 5, 0, 0, 0) := by decide +kernel
theorem L_86_54 : a_look 86 54 = some (.invokevirtual 172, 53, 5, 3104) := by decide +kernel
theorem L_86_57 : a_look 86 57 = some (.ifCond .eq 6, 63, 0, 0) := by decide +kernel
theorem L_86_60 : a_look 86 60 = some (.iinc 3 1, 0, 0, 0) := by decide +kernel
theorem L_86_63 : a_look 86 63 = some (.iinc 5 10, 0, 0, 0) := by decide +kernel
theorem L_86_66 : a_look 86 66 = some (.goto (-29), 37, 0, 0) := by decide +kernel
theorem L_86_69 : a_look 86 69 = some (.iinc 4 10, 0, 0, 0) := by decide +kernel
theorem L_86_72 : a_look 86 72 = some (.goto (-45), 27, 0, 0) := by decide +kernel
theorem L_86_75 : a_look 86 75 = some (.iload_n 3, 0, 0, 0) := by decide +kernel
theorem L_86_76 : a_look 86 76 = some (.ireturn, 0, 0, 0) := by decide +kernel
theorem L_87_0 : a_look 87 0 = some (.iload_n 1, 0, 0, 0) := by decide +kernel
theorem L_87_1 : a_look 87 1 = some (.iconst 0, 0, 0, 0) := by decide +kernel
theorem L_87_2 : a_look 87 2 = some (.bipush 7, 0, 0, 0) := by decide +kernel
theorem L_87_4 : a_look 87 4 = some (.invokestatic 122, 93, 3, 608) := by decide +kernel
theorem L_87_7 : a_look 87 7 = some (.ifCond .ne 21, 28, 0, 0) := by decide +kernel
theorem L_87_10 : a_look 87 10 = some (.iload_n 2, 0, 0, 0) := by decide +kernel
theorem L_87_11 : a_look 87 11 = some (.iload_n 3, 0, 0, 0) := by decide +kernel
theorem L_87_12 : a_look 87 12 = some (.invokestatic 168, 94, 2, 3103) := by decide +kernel
theorem L_87_15 : a_look 87 15 = some (.ifCond .ne 13, 28, 0, 0) := by decide +kernel
theorem L_87_18 : a_look 87 18 = some (.iload 4, 0, 0, 0) := by decide +kernel
theorem L_87_20 : a_look 87 20 = some (.iconst 0, 0, 0, 0) := by decide +kernel
theorem L_87_21 : a_look 87 21 = some (.iconst 3, 0, 0, 0) := by decide +kernel
theorem L_87_22 : a_look 87 22 = some (.invokestatic 122, 93, 3, 608) := by decide +kernel
theorem L_87_25 : a_look 87 25 = some (.ifCond .eq 6, 31, 0, 0) := by decide +kernel
theorem L_87_28 : a_look 87 28 = some (.bipush (-2), 0, 0, 0) := by decide +kernel
theorem L_87_30 : a_look 87 30 = some (.ireturn, 0, 0, 0) := by decide +kernel
theorem L_87_31 : a_look 87 31 = some (.aload_n 0, 0, 0, 0) := by decide +kernel
theorem L_87_32 : a_look 87 32 = some (.getfield 10, 6, 0, 15) := by decide +kernel
theorem L_87_35 : a_look 87 35 = some (.iload_n 1, 0, 0, 0) := by decide +kernel
theorem L_87_36 : a_look 87 36 = some (.iload 4, 0, 0, 0) := by decide +kernel
theorem L_87_38 : a_look 87 38 = some (.iload_n 2, 0, 0, 0) := by decide +kernel
theorem L_87_39 : a_look 87 39 = some (.iload_n 3, 0, 0, 0) := by decide +kernel
theorem L_87_40 : a_look 87 40 = some (.invokevirtual 172, 53, 5, 3104) := by decide +kernel
theorem L_87_43 : a_look 87 43 = some (.ifCond .eq 11, 54, 0, 0) := by decide +kernel
theorem L_87_46 : a_look 87 46 = some (.aload_n 0, 0, 0, 0) := by decide +kernel
theorem L_87_47 : a_look 87 47 = some (.getfield 10, 6, 0, 15) := by decide +kernel
theorem L_87_50 : a_look 87 50 = some (.getfield 129, 4, 4, 2718) := by decide +kernel
theorem L_87_53 : a_look 87 53 = some (.ireturn, 0, 0, 0) := by decide +kernel
theorem L_87_54 : a_look 87 54 = some (.aload_n 0, 0, 0, 0) := by decide +kernel
theorem L_87_55 : a_look 87 55 = some (.getfield 16, 6, 1, 16) := by decide +kernel
theorem L_87_58 : a_look 87 58 = some (.aload_n 0, 0, 0, 0) := by decide +kernel
theorem L_87_59 : a_look 87 59 = some (.getfield 10, 6, 0, 15) := by decide +kernel
theorem L_87_62 : a_look 87 62 = some (.invokevirtual 126, 30, 2, 2719) := by decide +kernel
theorem L_87_65 : a_look 87 65 = some (.bipush (-6), 0, 0, 0) := by decide +kernel
theorem L_87_67 : a_look 87 67 = some (.istore 5, 0, 0, 0) := by decide +kernel
theorem L_87_69 : a_look 87 69 = some (.iconst 0, 0, 0, 0) := by decide +kernel
theorem L_87_70 : a_look 87 70 = some (.istore 6, 0, 0, 0) := by decide +kernel
theorem L_87_72 : a_look 87 72 = some (.iload 6, 0, 0, 0) := by decide +kernel
theorem L_87_74 : a_look 87 74 = some (.aload_n 0, 0, 0, 0) := by decide +kernel
theorem L_87_75 : a_look 87 75 = some (.getfield 10, 6, 0, 15) := by decide +kernel
theorem L_87_78 : a_look 87 78 = some (.getfield 148, 4, 1, 2915) := by decide +kernel
theorem L_87_81 : a_look 87 81 = some (.getfield 191, 2, 7, 3420) := by decide +kernel
theorem L_87_84 : a_look 87 84 = some (.if_icmp .ge 78, 162, 0, 0) := by decide +kernel
theorem L_87_87 : a_look 87 87 = some (.aload_n 0, 0, 0, 0) := by decide +kernel
theorem L_87_88 : a_look 87 88 = some (.getfield 10, 6, 0, 15) := by decide +kernel
theorem L_87_91 : a_look 87 91 = some (.getfield 148, 4, 1, 2915) := by decide +kernel
theorem L_87_94 : a_look 87 94 = some (.getfield 192, 2, 5, 3421) := by decide +kernel
theorem L_87_97 : a_look 87 97 = some (.iload 6, 0, 0, 0) := by decide +kernel
theorem L_87_99 : a_look 87 99 = some (.iaload, 0, 0, 0) := by decide +kernel
theorem L_87_100 : a_look 87 100 = some (.istore 7, 0, 0, 0) := by decide +kernel
theorem L_87_102 : a_look 87 102 = some (.aload_n 0, 0, 0, 0) := by decide +kernel
theorem L_87_103 : a_look 87 103 = some (.getfield 16, 6, 1, 16) := by decide +kernel
theorem L_87_106 : a_look 87 106 = some (.iload 7, 0, 0, 0) := by decide +kernel
theorem L_87_108 : a_look 87 108 = some (.putfield 129, 4, 4, 2718) := by decide +kernel
theorem L_87_111 : a_look 87 111 = some (.iload 7, 0, 0, 0) := by decide +kernel
theorem L_87_113 : a_look 87 113 = some (.aload_n 0, 0, 0, 0) := by decide +kernel
theorem L_87_114 : a_look 87 114 = some (.getfield 10, 6, 0, 15) := by decide +kernel
theorem L_87_117 : a_look 87 117 = some (.getfield 129, 4, 4, 2718) := by decide +kernel
theorem L_87_120 : a_look 87 120 = some (.if_icmp .le 36, 156, 0, 0) := by decide +kernel
theorem L_87_123 : a_look 87 123 = some (.iload 5, 0, 0, 0) := by decide +kernel
theorem L_87_125 : a_look 87 125 = some (.bipush (-6), 0, 0, 0) := by decide +kernel
theorem L_87_127 : a_look 87 127 = some (.if_icmp .eq 10, 137, 0, 0) := by decide +kernel
theorem L_87_130 : a_look 87 130 = some (.iload 7, 0, 0, 0) := by decide +kernel
theorem L_87_132 : a_look 87 132 = some (.iload 5, 0, 0, 0) := by decide +kernel
theorem L_87_134 : a_look 87 134 = some (.if_icmp .ge 22, 156, 0, 0) := by decide +kernel
theorem L_87_137 : a_look 87 137 = some (.aload_n 0, 0, 0, 0) := by decide +kernel
theorem L_87_138 : a_look 87 138 = some (.getfield 16, 6, 1, 16) := by decide +kernel
theorem L_87_141 : a_look 87 141 = some (.iload_n 1, 0, 0, 0) := by decide +kernel
theorem L_87_142 : a_look 87 142 = some (.iload 4, 0, 0, 0) := by decide +kernel
theorem L_87_144 : a_look 87 144 = some (.iload_n 2, 0, 0, 0) := by decide +kernel
theorem L_87_145 : a_look 87 145 = some (.iload_n 3, 0, 0, 0) := by decide +kernel
theorem L_87_146 : a_look 87 146 = some (.invokevirtual 172, 53, 5, 3104) := by decide +kernel
theorem L_87_149 : a_look 87 149 = some (.ifCond .eq 7, 156, 0, 0) := by decide +kernel
theorem L_87_152 : a_look 87 152 = some (.iload 7, 0, 0, 0) := by decide +kernel
theorem L_87_154 : a_look 87 154 = some (.istore 5, 0, 0, 0) := by decide +kernel
theorem L_87_156 : a_look 87 156 = some (.iinc 6 1, 0, 0, 0) := by decide +kernel
theorem L_87_159 : a_look 87 159 = some (.goto (-87), 72, 0, 0) := by decide +kernel
theorem L_87_162 : a_look 87 162 = some (.iload 5, 0, 0, 0) := by decide +kernel
theorem L_87_164 : a_look 87 164 = some (.ireturn, 0, 0, 0) := by decide +kernel
theorem L_88_0 : a_look 88 0 = some (.aload_n 0, 0, 0, 0) := by decide +kernel
theorem L_88_1 : a_look 88 1 = some (.getfield 10, 6, 0, 15) := by decide +kernel
theorem L_88_4 : a_look 88 4 = some (.getfield 132, 4, 0, 2812) := by decide +kernel
theorem L_88_7 : a_look 88 7 = some (.iload_n 1, 0, 0, 0) := by decide +kernel
theorem L_88_8 : a_look 88 8 = some (.invokevirtual 136, 56, 2, 2813) := by decide +kernel
theorem L_88_11 : a_look 88 11 = some (.ifCond .ne 5, 16, 0, 0) := by decide +kernel
theorem L_88_14 : a_look 88 14 = some (.iconst (-1), 0, 0, 0) := by decide +kernel
theorem L_88_15 : a_look 88 15 = some (.ireturn, 0, 0, 0) := by decide +kernel
theorem L_88_16 : a_look 88 16 = some (.aload_n 0, 0, 0, 0) := by decide +kernel
theorem L_88_17 : a_look 88 17 = some (.getfield 10, 6, 0, 15) := by decide +kernel
theorem L_88_20 : a_look 88 20 = some (.getfield 132, 4, 0, 2812) := by decide +kernel
theorem L_88_23 : a_look 88 23 = some (.getfield 196, 5, 4, 2818) := by decide +kernel
theorem L_88_26 : a_look 88 26 = some (.iload_n 1, 0, 0, 0) := by decide +kernel
theorem L_88_27 : a_look 88 27 = some (.iaload, 0, 0, 0) := by decide +kernel
theorem L_88_28 : a_look 88 28 = some (.iconst 1, 0, 0, 0) := by decide +kernel
theorem L_88_29 : a_look 88 29 = some (.if_icmp .ne 6, 35, 0, 0) := by decide +kernel
theorem L_88_32 : a_look 88 32 = some (.bipush (-3), 0, 0, 0) := by decide +kernel
theorem L_88_34 : a_look 88 34 = some (.ireturn, 0, 0, 0) := by decide +kernel
theorem L_88_35 : a_look 88 35 = some (.aload_n 0, 0, 0, 0) := by decide +kernel
theorem L_88_36 : a_look 88 36 = some (.getfield 16, 6, 1, 16) := by decide +kernel
theorem L_88_39 : a_look 88 39 = some (.aload_n 0, 0, 0, 0) := by decide +kernel
theorem L_88_40 : a_look 88 40 = some (.getfield 10, 6, 0, 15) := by decide +kernel
theorem L_88_43 : a_look 88 43 = some (.invokevirtual 126, 30, 2, 2719) := by decide +kernel
theorem L_88_46 : a_look 88 46 = some (.aload_n 0, 0, 0, 0) := by decide +kernel
theorem L_88_47 : a_look 88 47 = some (.getfield 16, 6, 1, 16) := by decide +kernel
theorem L_88_50 : a_look 88 50 = some (.iload_n 1, 0, 0, 0) := by decide +kernel
theorem L_88_51 : a_look 88 51 = some (.iconst 1, 0, 0, 0) := by decide +kernel
theorem L_88_52 : a_look 88 52 = some (.invokevirtual 65, 35, 3, 1406) := by decide +kernel
theorem L_88_55 : a_look 88 55 = some (.pop, 0, 0, 0) := by decide +kernel
theorem L_88_56 : a_look 88 56 = some (.iconst 0, 0, 0, 0) := by decide +kernel
theorem L_88_57 : a_look 88 57 = some (.istore_n 2, 0, 0, 0) := by decide +kernel
theorem L_88_58 : a_look 88 58 = some (.iconst 0, 0, 0, 0) := by decide +kernel
theorem L_88_59 : a_look 88 59 = some (.istore_n 3, 0, 0, 0) := by decide +kernel
theorem L_88_60 : a_look 88 60 = some (.iload_n 3, 0, 0, 0) := by decide +kernel
theorem L_88_61 : a_look 88 61 = some (.aload_n 0, 0, 0, 0) := by decide +kernel
theorem L_88_62 : a_look 88 62 = some (.getfield 10, 6, 0, 15) := by decide +kernel
theorem L_88_65 : a_look 88 65 = some (.getfield 157, 4, 2, 2819) := by decide +kernel
theorem L_88_68 : a_look 88 68 = some (.getfield 199, 1, 10, 2820) := by decide +kernel
theorem L_88_71 : a_look 88 71 = some (.if_icmp .ge 40, 111, 0, 0) := by decide +kernel
theorem L_88_74 : a_look 88 74 = some (.aload_n 0, 0, 0, 0) := by decide +kernel
theorem L_88_75 : a_look 88 75 = some (.getfield 16, 6, 1, 16) := by decide +kernel
theorem L_88_78 : a_look 88 78 = some (.getfield 157, 4, 2, 2819) := by decide +kernel
theorem L_88_81 : a_look 88 81 = some (.iload_n 3, 0, 0, 0) := by decide +kernel
theorem L_88_82 : a_look 88 82 = some (.invokevirtual 200, 11, 2, 3506) := by decide +kernel
theorem L_88_85 : a_look 88 85 = some (.ifCond .eq 20, 105, 0, 0) := by decide +kernel
theorem L_88_88 : a_look 88 88 = some (.aload_n 0, 0, 0, 0) := by decide +kernel
theorem L_88_89 : a_look 88 89 = some (.getfield 10, 6, 0, 15) := by decide +kernel
theorem L_88_92 : a_look 88 92 = some (.getfield 157, 4, 2, 2819) := by decide +kernel
theorem L_88_95 : a_look 88 95 = some (.iload_n 3, 0, 0, 0) := by decide +kernel
theorem L_88_96 : a_look 88 96 = some (.invokevirtual 200, 11, 2, 3506) := by decide +kernel
theorem L_88_99 : a_look 88 99 = some (.ifCond .ne 6, 105, 0, 0) := by decide +kernel
theorem L_88_102 : a_look 88 102 = some (.iinc 2 1, 0, 0, 0) := by decide +kernel
theorem L_88_105 : a_look 88 105 = some (.iinc 3 1, 0, 0, 0) := by decide +kernel
theorem L_88_108 : a_look 88 108 = some (.goto (-48), 60, 0, 0) := by decide +kernel
theorem L_88_111 : a_look 88 111 = some (.iload_n 2, 0, 0, 0) := by decide +kernel
theorem L_88_112 : a_look 88 112 = some (.ireturn, 0, 0, 0) := by decide +kernel
theorem L_89_0 : a_look 89 0 = some (.aload_n 0, 0, 0, 0) := by decide +kernel
theorem L_89_1 : a_look 89 1 = some (.getfield 10, 6, 0, 15) := by decide +kernel
theorem L_89_4 : a_look 89 4 = some (.getfield 157, 4, 2, 2819) := by decide +kernel
theorem L_89_7 : a_look 89 7 = some (.iload_n 1, 0, 0, 0) := by decide +kernel
theorem L_89_8 : a_look 89 8 = some (.invokevirtual 161, 9, 2, 3006) := by decide +kernel
theorem L_89_11 : a_look 89 11 = some (.ifCond .ne 5, 16, 0, 0) := by decide +kernel
theorem L_89_14 : a_look 89 14 = some (.iconst (-1), 0, 0, 0) := by decide +kernel
theorem L_89_15 : a_look 89 15 = some (.ireturn, 0, 0, 0) := by decide +kernel
theorem L_89_16 : a_look 89 16 = some (.iload_n 2, 0, 0, 0) := by decide +kernel
theorem L_89_17 : a_look 89 17 = some (.iconst 0, 0, 0, 0) := by decide +kernel
theorem L_89_18 : a_look 89 18 = some (.bipush 99, 0, 0, 0) := by decide +kernel
theorem L_89_20 : a_look 89 20 = some (.invokestatic 122, 93, 3, 608) := by decide +kernel
theorem L_89_23 : a_look 89 23 = some (.ifCond .eq 6, 29, 0, 0) := by decide +kernel
theorem L_89_26 : a_look 89 26 = some (.bipush (-2), 0, 0, 0) := by decide +kernel
theorem L_89_28 : a_look 89 28 = some (.ireturn, 0, 0, 0) := by decide +kernel
theorem L_89_29 : a_look 89 29 = some (.aload_n 0, 0, 0, 0) := by decide +kernel
theorem L_89_30 : a_look 89 30 = some (.getfield 16, 6, 1, 16) := by decide +kernel
theorem L_89_33 : a_look 89 33 = some (.aload_n 0, 0, 0, 0) := by decide +kernel
theorem L_89_34 : a_look 89 34 = some (.getfield 10, 6, 0, 15) := by decide +kernel
theorem L_89_37 : a_look 89 37 = some (.invokevirtual 126, 30, 2, 2719) := by decide +kernel
theorem L_89_40 : a_look 89 40 = some (.iconst 0, 0, 0, 0) := by decide +kernel
theorem L_89_41 : a_look 89 41 = some (.istore_n 3, 0, 0, 0) := by decide +kernel
theorem L_89_42 : a_look 89 42 = some (.iload_n 3, 0, 0, 0) := by decide +kernel
theorem L_89_43 : a_look 89 43 = some (.iload_n 2, 0, 0, 0) := by decide +kernel
theorem L_89_44 : a_look 89 44 = some (.if_icmp .ge 17, 61, 0, 0) := by decide +kernel
theorem L_89_47 : a_look 89 47 = some (.aload_n 0, 0, 0, 0) := by decide +kernel
theorem L_89_48 : a_look 89 48 = some (.getfield 16, 6, 1, 16) := by decide +kernel
theorem L_89_51 : a_look 89 51 = some (.invokevirtual 203, 41, 1, 3516) := by decide +kernel
theorem L_89_54 : a_look 89 54 = some (.pop, 0, 0, 0) := by decide +kernel
theorem L_89_55 : a_look 89 55 = some (.iinc 3 1, 0, 0, 0) := by decide +kernel
theorem L_89_58 : a_look 89 58 = some (.goto (-16), 42, 0, 0) := by decide +kernel
theorem L_89_61 : a_look 89 61 = some (.aload_n 0, 0, 0, 0) := by decide +kernel
theorem L_89_62 : a_look 89 62 = some (.getfield 16, 6, 1, 16) := by decide +kernel
theorem L_89_65 : a_look 89 65 = some (.getfield 157, 4, 2, 2819) := by decide +kernel
theorem L_89_68 : a_look 89 68 = some (.iload_n 1, 0, 0, 0) := by decide +kernel
theorem L_89_69 : a_look 89 69 = some (.invokevirtual 206, 10, 2, 2821) := by decide +kernel
theorem L_89_72 : a_look 89 72 = some (.ifCond .eq 18, 90, 0, 0) := by decide +kernel
theorem L_89_75 : a_look 89 75 = some (.aload_n 0, 0, 0, 0) := by decide +kernel
theorem L_89_76 : a_look 89 76 = some (.getfield 16, 6, 1, 16) := by decide +kernel
theorem L_89_79 : a_look 89 79 = some (.getfield 157, 4, 2, 2819) := by decide +kernel
theorem L_89_82 : a_look 89 82 = some (.getfield 209, 1, 3, 3515) := by decide +kernel
theorem L_89_85 : a_look 89 85 = some (.iload_n 1, 0, 0, 0) := by decide +kernel
theorem L_89_86 : a_look 89 86 = some (.iaload, 0, 0, 0) := by decide +kernel
theorem L_89_87 : a_look 89 87 = some (.goto 5, 92, 0, 0) := by decide +kernel
theorem L_89_90 : a_look 89 90 = some (.bipush (-6), 0, 0, 0) := by decide +kernel
theorem L_89_92 : a_look 89 92 = some (.ireturn, 0, 0, 0) := by decide +kernel
theorem L_90_0 : a_look 90 0 = some (.aload_n 0, 0, 0, 0) := by decide +kernel
theorem L_90_1 : a_look 90 1 = some (.getfield 16, 6, 1, 16) := by decide +kernel
theorem L_90_4 : a_look 90 4 = some (.aload_n 0, 0, 0, 0) := by decide +kernel
theorem L_90_5 : a_look 90 5 = some (.getfield 10, 6, 0, 15) := by decide +kernel
theorem L_90_8 : a_look 90 8 = some (.invokevirtual 126, 30, 2, 2719) := by decide +kernel
theorem L_90_11 : a_look 90 11 = some (.iconst 0, 0, 0, 0) := by decide +kernel
theorem L_90_12 : a_look 90 12 = some (.istore_n 1, 0, 0, 0) := by decide +kernel
theorem L_90_13 : a_look 90 13 = some (.iload_n 1, 0, 0, 0) := by decide +kernel
theorem L_90_14 : a_look 90 14 = some (.bipush 50, 0, 0, 0) := by decide +kernel
theorem L_90_16 : a_look 90 16 = some (.if_icmp .gt 32, 48, 0, 0) := by decide +kernel
theorem L_90_19 : a_look 90 19 = some (.aload_n 0, 0, 0, 0) := by decide +kernel
theorem L_90_20 : a_look 90 20 = some (.getfield 16, 6, 1, 16) := by decide +kernel
theorem L_90_23 : a_look 90 23 = some (.getfield 157, 4, 2, 2819) := by decide +kernel
theorem L_90_26 : a_look 90 26 = some (.invokevirtual 212, 17, 1, 3609) := by decide +kernel
theorem L_90_29 : a_look 90 29 = some (.ifCond .ne 5, 34, 0, 0) := by decide +kernel
theorem L_90_32 : a_look 90 32 = some (.iload_n 1, 0, 0, 0) := by decide +kernel
theorem L_90_33 : a_look 90 33 = some (.ireturn, 0, 0, 0) := by decide +kernel
theorem L_90_34 : a_look 90 34 = some (.aload_n 0, 0, 0, 0) := by decide +kernel
theorem L_90_35 : a_look 90 35 = some (.getfield 16, 6, 1, 16) := by decide +kernel
theorem L_90_38 : a_look 90 38 = some (.invokevirtual 203, 41, 1, 3516) := by decide +kernel
theorem L_90_41 : a_look 90 41 = some (.pop, 0, 0, 0) := by decide +kernel
theorem L_90_42 : a_look 90 42 = some (.iinc 1 1, 0, 0, 0) := by decide +kernel
theorem L_90_45 : a_look 90 45 = some (.goto (-32), 13, 0, 0) := by decide +kernel
theorem L_90_48 : a_look 90 48 = some (.bipush (-6), 0, 0, 0) := by decide +kernel
theorem L_90_50 : a_look 90 50 = some (.ireturn, 0, 0, 0) := by decide +kernel
theorem L_91_0 : a_look 91 0 = some (.iload_n 1, 0, 0, 0) := by decide +kernel
theorem L_91_1 : a_look 91 1 = some (.ifCond .lt 10, 11, 0, 0) := by decide +kernel
theorem L_91_4 : a_look 91 4 = some (.aload_n 0, 0, 0, 0) := by decide +kernel
theorem L_91_5 : a_look 91 5 = some (.getfield 22, 6, 2, 20) := by decide +kernel
theorem L_91_8 : a_look 91 8 = some (.invokevirtual 215, 28, 1, 615) := by decide +kernel
theorem L_91_11 : a_look 91 11 = some (.iload_n 1, 0, 0, 0) := by decide +kernel
theorem L_91_12 : a_look 91 12 = some (.ireturn, 0, 0, 0) := by decide +kernel
theorem L_92_0 : a_look 92 0 = some (.aload_n 0, 0, 0, 0) := by decide +kernel
theorem L_92_1 : a_look 92 1 = some (.getfield 16, 6, 1, 16) := by decide +kernel
theorem L_92_4 : a_look 92 4 = some (.aload_n 0, 0, 0, 0) := by decide +kernel
theorem L_92_5 : a_look 92 5 = some (.getfield 10, 6, 0, 15) := by decide +kernel
theorem L_92_8 : a_look 92 8 = some (.invokevirtual 126, 30, 2, 2719) := by decide +kernel
theorem L_92_11 : a_look 92 11 = some (.aload_n 0, 0, 0, 0) := by decide +kernel
theorem L_92_12 : a_look 92 12 = some (.getfield 16, 6, 1, 16) := by decide +kernel
theorem L_92_15 : a_look 92 15 = some (.getfield 132, 4, 0, 2812) := by decide +kernel
theorem L_92_18 : a_look 92 18 = some (.getfield 196, 5, 4, 2818) := by decide +kernel
theorem L_92_21 : a_look 92 21 = some (.iload_n 1, 0, 0, 0) := by decide +kernel
theorem L_92_22 : a_look 92 22 = some (.iconst 0, 0, 0, 0) := by decide +kernel
theorem L_92_23 : a_look 92 23 = some (.iastore, 0, 0, 0) := by decide +kernel
theorem L_92_24 : a_look 92 24 = some (.iconst 0, 0, 0, 0) := by decide +kernel
theorem L_92_25 : a_look 92 25 = some (.istore_n 2, 0, 0, 0) := by decide +kernel
theorem L_92_26 : a_look 92 26 = some (.iconst 0, 0, 0, 0) := by decide +kernel
theorem L_92_27 : a_look 92 27 = some (.istore_n 3, 0, 0, 0) := by decide +kernel
theorem L_92_28 : a_look 92 28 = some (.iload_n 3, 0, 0, 0) := by decide +kernel
theorem L_92_29 : a_look 92 29 = some (.aload_n 0, 0, 0, 0) := by decide +kernel
theorem L_92_30 : a_look 92 30 = some (.getfield 10, 6, 0, 15) := by decide +kernel
theorem L_92_33 : a_look 92 33 = some (.getfield 157, 4, 2, 2819) := by decide +kernel
theorem L_92_36 : a_look 92 36 = some (.getfield 199, 1, 10, 2820) := by decide +kernel
theorem L_92_39 : a_look 92 39 = some (.if_icmp .ge 48, 87, 0, 0) := by decide +kernel
theorem L_92_42 : a_look 92 42 = some (.aload_n 0, 0, 0, 0) := by decide +kernel
theorem L_92_43 : a_look 92 43 = some (.getfield 10, 6, 0, 15) := by decide +kernel
theorem L_92_46 : a_look 92 46 = some (.getfield 157, 4, 2, 2819) := by decide +kernel
theorem L_92_49 : a_look 92 49 = some (.iload_n 3, 0, 0, 0) := by decide +kernel
theorem L_92_50 : a_look 92 50 = some (.invokevirtual 206, 10, 2, 2821) := by decide +kernel
theorem L_92_53 : a_look 92 53 = some (.ifCond .eq 28, 81, 0, 0) := by decide +kernel
theorem L_92_56 : a_look 92 56 = some (.aload_n 0, 0, 0, 0) := by decide +kernel
theorem L_92_57 : a_look 92 57 = some (.getfield 10, 6, 0, 15) := by decide +kernel
theorem L_92_60 : a_look 92 60 = some (.iload_n 3, 0, 0, 0) := by decide +kernel
theorem L_92_61 : a_look 92 61 = some (.invokevirtual 218, 52, 2, 2822) := by decide +kernel
theorem L_92_64 : a_look 92 64 = some (.ifCond .ne 17, 81, 0, 0) := by decide +kernel
theorem L_92_67 : a_look 92 67 = some (.aload_n 0, 0, 0, 0) := by decide +kernel
theorem L_92_68 : a_look 92 68 = some (.getfield 16, 6, 1, 16) := by decide +kernel
theorem L_92_71 : a_look 92 71 = some (.iload_n 3, 0, 0, 0) := by decide +kernel
theorem L_92_72 : a_look 92 72 = some (.invokevirtual 218, 52, 2, 2822) := by decide +kernel
theorem L_92_75 : a_look 92 75 = some (.ifCond .eq 6, 81, 0, 0) := by decide +kernel
theorem L_92_78 : a_look 92 78 = some (.iinc 2 1, 0, 0, 0) := by decide +kernel
theorem L_92_81 : a_look 92 81 = some (.iinc 3 1, 0, 0, 0) := by decide +kernel
theorem L_92_84 : a_look 92 84 = some (.goto (-56), 28, 0, 0) := by decide +kernel
theorem L_92_87 : a_look 92 87 = some (.iload_n 2, 0, 0, 0) := by decide +kernel
theorem L_92_88 : a_look 92 88 = some (.ireturn, 0, 0, 0) := by decide +kernel
