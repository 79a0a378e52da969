theorem dX10_doubt_70 : decode cX10_doubt 70 = .ok (.iconst 2, 1) := by decide +kernel
theorem dX10_doubt_71 : decode cX10_doubt 71 = .ok (.iaload, 1) := by decide +kernel
theorem dX10_doubt_72 : decode cX10_doubt 72 = .ok (.if_icmp .ge 41, 3) := by decide +kernel
theorem dX10_doubt_75 : decode cX10_doubt 75 = .ok (.iload 5, 2) := by decide +kernel
theorem dX10_doubt_77 : decode cX10_doubt 77 = .ok (.aload_n 0, 1) := by decide +kernel
theorem dX10_doubt_78 : decode cX10_doubt 78 = .ok (.iload_n 1, 1) := by decide +kernel
theorem dX10_doubt_79 : decode cX10_doubt 79 = .ok (.iload 4, 2) := by decide +kernel
theorem dX10_doubt_81 : decode cX10_doubt 81 = .ok (.iload 7, 2) := by decide +kernel
theorem dX10_doubt_83 : decode cX10_doubt 83 = .ok (.invokevirtual 312, 3) := by decide +kernel
theorem dX10_doubt_86 : decode cX10_doubt 86 = .ok (.invokestatic 306, 3) := by decide +kernel
theorem dX10_doubt_89 : decode cX10_doubt 89 = .ok (.istore 5, 2) := by decide +kernel
theorem dX10_doubt_91 : decode cX10_doubt 91 = .ok (.iload 6, 2) := by decide +kernel
theorem dX10_doubt_93 : decode cX10_doubt 93 = .ok (.aload_n 0, 1) := by decide +kernel
theorem dX10_doubt_94 : decode cX10_doubt 94 = .ok (.iload_n 1, 1) := by decide +kernel
theorem dX10_doubt_95 : decode cX10_doubt 95 = .ok (.iload 4, 2) := by decide +kernel
theorem dX10_doubt_97 : decode cX10_doubt 97 = .ok (.iload 7, 2) := by decide +kernel
theorem dX10_doubt_99 : decode cX10_doubt 99 = .ok (.invokevirtual 312, 3) := by decide +kernel
theorem dX10_doubt_102 : decode cX10_doubt 102 = .ok (.invokestatic 253, 3) := by decide +kernel
theorem dX10_doubt_105 : decode cX10_doubt 105 = .ok (.istore 6, 2) := by decide +kernel
theorem dX10_doubt_107 : decode cX10_doubt 107 = .ok (.iinc 7 1, 3) := by decide +kernel
theorem dX10_doubt_110 : decode cX10_doubt 110 = .ok (.goto (-46), 3) := by decide +kernel
theorem dX10_doubt_113 : decode cX10_doubt 113 = .ok (.iload_n 2, 1) := by decide +kernel
theorem dX10_doubt_114 : decode cX10_doubt 114 = .ok (.iconst (-1), 1) := by decide +kernel
theorem dX10_doubt_115 : decode cX10_doubt 115 = .ok (.if_icmp .eq 15, 3) := by decide +kernel
theorem dX10_doubt_118 : decode cX10_doubt 118 = .ok (.iload 6, 2) := by decide +kernel
theorem dX10_doubt_120 : decode cX10_doubt 120 = .ok (.iload 5, 2) := by decide +kernel
theorem dX10_doubt_122 : decode cX10_doubt 122 = .ok (.isub, 1) := by decide +kernel
theorem dX10_doubt_123 : decode cX10_doubt 123 = .ok (.iload_n 3, 1) := by decide +kernel
theorem dX10_doubt_124 : decode cX10_doubt 124 = .ok (.if_icmp .gt 6, 3) := by decide +kernel
theorem dX10_doubt_127 : decode cX10_doubt 127 = .ok (.goto 12, 3) := by decide +kernel
theorem dX10_doubt_130 : decode cX10_doubt 130 = .ok (.iload 4, 2) := by decide +kernel
theorem dX10_doubt_132 : decode cX10_doubt 132 = .ok (.istore_n 2, 1) := by decide +kernel
theorem dX10_doubt_133 : decode cX10_doubt 133 = .ok (.iload 6, 2) := by decide +kernel
theorem dX10_doubt_135 : decode cX10_doubt 135 = .ok (.iload 5, 2) := by decide +kernel
theorem dX10_doubt_137 : decode cX10_doubt 137 = .ok (.isub, 1) := by decide +kernel
theorem dX10_doubt_138 : decode cX10_doubt 138 = .ok (.istore_n 3, 1) := by decide +kernel
theorem dX10_doubt_139 : decode cX10_doubt 139 = .ok (.iinc 4 1, 3) := by decide +kernel
theorem dX10_doubt_142 : decode cX10_doubt 142 = .ok (.goto (-116), 3) := by decide +kernel
theorem dX10_doubt_145 : decode cX10_doubt 145 = .ok (.iload_n 2, 1) := by decide +kernel
theorem dX10_doubt_146 : decode cX10_doubt 146 = .ok (.ireturn, 1) := by decide +kernel
theorem dX10_clean_0 : decode cX10_clean 0 = .ok (.aload_n 0, 1) := by decide +kernel
theorem dX10_clean_1 : decode cX10_clean 1 = .ok (.iconst 0, 1) := by decide +kernel
theorem dX10_clean_2 : decode cX10_clean 2 = .ok (.putfield 3, 3) := by decide +kernel
theorem dX10_clean_5 : decode cX10_clean 5 = .ok (.aload_n 0, 1) := by decide +kernel
theorem dX10_clean_6 : decode cX10_clean 6 = .ok (.invokevirtual 408, 3) := by decide +kernel
theorem dX10_clean_9 : decode cX10_clean 9 = .ok (.aload_n 0, 1) := by decide +kernel
theorem dX10_clean_10 : decode cX10_clean 10 = .ok (.iload_n 1, 1) := by decide +kernel
theorem dX10_clean_11 : decode cX10_clean 11 = .ok (.invokevirtual 411, 3) := by decide +kernel
theorem dX10_clean_14 : decode cX10_clean 14 = .ok (.ifCond .eq 5, 3) := by decide +kernel
theorem dX10_clean_17 : decode cX10_clean 17 = .ok (.iconst 0, 1) := by decide +kernel
theorem dX10_clean_18 : decode cX10_clean 18 = .ok (.ireturn, 1) := by decide +kernel
theorem dX10_clean_19 : decode cX10_clean 19 = .ok (.aload_n 0, 1) := by decide +kernel
theorem dX10_clean_20 : decode cX10_clean 20 = .ok (.iconst 1, 1) := by decide +kernel
theorem dX10_clean_21 : decode cX10_clean 21 = .ok (.putfield 287, 3) := by decide +kernel
theorem dX10_clean_24 : decode cX10_clean 24 = .ok (.aload_n 0, 1) := by decide +kernel
theorem dX10_clean_25 : decode cX10_clean 25 = .ok (.iload_n 1, 1) := by decide +kernel
theorem dX10_clean_26 : decode cX10_clean 26 = .ok (.invokevirtual 399, 3) := by decide +kernel
theorem dX10_clean_29 : decode cX10_clean 29 = .ok (.ireturn, 1) := by decide +kernel
theorem dX10_says_0 : decode cX10_says 0 = .ok (.aload_n 0, 1) := by decide +kernel
theorem dX10_says_1 : decode cX10_says 1 = .ok (.getfield 112, 3) := by decide +kernel
theorem dX10_says_4 : decode cX10_says 4 = .ok (.aload_n 0, 1) := by decide +kernel
theorem dX10_says_5 : decode cX10_says 5 = .ok (.getfield 472, 3) := by decide +kernel
theorem dX10_says_8 : decode cX10_says 8 = .ok (.iload_n 1, 1) := by decide +kernel
theorem dX10_says_9 : decode cX10_says 9 = .ok (.i2b, 1) := by decide +kernel
theorem dX10_says_10 : decode cX10_says 10 = .ok (.bastore, 1) := by decide +kernel
theorem dX10_says_11 : decode cX10_says 11 = .ok (.aload_n 0, 1) := by decide +kernel
theorem dX10_says_12 : decode cX10_says 12 = .ok (.dup, 1) := by decide +kernel
theorem dX10_says_13 : decode cX10_says 13 = .ok (.getfield 472, 3) := by decide +kernel
theorem dX10_says_16 : decode cX10_says 16 = .ok (.iconst 1, 1) := by decide +kernel
theorem dX10_says_17 : decode cX10_says 17 = .ok (.iadd, 1) := by decide +kernel
theorem dX10_says_18 : decode cX10_says 18 = .ok (.putfield 472, 3) := by decide +kernel
theorem dX10_says_21 : decode cX10_says 21 = .ok (.return_, 1) := by decide +kernel
theorem dX10_saysName_0 : decode cX10_saysName 0 = .ok (.iconst 0, 1) := by decide +kernel
theorem dX10_saysName_1 : decode cX10_saysName 1 = .ok (.istore_n 2, 1) := by decide +kernel
theorem dX10_saysName_2 : decode cX10_saysName 2 = .ok (.iload_n 2, 1) := by decide +kernel
theorem dX10_saysName_3 : decode cX10_saysName 3 = .ok (.bipush 6, 2) := by decide +kernel
theorem dX10_saysName_5 : decode cX10_saysName 5 = .ok (.if_icmp .ge 32, 3) := by decide +kernel
theorem dX10_saysName_8 : decode cX10_saysName 8 = .ok (.aload_n 0, 1) := by decide +kernel
theorem dX10_saysName_9 : decode cX10_saysName 9 = .ok (.getfield 81, 3) := by decide +kernel
theorem dX10_saysName_12 : decode cX10_saysName 12 = .ok (.iload_n 1, 1) := by decide +kernel
theorem dX10_saysName_13 : decode cX10_saysName 13 = .ok (.iload_n 2, 1) := by decide +kernel
theorem dX10_saysName_14 : decode cX10_saysName 14 = .ok (.iadd, 1) := by decide +kernel
theorem dX10_saysName_15 : decode cX10_saysName 15 = .ok (.iaload, 1) := by decide +kernel
theorem dX10_saysName_16 : decode cX10_saysName 16 = .ok (.ifCond .eq 15, 3) := by decide +kernel
theorem dX10_saysName_19 : decode cX10_saysName 19 = .ok (.aload_n 0, 1) := by decide +kernel
theorem dX10_saysName_20 : decode cX10_saysName 20 = .ok (.aload_n 0, 1) := by decide +kernel
theorem dX10_saysName_21 : decode cX10_saysName 21 = .ok (.getfield 81, 3) := by decide +kernel
theorem dX10_saysName_24 : decode cX10_saysName 24 = .ok (.iload_n 1, 1) := by decide +kernel
theorem dX10_saysName_25 : decode cX10_saysName 25 = .ok (.iload_n 2, 1) := by decide +kernel
theorem dX10_saysName_26 : decode cX10_saysName 26 = .ok (.iadd, 1) := by decide +kernel
theorem dX10_saysName_27 : decode cX10_saysName 27 = .ok (.iaload, 1) := by decide +kernel
theorem dX10_saysName_28 : decode cX10_saysName 28 = .ok (.invokevirtual 475, 3) := by decide +kernel
theorem dX10_saysName_31 : decode cX10_saysName 31 = .ok (.iinc 2 1, 3) := by decide +kernel
theorem dX10_saysName_34 : decode cX10_saysName 34 = .ok (.goto (-32), 3) := by decide +kernel
theorem dX10_saysName_37 : decode cX10_saysName 37 = .ok (.return_, 1) := by decide +kernel
theorem dX10_saysNumber_0 : decode cX10_saysNumber 0 = .ok (.iload_n 1, 1) := by decide +kernel
theorem dX10_saysNumber_1 : decode cX10_saysNumber 1 = .ok (.bipush 9, 2) := by decide +kernel
theorem dX10_saysNumber_3 : decode cX10_saysNumber 3 = .ok (.if_icmp .le 11, 3) := by decide +kernel
theorem dX10_saysNumber_6 : decode cX10_saysNumber 6 = .ok (.aload_n 0, 1) := by decide +kernel
theorem dX10_saysNumber_7 : decode cX10_saysNumber 7 = .ok (.iload_n 1, 1) := by decide +kernel
theorem dX10_saysNumber_8 : decode cX10_saysNumber 8 = .ok (.bipush 10, 2) := by decide +kernel
theorem dX10_saysNumber_10 : decode cX10_saysNumber 10 = .ok (.idiv, 1) := by decide +kernel
theorem dX10_saysNumber_11 : decode cX10_saysNumber 11 = .ok (.invokevirtual 478, 3) := by decide +kernel
theorem dX10_saysNumber_14 : decode cX10_saysNumber 14 = .ok (.aload_n 0, 1) := by decide +kernel
theorem dX10_saysNumber_15 : decode cX10_saysNumber 15 = .ok (.bipush 48, 2) := by decide +kernel
theorem dX10_saysNumber_17 : decode cX10_saysNumber 17 = .ok (.iload_n 1, 1) := by decide +kernel
theorem dX10_saysNumber_18 : decode cX10_saysNumber 18 = .ok (.bipush 10, 2) := by decide +kernel
theorem dX10_saysNumber_20 : decode cX10_saysNumber 20 = .ok (.irem, 1) := by decide +kernel
theorem dX10_saysNumber_21 : decode cX10_saysNumber 21 = .ok (.iadd, 1) := by decide +kernel
theorem dX10_saysNumber_22 : decode cX10_saysNumber 22 = .ok (.invokevirtual 475, 3) := by decide +kernel
theorem dX10_saysNumber_25 : decode cX10_saysNumber 25 = .ok (.return_, 1) := by decide +kernel
theorem dX10_saysHundredths_0 : decode cX10_saysHundredths 0 = .ok (.iload_n 1, 1) := by decide +kernel
theorem dX10_saysHundredths_1 : decode cX10_saysHundredths 1 = .ok (.invokestatic 444, 3) := by decide +kernel
theorem dX10_saysHundredths_4 : decode cX10_saysHundredths 4 = .ok (.istore_n 2, 1) := by decide +kernel
theorem dX10_saysHundredths_5 : decode cX10_saysHundredths 5 = .ok (.iload_n 1, 1) := by decide +kernel
theorem dX10_saysHundredths_6 : decode cX10_saysHundredths 6 = .ok (.ifCond .ge 9, 3) := by decide +kernel
theorem dX10_saysHundredths_9 : decode cX10_saysHundredths 9 = .ok (.aload_n 0, 1) := by decide +kernel
theorem dX10_saysHundredths_10 : decode cX10_saysHundredths 10 = .ok (.bipush 45, 2) := by decide +kernel
theorem dX10_saysHundredths_12 : decode cX10_saysHundredths 12 = .ok (.invokevirtual 475, 3) := by decide +kernel
theorem dX10_saysHundredths_15 : decode cX10_saysHundredths 15 = .ok (.aload_n 0, 1) := by decide +kernel
theorem dX10_saysHundredths_16 : decode cX10_saysHundredths 16 = .ok (.iload_n 2, 1) := by decide +kernel
theorem dX10_saysHundredths_17 : decode cX10_saysHundredths 17 = .ok (.bipush 100, 2) := by decide +kernel
theorem dX10_saysHundredths_19 : decode cX10_saysHundredths 19 = .ok (.idiv, 1) := by decide +kernel
theorem dX10_saysHundredths_20 : decode cX10_saysHundredths 20 = .ok (.invokevirtual 478, 3) := by decide +kernel
theorem dX10_saysHundredths_23 : decode cX10_saysHundredths 23 = .ok (.aload_n 0, 1) := by decide +kernel
theorem dX10_saysHundredths_24 : decode cX10_saysHundredths 24 = .ok (.bipush 46, 2) := by decide +kernel
theorem dX10_saysHundredths_26 : decode cX10_saysHundredths 26 = .ok (.invokevirtual 475, 3) := by decide +kernel
theorem dX10_saysHundredths_29 : decode cX10_saysHundredths 29 = .ok (.aload_n 0, 1) := by decide +kernel
theorem dX10_saysHundredths_30 : decode cX10_saysHundredths 30 = .ok (.bipush 48, 2) := by decide +kernel
theorem dX10_saysHundredths_32 : decode cX10_saysHundredths 32 = .ok (.iload_n 2, 1) := by decide +kernel
theorem dX10_saysHundredths_33 : decode cX10_saysHundredths 33 = .ok (.bipush 10, 2) := by decide +kernel
theorem dX10_saysHundredths_35 : decode cX10_saysHundredths 35 = .ok (.idiv, 1) := by decide +kernel
theorem dX10_saysHundredths_36 : decode cX10_saysHundredths 36 = .ok (.bipush 10, 2) := by decide +kernel
theorem dX10_saysHundredths_38 : decode cX10_saysHundredths 38 = .ok (.irem, 1) := by decide +kernel
theorem dX10_saysHundredths_39 : decode cX10_saysHundredths 39 = .ok (.iadd, 1) := by decide +kernel
theorem dX10_saysHundredths_40 : decode cX10_saysHundredths 40 = .ok (.invokevirtual 475, 3) := by decide +kernel
theorem dX10_saysHundredths_43 : decode cX10_saysHundredths 43 = .ok (.aload_n 0, 1) := by decide +kernel
theorem dX10_saysHundredths_44 : decode cX10_saysHundredths 44 = .ok (.bipush 48, 2) := by decide +kernel
theorem dX10_saysHundredths_46 : decode cX10_saysHundredths 46 = .ok (.iload_n 2, 1) := by decide +kernel
theorem dX10_saysHundredths_47 : decode cX10_saysHundredths 47 = .ok (.bipush 10, 2) := by decide +kernel
theorem dX10_saysHundredths_49 : decode cX10_saysHundredths 49 = .ok (.irem, 1) := by decide +kernel
theorem dX10_saysHundredths_50 : decode cX10_saysHundredths 50 = .ok (.iadd, 1) := by decide +kernel
theorem dX10_saysHundredths_51 : decode cX10_saysHundredths 51 = .ok (.invokevirtual 475, 3) := by decide +kernel
theorem dX10_saysHundredths_54 : decode cX10_saysHundredths 54 = .ok (.return_, 1) := by decide +kernel
theorem dX10_write_0 : decode cX10_write 0 = .ok (.aload_n 0, 1) := by decide +kernel
theorem dX10_write_1 : decode cX10_write 1 = .ok (.iconst 0, 1) := by decide +kernel
theorem dX10_write_2 : decode cX10_write 2 = .ok (.putfield 3, 3) := by decide +kernel
theorem dX10_write_5 : decode cX10_write 5 = .ok (.aload_n 0, 1) := by decide +kernel
theorem dX10_write_6 : decode cX10_write 6 = .ok (.invokevirtual 408, 3) := by decide +kernel
theorem dX10_write_9 : decode cX10_write 9 = .ok (.aload_n 0, 1) := by decide +kernel
theorem dX10_write_10 : decode cX10_write 10 = .ok (.iload_n 1, 1) := by decide +kernel
theorem dX10_write_11 : decode cX10_write 11 = .ok (.invokevirtual 411, 3) := by decide +kernel
theorem dX10_write_14 : decode cX10_write 14 = .ok (.ifCond .eq 5, 3) := by decide +kernel
theorem dX10_write_17 : decode cX10_write 17 = .ok (.iconst 0, 1) := by decide +kernel
theorem dX10_write_18 : decode cX10_write 18 = .ok (.ireturn, 1) := by decide +kernel
theorem dX10_write_19 : decode cX10_write 19 = .ok (.aload_n 0, 1) := by decide +kernel
theorem dX10_write_20 : decode cX10_write 20 = .ok (.iconst 0, 1) := by decide +kernel
theorem dX10_write_21 : decode cX10_write 21 = .ok (.putfield 472, 3) := by decide +kernel
theorem dX10_write_24 : decode cX10_write 24 = .ok (.aload_n 0, 1) := by decide +kernel
theorem dX10_write_25 : decode cX10_write 25 = .ok (.bipush 74, 2) := by decide +kernel
theorem dX10_write_27 : decode cX10_write 27 = .ok (.bipush 6, 2) := by decide +kernel
theorem dX10_write_29 : decode cX10_write 29 = .ok (.iload_n 1, 1) := by decide +kernel
theorem dX10_write_30 : decode cX10_write 30 = .ok (.imul, 1) := by decide +kernel
theorem dX10_write_31 : decode cX10_write 31 = .ok (.iadd, 1) := by decide +kernel
theorem dX10_write_32 : decode cX10_write 32 = .ok (.invokevirtual 481, 3) := by decide +kernel
theorem dX10_write_35 : decode cX10_write 35 = .ok (.aload_n 0, 1) := by decide +kernel
theorem dX10_write_36 : decode cX10_write 36 = .ok (.bipush 32, 2) := by decide +kernel
theorem dX10_write_38 : decode cX10_write 38 = .ok (.invokevirtual 475, 3) := by decide +kernel
theorem dX10_write_41 : decode cX10_write 41 = .ok (.aload_n 0, 1) := by decide +kernel
theorem dX10_write_42 : decode cX10_write 42 = .ok (.aload_n 0, 1) := by decide +kernel
theorem dX10_write_43 : decode cX10_write 43 = .ok (.iload_n 1, 1) := by decide +kernel
theorem dX10_write_44 : decode cX10_write 44 = .ok (.invokevirtual 399, 3) := by decide +kernel
theorem dX10_write_47 : decode cX10_write 47 = .ok (.invokevirtual 484, 3) := by decide +kernel
theorem dX10_write_50 : decode cX10_write 50 = .ok (.iconst 0, 1) := by decide +kernel
theorem dX10_write_51 : decode cX10_write 51 = .ok (.istore_n 2, 1) := by decide +kernel
theorem dX10_write_52 : decode cX10_write 52 = .ok (.iload_n 2, 1) := by decide +kernel
theorem dX10_write_53 : decode cX10_write 53 = .ok (.aload_n 0, 1) := by decide +kernel
theorem dX10_write_54 : decode cX10_write 54 = .ok (.getfield 81, 3) := by decide +kernel
theorem dX10_write_57 : decode cX10_write 57 = .ok (.bipush 116, 2) := by decide +kernel
theorem dX10_write_59 : decode cX10_write 59 = .ok (.iload_n 1, 1) := by decide +kernel
theorem dX10_write_60 : decode cX10_write 60 = .ok (.iadd, 1) := by decide +kernel
theorem dX10_write_61 : decode cX10_write 61 = .ok (.iaload, 1) := by decide +kernel
theorem dX10_write_62 : decode cX10_write 62 = .ok (.if_icmp .ge 24, 3) := by decide +kernel
theorem dX10_write_65 : decode cX10_write 65 = .ok (.aload_n 0, 1) := by decide +kernel
theorem dX10_write_66 : decode cX10_write 66 = .ok (.iload_n 1, 1) := by decide +kernel
theorem dX10_write_67 : decode cX10_write 67 = .ok (.iload_n 2, 1) := by decide +kernel
theorem dX10_write_68 : decode cX10_write 68 = .ok (.invokevirtual 322, 3) := by decide +kernel
theorem dX10_write_71 : decode cX10_write 71 = .ok (.ifCond .eq 9, 3) := by decide +kernel
theorem dX10_write_74 : decode cX10_write 74 = .ok (.aload_n 0, 1) := by decide +kernel
theorem dX10_write_75 : decode cX10_write 75 = .ok (.iload_n 1, 1) := by decide +kernel
theorem dX10_write_76 : decode cX10_write 76 = .ok (.iload_n 2, 1) := by decide +kernel
theorem dX10_write_77 : decode cX10_write 77 = .ok (.invokevirtual 487, 3) := by decide +kernel
theorem dX10_write_80 : decode cX10_write 80 = .ok (.iinc 2 1, 3) := by decide +kernel
theorem dX10_write_83 : decode cX10_write 83 = .ok (.goto (-31), 3) := by decide +kernel
theorem dX10_write_86 : decode cX10_write 86 = .ok (.aload_n 0, 1) := by decide +kernel
theorem dX10_write_87 : decode cX10_write 87 = .ok (.getfield 472, 3) := by decide +kernel
theorem dX10_write_90 : decode cX10_write 90 = .ok (.ireturn, 1) := by decide +kernel
theorem dX10_saysTry_0 : decode cX10_saysTry 0 = .ok (.aload_n 0, 1) := by decide +kernel
theorem dX10_saysTry_1 : decode cX10_saysTry 1 = .ok (.bipush 10, 2) := by decide +kernel
theorem dX10_saysTry_3 : decode cX10_saysTry 3 = .ok (.invokevirtual 475, 3) := by decide +kernel
theorem dX10_saysTry_6 : decode cX10_saysTry 6 = .ok (.iconst 0, 1) := by decide +kernel
theorem dX10_saysTry_7 : decode cX10_saysTry 7 = .ok (.istore_n 3, 1) := by decide +kernel
theorem dX10_saysTry_8 : decode cX10_saysTry 8 = .ok (.iload_n 3, 1) := by decide +kernel
theorem dX10_saysTry_9 : decode cX10_saysTry 9 = .ok (.aload_n 0, 1) := by decide +kernel
theorem dX10_saysTry_10 : decode cX10_saysTry 10 = .ok (.iload_n 1, 1) := by decide +kernel
theorem dX10_saysTry_11 : decode cX10_saysTry 11 = .ok (.iload_n 2, 1) := by decide +kernel
theorem dX10_saysTry_12 : decode cX10_saysTry 12 = .ok (.invokevirtual 325, 3) := by decide +kernel
theorem dX10_saysTry_15 : decode cX10_saysTry 15 = .ok (.if_icmp .ge 36, 3) := by decide +kernel
theorem dX10_saysTry_18 : decode cX10_saysTry 18 = .ok (.iload_n 3, 1) := by decide +kernel
theorem dX10_saysTry_19 : decode cX10_saysTry 19 = .ok (.ifCond .le 9, 3) := by decide +kernel
theorem dX10_saysTry_22 : decode cX10_saysTry 22 = .ok (.aload_n 0, 1) := by decide +kernel
theorem dX10_saysTry_23 : decode cX10_saysTry 23 = .ok (.bipush 43, 2) := by decide +kernel
theorem dX10_saysTry_25 : decode cX10_saysTry 25 = .ok (.invokevirtual 475, 3) := by decide +kernel
theorem dX10_saysTry_28 : decode cX10_saysTry 28 = .ok (.aload_n 0, 1) := by decide +kernel
theorem dX10_saysTry_29 : decode cX10_saysTry 29 = .ok (.bipush 14, 2) := by decide +kernel
theorem dX10_saysTry_31 : decode cX10_saysTry 31 = .ok (.bipush 6, 2) := by decide +kernel
theorem dX10_saysTry_33 : decode cX10_saysTry 33 = .ok (.aload_n 0, 1) := by decide +kernel
theorem dX10_saysTry_34 : decode cX10_saysTry 34 = .ok (.iload_n 1, 1) := by decide +kernel
theorem dX10_saysTry_35 : decode cX10_saysTry 35 = .ok (.iload_n 2, 1) := by decide +kernel
theorem dX10_saysTry_36 : decode cX10_saysTry 36 = .ok (.iload_n 3, 1) := by decide +kernel
theorem dX10_saysTry_37 : decode cX10_saysTry 37 = .ok (.invokevirtual 293, 3) := by decide +kernel
theorem dX10_saysTry_40 : decode cX10_saysTry 40 = .ok (.imul, 1) := by decide +kernel
theorem dX10_saysTry_41 : decode cX10_saysTry 41 = .ok (.iadd, 1) := by decide +kernel
theorem dX10_saysTry_42 : decode cX10_saysTry 42 = .ok (.invokevirtual 481, 3) := by decide +kernel
theorem dX10_saysTry_45 : decode cX10_saysTry 45 = .ok (.iinc 3 1, 3) := by decide +kernel
theorem dX10_saysTry_48 : decode cX10_saysTry 48 = .ok (.goto (-40), 3) := by decide +kernel
theorem dX10_saysTry_51 : decode cX10_saysTry 51 = .ok (.aload_n 0, 1) := by decide +kernel
theorem dX10_saysTry_52 : decode cX10_saysTry 52 = .ok (.iload_n 1, 1) := by decide +kernel
theorem dX10_saysTry_53 : decode cX10_saysTry 53 = .ok (.iload_n 2, 1) := by decide +kernel
theorem dX10_saysTry_54 : decode cX10_saysTry 54 = .ok (.invokevirtual 334, 3) := by decide +kernel
theorem dX10_saysTry_57 : decode cX10_saysTry 57 = .ok (.iconst 0, 1) := by decide +kernel
theorem dX10_saysTry_58 : decode cX10_saysTry 58 = .ok (.invokestatic 212, 3) := by decide +kernel
theorem dX10_saysTry_61 : decode cX10_saysTry 61 = .ok (.ifCond .eq 9, 3) := by decide +kernel
theorem dX10_saysTry_64 : decode cX10_saysTry 64 = .ok (.aload_n 0, 1) := by decide +kernel
theorem dX10_saysTry_65 : decode cX10_saysTry 65 = .ok (.bipush 60, 2) := by decide +kernel
theorem dX10_saysTry_67 : decode cX10_saysTry 67 = .ok (.invokevirtual 475, 3) := by decide +kernel
theorem dX10_saysTry_70 : decode cX10_saysTry 70 = .ok (.aload_n 0, 1) := by decide +kernel
theorem dX10_saysTry_71 : decode cX10_saysTry 71 = .ok (.iload_n 1, 1) := by decide +kernel
theorem dX10_saysTry_72 : decode cX10_saysTry 72 = .ok (.iload_n 2, 1) := by decide +kernel
theorem dX10_saysTry_73 : decode cX10_saysTry 73 = .ok (.invokevirtual 334, 3) := by decide +kernel
theorem dX10_saysTry_76 : decode cX10_saysTry 76 = .ok (.iconst 1, 1) := by decide +kernel
theorem dX10_saysTry_77 : decode cX10_saysTry 77 = .ok (.invokestatic 212, 3) := by decide +kernel
theorem dX10_saysTry_80 : decode cX10_saysTry 80 = .ok (.ifCond .eq 9, 3) := by decide +kernel
theorem dX10_saysTry_83 : decode cX10_saysTry 83 = .ok (.aload_n 0, 1) := by decide +kernel
theorem dX10_saysTry_84 : decode cX10_saysTry 84 = .ok (.bipush 33, 2) := by decide +kernel
theorem dX10_saysTry_86 : decode cX10_saysTry 86 = .ok (.invokevirtual 475, 3) := by decide +kernel
theorem dX10_saysTry_89 : decode cX10_saysTry 89 = .ok (.aload_n 0, 1) := by decide +kernel
theorem dX10_saysTry_90 : decode cX10_saysTry 90 = .ok (.iload_n 1, 1) := by decide +kernel
theorem dX10_saysTry_91 : decode cX10_saysTry 91 = .ok (.iload_n 2, 1) := by decide +kernel
theorem dX10_saysTry_92 : decode cX10_saysTry 92 = .ok (.invokevirtual 337, 3) := by decide +kernel
theorem dX10_saysTry_95 : decode cX10_saysTry 95 = .ok (.ifCond .eq 9, 3) := by decide +kernel
theorem dX10_saysTry_98 : decode cX10_saysTry 98 = .ok (.aload_n 0, 1) := by decide +kernel
theorem dX10_saysTry_99 : decode cX10_saysTry 99 = .ok (.bipush 120, 2) := by decide +kernel
theorem dX10_saysTry_101 : decode cX10_saysTry 101 = .ok (.invokevirtual 475, 3) := by decide +kernel
theorem dX10_saysTry_104 : decode cX10_saysTry 104 = .ok (.aload_n 0, 1) := by decide +kernel
theorem dX10_saysTry_105 : decode cX10_saysTry 105 = .ok (.bipush 32, 2) := by decide +kernel
theorem dX10_saysTry_107 : decode cX10_saysTry 107 = .ok (.invokevirtual 475, 3) := by decide +kernel
theorem dX10_saysTry_110 : decode cX10_saysTry 110 = .ok (.aload_n 0, 1) := by decide +kernel
theorem dX10_saysTry_111 : decode cX10_saysTry 111 = .ok (.aload_n 0, 1) := by decide +kernel
theorem dX10_saysTry_112 : decode cX10_saysTry 112 = .ok (.iload_n 1, 1) := by decide +kernel
theorem dX10_saysTry_113 : decode cX10_saysTry 113 = .ok (.iload_n 2, 1) := by decide +kernel
theorem dX10_saysTry_114 : decode cX10_saysTry 114 = .ok (.invokevirtual 349, 3) := by decide +kernel
theorem dX10_saysTry_117 : decode cX10_saysTry 117 = .ok (.invokevirtual 484, 3) := by decide +kernel
theorem dX10_saysTry_120 : decode cX10_saysTry 120 = .ok (.return_, 1) := by decide +kernel
theorem dX10_octet_0 : decode cX10_octet 0 = .ok (.aload_n 0, 1) := by decide +kernel
theorem dX10_octet_1 : decode cX10_octet 1 = .ok (.iconst 0, 1) := by decide +kernel
theorem dX10_octet_2 : decode cX10_octet 2 = .ok (.putfield 3, 3) := by decide +kernel
theorem dX10_octet_5 : decode cX10_octet 5 = .ok (.iload_n 1, 1) := by decide +kernel
theorem dX10_octet_6 : decode cX10_octet 6 = .ok (.iconst 0, 1) := by decide +kernel
theorem dX10_octet_7 : decode cX10_octet 7 = .ok (.aload_n 0, 1) := by decide +kernel
theorem dX10_octet_8 : decode cX10_octet 8 = .ok (.getfield 472, 3) := by decide +kernel
theorem dX10_octet_11 : decode cX10_octet 11 = .ok (.iconst 1, 1) := by decide +kernel
theorem dX10_octet_12 : decode cX10_octet 12 = .ok (.isub, 1) := by decide +kernel
theorem dX10_octet_13 : decode cX10_octet 13 = .ok (.invokestatic 69, 3) := by decide +kernel
theorem dX10_octet_16 : decode cX10_octet 16 = .ok (.ifCond .eq 12, 3) := by decide +kernel
theorem dX10_octet_19 : decode cX10_octet 19 = .ok (.aload_n 0, 1) := by decide +kernel
theorem dX10_octet_20 : decode cX10_octet 20 = .ok (.getfield 112, 3) := by decide +kernel
theorem dX10_octet_23 : decode cX10_octet 23 = .ok (.iload_n 1, 1) := by decide +kernel
theorem dX10_octet_24 : decode cX10_octet 24 = .ok (.baload, 1) := by decide +kernel
theorem dX10_octet_25 : decode cX10_octet 25 = .ok (.goto 4, 3) := by decide +kernel
theorem dX10_octet_28 : decode cX10_octet 28 = .ok (.iconst (-1), 1) := by decide +kernel
theorem dX10_octet_29 : decode cX10_octet 29 = .ok (.ireturn, 1) := by decide +kernel
theorem dX10_count_0 : decode cX10_count 0 = .ok (.aload_n 0, 1) := by decide +kernel
theorem dX10_count_1 : decode cX10_count 1 = .ok (.iconst 0, 1) := by decide +kernel
theorem dX10_count_2 : decode cX10_count 2 = .ok (.putfield 3, 3) := by decide +kernel
theorem dX10_count_5 : decode cX10_count 5 = .ok (.iload_n 1, 1) := by decide +kernel
theorem dX10_count_6 : decode cX10_count 6 = .ok (.bipush 20, 2) := by decide +kernel
theorem dX10_count_8 : decode cX10_count 8 = .ok (.bipush 19, 2) := by decide +kernel
theorem dX10_count_10 : decode cX10_count 10 = .ok (.aload_n 0, 1) := by decide +kernel
theorem dX10_count_11 : decode cX10_count 11 = .ok (.getfield 81, 3) := by decide +kernel
theorem dX10_count_14 : decode cX10_count 14 = .ok (.iconst 1, 1) := by decide +kernel
theorem dX10_count_15 : decode cX10_count 15 = .ok (.iaload, 1) := by decide +kernel
theorem dX10_count_16 : decode cX10_count 16 = .ok (.iadd, 1) := by decide +kernel
theorem dX10_count_17 : decode cX10_count 17 = .ok (.invokestatic 69, 3) := by decide +kernel
theorem dX10_count_20 : decode cX10_count 20 = .ok (.ifCond .eq 16, 3) := by decide +kernel
theorem dX10_count_23 : decode cX10_count 23 = .ok (.aload_n 0, 1) := by decide +kernel
theorem dX10_count_24 : decode cX10_count 24 = .ok (.getfield 81, 3) := by decide +kernel
theorem dX10_count_27 : decode cX10_count 27 = .ok (.bipush 116, 2) := by decide +kernel
theorem dX10_count_29 : decode cX10_count 29 = .ok (.iload_n 1, 1) := by decide +kernel
theorem dX10_count_30 : decode cX10_count 30 = .ok (.iadd, 1) := by decide +kernel
theorem dX10_count_31 : decode cX10_count 31 = .ok (.bipush 20, 2) := by decide +kernel
theorem dX10_count_33 : decode cX10_count 33 = .ok (.isub, 1) := by decide +kernel
theorem dX10_count_34 : decode cX10_count 34 = .ok (.iaload, 1) := by decide +kernel
theorem dX10_count_35 : decode cX10_count 35 = .ok (.ireturn, 1) := by decide +kernel
theorem dX10_count_36 : decode cX10_count 36 = .ok (.iload_n 1, 1) := by decide +kernel
theorem dX10_count_37 : decode cX10_count 37 = .ok (.tableswitch 118 0 12 #[67, 74, 81, 88, 88, 88, 88, 88, 88, 88, 101, 108, 113], 67) := by decide +kernel
theorem dX10_count_104 : decode cX10_count 104 = .ok (.aload_n 0, 1) := by decide +kernel
theorem dX10_count_105 : decode cX10_count 105 = .ok (.getfield 81, 3) := by decide +kernel
theorem dX10_count_108 : decode cX10_count 108 = .ok (.iconst 0, 1) := by decide +kernel
theorem dX10_count_109 : decode cX10_count 109 = .ok (.iaload, 1) := by decide +kernel
theorem dX10_count_110 : decode cX10_count 110 = .ok (.ireturn, 1) := by decide +kernel
theorem dX10_count_111 : decode cX10_count 111 = .ok (.aload_n 0, 1) := by decide +kernel
theorem dX10_count_112 : decode cX10_count 112 = .ok (.getfield 81, 3) := by decide +kernel
theorem dX10_count_115 : decode cX10_count 115 = .ok (.iconst 1, 1) := by decide +kernel
theorem dX10_count_116 : decode cX10_count 116 = .ok (.iaload, 1) := by decide +kernel
theorem dX10_count_117 : decode cX10_count 117 = .ok (.ireturn, 1) := by decide +kernel
theorem dX10_count_118 : decode cX10_count 118 = .ok (.aload_n 0, 1) := by decide +kernel
theorem dX10_count_119 : decode cX10_count 119 = .ok (.getfield 81, 3) := by decide +kernel
theorem dX10_count_122 : decode cX10_count 122 = .ok (.iconst 2, 1) := by decide +kernel
theorem dX10_count_123 : decode cX10_count 123 = .ok (.iaload, 1) := by decide +kernel
theorem dX10_count_124 : decode cX10_count 124 = .ok (.ireturn, 1) := by decide +kernel
theorem dX10_count_125 : decode cX10_count 125 = .ok (.aload_n 0, 1) := by decide +kernel
theorem dX10_count_126 : decode cX10_count 126 = .ok (.getfield 84, 3) := by decide +kernel
theorem dX10_count_129 : decode cX10_count 129 = .ok (.sipush 964, 3) := by decide +kernel
theorem dX10_count_132 : decode cX10_count 132 = .ok (.iload_n 1, 1) := by decide +kernel
theorem dX10_count_133 : decode cX10_count 133 = .ok (.iadd, 1) := by decide +kernel
theorem dX10_count_134 : decode cX10_count 134 = .ok (.iconst 3, 1) := by decide +kernel
theorem dX10_count_135 : decode cX10_count 135 = .ok (.isub, 1) := by decide +kernel
theorem dX10_count_136 : decode cX10_count 136 = .ok (.iaload, 1) := by decide +kernel
theorem dX10_count_137 : decode cX10_count 137 = .ok (.ireturn, 1) := by decide +kernel
theorem dX10_count_138 : decode cX10_count 138 = .ok (.aload_n 0, 1) := by decide +kernel
theorem dX10_count_139 : decode cX10_count 139 = .ok (.getfield 81, 3) := by decide +kernel
theorem dX10_count_142 : decode cX10_count 142 = .ok (.iconst 3, 1) := by decide +kernel
theorem dX10_count_143 : decode cX10_count 143 = .ok (.iaload, 1) := by decide +kernel
theorem dX10_count_144 : decode cX10_count 144 = .ok (.ireturn, 1) := by decide +kernel
theorem dX10_count_145 : decode cX10_count 145 = .ok (.aload_n 0, 1) := by decide +kernel
theorem dX10_count_146 : decode cX10_count 146 = .ok (.getfield 272, 3) := by decide +kernel
theorem dX10_count_149 : decode cX10_count 149 = .ok (.ireturn, 1) := by decide +kernel
theorem dX10_count_150 : decode cX10_count 150 = .ok (.aload_n 0, 1) := by decide +kernel
theorem dX10_count_151 : decode cX10_count 151 = .ok (.getfield 472, 3) := by decide +kernel
theorem dX10_count_154 : decode cX10_count 154 = .ok (.ireturn, 1) := by decide +kernel
theorem dX10_count_155 : decode cX10_count 155 = .ok (.iconst (-1), 1) := by decide +kernel
theorem dX10_count_156 : decode cX10_count 156 = .ok (.ireturn, 1) := by decide +kernel
theorem dJ6_bitCount_0f7a4_0 : decode cJ6_bitCount_0f7a4 0 = .ok (.iload_n 0, 1) := by decide +kernel
theorem dJ6_bitCount_0f7a4_1 : decode cJ6_bitCount_0f7a4 1 = .ok (.iload_n 0, 1) := by decide +kernel
theorem dJ6_bitCount_0f7a4_2 : decode cJ6_bitCount_0f7a4 2 = .ok (.iconst 1, 1) := by decide +kernel
theorem dJ6_bitCount_0f7a4_3 : decode cJ6_bitCount_0f7a4 3 = .ok (.iushr, 1) := by decide +kernel
theorem dJ6_bitCount_0f7a4_4 : decode cJ6_bitCount_0f7a4 4 = .ok (.ldc_w 265, 3) := by decide +kernel
theorem dJ6_bitCount_0f7a4_7 : decode cJ6_bitCount_0f7a4 7 = .ok (.iand, 1) := by decide +kernel
theorem dJ6_bitCount_0f7a4_8 : decode cJ6_bitCount_0f7a4 8 = .ok (.isub, 1) := by decide +kernel
theorem dJ6_bitCount_0f7a4_9 : decode cJ6_bitCount_0f7a4 9 = .ok (.istore_n 0, 1) := by decide +kernel
theorem dJ6_bitCount_0f7a4_10 : decode cJ6_bitCount_0f7a4 10 = .ok (.iload_n 0, 1) := by decide +kernel
theorem dJ6_bitCount_0f7a4_11 : decode cJ6_bitCount_0f7a4 11 = .ok (.ldc_w 266, 3) := by decide +kernel
theorem dJ6_bitCount_0f7a4_14 : decode cJ6_bitCount_0f7a4 14 = .ok (.iand, 1) := by decide +kernel
theorem dJ6_bitCount_0f7a4_15 : decode cJ6_bitCount_0f7a4 15 = .ok (.iload_n 0, 1) := by decide +kernel
theorem dJ6_bitCount_0f7a4_16 : decode cJ6_bitCount_0f7a4 16 = .ok (.iconst 2, 1) := by decide +kernel
theorem dJ6_bitCount_0f7a4_17 : decode cJ6_bitCount_0f7a4 17 = .ok (.iushr, 1) := by decide +kernel
theorem dJ6_bitCount_0f7a4_18 : decode cJ6_bitCount_0f7a4 18 = .ok (.ldc_w 266, 3) := by decide +kernel
theorem dJ6_bitCount_0f7a4_21 : decode cJ6_bitCount_0f7a4 21 = .ok (.iand, 1) := by decide +kernel
theorem dJ6_bitCount_0f7a4_22 : decode cJ6_bitCount_0f7a4 22 = .ok (.iadd, 1) := by decide +kernel
theorem dJ6_bitCount_0f7a4_23 : decode cJ6_bitCount_0f7a4 23 = .ok (.istore_n 0, 1) := by decide +kernel
theorem dJ6_bitCount_0f7a4_24 : decode cJ6_bitCount_0f7a4 24 = .ok (.iload_n 0, 1) := by decide +kernel
theorem dJ6_bitCount_0f7a4_25 : decode cJ6_bitCount_0f7a4 25 = .ok (.iload_n 0, 1) := by decide +kernel
theorem dJ6_bitCount_0f7a4_26 : decode cJ6_bitCount_0f7a4 26 = .ok (.iconst 4, 1) := by decide +kernel
theorem dJ6_bitCount_0f7a4_27 : decode cJ6_bitCount_0f7a4 27 = .ok (.iushr, 1) := by decide +kernel
theorem dJ6_bitCount_0f7a4_28 : decode cJ6_bitCount_0f7a4 28 = .ok (.iadd, 1) := by decide +kernel
theorem dJ6_bitCount_0f7a4_29 : decode cJ6_bitCount_0f7a4 29 = .ok (.ldc_w 267, 3) := by decide +kernel
theorem dJ6_bitCount_0f7a4_32 : decode cJ6_bitCount_0f7a4 32 = .ok (.iand, 1) := by decide +kernel
theorem dJ6_bitCount_0f7a4_33 : decode cJ6_bitCount_0f7a4 33 = .ok (.istore_n 0, 1) := by decide +kernel
theorem dJ6_bitCount_0f7a4_34 : decode cJ6_bitCount_0f7a4 34 = .ok (.iload_n 0, 1) := by decide +kernel
theorem dJ6_bitCount_0f7a4_35 : decode cJ6_bitCount_0f7a4 35 = .ok (.iload_n 0, 1) := by decide +kernel
theorem dJ6_bitCount_0f7a4_36 : decode cJ6_bitCount_0f7a4 36 = .ok (.bipush 8, 2) := by decide +kernel
theorem dJ6_bitCount_0f7a4_38 : decode cJ6_bitCount_0f7a4 38 = .ok (.iushr, 1) := by decide +kernel
theorem dJ6_bitCount_0f7a4_39 : decode cJ6_bitCount_0f7a4 39 = .ok (.iadd, 1) := by decide +kernel
theorem dJ6_bitCount_0f7a4_40 : decode cJ6_bitCount_0f7a4 40 = .ok (.istore_n 0, 1) := by decide +kernel
theorem dJ6_bitCount_0f7a4_41 : decode cJ6_bitCount_0f7a4 41 = .ok (.iload_n 0, 1) := by decide +kernel
theorem dJ6_bitCount_0f7a4_42 : decode cJ6_bitCount_0f7a4 42 = .ok (.iload_n 0, 1) := by decide +kernel
theorem dJ6_bitCount_0f7a4_43 : decode cJ6_bitCount_0f7a4 43 = .ok (.bipush 16, 2) := by decide +kernel
theorem dJ6_bitCount_0f7a4_45 : decode cJ6_bitCount_0f7a4 45 = .ok (.iushr, 1) := by decide +kernel
theorem dJ6_bitCount_0f7a4_46 : decode cJ6_bitCount_0f7a4 46 = .ok (.iadd, 1) := by decide +kernel
theorem dJ6_bitCount_0f7a4_47 : decode cJ6_bitCount_0f7a4 47 = .ok (.istore_n 0, 1) := by decide +kernel
theorem dJ6_bitCount_0f7a4_48 : decode cJ6_bitCount_0f7a4 48 = .ok (.iload_n 0, 1) := by decide +kernel
theorem dJ6_bitCount_0f7a4_49 : decode cJ6_bitCount_0f7a4 49 = .ok (.bipush 63, 2) := by decide +kernel
theorem dJ6_bitCount_0f7a4_51 : decode cJ6_bitCount_0f7a4 51 = .ok (.iand, 1) := by decide +kernel
theorem dJ6_bitCount_0f7a4_52 : decode cJ6_bitCount_0f7a4 52 = .ok (.ireturn, 1) := by decide +kernel
theorem dJ9_floorDiv_7cf53_0 : decode cJ9_floorDiv_7cf53 0 = .ok (.iload_n 0, 1) := by decide +kernel
theorem dJ9_floorDiv_7cf53_1 : decode cJ9_floorDiv_7cf53 1 = .ok (.iload_n 1, 1) := by decide +kernel
theorem dJ9_floorDiv_7cf53_2 : decode cJ9_floorDiv_7cf53 2 = .ok (.idiv, 1) := by decide +kernel
theorem dJ9_floorDiv_7cf53_3 : decode cJ9_floorDiv_7cf53 3 = .ok (.istore_n 2, 1) := by decide +kernel
theorem dJ9_floorDiv_7cf53_4 : decode cJ9_floorDiv_7cf53 4 = .ok (.iload_n 0, 1) := by decide +kernel
theorem dJ9_floorDiv_7cf53_5 : decode cJ9_floorDiv_7cf53 5 = .ok (.iload_n 1, 1) := by decide +kernel
theorem dJ9_floorDiv_7cf53_6 : decode cJ9_floorDiv_7cf53 6 = .ok (.ixor, 1) := by decide +kernel
theorem dJ9_floorDiv_7cf53_7 : decode cJ9_floorDiv_7cf53 7 = .ok (.ifCond .ge 14, 3) := by decide +kernel
theorem dJ9_floorDiv_7cf53_10 : decode cJ9_floorDiv_7cf53 10 = .ok (.iload_n 2, 1) := by decide +kernel
theorem dJ9_floorDiv_7cf53_11 : decode cJ9_floorDiv_7cf53 11 = .ok (.iload_n 1, 1) := by decide +kernel
theorem dJ9_floorDiv_7cf53_12 : decode cJ9_floorDiv_7cf53 12 = .ok (.imul, 1) := by decide +kernel
theorem dJ9_floorDiv_7cf53_13 : decode cJ9_floorDiv_7cf53 13 = .ok (.iload_n 0, 1) := by decide +kernel
theorem dJ9_floorDiv_7cf53_14 : decode cJ9_floorDiv_7cf53 14 = .ok (.if_icmp .eq 7, 3) := by decide +kernel
theorem dJ9_floorDiv_7cf53_17 : decode cJ9_floorDiv_7cf53 17 = .ok (.iload_n 2, 1) := by decide +kernel
theorem dJ9_floorDiv_7cf53_18 : decode cJ9_floorDiv_7cf53 18 = .ok (.iconst 1, 1) := by decide +kernel
theorem dJ9_floorDiv_7cf53_19 : decode cJ9_floorDiv_7cf53 19 = .ok (.isub, 1) := by decide +kernel
theorem dJ9_floorDiv_7cf53_20 : decode cJ9_floorDiv_7cf53 20 = .ok (.ireturn, 1) := by decide +kernel
theorem dJ9_floorDiv_7cf53_21 : decode cJ9_floorDiv_7cf53 21 = .ok (.iload_n 2, 1) := by decide +kernel
theorem dJ9_floorDiv_7cf53_22 : decode cJ9_floorDiv_7cf53 22 = .ok (.ireturn, 1) := by decide +kernel
theorem dJ9_abs_0f7a4_0 : decode cJ9_abs_0f7a4 0 = .ok (.iload_n 0, 1) := by decide +kernel
theorem dJ9_abs_0f7a4_1 : decode cJ9_abs_0f7a4 1 = .ok (.ifCond .ge 8, 3) := by decide +kernel
theorem dJ9_abs_0f7a4_4 : decode cJ9_abs_0f7a4 4 = .ok (.iload_n 0, 1) := by decide +kernel
theorem dJ9_abs_0f7a4_5 : decode cJ9_abs_0f7a4 5 = .ok (.ineg, 1) := by decide +kernel
theorem dJ9_abs_0f7a4_6 : decode cJ9_abs_0f7a4 6 = .ok (.goto 4, 3) := by decide +kernel
theorem dJ9_abs_0f7a4_9 : decode cJ9_abs_0f7a4 9 = .ok (.iload_n 0, 1) := by decide +kernel
theorem dJ9_abs_0f7a4_10 : decode cJ9_abs_0f7a4 10 = .ok (.ireturn, 1) := by decide +kernel
theorem dJ9_max_7cf53_0 : decode cJ9_max_7cf53 0 = .ok (.iload_n 0, 1) := by decide +kernel
theorem dJ9_max_7cf53_1 : decode cJ9_max_7cf53 1 = .ok (.iload_n 1, 1) := by decide +kernel
theorem dJ9_max_7cf53_2 : decode cJ9_max_7cf53 2 = .ok (.if_icmp .lt 7, 3) := by decide +kernel
theorem dJ9_max_7cf53_5 : decode cJ9_max_7cf53 5 = .ok (.iload_n 0, 1) := by decide +kernel
theorem dJ9_max_7cf53_6 : decode cJ9_max_7cf53 6 = .ok (.goto 4, 3) := by decide +kernel
theorem dJ9_max_7cf53_9 : decode cJ9_max_7cf53 9 = .ok (.iload_n 1, 1) := by decide +kernel
theorem dJ9_max_7cf53_10 : decode cJ9_max_7cf53 10 = .ok (.ireturn, 1) := by decide +kernel
theorem dJ9_max_f86c9_0 : decode cJ9_max_f86c9 0 = .ok (.lload_n 0, 1) := by decide +kernel
theorem dJ9_max_f86c9_1 : decode cJ9_max_f86c9 1 = .ok (.lload_n 2, 1) := by decide +kernel
theorem dJ9_max_f86c9_2 : decode cJ9_max_f86c9 2 = .ok (.lcmp, 1) := by decide +kernel
theorem dJ9_max_f86c9_3 : decode cJ9_max_f86c9 3 = .ok (.ifCond .lt 7, 3) := by decide +kernel
theorem dJ9_max_f86c9_6 : decode cJ9_max_f86c9 6 = .ok (.lload_n 0, 1) := by decide +kernel
theorem dJ9_max_f86c9_7 : decode cJ9_max_f86c9 7 = .ok (.goto 4, 3) := by decide +kernel
theorem dJ9_max_f86c9_10 : decode cJ9_max_f86c9 10 = .ok (.lload_n 2, 1) := by decide +kernel
theorem dJ9_max_f86c9_11 : decode cJ9_max_f86c9 11 = .ok (.lreturn, 1) := by decide +kernel
theorem dJ9_min_7cf53_0 : decode cJ9_min_7cf53 0 = .ok (.iload_n 0, 1) := by decide +kernel
theorem dJ9_min_7cf53_1 : decode cJ9_min_7cf53 1 = .ok (.iload_n 1, 1) := by decide +kernel
theorem dJ9_min_7cf53_2 : decode cJ9_min_7cf53 2 = .ok (.if_icmp .gt 7, 3) := by decide +kernel
theorem dJ9_min_7cf53_5 : decode cJ9_min_7cf53 5 = .ok (.iload_n 0, 1) := by decide +kernel
theorem dJ9_min_7cf53_6 : decode cJ9_min_7cf53 6 = .ok (.goto 4, 3) := by decide +kernel
theorem dJ9_min_7cf53_9 : decode cJ9_min_7cf53 9 = .ok (.iload_n 1, 1) := by decide +kernel
theorem dJ9_min_7cf53_10 : decode cJ9_min_7cf53 10 = .ok (.ireturn, 1) := by decide +kernel
theorem dJ9_min_f86c9_0 : decode cJ9_min_f86c9 0 = .ok (.lload_n 0, 1) := by decide +kernel
theorem dJ9_min_f86c9_1 : decode cJ9_min_f86c9 1 = .ok (.lload_n 2, 1) := by decide +kernel
theorem dJ9_min_f86c9_2 : decode cJ9_min_f86c9 2 = .ok (.lcmp, 1) := by decide +kernel
theorem dJ9_min_f86c9_3 : decode cJ9_min_f86c9 3 = .ok (.ifCond .gt 7, 3) := by decide +kernel
theorem dJ9_min_f86c9_6 : decode cJ9_min_f86c9 6 = .ok (.lload_n 0, 1) := by decide +kernel
theorem dJ9_min_f86c9_7 : decode cJ9_min_f86c9 7 = .ok (.goto 4, 3) := by decide +kernel
theorem dJ9_min_f86c9_10 : decode cJ9_min_f86c9 10 = .ok (.lload_n 2, 1) := by decide +kernel
theorem dJ9_min_f86c9_11 : decode cJ9_min_f86c9 11 = .ok (.lreturn, 1) := by decide +kernel
theorem dJ0_length_8abf5_0 : decode cJ0_length_8abf5 0 = .ok (.aload_n 0, 1) := by decide +kernel
theorem dJ0_length_8abf5_1 : decode cJ0_length_8abf5 1 = .ok (.getfield 9, 3) := by decide +kernel
theorem dJ0_length_8abf5_4 : decode cJ0_length_8abf5 4 = .ok (.arraylength, 1) := by decide +kernel
theorem dJ0_length_8abf5_5 : decode cJ0_length_8abf5 5 = .ok (.aload_n 0, 1) := by decide +kernel
theorem dJ0_length_8abf5_6 : decode cJ0_length_8abf5 6 = .ok (.invokevirtual 335, 3) := by decide +kernel
theorem dJ0_length_8abf5_9 : decode cJ0_length_8abf5 9 = .ok (.ishr, 1) := by decide +kernel
theorem dJ0_length_8abf5_10 : decode cJ0_length_8abf5 10 = .ok (.ireturn, 1) := by decide +kernel
theorem dJ0_charAt_5068e_0 : decode cJ0_charAt_5068e 0 = .ok (.aload_n 0, 1) := by decide +kernel
theorem dJ0_charAt_5068e_1 : decode cJ0_charAt_5068e 1 = .ok (.invokevirtual 492, 3) := by decide +kernel
theorem dJ0_charAt_5068e_4 : decode cJ0_charAt_5068e 4 = .ok (.ifCond .eq 12, 3) := by decide +kernel
theorem dJ0_charAt_5068e_7 : decode cJ0_charAt_5068e 7 = .ok (.aload_n 0, 1) := by decide +kernel
theorem dJ0_charAt_5068e_8 : decode cJ0_charAt_5068e 8 = .ok (.getfield 9, 3) := by decide +kernel
theorem dJ0_charAt_5068e_11 : decode cJ0_charAt_5068e 11 = .ok (.iload_n 1, 1) := by decide +kernel
theorem dJ0_charAt_5068e_12 : decode cJ0_charAt_5068e 12 = .ok (.invokestatic 495, 3) := by decide +kernel
theorem dJ0_charAt_5068e_15 : decode cJ0_charAt_5068e 15 = .ok (.ireturn, 1) := by decide +kernel
theorem dJ0_charAt_5068e_16 : decode cJ0_charAt_5068e 16 = .ok (.aload_n 0, 1) := by decide +kernel
theorem dJ0_charAt_5068e_17 : decode cJ0_charAt_5068e 17 = .ok (.getfield 9, 3) := by decide +kernel
theorem dJ0_charAt_5068e_20 : decode cJ0_charAt_5068e 20 = .ok (.iload_n 1, 1) := by decide +kernel
theorem dJ0_charAt_5068e_21 : decode cJ0_charAt_5068e 21 = .ok (.invokestatic 498, 3) := by decide +kernel
theorem dJ0_charAt_5068e_24 : decode cJ0_charAt_5068e 24 = .ok (.ireturn, 1) := by decide +kernel
theorem dJ0_coder_7d493_0 : decode cJ0_coder_7d493 0 = .ok (.getstatic 38, 3) := by decide +kernel
theorem dJ0_coder_7d493_3 : decode cJ0_coder_7d493 3 = .ok (.ifCond .eq 10, 3) := by decide +kernel
theorem dJ0_coder_7d493_6 : decode cJ0_coder_7d493 6 = .ok (.aload_n 0, 1) := by decide +kernel
theorem dJ0_coder_7d493_7 : decode cJ0_coder_7d493 7 = .ok (.getfield 15, 3) := by decide +kernel
theorem dJ0_coder_7d493_10 : decode cJ0_coder_7d493 10 = .ok (.goto 4, 3) := by decide +kernel
theorem dJ0_coder_7d493_13 : decode cJ0_coder_7d493 13 = .ok (.iconst 1, 1) := by decide +kernel
theorem dJ0_coder_7d493_14 : decode cJ0_coder_7d493 14 = .ok (.ireturn, 1) := by decide +kernel
theorem dJ0_isLatin1_aae02_0 : decode cJ0_isLatin1_aae02 0 = .ok (.getstatic 38, 3) := by decide +kernel
theorem dJ0_isLatin1_aae02_3 : decode cJ0_isLatin1_aae02 3 = .ok (.ifCond .eq 14, 3) := by decide +kernel
theorem dJ0_isLatin1_aae02_6 : decode cJ0_isLatin1_aae02 6 = .ok (.aload_n 0, 1) := by decide +kernel
theorem dJ0_isLatin1_aae02_7 : decode cJ0_isLatin1_aae02 7 = .ok (.getfield 15, 3) := by decide +kernel
theorem dJ0_isLatin1_aae02_10 : decode cJ0_isLatin1_aae02 10 = .ok (.ifCond .ne 7, 3) := by decide +kernel
theorem dJ0_isLatin1_aae02_13 : decode cJ0_isLatin1_aae02 13 = .ok (.iconst 1, 1) := by decide +kernel
theorem dJ0_isLatin1_aae02_14 : decode cJ0_isLatin1_aae02 14 = .ok (.goto 4, 3) := by decide +kernel
theorem dJ0_isLatin1_aae02_17 : decode cJ0_isLatin1_aae02 17 = .ok (.iconst 0, 1) := by decide +kernel
theorem dJ0_isLatin1_aae02_18 : decode cJ0_isLatin1_aae02 18 = .ok (.ireturn, 1) := by decide +kernel
theorem dJ0_checkIndex_df160_0 : decode cJ0_checkIndex_df160 0 = .ok (.iload_n 0, 1) := by decide +kernel
theorem dJ0_checkIndex_df160_1 : decode cJ0_checkIndex_df160 1 = .ok (.iload_n 1, 1) := by decide +kernel
theorem dJ0_checkIndex_df160_2 : decode cJ0_checkIndex_df160 2 = .ok (.getstatic 1053, 3) := by decide +kernel
theorem dJ0_checkIndex_df160_5 : decode cJ0_checkIndex_df160 5 = .ok (.invokestatic 1059, 3) := by decide +kernel
theorem dJ0_checkIndex_df160_8 : decode cJ0_checkIndex_df160 8 = .ok (.pop, 1) := by decide +kernel
theorem dJ0_checkIndex_df160_9 : decode cJ0_checkIndex_df160 9 = .ok (.return_, 1) := by decide +kernel
theorem dJ1_charAt_3b067_0 : decode cJ1_charAt_3b067 0 = .ok (.iload_n 1, 1) := by decide +kernel
theorem dJ1_charAt_3b067_1 : decode cJ1_charAt_3b067 1 = .ok (.aload_n 0, 1) := by decide +kernel
theorem dJ1_charAt_3b067_2 : decode cJ1_charAt_3b067 2 = .ok (.arraylength, 1) := by decide +kernel
theorem dJ1_charAt_3b067_3 : decode cJ1_charAt_3b067 3 = .ok (.invokestatic 9, 3) := by decide +kernel
theorem dJ1_charAt_3b067_6 : decode cJ1_charAt_3b067 6 = .ok (.aload_n 0, 1) := by decide +kernel
theorem dJ1_charAt_3b067_7 : decode cJ1_charAt_3b067 7 = .ok (.iload_n 1, 1) := by decide +kernel
theorem dJ1_charAt_3b067_8 : decode cJ1_charAt_3b067 8 = .ok (.baload, 1) := by decide +kernel
theorem dJ1_charAt_3b067_9 : decode cJ1_charAt_3b067 9 = .ok (.sipush 255, 3) := by decide +kernel
theorem dJ1_charAt_3b067_12 : decode cJ1_charAt_3b067 12 = .ok (.iand, 1) := by decide +kernel
theorem dJ1_charAt_3b067_13 : decode cJ1_charAt_3b067 13 = .ok (.i2c, 1) := by decide +kernel
theorem dJ1_charAt_3b067_14 : decode cJ1_charAt_3b067 14 = .ok (.ireturn, 1) := by decide +kernel
theorem dJ2_getChar_3b067_0 : decode cJ2_getChar_3b067 0 = .ok (.getstatic 44, 3) := by decide +kernel
theorem dJ2_getChar_3b067_3 : decode cJ2_getChar_3b067 3 = .ok (.ifCond .ne 25, 3) := by decide +kernel
theorem dJ2_getChar_3b067_6 : decode cJ2_getChar_3b067 6 = .ok (.iload_n 1, 1) := by decide +kernel
theorem dJ2_getChar_3b067_7 : decode cJ2_getChar_3b067 7 = .ok (.ifCond .lt 11, 3) := by decide +kernel
theorem dJ2_getChar_3b067_10 : decode cJ2_getChar_3b067 10 = .ok (.iload_n 1, 1) := by decide +kernel
theorem dJ2_getChar_3b067_11 : decode cJ2_getChar_3b067 11 = .ok (.aload_n 0, 1) := by decide +kernel
theorem dJ2_getChar_3b067_12 : decode cJ2_getChar_3b067 12 = .ok (.invokestatic 48, 3) := by decide +kernel
theorem dJ2_getChar_3b067_15 : decode cJ2_getChar_3b067 15 = .ok (.if_icmp .lt 13, 3) := by decide +kernel
theorem dJ2_getChar_3b067_18 : decode cJ2_getChar_3b067 18 = .ok (.new 52, 3) := by decide +kernel
theorem dJ2_getChar_3b067_21 : decode cJ2_getChar_3b067 21 = .ok (.dup, 1) := by decide +kernel
theorem dJ2_getChar_3b067_22 : decode cJ2_getChar_3b067 22 = .ok (.ldc 54, 2) := by decide +kernel
theorem dJ2_getChar_3b067_24 : decode cJ2_getChar_3b067 24 = .ok (.invokespecial 56, 3) := by decide +kernel
theorem dJ2_getChar_3b067_27 : decode cJ2_getChar_3b067 27 = .ok (.athrow, 1) := by decide +kernel
theorem dJ2_getChar_3b067_28 : decode cJ2_getChar_3b067 28 = .ok (.iload_n 1, 1) := by decide +kernel
theorem dJ2_getChar_3b067_29 : decode cJ2_getChar_3b067 29 = .ok (.iconst 1, 1) := by decide +kernel
theorem dJ2_getChar_3b067_30 : decode cJ2_getChar_3b067 30 = .ok (.ishl, 1) := by decide +kernel
theorem dJ2_getChar_3b067_31 : decode cJ2_getChar_3b067 31 = .ok (.istore_n 1, 1) := by decide +kernel
theorem dJ2_getChar_3b067_32 : decode cJ2_getChar_3b067 32 = .ok (.aload_n 0, 1) := by decide +kernel
theorem dJ2_getChar_3b067_33 : decode cJ2_getChar_3b067 33 = .ok (.iload_n 1, 1) := by decide +kernel
theorem dJ2_getChar_3b067_34 : decode cJ2_getChar_3b067 34 = .ok (.iinc 1 1, 3) := by decide +kernel
theorem dJ2_getChar_3b067_37 : decode cJ2_getChar_3b067 37 = .ok (.baload, 1) := by decide +kernel
theorem dJ2_getChar_3b067_38 : decode cJ2_getChar_3b067 38 = .ok (.sipush 255, 3) := by decide +kernel
theorem dJ2_getChar_3b067_41 : decode cJ2_getChar_3b067 41 = .ok (.iand, 1) := by decide +kernel
theorem dJ2_getChar_3b067_42 : decode cJ2_getChar_3b067 42 = .ok (.getstatic 59, 3) := by decide +kernel
theorem dJ2_getChar_3b067_45 : decode cJ2_getChar_3b067 45 = .ok (.ishl, 1) := by decide +kernel
theorem dJ2_getChar_3b067_46 : decode cJ2_getChar_3b067 46 = .ok (.aload_n 0, 1) := by decide +kernel
theorem dJ2_getChar_3b067_47 : decode cJ2_getChar_3b067 47 = .ok (.iload_n 1, 1) := by decide +kernel
theorem dJ2_getChar_3b067_48 : decode cJ2_getChar_3b067 48 = .ok (.baload, 1) := by decide +kernel
theorem dJ2_getChar_3b067_49 : decode cJ2_getChar_3b067 49 = .ok (.sipush 255, 3) := by decide +kernel
theorem dJ2_getChar_3b067_52 : decode cJ2_getChar_3b067 52 = .ok (.iand, 1) := by decide +kernel
theorem dJ2_getChar_3b067_53 : decode cJ2_getChar_3b067 53 = .ok (.getstatic 63, 3) := by decide +kernel
theorem dJ2_getChar_3b067_56 : decode cJ2_getChar_3b067 56 = .ok (.ishl, 1) := by decide +kernel
theorem dJ2_getChar_3b067_57 : decode cJ2_getChar_3b067 57 = .ok (.ior, 1) := by decide +kernel
theorem dJ2_getChar_3b067_58 : decode cJ2_getChar_3b067 58 = .ok (.i2c, 1) := by decide +kernel
theorem dJ2_getChar_3b067_59 : decode cJ2_getChar_3b067 59 = .ok (.ireturn, 1) := by decide +kernel
theorem dJ2_length_9d52b_0 : decode cJ2_length_9d52b 0 = .ok (.aload_n 0, 1) := by decide +kernel
theorem dJ2_length_9d52b_1 : decode cJ2_length_9d52b 1 = .ok (.arraylength, 1) := by decide +kernel
theorem dJ2_length_9d52b_2 : decode cJ2_length_9d52b 2 = .ok (.iconst 1, 1) := by decide +kernel
theorem dJ2_length_9d52b_3 : decode cJ2_length_9d52b 3 = .ok (.ishr, 1) := by decide +kernel
theorem dJ2_length_9d52b_4 : decode cJ2_length_9d52b 4 = .ok (.ireturn, 1) := by decide +kernel
theorem dJ2_charAt_3b067_0 : decode cJ2_charAt_3b067 0 = .ok (.iload_n 1, 1) := by decide +kernel
theorem dJ2_charAt_3b067_1 : decode cJ2_charAt_3b067 1 = .ok (.aload_n 0, 1) := by decide +kernel
theorem dJ2_charAt_3b067_2 : decode cJ2_charAt_3b067 2 = .ok (.invokestatic 67, 3) := by decide +kernel
theorem dJ2_charAt_3b067_5 : decode cJ2_charAt_3b067 5 = .ok (.aload_n 0, 1) := by decide +kernel
theorem dJ2_charAt_3b067_6 : decode cJ2_charAt_3b067 6 = .ok (.iload_n 1, 1) := by decide +kernel
theorem dJ2_charAt_3b067_7 : decode cJ2_charAt_3b067 7 = .ok (.invokestatic 71, 3) := by decide +kernel
theorem dJ2_charAt_3b067_10 : decode cJ2_charAt_3b067 10 = .ok (.ireturn, 1) := by decide +kernel
theorem dJ2_checkIndex_2214a_0 : decode cJ2_checkIndex_2214a 0 = .ok (.iload_n 0, 1) := by decide +kernel
theorem dJ2_checkIndex_2214a_1 : decode cJ2_checkIndex_2214a 1 = .ok (.aload_n 1, 1) := by decide +kernel
theorem dJ2_checkIndex_2214a_2 : decode cJ2_checkIndex_2214a 2 = .ok (.invokestatic 48, 3) := by decide +kernel
theorem dJ2_checkIndex_2214a_5 : decode cJ2_checkIndex_2214a 5 = .ok (.invokestatic 414, 3) := by decide +kernel
theorem dJ2_checkIndex_2214a_8 : decode cJ2_checkIndex_2214a 8 = .ok (.return_, 1) := by decide +kernel
theorem dJ7_fill_53178_0 : decode cJ7_fill_53178 0 = .ok (.iconst 0, 1) := by decide +kernel
theorem dJ7_fill_53178_1 : decode cJ7_fill_53178 1 = .ok (.istore_n 2, 1) := by decide +kernel
theorem dJ7_fill_53178_2 : decode cJ7_fill_53178 2 = .ok (.aload_n 0, 1) := by decide +kernel
theorem dJ7_fill_53178_3 : decode cJ7_fill_53178 3 = .ok (.arraylength, 1) := by decide +kernel
theorem dJ7_fill_53178_4 : decode cJ7_fill_53178 4 = .ok (.istore_n 3, 1) := by decide +kernel
theorem dJ7_fill_53178_5 : decode cJ7_fill_53178 5 = .ok (.iload_n 2, 1) := by decide +kernel
theorem dJ7_fill_53178_6 : decode cJ7_fill_53178 6 = .ok (.iload_n 3, 1) := by decide +kernel
theorem dJ7_fill_53178_7 : decode cJ7_fill_53178 7 = .ok (.if_icmp .ge 13, 3) := by decide +kernel
theorem dJ7_fill_53178_10 : decode cJ7_fill_53178 10 = .ok (.aload_n 0, 1) := by decide +kernel
theorem dJ7_fill_53178_11 : decode cJ7_fill_53178 11 = .ok (.iload_n 2, 1) := by decide +kernel
theorem dJ7_fill_53178_12 : decode cJ7_fill_53178 12 = .ok (.iload_n 1, 1) := by decide +kernel
theorem dJ7_fill_53178_13 : decode cJ7_fill_53178 13 = .ok (.iastore, 1) := by decide +kernel
theorem dJ7_fill_53178_14 : decode cJ7_fill_53178 14 = .ok (.iinc 2 1, 3) := by decide +kernel
theorem dJ7_fill_53178_17 : decode cJ7_fill_53178 17 = .ok (.goto (-12), 3) := by decide +kernel
theorem dJ7_fill_53178_20 : decode cJ7_fill_53178 20 = .ok (.return_, 1) := by decide +kernel
theorem dJ3_checkIndex_8e157_0 : decode cJ3_checkIndex_8e157 0 = .ok (.iload_n 0, 1) := by decide +kernel
theorem dJ3_checkIndex_8e157_1 : decode cJ3_checkIndex_8e157 1 = .ok (.ifCond .lt 8, 3) := by decide +kernel
theorem dJ3_checkIndex_8e157_4 : decode cJ3_checkIndex_8e157 4 = .ok (.iload_n 0, 1) := by decide +kernel
theorem dJ3_checkIndex_8e157_5 : decode cJ3_checkIndex_8e157 5 = .ok (.iload_n 1, 1) := by decide +kernel
theorem dJ3_checkIndex_8e157_6 : decode cJ3_checkIndex_8e157 6 = .ok (.if_icmp .lt 10, 3) := by decide +kernel
theorem dJ3_checkIndex_8e157_9 : decode cJ3_checkIndex_8e157 9 = .ok (.aload_n 2, 1) := by decide +kernel
theorem dJ3_checkIndex_8e157_10 : decode cJ3_checkIndex_8e157 10 = .ok (.iload_n 0, 1) := by decide +kernel
theorem dJ3_checkIndex_8e157_11 : decode cJ3_checkIndex_8e157 11 = .ok (.iload_n 1, 1) := by decide +kernel
theorem dJ3_checkIndex_8e157_12 : decode cJ3_checkIndex_8e157 12 = .ok (.invokestatic 95, 3) := by decide +kernel
theorem dJ3_checkIndex_8e157_15 : decode cJ3_checkIndex_8e157 15 = .ok (.athrow, 1) := by decide +kernel
theorem dJ3_checkIndex_8e157_16 : decode cJ3_checkIndex_8e157 16 = .ok (.iload_n 0, 1) := by decide +kernel
theorem dJ3_checkIndex_8e157_17 : decode cJ3_checkIndex_8e157 17 = .ok (.ireturn, 1) := by decide +kernel
